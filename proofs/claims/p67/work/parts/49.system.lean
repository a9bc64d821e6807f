/-! THE WHOLE DISK: what holds between two calls -/
def HR (M : Mm) : Prop := ∀ h, h < 6 → (M 11 h 0 = 0 ∨ M 11 h 0 = 1) ∧ (0 ≤ M 11 h 1 ∧ M 11 h 1 ≤ 31) ∧ (0 ≤ M 11 h 2 ∧ M 11 h 2 ≤ 320)
/-- open handles stand on files of the tree -/
def HF (M : Mm) (o : Nat) : Prop := ∀ h, h < 6 → M 11 h 0 ≠ 0 → M 2 (33 * o + (M 11 h 1).toNat) 0 = 1
def OH (M : Mm) (o : Nat) : Prop := ∀ n, n < 32 → Orp M o n → HeldP M n
def MD (M : Mm) (o : Nat) (t : Int) : Prop := 0 ≤ M 1 o 5 ∧ M 1 o 5 ≤ t
/-- a tree that may live -/
def DOK (M : Mm) (o : Nat) (t : Int) : Prop := GG M o ∧ MD M o t ∧ HF M o ∧ OH M o
def LAS (M : Mm) (t : Int) : Prop := GG M 2 ∧ MD M 2 t ∧ usedT M 2 ≤ 120
/-- all but the live tree's names and handles -/
def SYA (M : Mm) (t : Int) (l d : Nat) (w : Int) : Prop := IDX M l d ∧ (0 ≤ M 0 0 4 ∧ M 0 0 4 ≤ w) ∧ M 0 0 5 = 0 ∧ (0 ≤ M 0 0 6 ∧ M 0 0 6 ≤ t) ∧ HR M ∧ LAS M t ∧ (M 0 0 4 = 0 → Ag M M l 2 ∧ M 1 2 5 = M 1 l 5)
def SY (M : Mm) (t : Int) (l d : Nat) (w : Int) : Prop := SYA M t l d w ∧ DOK M l t ∧ usedT M l ≤ 120
def SYS (M : Mm) (t : Int) : Prop := ∃ l d, SY M t l d 7
def DOWN (M : Mm) (t : Int) : Prop := ∃ l d, IDX M l d ∧ M 0 0 4 = 0 ∧ M 0 0 5 = 1 ∧ (0 ≤ M 0 0 6 ∧ M 0 0 6 ≤ t) ∧ HR M ∧ (∀ h, h < 6 → M 11 h 0 = 0) ∧ LAS M t
theorem MD.up {M : Mm} {o : Nat} {t t' : Int} (h : MD M o t) (ht : t ≤ t') : MD M o t' := ⟨h.1, Int.le_trans h.2 ht⟩
theorem DOK.up {M : Mm} {o : Nat} {t t' : Int} (h : DOK M o t) (ht : t ≤ t') : DOK M o t' := ⟨h.1, h.2.1.up ht, h.2.2⟩
theorem LAS.up {M : Mm} {t t' : Int} (h : LAS M t) (ht : t ≤ t') : LAS M t' := ⟨h.1, h.2.1.up ht, h.2.2⟩
theorem SYA.up {M : Mm} {t t' w w' : Int} {l d : Nat} (h : SYA M t l d w) (ht : t ≤ t') (hw : w ≤ w') : SYA M t' l d w' := ⟨h.1, ⟨h.2.1.1, Int.le_trans h.2.1.2 hw⟩, h.2.2.1, ⟨h.2.2.2.1.1, Int.le_trans h.2.2.2.1.2 ht⟩, h.2.2.2.2.1, h.2.2.2.2.2.1.up ht, h.2.2.2.2.2.2⟩
theorem SY.up {M : Mm} {t t' w w' : Int} {l d : Nat} (h : SY M t l d w) (ht : t ≤ t') (hw : w ≤ w') : SY M t' l d w' := ⟨h.1.up ht hw, h.2.1.up ht, h.2.2⟩
theorem SYS.up {M : Mm} {t t' : Int} (h : SYS M t) (ht : t ≤ t') : SYS M t' := by
  obtain ⟨l, d, hs⟩ := h
  exact ⟨l, d, hs.up ht (Int.le_refl 7)⟩
theorem DOWN.up {M : Mm} {t t' : Int} (h : DOWN M t) (ht : t ≤ t') : DOWN M t' := by
  obtain ⟨l, d, a1, a2, a3, a4, a5, a6, a7⟩ := h
  exact ⟨l, d, a1, a2, a3, ⟨a4.1, Int.le_trans a4.2 ht⟩, a5, a6, a7.up ht⟩
theorem IDX.ld {M : Mm} {l d : Nat} (h : IDX M l d) : l ≠ d ∧ l < 2 ∧ d < 2 := by have := h.2.2; omega
theorem MD.to {M M' : Mm} {o o' : Nat} {t : Int} (h : MD M o t) (e : M' 1 o' 5 = M 1 o 5) : MD M' o' t := by
  unfold MD
  rw [e]
  exact h
/-- what a tree of another memory has, and its handles: the tree may live there too -/
theorem DOK.to {M M' : Mm} {o o' : Nat} {t t' : Int} (h : DOK M o t) (ha : Ag M M' o o') (hm : MD M' o' t') (hr : HR M) (hh : ∀ h k : Nat, h < 6 → k < 2 → M' 11 h k = M 11 h k) : DOK M' o' t' := by
  obtain ⟨g, m, f, o1⟩ := h
  refine ⟨g.ag ha, hm, fun h h6 ho => ?_, fun n hn hp => ?_⟩
  · have := (hr h h6).2.1
    rw [hh h 0 h6 (by omega)] at ho
    rw [hh h 1 h6 (by omega), (ha.1 _ (by omega)).1 0 (by omega) (by omega)]
    exact f h h6 ho
  · refine (o1 n hn ⟨?_, ?_⟩).to hh
    · rw [← (ha.1 n hn).1 0 (by omega) (by omega)]
      exact hp.1
    · rw [← (ha.1 n hn).1 2 (by omega) (by omega)]
      exact hp.2
theorem LAS.to {M M' : Mm} {t : Int} (h : LAS M t) (ha : Ag M M' 2 2) (hm : M' 1 2 5 = M 1 2 5) : LAS M' t := by
  refine ⟨h.1.ag ha, ?_, ?_⟩
  · unfold MD
    rw [hm]
    exact h.2.1
  · rw [ha.usedE]
    exact h.2.2
theorem Ag.trans {M1 M2 M3 : Mm} {a b c : Nat} (h : Ag M1 M2 a b) (h2 : Ag M2 M3 b c) : Ag M1 M3 a c :=
  ⟨fun n hn => ⟨fun k k1 k2 => ((h2.1 n hn).1 k k1 k2).trans ((h.1 n hn).1 k k1 k2), fun k k1 => ((h2.1 n hn).2.1 k k1).trans ((h.1 n hn).2.1 k k1), fun k k1 => ((h2.1 n hn).2.2 k k1).trans ((h.1 n hn).2.2 k k1)⟩, ⟨fun n hn => ⟨((h2.2.1.1 n hn).1).trans (h.2.1.1 n hn).1, ((h2.2.1.1 n hn).2.1).trans (h.2.1.1 n hn).2.1, fun k hk => ((h2.2.1.1 n hn).2.2 k hk).trans ((h.2.1.1 n hn).2.2 k hk)⟩, fun k hk => (h2.2.1.2 k hk).trans (h.2.1.2 k hk)⟩, fun k hk => (h2.2.2 k hk).trans (h.2.2 k hk)⟩
theorem Ag.symm {M1 M2 : Mm} {a b : Nat} (h : Ag M1 M2 a b) : Ag M2 M1 b a :=
  ⟨fun n hn => ⟨fun k k1 k2 => ((h.1 n hn).1 k k1 k2).symm, fun k k1 => ((h.1 n hn).2.1 k k1).symm, fun k k1 => ((h.1 n hn).2.2 k k1).symm⟩, ⟨fun n hn => ⟨((h.2.1.1 n hn).1).symm, ((h.2.1.1 n hn).2.1).symm, fun k hk => ((h.2.1.1 n hn).2.2 k hk).symm⟩, fun k hk => (h.2.1.2 k hk).symm⟩, fun k hk => (h.2.2 k hk).symm⟩
/-- a road that leaves the kinds of a tree alone -/
theorem ag_of {M M' : Mm} {o : Nat} (h : ∀ K i k : Nat, 1 ≤ K → K ≤ 8 → M' K i k = M K i k) : Ag M M' o o :=
  ⟨fun n hn => ⟨fun k _ _ => h 2 _ _ (by omega) (by omega), fun k _ => h 3 _ _ (by omega) (by omega), fun k _ => h 4 _ _ (by omega) (by omega)⟩, ⟨fun n hn => ⟨h 2 _ _ (by omega) (by omega), h 2 _ _ (by omega) (by omega), fun k _ => h 5 _ _ (by omega) (by omega)⟩, fun k _ => h 8 _ _ (by omega) (by omega)⟩, fun k _ => h 6 _ _ (by omega) (by omega)⟩
/-- only the draft was written -/
theorem SYA.fr {M M' : Mm} {t w : Int} {l d : Nat} (h : SYA M t l d w) (hf : Fr M M' d) : SYA M' t l d w := by
  obtain ⟨I, w1, p, u, r, la, ag⟩ := h
  have hd := I.ld
  have z : ∀ k, M' 0 0 k = M 0 0 k := fun k => hf 0 0 k (by omega)
  have h11 : ∀ h k, M' 11 h k = M 11 h k := fun h k => hf 11 h k (by omega)
  have a2 : Ag M M' 2 2 := hf.ag (by omega)
  have al : Ag M M' l l := hf.ag hd.1
  have m2 : M' 1 2 5 = M 1 2 5 := hf 1 2 5 (by omega)
  have ml : M' 1 l 5 = M 1 l 5 := hf 1 l 5 (by omega)
  refine ⟨I.fr hf, ?_, ?_, ?_, fun h h6 => ?_, la.to a2 m2, fun w0 => ?_⟩
  · rw [z]; exact w1
  · rw [z]; exact p
  · rw [z]; exact u
  · rw [h11, h11, h11]; exact r h h6
  · rw [z] at w0
    rw [m2, ml]
    exact ⟨(al.symm.trans (ag w0).1).trans a2, (ag w0).2⟩
theorem SY.fr {M M' : Mm} {t w : Int} {l d : Nat} (h : SY M t l d w) (hf : Fr M M' d) : SY M' t l d w := by
  have hd := h.1.1.ld
  have al : Ag M M' l l := hf.ag hd.1
  refine ⟨h.1.fr hf, h.2.1.to al (h.2.1.2.1.to (hf 1 l 5 (by omega))) h.1.2.2.2.2.1 (fun h k _ _ => hf 11 h k (by omega)), ?_⟩
  rw [al.usedE]
  exact h.2.2
/-! room -/
theorem room17 {M : Mm} {l d : Nat} (hI : IDX M l d) (el : Er M l) (ed : Er M d) : ∀ (j q k : Nat), k + j = 4 → ∃ r, F_X3_hindranceOfRoom_17 M (q + j + 1) (k : Int) = some r ∧ (r = 0 ∨ (r < 0 ∧ ∃ u : Nat, u < 4 ∧ takB M l u < takB M d u))
  | 0, q, k, hk => by
    unfold F_X3_hindranceOfRoom_17
    rw [if_pos (by omega)]
    exact ⟨0, rfl, Or.inl rfl⟩
  | j + 1, q, k, hk => by
    obtain ⟨r, h1, h2⟩ := room17 hI el ed j q (k + 1) (by omega)
    show ∃ r, F_X3_hindranceOfRoom_17 M ((q + j + 1) + 1) (k : Int) = some r ∧ _
    unfold F_X3_hindranceOfRoom_17
    rw [if_neg (by omega), xk_t hI.d01, hI.d, tak_ok ed, xb1_s, xk_t hI.l01, hI.l, tak_ok el, xb1_s, xk_t (rgk (by omega)), suc, h1]
    by_cases z : takB M d (k : Int) ≤ takB M l (k : Int)
    · rw [if_pos z]
      exact ⟨r, rfl, h2⟩
    · rw [if_neg z, xk_t hI.d01, limitOf_ok (by omega), xb1_s]
      by_cases y : takB M d (k : Int) ≤ M 6 d k
      · rw [if_pos y]
        exact ⟨r, rfl, h2⟩
      · rw [if_neg y]
        exact ⟨-8, rfl, Or.inr ⟨by decide, k, by omega, by omega⟩⟩
theorem room_ok {M : Mm} {l d : Nat} (hI : IDX M l d) (el : Er M l) (ed : Er M d) : ∃ r, F_X3_hindranceOfRoom M = some r ∧ ((r = 0 ∧ usedT M d ≤ 120) ∨ (r < 0 ∧ (120 < usedT M d ∨ ∃ u : Nat, u < 4 ∧ takB M l u < takB M d u))) := by
  obtain ⟨r, h1, h2⟩ := room17 hI el ed 4 (FU - 5) 0 (by decide)
  unfold F_X3_hindranceOfRoom
  rw [xk_t hI.d01, hI.d, used_ok ed, xb1_s]
  by_cases z : usedT M d ≤ 120
  · rw [if_pos z]
    refine ⟨r, h1, ?_⟩
    rcases h2 with h2 | h2
    · exact Or.inl ⟨h2, z⟩
    · exact Or.inr ⟨h2.1, Or.inr h2.2⟩
  · rw [if_neg z]
    exact ⟨-7, rfl, Or.inr ⟨by decide, Or.inl (by omega)⟩⟩
/-! the power falls -/
theorem locks10 {o : Nat} : ∀ (j q k : Nat) (acc : Int) (M : Mm), k + j = 320 → 0 ≤ acc ∧ acc ≤ k → ∃ (r : Int) (M' : Mm), F_X0_setLocks_10 (q + j + 1) M o 0 320 0 acc (k : Int) = some (r, M') ∧ ∀ K i k : Nat, K ≠ 12 → M' K i k = M K i k
  | 0, q, k, acc, M, hk, ha => by
    unfold F_X0_setLocks_10
    rw [xk_t (rgk (by omega)), if_pos (by omega)]
    exact ⟨acc, M, rfl, fun _ _ _ _ => rfl⟩
  | j + 1, q, k, acc, M, hk, ha => by
    have f : ∀ K i k' : Nat, K ≠ 12 → mup M 12 o k 0 K i k' = M K i k' := fun K i k' h => mup_off (fun z => h z.1)
    obtain ⟨r1, M1, e1, h1⟩ := locks10 (o := o) j q (k + 1) acc (mup M 12 o k 0) (by omega) (by omega)
    obtain ⟨r2, M2, e2, h2⟩ := locks10 (o := o) j q (k + 1) (acc + 1) (mup M 12 o k 0) (by omega) (by omega)
    show ∃ (r : Int) (M' : Mm), F_X0_setLocks_10 ((q + j + 1) + 1) M o 0 320 0 acc (k : Int) = some (r, M') ∧ _
    unfold F_X0_setLocks_10 F_X0_setLocks_41
    rw [xk_t (rgk (by omega)), if_neg (by omega), if_neg (by omega), xk_t (by omega), Int.toNat_natCast]
    by_cases z : M 12 o k = 0
    · rw [if_pos z, xk_t (by omega), xl_e, xk_t (rgk (by omega)), suc, e1]
      exact ⟨r1, M1, rfl, fun K i k h => (h1 K i k h).trans (f K i k h)⟩
    · rw [if_neg z, xk_t (rgk (by omega)), xk_t (by omega), xl_e, xk_t (rgk (by omega)), suc, e2]
      exact ⟨r2, M2, rfl, fun K i k h => (h2 K i k h).trans (f K i k h)⟩
theorem leave_ok {M : Mm} {o : Nat} : ∃ M', F_X0_leave M o = some M' ∧ M' 11 o 0 = 0 ∧ ∀ K i k : Nat, K ≠ 12 → ¬ (K = 11 ∧ i = o ∧ k = 0) → M' K i k = M K i k := by
  obtain ⟨r, M', e, h⟩ := locks10 (o := o) 320 (FU - 321) 0 0 (mup M 11 o 0 0) (by decide) (by decide)
  unfold F_X0_leave F_X0_setLocks
  have em : maxI (0 : Int) 0 = ((0 : Nat) : Int) := by decide
  have e2 : F_X0_setLocks_10 FU (mup M 11 o 0 0) o 0 320 0 0 ((0 : Nat) : Int) = some (r, M') := e
  rw [xl_e, em, e2, xb2_s]
  refine ⟨M', rfl, ?_, fun K i k h1 h2 => ?_⟩
  · rw [h 11 _ _ (by decide), mup_at]
  · rw [h K i k h1, mup_off h2]
theorem fall12 : ∀ (j q k : Nat) (M : Mm), k + j = 6 → ∃ M', F_X3_fall_12 (q + j + 1) M (k : Int) = some M' ∧ (∀ h, k ≤ h → h < 6 → M' 11 h 0 = 0) ∧ (∀ h, h < k → M' 11 h 0 = M 11 h 0) ∧ ∀ K i k : Nat, K ≠ 12 → ¬ (K = 11 ∧ k = 0) → M' K i k = M K i k
  | 0, q, k, M, hk => by
    unfold F_X3_fall_12
    rw [if_pos (by omega)]
    exact ⟨M, rfl, fun h h1 h2 => by omega, fun _ _ => rfl, fun _ _ _ _ _ => rfl⟩
  | j + 1, q, k, M, hk => by
    obtain ⟨M1, e1, l1, l2⟩ := leave_ok (M := M) (o := k)
    obtain ⟨M2, e2, m1, m2, m3⟩ := fall12 j q (k + 1) M1 (by omega)
    show ∃ M', F_X3_fall_12 ((q + j + 1) + 1) M (k : Int) = some M' ∧ _
    unfold F_X3_fall_12
    rw [if_neg (by omega), xk_t (by omega), Int.toNat_natCast, e1, xb1_s, xk_t (rgk (by omega)), suc, e2]
    refine ⟨M2, rfl, fun h h1 h2 => ?_, fun h hh => ?_, fun K i k h1 h2 => ?_⟩
    · by_cases z : h = k
      · rw [z, m2 k (by omega), l1]
      · exact m1 h (by omega) h2
    · rw [m2 h (by omega), l2 11 _ _ (by decide) (by omega)]
    · rw [m3 K i k h1 h2, l2 K i k h1 (by omega)]
theorem fall_ok {M : Mm} : ∃ M', F_X3_fall M = some M' ∧ M' 0 0 5 = 1 ∧ M' 0 0 4 = 0 ∧ (∀ h, h < 6 → M' 11 h 0 = 0) ∧ ∀ K i k : Nat, K ≠ 12 → ¬ (K = 11 ∧ k = 0) → ¬ (K = 0 ∧ i = 0 ∧ (k = 4 ∨ k = 5)) → M' K i k = M K i k := by
  obtain ⟨M', e, h1, h2, h3⟩ := fall12 6 (FU - 7) 0 (mup (mup M 0 0 5 1) 0 0 4 0) (by decide)
  unfold F_X3_fall
  rw [xl_e, xl_e]
  refine ⟨M', e, ?_, ?_, fun h hh => h1 h (Nat.zero_le h) hh, fun K i k a b c => ?_⟩
  · rw [h3 0 _ _ (by decide) (by omega), mup_off (by omega), mup_at]
  · rw [h3 0 _ _ (by decide) (by omega), mup_at]
  · rw [h3 K i k a b, mup_off (by omega), mup_off (by omega)]
/-- down, if what lasts is sound -/
theorem down_of {M M' : Mm} {t : Int} {l d : Nat} (hI : IDX M l d) (hu : 0 ≤ M 0 0 6 ∧ M 0 0 6 ≤ t) (hr : HR M) (hl : LAS M t) (h5 : M' 0 0 5 = 1) (h4 : M' 0 0 4 = 0) (hh : ∀ h, h < 6 → M' 11 h 0 = 0) (hf : ∀ K i k : Nat, K ≠ 12 → ¬ (K = 11 ∧ k = 0) → ¬ (K = 0 ∧ i = 0 ∧ (k = 4 ∨ k = 5 ∨ k = 7)) → M' K i k = M K i k) : DOWN M' t := by
  have a2 : Ag M M' 2 2 := ag_of (fun K i k h1 h2 => hf K i k (by omega) (by omega) (by omega))
  refine ⟨l, d, ⟨(hf 0 0 0 (by decide) (by omega) (by omega)).trans hI.1, (hf 0 0 1 (by decide) (by omega) (by omega)).trans hI.2.1, hI.2.2⟩, h4, h5, ?_, fun h h6 => ?_, hh, hl.to a2 (hf 1 2 5 (by decide) (by omega) (by omega))⟩
  · rw [hf 0 0 6 (by decide) (by omega) (by omega)]
    exact hu
  · rw [hf 11 h 1 (by decide) (by omega) (by omega), hf 11 h 2 (by decide) (by omega) (by omega)]
    exact ⟨Or.inl (hh h h6), (hr h h6).2⟩
/-! a commit -/
/-- committed: what lasts is what lives -/
def CmE (M M' : Mm) (l : Nat) : Prop := M' 0 0 4 = 0 ∧ Ag M M' l 2 ∧ M' 1 2 5 = M 1 l 5 ∧ ∀ K i k : Nat, ¬ (2 ≤ K ∧ K ≤ 5 ∧ 66 ≤ i ∧ i < 99) → ¬ ((K = 1 ∨ (6 ≤ K ∧ K ≤ 10)) ∧ i = 2) → ¬ (K = 0 ∧ i = 0 ∧ k = 4) → M' K i k = M K i k
theorem cm58_0 {M : Mm} : F_X3_commit_58 M 0 = some (1, M) := by
  unfold F_X3_commit_58 F_X3_commit_71
  rw [if_pos rfl, if_pos rfl]
theorem cm58_1 {M : Mm} : ∃ M', F_X3_commit_58 M 1 = some (0, M') ∧ M' 0 0 5 = 1 ∧ M' 0 0 4 = 0 ∧ (∀ h, h < 6 → M' 11 h 0 = 0) ∧ ∀ K i k : Nat, K ≠ 12 → ¬ (K = 11 ∧ k = 0) → ¬ (K = 0 ∧ i = 0 ∧ (k = 4 ∨ k = 5 ∨ k = 7)) → M' K i k = M K i k := by
  obtain ⟨M', e, h1, h2, h3, h4⟩ := fall_ok (M := mup M 0 0 7 (-1))
  unfold F_X3_commit_58 F_X3_commit_71
  rw [if_neg (by decide), xl_e, e, xb1_s, if_neg (by decide)]
  refine ⟨M', rfl, h1, h2, h3, fun K i k a b c => ?_⟩
  rw [h4 K i k a b (by omega), mup_off (by omega)]
theorem cm42 {M : Mm} {l d : Nat} {v : Int} (hI : IDX M l d) : ∃ M', F_X3_commit_42 M v = F_X3_commit_58 M' v ∧ CmE M M' l := by
  obtain ⟨M1, e1, a1, m1, f1⟩ := copy_ok (M := M) (o := 2) (a := l) (by have := hI.ld; omega)
  unfold F_X3_commit_42
  rw [xk_t hI.l01, hI.l, e1, xb1_s, xl_e]
  have f2 : ∀ K i k : Nat, ¬ (K = 0 ∧ i = 0 ∧ k = 4) → mup M1 0 0 4 0 K i k = M1 K i k := fun K i k h => mup_off h
  have z : mup M1 0 0 4 0 0 0 4 = 0 := mup_at
  generalize mup M1 0 0 4 0 = M2 at f2 z
  refine ⟨M2, rfl, z, a1.trans (ag_of (fun K i k h1 h2 => f2 K i k (by omega))), (f2 1 2 5 (by omega)).trans m1, fun K i k h1 h2 h3 => (f2 K i k h3).trans (f1 K i k (by omega))⟩
theorem ag_own {M M' : Mm} {o : Nat} (h2 : ∀ n k K : Nat, n < 32 → 2 ≤ K → K ≤ 5 → M' K (33 * o + n) k = M K (33 * o + n) k) (h6 : ∀ k, M' 6 o k = M 6 o k) (h8 : ∀ k, M' 8 o k = M 8 o k) : Ag M M' o o :=
  ⟨fun n hn => ⟨fun k _ _ => h2 n k 2 hn (by omega) (by omega), fun k _ => h2 n k 3 hn (by omega) (by omega), fun k _ => h2 n k 4 hn (by omega) (by omega)⟩, ⟨fun n hn => ⟨h2 n 3 2 hn (by omega) (by omega), h2 n 0 2 hn (by omega) (by omega), fun k _ => h2 n k 5 hn (by omega) (by omega)⟩, fun k _ => h8 k⟩, fun k _ => h6 k⟩
theorem CmE.live {M M' : Mm} {l : Nat} (c : CmE M M' l) (hl : l < 2) : Ag M M' l l := ag_own (fun n k K hn h1 h2 => c.2.2.2 K _ k (by omega) (by omega) (by omega)) (fun k => c.2.2.2 6 l k (by omega) (by omega) (by omega)) (fun k => c.2.2.2 8 l k (by omega) (by omega) (by omega))
theorem CmE.h11 {M M' : Mm} {l : Nat} (c : CmE M M' l) (h k : Nat) : M' 11 h k = M 11 h k := c.2.2.2 11 h k (by omega) (by omega) (by omega)
theorem SY.cm {M M' : Mm} {t w : Int} {l d : Nat} (h : SY M t l d w) (c : CmE M M' l) : SY M' t l d 7 := by
  obtain ⟨⟨I, w1, p, u, r, la, ag⟩, D, us⟩ := h
  have hd := I.ld
  have all := c.live hd.2.1
  have h11 := c.h11
  obtain ⟨c0, ca, cm, cf⟩ := c
  have z : ∀ k, k ≠ 4 → M' 0 0 k = M 0 0 k := fun k hk => cf 0 0 k (by omega) (by omega) (by omega)
  have ml : M' 1 l 5 = M 1 l 5 := cf 1 l 5 (by omega) (by omega) (by omega)
  refine ⟨⟨⟨(z 0 (by omega)).trans I.1, (z 1 (by omega)).trans I.2.1, I.2.2⟩, by omega, (z 5 (by omega)).trans p, ?_, fun h h6 => ?_, ⟨D.1.ag ca, D.2.1.to cm, ?_⟩, fun _ => ⟨all.symm.trans ca, cm.trans ml.symm⟩⟩, D.to all (D.2.1.to ml) r (fun h k _ _ => h11 h k), ?_⟩
  · rw [z 6 (by omega)]; exact u
  · rw [h11, h11, h11]; exact r h h6
  · rw [ca.usedE]; exact us
  · rw [all.usedE]; exact us
theorem SY.down {M M' : Mm} {t w : Int} {l d : Nat} (h : SY M t l d w) (h5 : M' 0 0 5 = 1) (h4 : M' 0 0 4 = 0) (hh : ∀ h, h < 6 → M' 11 h 0 = 0) (hf : ∀ K i k : Nat, K ≠ 12 → ¬ (K = 11 ∧ k = 0) → ¬ (K = 0 ∧ i = 0 ∧ (k = 4 ∨ k = 5 ∨ k = 7)) → M' K i k = M K i k) : DOWN M' t := down_of h.1.1 h.1.2.2.2.1 h.1.2.2.2.2.1 h.1.2.2.2.2.2.1 h5 h4 hh hf
theorem commit_ok {M : Mm} {t w : Int} {l d : Nat} (h : SY M t l d w) : ∃ r M', F_X3_commit M = some (r, M') ∧ ((r = 1 ∧ SY M' t l d 7 ∧ CmE M M' l) ∨ (r = 0 ∧ DOWN M' t)) := by
  obtain ⟨M1, e1, c1⟩ := cm42 (v := 1) h.1.1
  obtain ⟨M0', e0, c0⟩ := cm42 (v := 0) h.1.1
  obtain ⟨M2, f1, f2, f3, f4, f5⟩ := cm58_1 (M := M)
  obtain ⟨M3, g1, g2, g3, g4, g5⟩ := cm58_1 (M := M1)
  have dn : DOWN M2 t := h.down f2 f3 f4 f5
  have dn3 : DOWN M3 t := (h.cm c1).down g2 g3 g4 g5
  unfold F_X3_commit F_X3_commit_15 F_X3_commit_20
  by_cases z0 : M 0 0 7 = 0
  · rw [if_pos z0, if_neg (by decide), if_neg (by omega), f1]
    exact ⟨0, M2, rfl, Or.inr ⟨rfl, dn⟩⟩
  · rw [if_neg z0]
    by_cases z1 : M 0 0 7 = 1
    · rw [if_pos z1, if_neg (by decide), if_pos z1]
      by_cases z2 : M 0 0 8 < 32
      · rw [if_pos z2, f1]
        exact ⟨0, M2, rfl, Or.inr ⟨rfl, dn⟩⟩
      · rw [if_neg z2, e1, g1]
        exact ⟨0, M3, rfl, Or.inr ⟨rfl, dn3⟩⟩
    · rw [if_neg z1, if_pos rfl, e0, cm58_0]
      exact ⟨1, M0', rfl, Or.inl ⟨rfl, h.cm c0, c0⟩⟩
theorem settle_ok {M : Mm} {t : Int} {l d : Nat} (a : Int) (h : SYA M t l d 7) (el : Er M l) (D : DOK M d t) (ht : t ≤ 1000) : ∃ r M', F_X3_settle M a = some (r, M') ∧ ((r < 0 ∧ M' = M ∧ (120 < usedT M d ∨ ∃ u : Nat, u < 4 ∧ takB M l u < takB M d u)) ∨ (SYS M' (t + 1) ∧ ∀ h k, M' 11 h k = M 11 h k) ∨ (DOWN M' (t + 1) ∧ r = -9)) := by
  obtain ⟨I, w1, p, u, hr, la, ag⟩ := h
  have hd := I.ld
  obtain ⟨r, er, hro⟩ := room_ok I el D.1.1.er
  unfold F_X3_settle
  rw [er, xb1_s]
  rcases hro with ⟨r0, us⟩ | ⟨r0, ho⟩
  · rw [if_pos r0, xk_t I.l01, xk_t I.d01, I.d, I.l, xl_e, xl_e]
    have f10 : ∀ K i k : Nat, ¬ (K = 0 ∧ i = 0 ∧ (k = 0 ∨ k = 1)) → mup (mup M 0 0 0 ((d : Nat) : Int)) 0 0 1 ((l : Nat) : Int) K i k = M K i k := fun K i k hk => by rw [mup_off (by omega), mup_off (by omega)]
    have z0 : mup (mup M 0 0 0 ((d : Nat) : Int)) 0 0 1 ((l : Nat) : Int) 0 0 0 = d := by rw [mup_off (by omega), mup_at]
    have z1 : mup (mup M 0 0 0 ((d : Nat) : Int)) 0 0 1 ((l : Nat) : Int) 0 0 1 = l := mup_at
    generalize mup (mup M 0 0 0 ((d : Nat) : Int)) 0 0 1 ((l : Nat) : Int) = M1 at f10 z0 z1
    have m1 : M1 1 d 5 = M 1 d 5 := f10 1 d 5 (by omega)
    have mb := D.2.1
    unfold MD at mb
    rw [xk_t (by omega), show (M1 0 0 0).toNat = d by omega, m1, xk_t (rgk (by omega)), xl_e]
    have f2 : ∀ K i k : Nat, ¬ (K = 1 ∧ i = d ∧ k = 5) → mup M1 1 d 5 (M 1 d 5 + 1) K i k = M1 K i k := fun K i k hk => mup_off hk
    have m2 : mup M1 1 d 5 (M 1 d 5 + 1) 1 d 5 = M 1 d 5 + 1 := mup_at
    generalize mup M1 1 d 5 (M 1 d 5 + 1) = M2 at f2 m2
    have w2 : M2 0 0 4 = M 0 0 4 := (f2 0 0 4 (by omega)).trans (f10 0 0 4 (by omega))
    rw [w2, xk_t (rgk (by omega)), xl_e]
    have f3 : ∀ K i k : Nat, ¬ (K = 0 ∧ i = 0 ∧ k = 4) → mup M2 0 0 4 (M 0 0 4 + 1) K i k = M2 K i k := fun K i k hk => mup_off hk
    have m3 : mup M2 0 0 4 (M 0 0 4 + 1) 0 0 4 = M 0 0 4 + 1 := mup_at
    generalize mup M2 0 0 4 (M 0 0 4 + 1) = M3 at f3 m3
    have fr : ∀ K i k : Nat, ¬ (K = 0 ∧ i = 0 ∧ (k = 0 ∨ k = 1 ∨ k = 4)) → ¬ (K = 1 ∧ i = d ∧ k = 5) → M3 K i k = M K i k := fun K i k h1 h2 => by rw [f3 K i k (by omega), f2 K i k h2, f10 K i k (by omega)]
    have h11 : ∀ h k, M3 11 h k = M 11 h k := fun h k => fr 11 h k (by omega) (by omega)
    have ao : ∀ o, Ag M M3 o o := fun o => ag_own (fun n k K hn h1 h2 => fr K _ k (by omega) (by omega)) (fun k => fr 6 o k (by omega) (by omega)) (fun k => fr 8 o k (by omega) (by omega))
    have md3 : M3 1 d 5 = M 1 d 5 + 1 := by rw [f3 1 d 5 (by omega), m2]
    have sy : SY M3 (t + 1) d l 8 := by
      refine ⟨⟨⟨?_, ?_, ?_⟩, by omega, (fr 0 0 5 (by omega) (by omega)).trans p, ?_, fun h h6 => ?_, (la.up (by omega)).to (ao 2) (fr 1 2 5 (by omega) (by omega)), fun w0 => by omega⟩, D.to (ao d) ?_ hr (fun h k _ _ => h11 h k), ?_⟩
      · rw [f3 0 0 0 (by omega), f2 0 0 0 (by omega), z0]
      · rw [f3 0 0 1 (by omega), f2 0 0 1 (by omega), z1]
      · have := I.2.2
        omega
      · rw [fr 0 0 6 (by omega) (by omega)]
        omega
      · rw [h11, h11, h11]
        exact hr h h6
      · unfold MD
        omega
      · rw [(ao d).usedE]
        exact us
    by_cases y : M3 0 0 4 < 8
    · rw [if_pos y]
      exact ⟨a, M3, rfl, Or.inr (Or.inl ⟨⟨d, l, ⟨⟨sy.1.1, ⟨sy.1.2.1.1, by omega⟩, sy.1.2.2⟩, sy.2⟩⟩, h11⟩)⟩
    · obtain ⟨c, M4, e4, h4⟩ := commit_ok sy
      rw [if_neg y, e4, xb2_s]
      rcases h4 with ⟨c1, s4, ce⟩ | ⟨c0, dn⟩
      · rw [if_neg (by omega)]
        exact ⟨a, M4, rfl, Or.inr (Or.inl ⟨⟨d, l, s4⟩, fun h k => (ce.h11 h k).trans (h11 h k)⟩)⟩
      · rw [if_pos c0]
        exact ⟨-9, M4, rfl, Or.inr (Or.inr ⟨dn, rfl⟩)⟩
  · rw [if_neg (by omega)]
    exact ⟨r, M, rfl, Or.inl ⟨r0, rfl, ho⟩⟩
/-! up again -/
theorem mount_ok {M : Mm} {t : Int} (h : DOWN M t) (ht : t ≤ 1000) : ∃ r M', F_X3_mount M = some (r, M') ∧ ((r = -9 ∧ DOWN M' t ∧ M' 0 0 7 ≠ 3 ∧ ∀ K i k : Nat, K ≠ 0 → M' K i k = M K i k) ∨ (M 0 0 7 = 3 → False) ∧ 0 ≤ r ∧ ∃ l d, SY M' (t + 1) l d 7 ∧ (∀ h, h < 6 → M' 11 h 0 = 0) ∧ M' 0 0 4 = 0 ∧ M' 1 l 5 = M 1 2 5 ∧ ∀ n, n < 32 → (Orp M 2 n → ∀ k, k < 9 → M' 2 (33 * l + n) k = 0) ∧ (¬ Orp M 2 n → ∀ k, k < 9 → M' 2 (33 * l + n) k = M 2 (33 * 2 + n) k)) := by
  obtain ⟨l, d, I, w, p, u, hr, ho, la⟩ := h
  have hd := I.ld
  unfold F_X3_mount
  rw [if_neg (by omega)]
  by_cases z : M 0 0 7 = 3
  · rw [if_pos z, xl_e]
    have f1 : ∀ K i k : Nat, ¬ (K = 0 ∧ i = 0 ∧ k = 7) → mup M 0 0 7 (-1) K i k = M K i k := fun K i k hk => mup_off hk
    have z1 : mup M 0 0 7 (-1) 0 0 7 = -1 := mup_at
    generalize mup M 0 0 7 (-1) = M1 at f1 z1
    refine ⟨-9, M1, rfl, Or.inl ⟨rfl, ⟨l, d, ⟨(f1 0 0 0 (by omega)).trans I.1, (f1 0 0 1 (by omega)).trans I.2.1, I.2.2⟩, (f1 0 0 4 (by omega)).trans w, (f1 0 0 5 (by omega)).trans p, ?_, fun h h6 => ?_, fun h h6 => (f1 11 h 0 (by omega)).trans (ho h h6), la.to (ag_of fun K i k h1 h2 => f1 K i k (by omega)) (f1 1 2 5 (by omega))⟩, by omega, fun K i k hk => f1 K i k (by omega)⟩⟩
    · rw [f1 0 0 6 (by omega)]
      exact u
    · rw [f1 11 h 0 (by omega), f1 11 h 1 (by omega), f1 11 h 2 (by omega)]
      exact hr h h6
  · obtain ⟨g2, mb, us⟩ := la
    obtain ⟨r, M1, e1, r0, g1, fx, u1, df⟩ := df_ok g2
    have I1 : IDX M1 l d := I.fr fx.fr
    obtain ⟨M2, e2, a2, m2, f2⟩ := copy_ok (M := M1) (o := l) (a := 2) (by omega)
    have zz : ∀ k, M2 0 0 k = M 0 0 k := fun k => (f2 0 0 k (by omega)).trans (fx 0 0 k (by omega) (by omega))
    rw [if_neg z, e1, xb2_s, xk_t I1.l01, I1.l, e2, xb1_s, xl_e]
    have f3 : ∀ K i k : Nat, ¬ (K = 0 ∧ i = 0 ∧ k = 5) → mup M2 0 0 5 0 K i k = M2 K i k := fun K i k hk => mup_off hk
    have z3 : mup M2 0 0 5 0 0 0 5 = 0 := mup_at
    generalize mup M2 0 0 5 0 = M3 at f3 z3
    have t3 : M3 0 0 6 = M 0 0 6 := (f3 0 0 6 (by omega)).trans (zz 6)
    rw [t3, xk_t (rgk (by omega)), xl_e]
    have f4 : ∀ K i k : Nat, ¬ (K = 0 ∧ i = 0 ∧ k = 6) → mup M3 0 0 6 (M 0 0 6 + 1) K i k = M3 K i k := fun K i k hk => mup_off hk
    have z4 : mup M3 0 0 6 (M 0 0 6 + 1) 0 0 6 = M 0 0 6 + 1 := mup_at
    generalize mup M3 0 0 6 (M 0 0 6 + 1) = M4 at f4 z4
    have f42 : ∀ K i k : Nat, K ≠ 0 → M4 K i k = M2 K i k := fun K i k hk => (f4 K i k (by omega)).trans (f3 K i k (by omega))
    have z0 : ∀ k, k ≠ 5 → k ≠ 6 → M4 0 0 k = M 0 0 k := fun k h1 h2 => by rw [f4 0 0 k (by omega), f3 0 0 k (by omega), zz]
    have h11 : ∀ h k, M4 11 h k = M 11 h k := fun h k => by rw [f42 11 h k (by omega), f2 11 h k (by omega), fx 11 h k (by omega) (by omega)]
    have a24 : Ag M2 M4 l l := ag_of fun K i k h1 h2 => f42 K i k (by omega)
    have A : Ag M1 M4 2 l := a2.trans a24
    have B : Ag M1 M4 2 2 := (f2.ag (by omega)).trans (ag_of fun K i k h1 h2 => f42 K i k (by omega))
    have mm : M4 1 l 5 = M 1 2 5 := by rw [f42 1 l 5 (by omega), m2, fx.made]
    have m22 : M4 1 2 5 = M 1 2 5 := by rw [f42 1 2 5 (by omega), f2 1 2 5 (by omega), fx.made]
    have c : ∀ n k, n < 32 → k < 9 → M4 2 (33 * l + n) k = M1 2 (33 * 2 + n) k := fun n k hn hk => by
      by_cases y : k = 3
      · rw [y]
        exact (A.2.1.1 n hn).1
      · exact (A.1 n hn).1 k hk y
    refine ⟨r, M4, rfl, Or.inr ⟨fun y => absurd y z, r0, l, d, ⟨⟨⟨(z0 0 (by omega) (by omega)).trans I.1, (z0 1 (by omega) (by omega)).trans I.2.1, I.2.2⟩, ?_, ?_, by omega, fun h h6 => ?_, ⟨g1.ag B, (mb.up (by omega)).to m22, ?_⟩, fun _ => ⟨A.symm.trans B, m22.trans mm.symm⟩⟩, ⟨g1.ag A, (mb.up (by omega)).to mm, fun h h6 hop => ?_, fun n hn op => ?_⟩, ?_⟩, fun h h6 => (h11 h 0).trans (ho h h6), (z0 4 (by omega) (by omega)).trans w, mm, fun n hn => ?_⟩⟩
    · rw [z0 4 (by omega) (by omega), w]
      decide
    · rw [f4 0 0 5 (by omega), z3]
    · rw [h11, h11, h11]
      exact hr h h6
    · rw [B.usedE]
      exact Int.le_trans u1 us
    · rw [h11] at hop
      exact absurd (ho h h6) hop
    · refine absurd (show Orp M1 2 n from ⟨?_, ?_⟩) (df.no hn)
      · rw [← c n 0 hn (by omega)]
        exact op.1
      · rw [← c n 2 hn (by omega)]
        exact op.2
    · rw [A.usedE]
      exact Int.le_trans u1 us
    · obtain ⟨p1, p2⟩ := df n hn
      exact ⟨fun op k hk => by rw [c n k hn hk]; exact p1 op k hk, fun op k hk => by rw [c n k hn hk]; exact p2 op k⟩
