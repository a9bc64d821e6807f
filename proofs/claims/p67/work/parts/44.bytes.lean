/-! ROADS OVER THE BYTES OF ONE FILE -/
theorem TB.ag {M M' : Mm} {o : Nat} (h : TB M o) (h5 : ∀ n p : Nat, n < 32 → p < 20 → M' 5 (33 * o + n) p = M 5 (33 * o + n) p) (h8 : ∀ b : Nat, b < 128 → M' 8 o b = M 8 o b) : TB M' o := by
  refine ⟨fun n p hn hp => ?_, ?_, fun b h1 h2 => ?_⟩
  · rw [h5 n p hn hp]
    exact h.1 n p hn hp
  · rw [h8 0 (by decide)]
    exact h.2.1
  · rw [h8 b h2, h.2.2 b h1 h2]
    exact (sm_congr fun n _ _ => sm_congr fun p _ _ => by rw [h5 n p (by omega) (by omega)]).symm
/-- what a road over one file may write, its size too -/
def Bs (M M' : Mm) (o i : Nat) : Prop := ∀ K j k : Nat, ¬ (K = 2 ∧ j = i ∧ k = 3) → ¬ (K = 5 ∧ j = i) → ¬ (K = 7 ∧ j = o) → ¬ (K = 8 ∧ j = o) → M' K j k = M K j k
theorem Bf.bs {M M' : Mm} {o i : Nat} (h : Bf M M' o i) : Bs M M' o i := fun K j k _ b c d => h K j k b c d
theorem Bs.trans {M M1 M2 : Mm} {o i : Nat} (h : Bs M M1 o i) (h2 : Bs M1 M2 o i) : Bs M M2 o i := fun K j k a b c d => (h2 K j k a b c d).trans (h K j k a b c d)
theorem Bs.ag1 {M M' : Mm} {o i : Nat} (h : Bs M M' o i) : Ag1 M M' o o := fun n hn => ⟨fun k _ h3 => h 2 _ _ (by omega) (by omega) (by omega) (by omega), fun k _ => h 3 _ _ (by omega) (by omega) (by omega) (by omega), fun k _ => h 4 _ _ (by omega) (by omega) (by omega) (by omega)⟩
theorem Bs.ag3 {M M' : Mm} {o i : Nat} (h : Bs M M' o i) : Ag3 M M' o o := fun k _ => h 6 _ _ (by omega) (by omega) (by omega) (by omega)
theorem Bs.fr {M M' : Mm} {o n : Nat} (h : Bs M M' o (33 * o + n)) (hn : n < 32) : Fr M M' o := fun K j k hk => h K j k (by omega) (by omega) (by omega) (by omega)
theorem Blk.ag {M M' : Mm} {i j : Nat} (h : Blk M i) (h3 : M' 2 j 3 = M 2 i 3) (h0 : M' 2 j 0 = M 2 i 0) (h5 : ∀ p, p < 20 → M' 5 j p = M 5 i p) : Blk M' j := by
  unfold Blk
  rw [h3, h0]
  refine ⟨h.1, h.2.1, fun p hp => ?_⟩
  rw [h5 p hp]
  exact h.2.2 p hp
theorem G2.of {M M' : Mm} {o n : Nat} (g : G2 M o) (h : Bs M M' o (33 * o + n)) (ht : TB M' o) (hb : Blk M' (33 * o + n)) : G2 M' o := by
  refine ⟨fun m hm => ?_, ht.2⟩
  by_cases q : m = n
  · rw [q]
    exact hb
  · exact (g.1 m hm).ag (h 2 _ _ (by omega) (by omega) (by omega) (by omega)) (h 2 _ _ (by omega) (by omega) (by omega) (by omega)) (fun p _ => h 5 _ _ (by omega) (by omega) (by omega) (by omega))
theorem fu_big : 1000 ≤ FU := by decide
theorem wr3 {o n v2 v3 : Nat} {v4 : Int} (hn : n < 32) (h3 : v3 ≤ 64) (h23 : v2 + v3 ≤ 320) (h4 : 0 ≤ v4 ∧ v4 ≤ 255) : ∀ (j q k : Nat) (M : Mm), k + j = v3 → TB M o → ∃ M1 : Mm, F_X2_writeRow_3 (q + j + 1) M o (33 * o + n) (v2 : Int) (v3 : Int) v4 (k : Int) = some (mup M1 2 (33 * o + n) 3 (maxI (M1 2 (33 * o + n) 3) ((v2 : Int) + (v3 : Int)))) ∧ TB M1 o ∧ Bf M M1 o (33 * o + n) ∧ ∀ p : Nat, M1 5 (33 * o + n) p ≠ M 5 (33 * o + n) p → 16 * p < v2 + v3
  | 0, q, k, M, hk, ht => by
    unfold F_X2_writeRow_3
    rw [if_pos (by omega), xk_t (rgk (by omega)), xl_e]
    exact ⟨M, rfl, ht, Bf.refl, fun p hp => absurd rfl hp⟩
  | j + 1, q, k, M, hk, ht => by
    obtain ⟨M1, e1, t1, f1, g1⟩ := setB_ok (v := (v4 + (k : Int)) % 256) ht hn (show v2 + k < 320 by omega)
    obtain ⟨M2, e2, t2, f2, g2⟩ := wr3 hn h3 h23 h4 j q (k + 1) M1 (by omega) t1
    show ∃ M1 : Mm, F_X2_writeRow_3 ((q + j + 1) + 1) M o (33 * o + n) (v2 : Int) (v3 : Int) v4 (k : Int) = _ ∧ _
    unfold F_X2_writeRow_3
    rw [if_neg (by omega), xk_t (rgk (by omega)), xk_t (rgk (by omega)), tmod_nn (show 0 ≤ v4 + (k : Int) by omega), xk_t (rgk (by omega)), show (v2 : Int) + (k : Int) = ((v2 + k : Nat) : Int) by omega, e1, xb1_s, xk_t (rgk (by omega)), suc, e2]
    refine ⟨M2, rfl, t2, f1.trans f2, fun p hp => ?_⟩
    by_cases z : p = (v2 + k) / 16
    · omega
    · refine g2 p (fun y => hp ?_)
      rw [y, g1 p z]
theorem writeRow_ok {M : Mm} {o n v2 v3 : Nat} {v4 : Int} (g : G2 M o) (hn : n < 32) (hs : M 2 (33 * o + n) 0 = 1) (h3 : v3 ≤ 64) (h23 : v2 + v3 ≤ 320) (h4 : 0 ≤ v4 ∧ v4 ≤ 255) : ∃ M', F_X2_writeRow M o (33 * o + n) (v2 : Int) (v3 : Int) v4 = some M' ∧ G2 M' o ∧ Bs M M' o (33 * o + n) := by
  obtain ⟨q, hq⟩ : ∃ q, FU = q + v3 + 1 := ⟨FU - (v3 + 1), by have := fu_big; omega⟩
  obtain ⟨M1, e1, t1, f1, g1⟩ := wr3 (v2 := v2) hn h3 h23 h4 v3 q 0 M (by omega) g.tb
  obtain ⟨b1, b2, b3⟩ := g.1 n hn
  have es : M1 2 (33 * o + n) 3 = M 2 (33 * o + n) 3 := f1 2 _ _ (by omega) (by omega) (by omega)
  have e0 : M1 2 (33 * o + n) 0 = 1 := (f1 2 _ _ (by omega) (by omega) (by omega)).trans hs
  have hm : maxI (M1 2 (33 * o + n) 3) ((v2 : Int) + (v3 : Int)) ≤ 320 ∧ M1 2 (33 * o + n) 3 ≤ maxI (M1 2 (33 * o + n) 3) ((v2 : Int) + (v3 : Int)) ∧ (v2 : Int) + (v3 : Int) ≤ maxI (M1 2 (33 * o + n) 3) ((v2 : Int) + (v3 : Int)) := by
    unfold maxI
    split <;> omega
  generalize maxI (M1 2 (33 * o + n) 3) ((v2 : Int) + (v3 : Int)) = z at e1 hm
  have e2 : F_X2_writeRow M o (33 * o + n) (v2 : Int) (v3 : Int) v4 = some (mup M1 2 (33 * o + n) 3 z) := by
    unfold F_X2_writeRow
    rw [hq]
    exact e1
  have fz : ∀ K j k : Nat, ¬ (K = 2 ∧ j = 33 * o + n ∧ k = 3) → mup M1 2 (33 * o + n) 3 z K j k = M1 K j k := fun K j k h => mup_off h
  have az : mup M1 2 (33 * o + n) 3 z 2 (33 * o + n) 3 = z := mup_at
  generalize mup M1 2 (33 * o + n) 3 z = M2 at e2 fz az
  have bs : Bs M M2 o (33 * o + n) := fun K j k a b c d => (fz K j k a).trans (f1 K j k b c d)
  refine ⟨M2, e2, g.of bs (t1.ag (fun m p _ _ => fz 5 _ _ (by omega)) (fun b _ => fz 8 _ _ (by omega))) ?_, bs⟩
  unfold Blk
  rw [az, fz 2 _ 0 (by omega), e0]
  refine ⟨by omega, fun h => absurd rfl h, fun p hp => ?_⟩
  rw [fz 5 _ _ (by omega)]
  refine ⟨t1.1 n p hn hp, fun h => absurd rfl h, fun h => ?_⟩
  by_cases y : M1 5 (33 * o + n) p = M 5 (33 * o + n) p
  · rw [y] at h
    have := (b3 p hp).2.2 h
    omega
  · have := g1 p y
    omega
theorem rs62 {o n e : Nat} (hn : n < 32) (he : e ≤ 320) : ∀ (j q k : Nat) (M : Mm), k + j = e → TB M o → ∃ M' : Mm, F_X2_resize_62 (q + j + 1) M o (33 * o + n) (e : Int) (k : Int) = some M' ∧ TB M' o ∧ Bf M M' o (33 * o + n) ∧ ∀ p : Nat, M' 5 (33 * o + n) p ≠ 0 → M 5 (33 * o + n) p ≠ 0
  | 0, q, k, M, hk, ht => by
    unfold F_X2_resize_62
    rw [if_pos (by omega)]
    exact ⟨M, rfl, ht, Bf.refl, fun p hp => hp⟩
  | j + 1, q, k, M, hk, ht => by
    have hd : Int.tdiv (k : Int) 16 = ((k / 16 : Nat) : Int) := by
      rw [tdiv16 (by omega)]
      omega
    show ∃ M' : Mm, F_X2_resize_62 ((q + j + 1) + 1) M o (33 * o + n) (e : Int) (k : Int) = some M' ∧ _
    unfold F_X2_resize_62
    rw [if_neg (by omega), hd, xk_t (rgk (by omega)), blockAt_ok (by omega), xb1_s]
    by_cases z : M 5 (33 * o + n) (k / 16) = 0
    · obtain ⟨M2, e2, h2⟩ := rs62 (o := o) hn he j q (k + 1) M (by omega) ht
      rw [if_pos z, xk_t (rgk (by omega)), suc, e2]
      exact ⟨M2, rfl, h2⟩
    · obtain ⟨M1, e1, t1, f1, g1⟩ := setB_ok (v := 0) ht hn (show k < 320 by omega)
      obtain ⟨M2, e2, t2, f2, g2⟩ := rs62 (o := o) hn he j q (k + 1) M1 (by omega) t1
      rw [if_neg z, e1, xb1_s, xk_t (rgk (by omega)), suc, e2]
      refine ⟨M2, rfl, t2, f1.trans f2, fun p hp => ?_⟩
      by_cases y : p = k / 16
      · rw [y]
        exact z
      · rw [← g1 p y]
        exact g2 p hp
theorem rs31 {o n a w : Nat} (hn : n < 32) (hw : 16 * w ≤ 320) (ha : a ≤ 16 * w) : ∀ (j q k : Nat) (M : Mm), k + j = 20 → TB M o → ∃ M' : Mm, F_X2_resize_31 (q + j + 1) M o (33 * o + n) (a : Int) (w : Int) (k : Int) = some M' ∧ TB M' o ∧ Bf M M' o (33 * o + n) ∧ ∀ p : Nat, p < 20 → M' 5 (33 * o + n) p ≠ 0 → M 5 (33 * o + n) p ≠ 0 ∧ p < k
  | 0, q, k, M, hk, ht => by
    obtain ⟨r, hr⟩ : ∃ r, FU = r + (16 * w - a) + 1 := ⟨FU - (16 * w - a + 1), by have := fu_big; omega⟩
    obtain ⟨M2, e2, t2, f2, g2⟩ := rs62 (o := o) hn hw (16 * w - a) r a M (by omega) ht
    unfold F_X2_resize_31
    rw [if_pos (by omega), xk_t (rgk (by omega)), show (w : Int) * 16 = ((16 * w : Nat) : Int) by omega, hr, e2]
    exact ⟨M2, rfl, t2, f2, fun p hp h => ⟨g2 p h, by omega⟩⟩
  | j + 1, q, k, M, hk, ht => by
    obtain ⟨M1, e1, pe, t1⟩ := put_tb (M := M) (o := o) (n := n) (p := k) (b := 0) ht hn (by omega) (by decide)
    obtain ⟨M2, e2, t2, f2, g2⟩ := rs31 (o := o) hn hw ha j q (k + 1) M1 (by omega) t1
    show ∃ M' : Mm, F_X2_resize_31 ((q + j + 1) + 1) M o (33 * o + n) (a : Int) (w : Int) (k : Int) = some M' ∧ _
    unfold F_X2_resize_31
    rw [if_neg (by omega), e1, xb1_s, xk_t (rgk (by omega)), suc, e2]
    refine ⟨M2, rfl, t2, pe.bf.trans f2, fun p hp h => ?_⟩
    obtain ⟨h1, h2⟩ := g2 p hp h
    by_cases y : p = k
    · rw [y, pe.1] at h1
      exact absurd rfl h1
    · rw [pe.2.2 5 _ _ (by omega) (by omega)] at h1
      exact ⟨h1, by omega⟩
theorem resize_ok {M : Mm} {o n a : Nat} (g : G2 M o) (hn : n < 32) (hs : M 2 (33 * o + n) 0 = 1) (ha : a ≤ 320) : ∃ M', F_X2_resize M o (33 * o + n) (a : Int) = some M' ∧ G2 M' o ∧ Bs M M' o (33 * o + n) := by
  obtain ⟨b1, b2, b3⟩ := g.1 n hn
  have f0 : ∀ K j k : Nat, ¬ (K = 2 ∧ j = 33 * o + n ∧ k = 3) → mup M 2 (33 * o + n) 3 (a : Int) K j k = M K j k := fun K j k h => mup_off h
  have a0 : mup M 2 (33 * o + n) 3 (a : Int) 2 (33 * o + n) 3 = a := mup_at
  have t0 : TB (mup M 2 (33 * o + n) 3 (a : Int)) o := g.tb.ag (fun m p _ _ => f0 5 _ _ (by omega)) (fun b _ => f0 8 _ _ (by omega))
  unfold F_X2_resize
  rw [xl_e]
  by_cases q : (a : Int) < M 2 (33 * o + n) 3
  · have hd : Int.tdiv ((a : Int) + 16 - 1) 16 = (((a + 15) / 16 : Nat) : Int) := by
      rw [tdiv16 (by omega)]
      omega
    generalize mup M 2 (33 * o + n) 3 (a : Int) = M1 at f0 a0 t0
    obtain ⟨M2, e2, t2, f2, g2⟩ := rs31 (o := o) (n := n) (a := a) (w := (a + 15) / 16) hn (by omega) (by omega) (20 - (a + 15) / 16) (FU - (20 - (a + 15) / 16 + 1)) ((a + 15) / 16) M1 (by omega) t0
    rw [show FU - (20 - (a + 15) / 16 + 1) + (20 - (a + 15) / 16) + 1 = FU by have := fu_big; omega] at e2
    rw [if_pos q, xk_t (rgk (by omega)), xk_t (rgk (by omega)), hd, xk_t (rgk (by omega)), e2]
    have bs : Bs M M2 o (33 * o + n) := fun K j k a b c d => (f2 K j k b c d).trans (f0 K j k a)
    refine ⟨M2, rfl, g.of bs t2 ?_, bs⟩
    unfold Blk
    rw [f2 2 _ 3 (by omega) (by omega) (by omega), a0, f2 2 _ 0 (by omega) (by omega) (by omega), f0 2 _ 0 (by omega), hs]
    refine ⟨by omega, fun h => absurd rfl h, fun p hp => ⟨t2.1 n p hn hp, fun h => absurd rfl h, fun h => ?_⟩⟩
    have := (g2 p hp h).2
    omega
  · rw [if_neg q]
    generalize mup M 2 (33 * o + n) 3 (a : Int) = M1 at f0 a0 t0
    have bs : Bs M M1 o (33 * o + n) := fun K j k a b c d => f0 K j k a
    refine ⟨M1, rfl, g.of bs t0 ?_, bs⟩
    unfold Blk
    rw [a0, f0 2 _ 0 (by omega), hs]
    refine ⟨by omega, fun h => absurd rfl h, fun p hp => ⟨t0.1 n p hn hp, fun h => absurd rfl h, fun h => ?_⟩⟩
    rw [f0 5 _ _ (by omega)] at h
    have := (b3 p hp).2.2 h
    omega
theorem sa10 {o n m : Nat} (hn : n < 32) (hm : m < 32) (hnm : m ≠ n) : ∀ (j q k : Nat) (M : Mm), k + j = 20 → TB M o → ∃ M' : Mm, F_X2_shareAll_10 (q + j + 1) M o (33 * o + n) (33 * o + m) (k : Int) = some M' ∧ TB M' o ∧ Bf M M' o (33 * o + n) ∧ (∀ p : Nat, k ≤ p → p < 20 → M' 5 (33 * o + n) p = M 5 (33 * o + m) p) ∧ ∀ p : Nat, p < k → M' 5 (33 * o + n) p = M 5 (33 * o + n) p
  | 0, q, k, M, hk, ht => by
    unfold F_X2_shareAll_10
    rw [if_pos (by omega)]
    exact ⟨M, rfl, ht, Bf.refl, fun p h1 h2 => by omega, fun p _ => rfl⟩
  | j + 1, q, k, M, hk, ht => by
    obtain ⟨M1, e1, pe, t1⟩ := put_tb (M := M) (o := o) (n := n) (p := k) (b := M 5 (33 * o + m) k) ht hn (by omega) (ht.1 m k hm (by omega))
    obtain ⟨M2, e2, t2, f2, g2, g3⟩ := sa10 (o := o) hn hm hnm j q (k + 1) M1 (by omega) t1
    show ∃ M' : Mm, F_X2_shareAll_10 ((q + j + 1) + 1) M o (33 * o + n) (33 * o + m) (k : Int) = some M' ∧ _
    unfold F_X2_shareAll_10
    rw [if_neg (by omega), blockAt_ok (by omega), xb1_s, e1, xb1_s, xk_t (rgk (by omega)), suc, e2]
    refine ⟨M2, rfl, t2, pe.bf.trans f2, fun p h1 h2 => ?_, fun p hp => ?_⟩
    · by_cases y : p = k
      · rw [y, g3 k (by omega)]
        exact pe.1
      · rw [g2 p (by omega) h2, pe.2.2 5 _ _ (by omega) (by omega)]
    · rw [g3 p (by omega), pe.2.2 5 _ _ (by omega) (by omega)]
theorem shareAll_ok {M : Mm} {o n m : Nat} (g : G2 M o) (hn : n < 32) (hm : m < 32) (hnm : m ≠ n) (hs : M 2 (33 * o + n) 0 = 1) (hs2 : M 2 (33 * o + m) 0 = 1) : ∃ M', F_X2_shareAll M o (33 * o + n) (33 * o + m) = some M' ∧ G2 M' o ∧ Bs M M' o (33 * o + n) := by
  obtain ⟨b1, b2, b3⟩ := g.1 m hm
  have f0 : ∀ K j k : Nat, ¬ (K = 2 ∧ j = 33 * o + n ∧ k = 3) → mup M 2 (33 * o + n) 3 (M 2 (33 * o + m) 3) K j k = M K j k := fun K j k h => mup_off h
  have a0 : mup M 2 (33 * o + n) 3 (M 2 (33 * o + m) 3) 2 (33 * o + n) 3 = M 2 (33 * o + m) 3 := mup_at
  have t0 : TB (mup M 2 (33 * o + n) 3 (M 2 (33 * o + m) 3)) o := g.tb.ag (fun m p _ _ => f0 5 _ _ (by omega)) (fun b _ => f0 8 _ _ (by omega))
  unfold F_X2_shareAll
  rw [xl_e]
  generalize mup M 2 (33 * o + n) 3 (M 2 (33 * o + m) 3) = M1 at f0 a0 t0
  obtain ⟨M2, e2, t2, f2, g2, g3⟩ := sa10 (o := o) hn hm hnm 20 (FU - 21) 0 M1 (by decide) t0
  have bs : Bs M M2 o (33 * o + n) := fun K j k a b c d => (f2 K j k b c d).trans (f0 K j k a)
  refine ⟨M2, e2, g.of bs t2 ?_, bs⟩
  unfold Blk
  rw [f2 2 _ 3 (by omega) (by omega) (by omega), a0, f2 2 _ 0 (by omega) (by omega) (by omega), f0 2 _ 0 (by omega), hs]
  refine ⟨b1, fun h => absurd rfl h, fun p hp => ⟨t2.1 n p hn hp, fun h => absurd rfl h, fun h => ?_⟩⟩
  rw [g2 p (by omega) hp, f0 5 _ _ (by omega)] at h
  exact (b3 p hp).2.2 h
/-- one place is put: a hole, or a block where the size is enough -/
theorem put_g2 {M : Mm} {o n p : Nat} {b : Int} (g : G2 M o) (hn : n < 32) (hs : M 2 (33 * o + n) 0 = 1) (hp : p < 20) (hb : 0 ≤ b ∧ b < 128) (hz : b ≠ 0 → 16 * (p : Int) < M 2 (33 * o + n) 3) : ∃ M', F_X2_put M o (33 * o + n) (p : Int) b = some M' ∧ G2 M' o ∧ Bs M M' o (33 * o + n) := by
  obtain ⟨M1, e1, pe, t1⟩ := put_tb g.tb hn hp hb
  obtain ⟨b1, b2, b3⟩ := g.1 n hn
  refine ⟨M1, e1, g.of pe.bf.bs t1 ?_, pe.bf.bs⟩
  unfold Blk
  rw [pe.2.2 2 _ 3 (by omega) (by omega), pe.2.2 2 _ 0 (by omega) (by omega), hs]
  refine ⟨b1, fun h => absurd rfl h, fun k hk => ⟨t1.1 n k hn hk, fun h => absurd rfl h, fun h => ?_⟩⟩
  by_cases y : k = p
  · rw [y] at h ⊢
    rw [pe.1] at h
    exact hz h
  · rw [pe.2.2 5 _ _ (by omega) (by omega)] at h
    exact (b3 k hk).2.2 h
theorem DropE.g2 {M M' : Mm} {o n : Nat} (h : DropE M M' o n) (g : G2 M o) (ht : TB M' o) : G2 M' o := by
  obtain ⟨h2, h5, -, hf⟩ := h
  refine ⟨fun m hm => ?_, ht.2⟩
  by_cases q : m = n
  · rw [q]
    unfold Blk
    rw [h2 3 (by decide), h2 0 (by decide)]
    refine ⟨by decide, fun _ => rfl, fun p hp => ?_⟩
    rw [h5 p hp]
    exact ⟨by decide, fun _ => rfl, fun h => absurd rfl h⟩
  · exact (g.1 m hm).ag (hf 2 _ _ (by omega) (by omega) (by omega)) (hf 2 _ _ (by omega) (by omega) (by omega)) (fun p _ => hf 5 _ _ (by omega) (by omega) (by omega))
theorem DropE.fr {M M' : Mm} {o n : Nat} (h : DropE M M' o n) (hn : n < 32) : Fr M M' o := fun K j k hk => h.2.2.2 K j k (by omega) (by omega) (by omega)
