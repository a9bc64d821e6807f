/-! EXCHANGES, AND WHAT IS DROPPED -/
/-- one place of a cell names another node now -/
def TrnE (M M' : Mm) (o f q x : Nat) : Prop := M' 4 (33 * o + f) q = x ∧ (M 2 (33 * o + x) 0 = 2 → M' 2 (33 * o + x) 4 = f) ∧ (M 2 (33 * o + x) 0 ≠ 2 → M' 2 (33 * o + x) 4 = M 2 (33 * o + x) 4) ∧ ∀ K j k : Nat, ¬ (K = 4 ∧ j = 33 * o + f ∧ k = q) → ¬ (K = 2 ∧ j = 33 * o + x ∧ k = 4) → M' K j k = M K j k
theorem turn_e {M : Mm} {o f q x : Nat} {a : Int} (hf : f < 32) (hx : x < 32) (hq : q < 12) (hs : F_X1_slotOf M (33 * o + f) a = some (q : Int)) : ∃ M', F_X2_turn M o (f : Int) a (x : Int) = some M' ∧ TrnE M M' o f q x := by
  unfold F_X2_turn F_X1_turnSlot
  rw [at_ok hf, xb1_s, hs, xb1_s, if_neg (by omega), if_neg (by omega), xk_t (by omega), xl_e, Int.toNat_natCast, xb1_s, at_ok hx, xb1_s]
  have f1 : ∀ K j k : Nat, ¬ (K = 4 ∧ j = 33 * o + f ∧ k = q) → mup M 4 (33 * o + f) q (x : Int) K j k = M K j k := fun K j k h => mup_off h
  have a1 : mup M 4 (33 * o + f) q (x : Int) 4 (33 * o + f) q = x := mup_at
  generalize mup M 4 (33 * o + f) q (x : Int) = M1 at f1 a1
  have s1 : M1 2 (33 * o + x) 0 = M 2 (33 * o + x) 0 := f1 2 _ _ (by omega)
  rw [s1]
  by_cases z : M 2 (33 * o + x) 0 = 2
  · rw [if_pos z, xb1_s, xl_e]
    refine ⟨_, rfl, ?_, fun _ => mup_at, fun w => absurd z w, fun K j k h1 h2 => ?_⟩
    · rw [mup_off (by omega), a1]
    · rw [mup_off h2, f1 K j k h1]
  · rw [if_neg z]
    exact ⟨M1, rfl, a1, fun w => absurd w z, fun _ => f1 2 _ _ (by omega), fun K j k h1 _ => f1 K j k h1⟩
theorem occ_upd {M M' : Mm} {i q : Nat} {x z : Int} (h8 : M' 2 i 8 = M 2 i 8) (h12 : M 2 i 8 ≤ 12) (hq : (q : Int) < M 2 i 8) (h4 : ∀ k, k ≠ q → M' 4 i k = M 4 i k) (hx : M' 4 i q = x) : occ M' i z = occ M i z - (if M 4 i q = z then 1 else 0) + if x = z then 1 else 0 := by
  have e := sm_upd (f := fun k => if (k : Int) < M 2 i 8 ∧ M 4 i k = z then (1 : Int) else 0) (g := fun k => if (k : Int) < M' 2 i 8 ∧ M' 4 i k = z then 1 else 0) (a := q) (k := 0) (j := 12) (by omega) (by omega) (fun k _ _ hk => by
    show (if (k : Int) < M' 2 i 8 ∧ M' 4 i k = z then (1 : Int) else 0) = if (k : Int) < M 2 i 8 ∧ M 4 i k = z then 1 else 0
    rw [h8, h4 k hk])
  have e1 : (if (q : Int) < M 2 i 8 ∧ M 4 i q = z then (1 : Int) else 0) = if M 4 i q = z then 1 else 0 := by
    by_cases w : M 4 i q = z
    · rw [if_pos ⟨hq, w⟩, if_pos w]
    · rw [if_neg (fun v => w v.2), if_neg w]
  have e2 : (if (q : Int) < M' 2 i 8 ∧ M' 4 i q = z then (1 : Int) else 0) = if x = z then 1 else 0 := by
    rw [h8, hx]
    by_cases w : x = z
    · rw [if_pos ⟨hq, w⟩, if_pos w]
    · rw [if_neg (fun v => w v.2), if_neg w]
  rw [e1, e2] at e
  exact e
theorem TrnE.lnk {M M' : Mm} {o f q x : Nat} (h : TrnE M M' o f q x) (he : Er M o) (hf : f < 32) (hq : (q : Int) < M 2 (33 * o + f) 8) (z : Int) : lnk M' o z = lnk M o z - (if M 4 (33 * o + f) q = z then 1 else 0) + if (x : Int) = z then 1 else 0 := by
  have k8 : ∀ n, M' 2 (33 * o + n) 8 = M 2 (33 * o + n) 8 := fun n => h.2.2.2 2 _ _ (by omega) (by omega)
  rw [lnk_upd hf (fun n hn hnf => occ_same (k8 n) (fun k _ => h.2.2.2 4 _ _ (by omega) (by omega))), occ_upd (z := z) (k8 f) (he f hf).2 hq (fun k hk => h.2.2.2 4 _ _ (by omega) (by omega)) h.1]
  omega
/-- two places are exchanged -/
def ExcE (M M' : Mm) (d f q1 g q2 x y : Nat) : Prop := (∀ n k : Nat, M' 4 (33 * d + n) k = if n = g ∧ k = q2 then (x : Int) else if n = f ∧ k = q1 then (y : Int) else M 4 (33 * d + n) k) ∧ (M 2 (33 * d + x) 0 = 2 → M' 2 (33 * d + x) 4 = g) ∧ (y ≠ x → M 2 (33 * d + y) 0 = 2 → M' 2 (33 * d + y) 4 = f) ∧ (∀ n, ¬ (n = x ∧ M 2 (33 * d + x) 0 = 2) → ¬ (n = y ∧ M 2 (33 * d + y) 0 = 2) → M' 2 (33 * d + n) 4 = M 2 (33 * d + n) 4) ∧ ∀ K j k : Nat, ¬ (K = 4 ∧ 33 * d ≤ j ∧ j < 33 * d + 33) → ¬ (K = 2 ∧ k = 4 ∧ 33 * d ≤ j ∧ j < 33 * d + 33) → M' K j k = M K j k
theorem exc_e {M : Mm} {d f g q1 q2 x y : Nat} {a b : Int} (hf : f < 32) (hg : g < 32) (hx : x < 32) (hy : y < 32) (eg : Ents M (33 * d + g)) (h1 : q1 < 12) (h2 : (q2 : Int) < M 2 (33 * d + g) 8) (s1 : F_X1_slotOf M (33 * d + f) a = some (q1 : Int)) (n2 : M 3 (33 * d + g) q2 = b) : ∃ M1 M', F_X2_turn M d (f : Int) a (y : Int) = some M1 ∧ F_X2_turn M1 d (g : Int) b (x : Int) = some M' ∧ TrnE M M1 d f q1 y ∧ TrnE M1 M' d g q2 x ∧ ExcE M M' d f q1 g q2 x y := by
  obtain ⟨M1, e1, t1⟩ := turn_e (M := M) (o := d) hf hy h1 s1
  have k8 : ∀ n k, k ≠ 4 → M1 2 (33 * d + n) k = M 2 (33 * d + n) k := fun n k hk => t1.2.2.2 2 _ _ (by omega) (by omega)
  have k3 : ∀ n k, M1 3 (33 * d + n) k = M 3 (33 * d + n) k := fun n k => t1.2.2.2 3 _ _ (by omega) (by omega)
  have s2 : F_X1_slotOf M1 (33 * d + g) b = some (q2 : Int) := by
    rcases slot_ok (M := M1) (i := 33 * d + g) (a := b) (by rw [k8 g 8 (by omega)]; exact eg.1) with ⟨-, w⟩ | ⟨q, w1, w2, w3⟩
    · have := w q2 (by rw [k8 g 8 (by omega)]; exact h2)
      rw [k3] at this
      exact absurd n2 this
    · rw [k8 g 8 (by omega)] at w2
      rw [k3] at w3
      rw [w1, eg.inj w2 h2 (w3.trans n2.symm)]
  obtain ⟨M2, e2, t2⟩ := turn_e (M := M1) (o := d) hg hx (by have := eg.1; omega) s2
  refine ⟨M1, M2, e1, e2, t1, t2, fun n k => ?_, fun s => t2.2.1 (by rw [k8 x 0 (by omega)]; exact s), fun hne s => ?_, fun n z1 z2 => ?_, fun K j k z1 z2 => ?_⟩
  · by_cases w : n = g ∧ k = q2
    · rw [if_pos w, w.1, w.2]
      exact t2.1
    · rw [if_neg w, t2.2.2.2 4 _ _ (by omega) (by omega)]
      by_cases v : n = f ∧ k = q1
      · rw [if_pos v, v.1, v.2]
        exact t1.1
      · rw [if_neg v, t1.2.2.2 4 _ _ (by omega) (by omega)]
  · rw [t2.2.2.2 2 _ _ (by omega) (by omega)]
    exact t1.2.1 s
  · by_cases w : n = x
    · subst w
      rw [t2.2.2.1 (by rw [k8 n 0 (by omega)]; exact fun s => z1 ⟨rfl, s⟩)]
      by_cases v : n = y
      · subst v
        exact t1.2.2.1 (fun s => z2 ⟨rfl, s⟩)
      · exact t1.2.2.2 2 _ _ (by omega) (by omega)
    · rw [t2.2.2.2 2 _ _ (by omega) (by omega)]
      by_cases v : n = y
      · subst v
        exact t1.2.2.1 (fun s => z2 ⟨rfl, s⟩)
      · exact t1.2.2.2 2 _ _ (by omega) (by omega)
  · rw [t2.2.2.2 K j k (by omega) (by omega), t1.2.2.2 K j k (by omega) (by omega)]
theorem Up.not_below {M : Mm} {o g y m : Nat} (h : Up M o g m) (hp : M 2 (33 * o + y) 4 = g) (hy : y ≠ 0) : ∀ i, i ≤ m → upN M o i g ≠ y := fun i hi e => by
  have im : i ≠ m := fun z => by
    rw [z, h.1] at e
    exact hy e.symm
  have e1 : upN M o (i + 1) g = g := by
    rw [upN_succ, e, hp, Int.toNat_natCast]
  have e2 : upN M o (i + 1 + (m - (i + 1))) g = upN M o (m - (i + 1)) g := by rw [upN_add, e1]
  rw [show i + 1 + (m - (i + 1)) = m by omega, h.1] at e2
  exact h.2 (m - (i + 1)) (by omega) e2.symm
theorem exc_g1 {M M' : Mm} {d f g q1 q2 x y : Nat} (G : G1 M d) (hf : f < 32) (hg : g < 32) (hx : x < 32) (hy : y < 32) (h1 : (q1 : Int) < M 2 (33 * d + f) 8) (h2 : (q2 : Int) < M 2 (33 * d + g) 8) (ex : M 4 (33 * d + f) q1 = x) (ey : M 4 (33 * d + g) q2 = y) (wg : ∃ m, Up M d g m ∧ ∀ i, i ≤ m → upN M d i g ≠ x) (wf : ∃ m, Up M d f m ∧ ∀ i, i ≤ m → upN M d i f ≠ y) (E : ExcE M M' d f q1 g q2 x y) (hl : ∀ z : Int, lnk M' d z = lnk M d z) : G1 M' d := by
  have S := G.se
  obtain ⟨c4, px, py, po, fr⟩ := E
  have k2 : ∀ n k, k ≠ 4 → M' 2 (33 * d + n) k = M 2 (33 * d + n) k := fun n k hk => fr 2 _ _ (by omega) (by omega)
  have k3 : ∀ n k, M' 3 (33 * d + n) k = M 3 (33 * d + n) k := fun n k => fr 3 _ _ (by omega) (by omega)
  have xr := (S.en hf).2.1 q1 h1
  have yr := (S.en hg).2.1 q2 h2
  rw [ex] at xr
  rw [ey] at yr
  have ix := S.is hf q1 h1
  have iy := S.is hg q2 h2
  rw [ex, Int.toNat_natCast] at ix
  rw [ey, Int.toNat_natCast] at iy
  -- a folder is in one place alone
  have one : ∀ {n m k j v : Nat}, n < 32 → m < 32 → v < 32 → (k : Int) < M 2 (33 * d + n) 8 → (j : Int) < M 2 (33 * d + m) 8 → M 4 (33 * d + n) k = v → M 4 (33 * d + m) j = v → v ≠ 0 → M 2 (33 * d + v) 0 = 2 → n = m ∧ k = j := by
    intro n m k j v hn hm hv hk hj e1 e2 v0 sv
    by_cases z : n = m ∧ k = j
    · exact z
    · have a := lnk_pos2 S.er hn hm hk hj e1 e2 z
      have b := (S.lk hv).1
      have c := (G.lc hv).1 v0 sv
      omega
  have same : x = y → M 2 (33 * d + x) 0 = 2 → f = g := fun z s => (one hf hg hx h1 h2 ex (by rw [ey, z]) (by omega) s).1
  have pr' : Pr M' d := fun n hn => by
    have := S.pr n hn
    by_cases z1 : n = x ∧ M 2 (33 * d + x) 0 = 2
    · rw [z1.1, px z1.2]
      omega
    · by_cases z2 : n = y ∧ M 2 (33 * d + y) 0 = 2
      · rw [z2.1, py (fun w => z1 ⟨z2.1.trans w, by rw [← w]; exact z2.2⟩) z2.2]
        omega
      · rw [po n z1 z2]
        exact this
  refine SE.g1 ⟨?_, fun n hn => ?_, fun n hn => ?_, fun n hn => ?_, fun n hn k hk => ?_, fun n hn hs => ?_⟩ (fun n hn => ?_)
  · have a0 := k2 0 0 (by omega)
    have a2 := k2 0 2 (by omega)
    rw [Nat.add_zero] at a0 a2
    rw [a0, a2]
    exact S.1
  · obtain ⟨r0, r1, r2, r4, r5, r8⟩ := S.rg hn
    unfold Rgs
    rw [k2 n 0 (by omega), k2 n 1 (by omega), k2 n 2 (by omega), k2 n 5 (by omega), k2 n 8 (by omega)]
    exact ⟨r0, r1, r2, pr' n hn, r5, r8⟩
  · obtain ⟨e1, e2, e3⟩ := S.en hn
    unfold Ents
    rw [k2 n 8 (by omega)]
    refine ⟨e1, fun k hk => ?_, fun k hk => ?_⟩
    · rw [k3, c4]
      have := e2 k hk
      split
      · omega
      · split
        · omega
        · exact this
    · rw [k3, k3]
      exact e3 k hk
  · unfold LkE
    rw [k2 n 2 (by omega), k2 n 0 (by omega), hl]
    exact S.lk hn
  · rw [k2 n 8 (by omega)] at hk
    rw [c4]
    by_cases z1 : n = g ∧ k = q2
    · rw [if_pos z1, Int.toNat_natCast, k2 x 0 (by omega), z1.1]
      exact ⟨ix.1, px⟩
    · rw [if_neg z1]
      by_cases z2 : n = f ∧ k = q1
      · rw [if_pos z2, Int.toNat_natCast, k2 y 0 (by omega), z2.1]
        refine ⟨iy.1, fun s => py (fun w => ?_) s⟩
        have o := one hf hg hx h1 h2 ex (by rw [ey, w]) (by omega) (by rw [← w]; exact s)
        exact z1 ⟨z2.1.trans o.1, z2.2.trans o.2⟩
      · rw [if_neg z2]
        have v := (S.en hn).2.1 k hk
        have i := S.is hn k hk
        obtain ⟨w, ew⟩ : ∃ w : Nat, M 4 (33 * d + n) k = w := ⟨(M 4 (33 * d + n) k).toNat, by omega⟩
        rw [ew, Int.toNat_natCast] at i ⊢
        rw [k2 w 0 (by omega)]
        refine ⟨i.1, fun s => ?_⟩
        rw [po w (fun u => z2 (one hn hf hx hk h1 (by rw [ew, u.1]) ex (by omega) u.2)) (fun u => z1 (one hn hg hy hk h2 (by rw [ew, u.1]) ey (by omega) u.2))]
        exact i.2 s
  · rw [k2 n 0 (by omega)] at hs
    obtain ⟨j, hj⟩ := S.up hn hs
    obtain ⟨mg, ug, ag⟩ := wg
    obtain ⟨mf, uf, af⟩ := wf
    refine acyc_upd (P := fun n => (n = x ∧ M 2 (33 * d + x) 0 = 2) ∨ (n = y ∧ M 2 (33 * d + y) 0 = 2)) S.pr (fun m hm z => po m (fun u => z (Or.inl u)) (fun u => z (Or.inr u))) (fun m hm z => ?_) j n hn hj
    have cg : upN M' d mg g = 0 := by
      rw [upN_same (P := fun n => (n = x ∧ M 2 (33 * d + x) 0 = 2) ∨ (n = y ∧ M 2 (33 * d + y) 0 = 2)) S.pr (fun m hm z => po m (fun u => z (Or.inl u)) (fun u => z (Or.inr u))) mg g hg (fun i hi z => ?_)]
      · exact ug.1
      · rcases z with z | z
        · exact ag i (by omega) z.1
        · exact ug.not_below (iy.2 z.2) (by omega) i (by omega) z.1
    have cf : upN M' d mf f = 0 := by
      rw [upN_same (P := fun n => (n = x ∧ M 2 (33 * d + x) 0 = 2) ∨ (n = y ∧ M 2 (33 * d + y) 0 = 2)) S.pr (fun m hm z => po m (fun u => z (Or.inl u)) (fun u => z (Or.inr u))) mf f hf (fun i hi z => ?_)]
      · exact uf.1
      · rcases z with z | z
        · exact uf.not_below (ix.2 z.2) (by omega) i (by omega) z.1
        · exact af i (by omega) z.1
    by_cases w : m = x ∧ M 2 (33 * d + x) 0 = 2
    · refine ⟨mg + 1, ?_⟩
      show upN M' d mg (M' 2 (33 * d + m) 4).toNat = 0
      rw [w.1, px w.2, Int.toNat_natCast]
      exact cg
    · have z := z.resolve_left w
      refine ⟨mf + 1, ?_⟩
      show upN M' d mf (M' 2 (33 * d + m) 4).toNat = 0
      rw [z.1, py (fun u => w ⟨z.1.trans u, by rw [← u]; exact z.2⟩) z.2, Int.toNat_natCast]
      exact cf
  · unfold LkC
    rw [k2 n 0 (by omega), k2 n 2 (by omega)]
    exact G.lc hn
/-! a file without names is dropped -/
def Orp (M : Mm) (o n : Nat) : Prop := M 2 (33 * o + n) 0 = 1 ∧ M 2 (33 * o + n) 2 = 0
theorem forsaken_ok {M : Mm} {i : Nat} : F_X1_isForsaken M i = some (if M 2 i 0 = 1 ∧ M 2 i 2 = 0 then 1 else 0) := by
  unfold F_X1_isForsaken
  by_cases z : M 2 i 0 = 1
  · rw [if_pos z]
    by_cases w : M 2 i 2 = 0
    · rw [if_pos w, if_pos ⟨z, w⟩]
    · rw [if_neg w, if_neg (fun y => w y.2)]
  · rw [if_neg z, if_neg (fun y => z y.1)]
theorem DropE.ownE {M M' : Mm} {o x n : Nat} (h : DropE M M' o x) (hn : n ≠ x) : own M' (33 * o + n) = own M (33 * o + n) := own_ag (h.2.2.2 2 _ _ (by omega) (by omega) (by omega)) (h.2.2.2 2 _ _ (by omega) (by omega) (by omega)) (fun k _ => h.2.2.2 5 _ _ (by omega) (by omega) (by omega))
theorem DropE.own0 {M M' : Mm} {o x : Nat} (h : DropE M M' o x) : own M' (33 * o + x) = 0 := by
  unfold own
  rw [h.1 0 (by omega), if_neg (by decide), sm_congr (g := fun _ => 0) (fun p _ hp => by rw [if_pos (h.2.1 p (by omega))]), sm_zero]
theorem DropE.used {M M' : Mm} {o x : Nat} (h : DropE M M' o x) (he : Er M o) : usedT M' o ≤ usedT M o := by
  have e1 : sm (fun b => if 0 < M' 8 o b then 1 else 0) 0 128 ≤ sm (fun b => if 0 < M 8 o b then 1 else 0) 0 128 := sm_le fun b _ hb => by
    show (if 0 < M' 8 o b then (1 : Int) else 0) ≤ if 0 < M 8 o b then 1 else 0
    have := h.2.2.1 b (by omega)
    by_cases z : 0 < M' 8 o b
    · rw [if_pos z, if_pos (by omega)]
      exact Int.le_refl 1
    · rw [if_neg z]
      split <;> decide
  have e2 : sm (fun n => if M' 2 (33 * o + n) 0 = 2 then own M' (33 * o + n) else 0) 0 32 ≤ sm (fun n => if M 2 (33 * o + n) 0 = 2 then own M (33 * o + n) else 0) 0 32 := sm_le fun n _ hn => by
    show (if M' 2 (33 * o + n) 0 = 2 then own M' (33 * o + n) else 0) ≤ if M 2 (33 * o + n) 0 = 2 then own M (33 * o + n) else 0
    by_cases z : n = x
    · rw [z, h.own0, ite_self]
      split
      · exact (own_bd (he x (by omega))).1
      · decide
    · rw [h.ownE z, h.2.2.2 2 _ _ (by omega) (by omega) (by omega)]
      exact Int.le_refl _
  unfold usedT
  omega
theorem DropE.tak {M M' : Mm} {o x : Nat} {u : Int} (h : DropE M M' o x) (he : Er M o) : takB M' o u ≤ takB M o u := sm_le fun n _ hn => by
  show (if M' 2 (33 * o + n) 1 = u then own M' (33 * o + n) else 0) ≤ if M 2 (33 * o + n) 1 = u then own M (33 * o + n) else 0
  by_cases z : n = x
  · rw [z, h.own0, ite_self]
    split
    · exact (own_bd (he x (by omega))).1
    · decide
  · rw [h.ownE z, h.2.2.2 2 _ _ (by omega) (by omega) (by omega)]
    exact Int.le_refl _
theorem dropF_ok {M : Mm} {o x : Nat} (g : GG M o) (hx : x < 32) (h : Orp M o x) : ∃ M', F_X2_drop M o (x : Int) = some M' ∧ GG M' o ∧ DropE M M' o x := by
  obtain ⟨M1, e1, t1, d1⟩ := drop_ok (M := M) (o := o) (m := x) g.2.1.tb hx
  have x0 : x ≠ 0 := fun z => by
    have a := g.1.1.1
    have b := h.1
    rw [z, Nat.add_zero] at b
    omega
  have ze := d1.ze
  have e8 := (g.1.se.rg hx).2.2.2.2.2 (by rw [h.1]; decide)
  refine ⟨M1, e1, ⟨(ze.se g.1.se ⟨by omega, hx⟩ h.2 e8 (by decide) (by decide)).g1 (fun n hn => ?_), d1.g2 g.2.1 t1, g.2.2.ag (d1.fx hx).ag3⟩, d1⟩
  unfold LkC
  by_cases z : n = x
  · rw [z, d1.1 0 (by omega)]
    exact ⟨fun _ s => absurd s (by decide), fun s => absurd s (by decide)⟩
  · rw [ze.k z, ze.k z]
    exact g.1.lc hn
/-- all that is forsaken is gone, and nothing else -/
def DfE (M M' : Mm) (o : Nat) : Prop := ∀ n, n < 32 → (Orp M o n → ∀ k, k < 9 → M' 2 (33 * o + n) k = 0) ∧ (¬ Orp M o n → ∀ k, M' 2 (33 * o + n) k = M 2 (33 * o + n) k)
theorem df4 {o : Nat} : ∀ (j q k : Nat) (acc : Int) (M : Mm), k + j = 32 → 0 ≤ acc ∧ acc ≤ k → GG M o → (∀ n, n < k → ¬ Orp M o n) → ∃ (r : Int) (M' : Mm), F_X2_dropForsaken_4 (q + j + 1) M o acc (k : Int) = some (r, M') ∧ 0 ≤ r ∧ GG M' o ∧ Fx M M' o ∧ usedT M' o ≤ usedT M o ∧ DfE M M' o
  | 0, q, k, acc, M, hk, ha, g, hn => by
    unfold F_X2_dropForsaken_4
    rw [if_pos (by omega)]
    exact ⟨acc, M, rfl, ha.1, g, Fx.refl, Int.le_refl _, fun n h => ⟨fun z => absurd z (hn n (by omega)), fun _ _ => rfl⟩⟩
  | j + 1, q, k, acc, M, hk, ha, g, hn => by
    show ∃ (r : Int) (M' : Mm), F_X2_dropForsaken_4 ((q + j + 1) + 1) M o acc (k : Int) = some (r, M') ∧ _
    unfold F_X2_dropForsaken_4
    rw [if_neg (by omega), xk_t (by omega), Int.toNat_natCast, forsaken_ok, xb1_s]
    by_cases z : Orp M o k
    · obtain ⟨M1, e1, g1, d1⟩ := dropF_ok g (by omega) z
      have same : ∀ n i, n ≠ k → M1 2 (33 * o + n) i = M 2 (33 * o + n) i := fun n i h => d1.2.2.2 2 _ _ (by omega) (by omega) (by omega)
      have o1 : ∀ n, n ≠ k → (Orp M1 o n ↔ Orp M o n) := fun n h => by
        unfold Orp
        rw [same n 0 h, same n 2 h]
      have ok : ¬ Orp M1 o k := fun y => by
        have := y.1
        rw [d1.1 0 (by omega)] at this
        exact absurd this (by decide)
      obtain ⟨r, M2, e2, r0, g2, f2, u2, h2⟩ := df4 j q (k + 1) (acc + 1) M1 (by omega) (by omega) g1 (fun n h => by
        by_cases w : n = k
        · rw [w]
          exact ok
        · rw [o1 n w]
          exact hn n (by omega))
      rw [if_pos (show M 2 (33 * o + k) 0 = 1 ∧ M 2 (33 * o + k) 2 = 0 from z), if_neg (by decide), e1, xb1_s, xk_t (rgk (by omega)), xk_t (rgk (by omega)), suc, e2]
      refine ⟨r, M2, rfl, r0, g2, (d1.fx (by omega)).trans f2, Int.le_trans u2 (d1.used g.1.er), fun n h => ?_⟩
      obtain ⟨p1, p2⟩ := h2 n h
      by_cases w : n = k
      · subst w
        refine ⟨fun _ i hi => ?_, fun y => absurd z y⟩
        rw [p2 ok i]
        exact d1.1 i hi
      · rw [o1 n w] at p1 p2
        exact ⟨p1, fun y i => (p2 y i).trans (same n i w)⟩
    · obtain ⟨r, M2, e2, h2⟩ := df4 j q (k + 1) acc M (by omega) (by omega) g (fun n h => by
        by_cases w : n = k
        · rw [w]
          exact z
        · exact hn n (by omega))
      rw [if_neg (show ¬ (M 2 (33 * o + k) 0 = 1 ∧ M 2 (33 * o + k) 2 = 0) from z), if_pos rfl, xk_t (rgk (by omega)), suc, e2]
      exact ⟨r, M2, rfl, h2⟩
theorem df_ok {M : Mm} {o : Nat} (g : GG M o) : ∃ (r : Int) (M' : Mm), F_X2_dropForsaken M o = some (r, M') ∧ 0 ≤ r ∧ GG M' o ∧ Fx M M' o ∧ usedT M' o ≤ usedT M o ∧ DfE M M' o := df4 32 (FU - 33) 0 0 M (by decide) (by decide) g (fun n h => by omega)
theorem DfE.no {M M' : Mm} {o n : Nat} (h : DfE M M' o) (hn : n < 32) : ¬ Orp M' o n := fun y => by
  obtain ⟨h1, h2⟩ := h n hn
  by_cases z : Orp M o n
  · have := y.1
    rw [h1 z 0 (by omega)] at this
    exact absurd this (by decide)
  · refine z ⟨?_, ?_⟩
    · rw [← h2 z 0]
      exact y.1
    · rw [← h2 z 2]
      exact y.2
