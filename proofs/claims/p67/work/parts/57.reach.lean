/-! WHAT CAN BE REACHED, AND WHOSE BLOCKS THEY ARE -/
/-- the node n is in the set -/
def bt (s : Int64) (n : Nat) : Bool := s.toBitVec.getLsbD n
theorem y63 : ∀ n : Nat, n < 32 → ((jI (n : Int)).toInt64 &&& (63 : Int64)).toBitVec.smod 64 = BitVec.ofNat 64 n := by decide +kernel
theorem m1b : ∀ n : Nat, n < 32 → (-1 : Int64).toBitVec.getLsbD n = true := by decide +kernel
theorem bt_one : ∀ m : Nat, m < 32 → ∀ n : Nat, n < 32 → bt ((1 : Int64) <<< ((jI (m : Int)).toInt64 &&& (63 : Int64))) n = decide (n = m) := by decide +kernel
theorem bt_zero {n : Nat} : bt 0 n = false := by
  show (0#64).getLsbD n = false
  exact BitVec.getLsbD_zero
theorem bt_or {a b : Int64} {n : Nat} : bt (a ||| b) n = (bt a n || bt b n) := by
  show (a.toBitVec ||| b.toBitVec).getLsbD n = _
  rw [BitVec.getLsbD_or]
  rfl
theorem bt_not {a b : Int64} {n : Nat} (hn : n < 32) : bt (a &&& (b ^^^ (-1 : Int64))) n = (bt a n && !bt b n) := by
  show (a.toBitVec &&& (b.toBitVec ^^^ (-1 : Int64).toBitVec)).getLsbD n = _
  rw [BitVec.getLsbD_and, BitVec.getLsbD_xor, m1b n hn]
  show (a.toBitVec.getLsbD n && (b.toBitVec.getLsbD n ^^ true)) = (a.toBitVec.getLsbD n && !b.toBitVec.getLsbD n)
  cases a.toBitVec.getLsbD n <;> cases b.toBitVec.getLsbD n <;> rfl
theorem lcmp0 {x : Int64} : lcmpI x 0 = 0 ↔ x = 0 := by
  unfold lcmpI
  constructor
  · intro h
    by_cases z : 0 < x
    · rw [if_pos z] at h
      exact absurd h (by decide)
    · rw [if_neg z] at h
      by_cases y : x = 0
      · exact y
      · rw [if_neg y] at h
        exact absurd h (by decide)
  · intro h
    rw [h, if_neg (by decide), if_pos rfl]
theorem bit1 {x : BitVec 64} : x &&& 1#64 = 0#64 ↔ x.getLsbD 0 = false := by
  rw [BitVec.and_one_eq_setWidth_ofBool_getLsbD]
  cases x.getLsbD 0 <;> decide
theorem shr1 {s : Int64} {n : Nat} (hn : n < 32) : ((s >>> ((jI (n : Int)).toInt64 &&& (63 : Int64))) &&& (1 : Int64)) = 0 ↔ bt s n = false := by
  rw [← Int64.toBitVec_inj]
  show (s.toBitVec.sshiftRight' (((jI (n : Int)).toInt64 &&& (63 : Int64)).toBitVec.smod 64)) &&& 1#64 = 0#64 ↔ _
  rw [y63 n hn, bit1, BitVec.sshiftRight_eq', BitVec.getLsbD_sshiftRight, BitVec.toNat_ofNat, Nat.mod_eq_of_lt (by omega), if_pos (by omega), Nat.add_zero]
  show (!decide (64 ≤ 0) && s.toBitVec.getLsbD n) = false ↔ s.toBitVec.getLsbD n = false
  cases s.toBitVec.getLsbD n <;> decide
theorem isIn_ok {M : Mm} {s : Int64} {n : Nat} (hn : n < 32) : F_X2_isIn M s (n : Int) = some (if bt s n = true then 1 else 0) := by
  unfold F_X2_isIn
  by_cases z : bt s n = true
  · rw [if_neg (fun w => by
      have := (shr1 hn).1 (lcmp0.1 w)
      rw [z] at this
      exact absurd this (by decide)), if_pos z]
  · rw [if_pos (lcmp0.2 ((shr1 hn).2 (by
      cases e : bt s n
      · rfl
      · exact absurd e z))), if_neg z]
/-- all that stands in a folder -/
theorem inside4 {M : Mm} {i e : Nat} (h8 : M 2 i 8 = e) (he : e ≤ 12) (hr : ∀ k : Nat, (k : Int) < M 2 i 8 → 0 ≤ M 4 i k ∧ M 4 i k ≤ 31) : ∀ (j q k : Nat) (acc : Int64), k + j = e → ∃ r, F_X2_insideOf_4 M (q + j + 1) i acc (k : Int) = some r ∧ (∀ n, bt acc n = true → bt r n = true) ∧ ∀ m : Nat, k ≤ m → m < e → bt r (M 4 i m).toNat = true
  | 0, q, k, acc, hk => by
    unfold F_X2_insideOf_4
    rw [h8, if_pos (by omega)]
    exact ⟨acc, rfl, fun _ h => h, fun m h1 h2 => by omega⟩
  | j + 1, q, k, acc, hk => by
    have v := hr k (by omega)
    obtain ⟨x, ex⟩ : ∃ x : Nat, M 4 i k = x := ⟨(M 4 i k).toNat, by omega⟩
    obtain ⟨r, e1, h1, h2⟩ := inside4 h8 he hr j q (k + 1) (acc ||| ((1 : Int64) <<< ((jI (x : Int)).toInt64 &&& (63 : Int64)))) (by omega)
    show ∃ r, F_X2_insideOf_4 M ((q + j + 1) + 1) i acc (k : Int) = some r ∧ _
    unfold F_X2_insideOf_4
    rw [h8, if_neg (by omega), nodeIn_ok (by omega) (by omega), xb1_s, xk_t (rgk (by omega)), suc, ex, e1]
    refine ⟨r, rfl, fun n hn => h1 n (by rw [bt_or, hn]; rfl), fun m m1 m2 => ?_⟩
    by_cases z : m = k
    · rw [z, ex, Int.toNat_natCast]
      refine h1 x ?_
      rw [bt_or, bt_one x (by omega) x (by omega), decide_eq_true rfl, Bool.or_true]
    · exact h2 m (by omega) m2
/-- names stand for numbers of nodes -/
def Nr (M : Mm) (o : Nat) : Prop := Er M o ∧ ∀ n, n < 32 → ∀ k : Nat, (k : Int) < M 2 (33 * o + n) 8 → 0 ≤ M 4 (33 * o + n) k ∧ M 4 (33 * o + n) k ≤ 31
theorem SE.nr {M : Mm} {o : Nat} (g : SE M o) : Nr M o := ⟨g.er, fun n hn k hk => by have := (g.en hn).2.1 k hk; omega⟩
theorem inside_ok {M : Mm} {o n : Nat} (h : Nr M o) (hn : n < 32) : ∃ r, F_X2_insideOf M (33 * o + n) = some r ∧ ∀ k : Nat, (k : Int) < M 2 (33 * o + n) 8 → bt r (M 4 (33 * o + n) k).toNat = true := by
  have he := h.1 n hn
  obtain ⟨e, h8⟩ : ∃ e : Nat, M 2 (33 * o + n) 8 = e := ⟨(M 2 (33 * o + n) 8).toNat, by omega⟩
  obtain ⟨r, e1, -, h2⟩ := inside4 h8 (by omega) (h.2 n hn) e (FU - (e + 1)) 0 0 (by omega)
  rw [show FU - (e + 1) + e + 1 = FU by have := fu_big; omega] at e1
  exact ⟨r, e1, fun k hk => h2 k (by omega) (by omega)⟩
/-- one round finds what stands in the fresh ones -/
def Nxt (M : Mm) (o : Nat) (fresh next : Int64) : Prop := ∀ n, n < 32 → bt fresh n = true → ∀ k : Nat, (k : Int) < M 2 (33 * o + n) 8 → bt next (M 4 (33 * o + n) k).toNat = true
theorem reach30 {M : Mm} {o r : Nat} {rec : Nat → Int64 → Int64 → Int → Option Int64} {set fresh : Int64} (h : Nr M o) (hr : r < 32) : ∀ (j q k : Nat) (next : Int64), k + j = 32 → (∀ n, n < k → bt fresh n = true → ∀ i : Nat, (i : Int) < M 2 (33 * o + n) 8 → bt next (M 4 (33 * o + n) i).toNat = true) → ∃ nx, F_X2_reach_30 M rec (q + j + 1) o set fresh (r : Int) next (k : Int) = rec o (set ||| (nx &&& (set ^^^ (-1 : Int64)))) (nx &&& (set ^^^ (-1 : Int64))) ((r + 1 : Nat) : Int) ∧ Nxt M o fresh nx
  | 0, q, k, next, hk, hh => by
    unfold F_X2_reach_30
    rw [if_pos (by omega), xk_t (rgk (by omega)), suc]
    exact ⟨next, rfl, fun n hn => hh n (by omega)⟩
  | j + 1, q, k, next, hk, hh => by
    show ∃ nx, F_X2_reach_30 M rec ((q + j + 1) + 1) o set fresh (r : Int) next (k : Int) = _ ∧ _
    unfold F_X2_reach_30
    rw [if_neg (by omega), isIn_ok (by omega), xb1_s]
    by_cases z : bt fresh k = true
    · obtain ⟨ins, e1, h1⟩ := inside_ok h (show k < 32 by omega)
      rw [if_neg (by rw [if_pos z]; decide), xk_t (by omega), Int.toNat_natCast, e1, xb1_s, xk_t (rgk (by omega)), suc]
      refine reach30 h hr j q (k + 1) (next ||| ins) (by omega) (fun n hn hb i hi => ?_)
      rw [bt_or]
      by_cases y : n = k
      · subst y
        rw [h1 i hi, Bool.or_true]
      · rw [hh n (by omega) hb i hi]
        rfl
    · rw [if_pos (by rw [if_neg z]), xk_t (rgk (by omega)), suc]
      exact reach30 h hr j q (k + 1) next (by omega) (fun n hn hb => by
        by_cases y : n = k
        · rw [y] at hb
          exact absurd hb z
        · exact hh n (by omega) hb)
theorem reach10 {M : Mm} {o : Nat} (h : Nr M o) {I : Int64 → Int64 → Nat → Prop} (step : ∀ set fresh nx r, r < 32 → I set fresh r → Nxt M o fresh nx → I (set ||| (nx &&& (set ^^^ (-1 : Int64)))) (nx &&& (set ^^^ (-1 : Int64))) (r + 1)) : ∀ (j q k : Nat) (set fresh : Int64), k + j = 32 → I set fresh k → ∃ s, F_X2_reach_10 M (q + j + 1) o set fresh (k : Int) = some s ∧ ∃ f r, I s f r ∧ (f = 0 ∨ r = 32)
  | 0, q, k, set, fresh, hk, hi => by
    unfold F_X2_reach_10
    rw [if_pos (by omega)]
    exact ⟨set, rfl, fresh, k, hi, Or.inr (by omega)⟩
  | j + 1, q, k, set, fresh, hk, hi => by
    show ∃ s, F_X2_reach_10 M ((q + j + 1) + 1) o set fresh (k : Int) = some s ∧ _
    unfold F_X2_reach_10
    rw [if_neg (by omega)]
    by_cases z : fresh = 0
    · rw [if_pos (lcmp0.2 z)]
      exact ⟨set, rfl, fresh, k, hi, Or.inl z⟩
    · rw [if_neg (fun w => z (lcmp0.1 w))]
      obtain ⟨nx, e1, h1⟩ := reach30 (rec := F_X2_reach_10 M (q + j + 1)) (set := set) (fresh := fresh) h (show k < 32 by omega) 32 (FU - 33) 0 0 (by decide) (fun n hn => by omega)
      have e2 : F_X2_reach_30 M (F_X2_reach_10 M (q + j + 1)) FU o set fresh (k : Int) 0 0 = F_X2_reach_10 M (q + j + 1) o (set ||| (nx &&& (set ^^^ (-1 : Int64)))) (nx &&& (set ^^^ (-1 : Int64))) ((k + 1 : Nat) : Int) := e1
      rw [e2]
      exact reach10 h step j q (k + 1) _ _ (by omega) (step set fresh nx k (by omega) hi h1)
theorem reach_tot {M : Mm} {o : Nat} {a : Int} (h : Nr M o) : ∃ s, F_X2_reach M o a = some s := by
  obtain ⟨s, e, -⟩ := reach10 h (I := fun _ _ _ => True) (fun _ _ _ _ _ _ _ => trivial) 32 (FU - 33) 0 ((1 : Int64) <<< ((jI a).toInt64 &&& 63)) ((1 : Int64) <<< ((jI a).toInt64 &&& 63)) (by decide) trivial
  exact ⟨s, e⟩
/-- in d steps down from the first node -/
def InD (M : Mm) (o : Nat) : Nat → Nat → Prop
  | 0, n => n = 0
  | d + 1, n => InD M o d n ∨ ∃ f k : Nat, f < 32 ∧ InD M o d f ∧ (k : Int) < M 2 (33 * o + f) 8 ∧ M 4 (33 * o + f) k = n
theorem reach_all {M : Mm} {o : Nat} (h : Nr M o) : ∃ s, F_X2_reach M o 0 = some s ∧ ∀ n, n < 32 → InD M o 32 n → bt s n = true := by
  obtain ⟨s, e, f, r, ⟨i0, ia, ib, ic⟩, ho⟩ := reach10 (o := o) h (I := fun set fresh r => bt set 0 = true ∧ (∀ n, n < 32 → bt fresh n = true → bt set n = true) ∧ (∀ n, n < 32 → bt set n = true → bt fresh n = false → ∀ k : Nat, (k : Int) < M 2 (33 * o + n) 8 → bt set (M 4 (33 * o + n) k).toNat = true) ∧ ∀ n, n < 32 → InD M o r n → bt set n = true) (fun set fresh nx r hr ⟨i0, ia, ib, ic⟩ hx => by
      have or1 : ∀ n, bt set n = true → bt (set ||| (nx &&& (set ^^^ (-1 : Int64)))) n = true := fun n hn => by rw [bt_or, hn]; rfl
      have or2 : ∀ n, n < 32 → bt nx n = true → bt (set ||| (nx &&& (set ^^^ (-1 : Int64)))) n = true := fun n hn hb => by
        rw [bt_or, bt_not hn, hb]
        cases bt set n <;> rfl
      have ch : ∀ n, n < 32 → bt set n = true → ∀ k : Nat, (k : Int) < M 2 (33 * o + n) 8 → bt (set ||| (nx &&& (set ^^^ (-1 : Int64)))) (M 4 (33 * o + n) k).toNat = true := fun n hn hb k hk => by
        have v := h.2 n hn k hk
        cases z : bt fresh n
        · exact or1 _ (ib n hn hb z k hk)
        · exact or2 _ (by omega) (hx n hn z k hk)
      refine ⟨or1 0 i0, fun n hn hb => ?_, fun n hn hb hf => ?_, fun n hn hd => ?_⟩
      · rw [bt_or, hb, Bool.or_true]
      · rw [bt_or, hf, Bool.or_false] at hb
        exact ch n hn hb
      · rcases hd with hd | ⟨f, k, hf, hd, hk, e⟩
        · exact or1 n (ic n hn hd)
        · have := ch f hf (ic f hf hd) k hk
          rw [e, Int.toNat_natCast] at this
          exact this) 32 (FU - 33) 0 ((1 : Int64) <<< ((jI 0).toInt64 &&& 63)) ((1 : Int64) <<< ((jI 0).toInt64 &&& 63)) (by decide) ⟨by decide +kernel, fun n _ hb => hb, fun n _ hb hf => by
        rw [hb] at hf
        exact absurd hf (by decide), fun n _ hd => by
        have z : n = 0 := hd
        rw [z]
        decide +kernel⟩
  refine ⟨s, e, fun n hn hd => ?_⟩
  rcases ho with hf | hr
  · have key : ∀ d n, n < 32 → InD M o d n → bt s n = true := fun d => by
      induction d with
      | zero =>
        intro n _ hz
        have z : n = 0 := hz
        rw [z]
        exact i0
      | succ d ih =>
        intro n hn hz
        rcases hz with hz | ⟨g, k, hg, hz, hk, e⟩
        · exact ih n hn hz
        · have := ib g hg (ih g hg hz) (by rw [hf]; exact bt_zero) k hk
          rw [e, Int.toNat_natCast] at this
          exact this
    exact key 32 n hn hd
  · rw [hr] at ic
    exact ic n hn hd
/-- without orphans every node is found -/
theorem all_in {M : Mm} {o n : Nat} (g : G1 M o) (hn : n < 32) (hs : M 2 (33 * o + n) 0 ≠ 0) (ho : ¬ Orp M o n) : InD M o 32 n := by
  have S := g.se
  -- a folder with its way up
  have fold : ∀ (m n : Nat), n < 32 → M 2 (33 * o + n) 0 = 2 → upN M o m n = 0 → InD M o m n := fun m => by
    induction m with
    | zero => exact fun n _ _ h => h
    | succ m ih =>
      intro n hn hs hu
      by_cases z : n = 0
      · rw [z]
        have : ∀ d, InD M o d 0 := fun d => by
          induction d with
          | zero => rfl
          | succ d ih => exact Or.inl ih
        exact this _
      · have l1 := (g.lc hn).1 z hs
        have l2 := (S.lk hn).1
        obtain ⟨f, k, hf, hk, e⟩ := lnk_ex (x := (n : Int)) S.er (by omega)
        have i := (S.is hf k hk).2
        rw [e, Int.toNat_natCast] at i
        have p := i hs
        refine Or.inr ⟨f, k, hf, ih f hf ?_ ?_, hk, e⟩
        · have := g.par hn z hs
          rw [p, Int.toNat_natCast] at this
          exact this
        · have u : upN M o m (M 2 (33 * o + n) 4).toNat = 0 := hu
          rw [p, Int.toNat_natCast] at u
          exact u
  have up : ∀ (a b n : Nat), a ≤ b → InD M o a n → InD M o b n := fun a b n hab h => by
    obtain ⟨c, rfl⟩ : ∃ c, b = a + c := ⟨b - a, by omega⟩
    clear hab
    induction c with
    | zero => exact h
    | succ c ih => exact Or.inl ih
  have fold2 : ∀ f, f < 32 → M 2 (33 * o + f) 0 = 2 → InD M o 31 f := fun f hf sf => by
    obtain ⟨m, hm, hu⟩ := up31 S.pr hf (S.up hf sf)
    exact up m 31 f hm (fold m f hf sf hu.1)
  by_cases z : M 2 (33 * o + n) 0 = 2
  · exact Or.inl (fold2 n hn z)
  · have r := (S.rg hn).1
    have l0 : M 2 (33 * o + n) 2 ≠ 0 := fun w => by
      by_cases y : M 2 (33 * o + n) 0 = 1
      · exact ho ⟨y, w⟩
      · have := (g.lc hn).2 (by omega)
        omega
    obtain ⟨f, k, hf, hk, e⟩ := lnk_ex (x := (n : Int)) S.er (by rw [← (S.lk hn).1]; exact l0)
    refine Or.inr ⟨f, k, hf, fold2 f hf ?_, hk, e⟩
    by_cases y : M 2 (33 * o + f) 0 = 2
    · exact y
    · have := (S.rg hf).2.2.2.2.2 y
      omega
