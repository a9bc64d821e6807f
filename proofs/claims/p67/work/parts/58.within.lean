/-! BLOCKS WITHIN A SET OF NODES -/
def cntS (M : Mm) (o : Nat) (s : Int64) (b : Int) : Int := sm (fun n => if bt s n = true then plc M (33 * o + n) b else 0) 0 32
/-- the blocks of the places are in their range -/
def Br5 (M : Mm) (o : Nat) : Prop := ∀ n p : Nat, n < 32 → p < 20 → 0 ≤ M 5 (33 * o + n) p ∧ M 5 (33 * o + n) p < 128
/-- only the row counted of the tree o is another -/
def Of9 (M N : Mm) (o : Nat) : Prop := ∀ K i k : Nat, ¬ (K = 9 ∧ i = o) → N K i k = M K i k
theorem Of9.trans {M N P : Mm} {o : Nat} (h : Of9 M N o) (h2 : Of9 N P o) : Of9 M P o := fun K i k hk => (h2 K i k hk).trans (h K i k hk)
theorem Of9.zm {M N : Mm} {o : Nat} (h : Of9 M N o) : Zm N = Zm M := zm_of fun K i k h9 _ => h K i k (fun z => h9 z.1)
theorem Of9.k {M N : Mm} {o : Nat} (h : Of9 M N o) {K : Nat} (hK : K ≠ 9) (i k : Nat) : N K i k = M K i k := h K i k (fun z => hK z.1)
theorem ch38n {rec : Mm → Nat → Int64 → Int → Option Mm} {N : Mm} {o k m : Nat} {s : Int64} {p : Int} (hk : k < 32) (hb : ¬ bt s k = true) : F_X2_countHolders_38 rec (m + 1) N o s (k : Int) p = rec N o s ((k + 1 : Nat) : Int) := by
  unfold F_X2_countHolders_38
  rw [isIn_ok hk, xb1_s, if_pos (by rw [if_neg hb]), xk_t (rgk (by omega)), suc]
theorem ch38 {rec : Mm → Nat → Int64 → Int → Option Mm} {o k : Nat} {s : Int64} (hk : k < 32) (hb : bt s k = true) : ∀ (j q p : Nat) (N : Mm) (c : Int), p + j = 20 → Br5 N o → (∀ b : Nat, b < 128 → 0 ≤ N 9 o b ∧ N 9 o b ≤ c) → c + j ≤ 1000 → ∃ N', F_X2_countHolders_38 rec (q + j + 1) N o s (k : Int) (p : Int) = rec N' o s ((k + 1 : Nat) : Int) ∧ (∀ b : Nat, b < 128 → N' 9 o b = N 9 o b + if b = 0 then 0 else sm (fun p => if N 5 (33 * o + k) p = (b : Int) then 1 else 0) p j) ∧ Of9 N N' o
  | 0, q, p, N, c, hp, h5, h9, hc => by
    unfold F_X2_countHolders_38
    rw [isIn_ok hk, xb1_s, if_neg (by rw [if_pos hb]; decide), if_pos (by omega), xk_t (rgk (by omega)), suc]
    refine ⟨N, rfl, fun b hb => ?_, fun _ _ _ _ => rfl⟩
    show N 9 o b = N 9 o b + if b = 0 then 0 else (0 : Int)
    rw [ite_self, Int.add_zero]
  | j + 1, q, p, N, c, hp, h5, h9, hc => by
    have v := h5 k p hk (by omega)
    obtain ⟨x, ex⟩ : ∃ x : Nat, N 5 (33 * o + k) p = x := ⟨(N 5 (33 * o + k) p).toNat, by omega⟩
    show ∃ N' : Mm, F_X2_countHolders_38 rec ((q + j + 1) + 1) N o s (k : Int) (p : Int) = rec N' o s ((k + 1 : Nat) : Int) ∧ (∀ b : Nat, b < 128 → N' 9 o b = N 9 o b + if b = 0 then 0 else (if N 5 (33 * o + k) p = (b : Int) then 1 else 0) + sm (fun p => if N 5 (33 * o + k) p = (b : Int) then 1 else 0) (p + 1) j) ∧ _
    unfold F_X2_countHolders_38
    rw [isIn_ok hk, xb1_s, if_neg (by rw [if_pos hb]; decide), if_neg (by omega), xk_t (by omega), Int.toNat_natCast, blockAt_ok (by omega), xb1_s, isBlock_ok v, xb1_s, ex]
    by_cases z : (x : Int) = 0
    · obtain ⟨N', e, h1, h2⟩ := ch38 (rec := rec) hk hb j q (p + 1) N c (by omega) h5 h9 (by omega)
      rw [if_pos (by rw [if_pos z]), xk_t (rgk (by omega)), suc, e]
      refine ⟨N', rfl, fun b hb => ?_, h2⟩
      rw [h1 b hb]
      by_cases y : b = 0
      · rw [if_pos y, if_pos y]
      · rw [if_neg y, if_neg y, if_neg (by omega), Int.zero_add]
    · have x9 := h9 x (by omega)
      have f : ∀ K i k' : Nat, ¬ (K = 9 ∧ i = o ∧ k' = x) → mup N 9 o x (N 9 o x + 1) K i k' = N K i k' := fun K i k' h => mup_off h
      have a : mup N 9 o x (N 9 o x + 1) 9 o x = N 9 o x + 1 := mup_at
      rw [if_neg (by rw [if_neg z]; decide), xk_t (by omega), Int.toNat_natCast, xk_t (rgk (by omega)), xk_t (by omega), xl_e, xk_t (rgk (by omega)), suc]
      generalize mup N 9 o x (N 9 o x + 1) = N1 at f a
      obtain ⟨N', e, h1, h2⟩ := ch38 (rec := rec) hk hb j q (p + 1) N1 (c + 1) (by omega) (fun n i hn hi => by rw [f 5 _ _ (by omega)]; exact h5 n i hn hi) (fun b hb => by
        by_cases y : b = x
        · rw [y, a]
          omega
        · rw [f 9 _ _ (by omega)]
          have := h9 b hb
          omega) (by omega)
      rw [e]
      refine ⟨N', rfl, fun b hb => ?_, fun K i k' hk' => (h2 K i k' hk').trans (f K i k' (by omega))⟩
      have e5 : sm (fun p => if N1 5 (33 * o + k) p = (b : Int) then (1 : Int) else 0) (p + 1) j = sm (fun p => if N 5 (33 * o + k) p = (b : Int) then 1 else 0) (p + 1) j := sm_congr fun i _ _ => by rw [f 5 _ _ (by omega)]
      rw [h1 b hb, e5]
      by_cases y : b = x
      · rw [y, a, if_neg (by omega), if_neg (by omega), if_pos rfl]
        omega
      · rw [f 9 _ _ (by omega)]
        by_cases w : b = 0
        · rw [if_pos w, if_pos w]
        · rw [if_neg w, if_neg w, if_neg (by omega), Int.zero_add]
theorem plc_of {M N : Mm} {o n : Nat} {b : Int} (h : Of9 M N o) : plc N (33 * o + n) b = plc M (33 * o + n) b := sm_congr fun p _ _ => by rw [h.k (by omega)]
theorem ch26 {o : Nat} {s : Int64} : ∀ (j q k : Nat) (N : Mm), k + j = 32 → Br5 N o → (∀ b : Nat, b < 128 → 0 ≤ N 9 o b ∧ N 9 o b ≤ 20 * k) → ∃ N', F_X2_countHolders_26 (q + j + 1) N o s (k : Int) = some N' ∧ (∀ b : Nat, b < 128 → N' 9 o b = N 9 o b + if b = 0 then 0 else sm (fun n => if bt s n = true then plc N (33 * o + n) b else 0) k j) ∧ Of9 N N' o
  | 0, q, k, N, hk, h5, h9 => by
    unfold F_X2_countHolders_26
    rw [if_pos (by omega)]
    refine ⟨N, rfl, fun b hb => ?_, fun _ _ _ _ => rfl⟩
    show N 9 o b = N 9 o b + if b = 0 then 0 else (0 : Int)
    rw [ite_self, Int.add_zero]
  | j + 1, q, k, N, hk, h5, h9 => by
    show ∃ N', F_X2_countHolders_26 ((q + j + 1) + 1) N o s (k : Int) = some N' ∧ (∀ b : Nat, b < 128 → N' 9 o b = N 9 o b + if b = 0 then 0 else (if bt s k = true then plc N (33 * o + k) b else 0) + sm (fun n => if bt s n = true then plc N (33 * o + n) b else 0) (k + 1) j) ∧ _
    unfold F_X2_countHolders_26
    rw [if_neg (by omega)]
    by_cases z : bt s k = true
    · obtain ⟨N1, e1, h1, o1⟩ := ch38 (rec := F_X2_countHolders_26 (q + j + 1)) (show k < 32 by omega) z 20 (FU - 21) 0 N (20 * k) (by decide) h5 h9 (by omega)
      have e1' : F_X2_countHolders_38 (F_X2_countHolders_26 (q + j + 1)) FU N o s (k : Int) 0 = F_X2_countHolders_26 (q + j + 1) N1 o s ((k + 1 : Nat) : Int) := e1
      have c1 : ∀ b : Nat, b < 128 → N1 9 o b = N 9 o b + if b = 0 then 0 else plc N (33 * o + k) b := h1
      obtain ⟨N', e2, h2, o2⟩ := ch26 (o := o) (s := s) j q (k + 1) N1 (by omega) (fun n i hn hi => by rw [o1.k (by omega)]; exact h5 n i hn hi) (fun b hb => by
        have a := h9 b hb
        have p := plc_bd (M := N) (i := 33 * o + k) (b := (b : Int))
        rw [c1 b hb]
        split <;> omega)
      rw [e1', e2]
      refine ⟨N', rfl, fun b hb => ?_, o1.trans o2⟩
      have e5 : sm (fun n => if bt s n = true then plc N1 (33 * o + n) b else 0) (k + 1) j = sm (fun n => if bt s n = true then plc N (33 * o + n) b else 0) (k + 1) j := sm_congr fun n _ _ => by rw [plc_of o1]
      rw [h2 b hb, c1 b hb, e5, if_pos z]
      by_cases w : b = 0
      · rw [if_pos w, if_pos w, if_pos w]
        omega
      · rw [if_neg w, if_neg w, if_neg w]
        omega
    · have e1 : F_X2_countHolders_38 (F_X2_countHolders_26 (q + j + 1)) FU N o s (k : Int) 0 = F_X2_countHolders_26 (q + j + 1) N o s ((k + 1 : Nat) : Int) := ch38n (m := FU - 1) (by omega) z
      obtain ⟨N', e2, h2, o2⟩ := ch26 (o := o) (s := s) j q (k + 1) N (by omega) h5 (fun b hb => by have := h9 b hb; omega)
      rw [e1, e2]
      refine ⟨N', rfl, fun b hb => ?_, o2⟩
      rw [h2 b hb, if_neg z]
      by_cases w : b = 0
      · rw [if_pos w, if_pos w]
      · rw [if_neg w, if_neg w, Int.zero_add]
theorem ch2 {o : Nat} {s : Int64} : ∀ (j q k : Nat) (N : Mm), k + j = 128 → ∃ N', F_X2_countHolders_2 (q + j + 1) N o s (k : Int) = F_X2_countHolders_26 FU N' o s 0 ∧ (∀ b, k ≤ b → b < 128 → N' 9 o b = 0) ∧ (∀ b, b < k → N' 9 o b = N 9 o b) ∧ Of9 N N' o
  | 0, q, k, N, hk => by
    unfold F_X2_countHolders_2
    rw [if_pos (by omega)]
    exact ⟨N, rfl, fun b h1 h2 => by omega, fun _ _ => rfl, fun _ _ _ _ => rfl⟩
  | j + 1, q, k, N, hk => by
    have f : ∀ K i k' : Nat, ¬ (K = 9 ∧ i = o ∧ k' = k) → mup N 9 o k 0 K i k' = N K i k' := fun K i k' h => mup_off h
    have a : mup N 9 o k 0 9 o k = 0 := mup_at
    obtain ⟨N', e, h1, h2, h3⟩ := ch2 (o := o) (s := s) j q (k + 1) (mup N 9 o k 0) (by omega)
    show ∃ N', F_X2_countHolders_2 ((q + j + 1) + 1) N o s (k : Int) = _ ∧ _
    unfold F_X2_countHolders_2
    rw [if_neg (by omega), xk_t (by omega), xl_e, Int.toNat_natCast, xk_t (rgk (by omega)), suc, e]
    refine ⟨N', rfl, fun b b1 b2 => ?_, fun b hb => ?_, fun K i k' hk' => (h3 K i k' hk').trans (f K i k' (by omega))⟩
    · by_cases z : b = k
      · rw [z, h2 k (by omega), a]
      · exact h1 b (by omega) b2
    · rw [h2 b (by omega), f 9 _ _ (by omega)]
theorem holders_ok {M : Mm} {o : Nat} {s : Int64} (h5 : Br5 M o) : ∃ N, F_X2_countHolders M o s = some N ∧ (∀ b : Nat, b < 128 → N 9 o b = if b = 0 then 0 else cntS M o s b) ∧ Of9 M N o := by
  obtain ⟨N1, e1, a1, -, o1⟩ := ch2 (o := o) (s := s) 128 (FU - 129) 0 M (by decide)
  obtain ⟨N2, e2, a2, o2⟩ := ch26 (o := o) (s := s) 32 (FU - 33) 0 N1 (by decide) (fun n i hn hi => by rw [o1.k (by omega)]; exact h5 n i hn hi) (fun b hb => by rw [a1 b (by omega) hb]; decide)
  refine ⟨N2, ?_, fun b hb => ?_, o1.trans o2⟩
  · have e3 : F_X2_countHolders M o s = F_X2_countHolders_26 FU N1 o s 0 := e1
    rw [e3]
    exact e2
  · have e5 : sm (fun n => if bt s n = true then plc N1 (33 * o + n) b else 0) 0 32 = cntS M o s b := sm_congr fun n _ _ => by rw [plc_of o1]
    rw [a2 b hb, a1 b (by omega) hb, e5, Int.zero_add]
/-- what the folders of the set need -/
def fol (M : Mm) (o : Nat) (s : Int64) (n : Nat) : Int := if bt s n = true then (if M 2 (33 * o + n) 0 = 2 then own M (33 * o + n) else 0) else 0
theorem bw49 {N : Mm} {o : Nat} {s : Int64} (he : Er N o) : ∀ (j q k : Nat) (acc : Int), k + j = 32 → 0 ≤ acc ∧ acc ≤ 128 + 20 * k → F_X2_blocksWithin_49 (q + j + 1) N o s acc (k : Int) = some (acc + sm (fol N o s) k j, N)
  | 0, q, k, acc, hk, ha => by
    unfold F_X2_blocksWithin_49
    rw [if_pos (by omega)]
    show some (acc, N) = some (acc + 0, N)
    rw [Int.add_zero]
  | j + 1, q, k, acc, hk, ha => by
    show F_X2_blocksWithin_49 ((q + j + 1) + 1) N o s acc (k : Int) = some (acc + (fol N o s k + sm (fol N o s) (k + 1) j), N)
    have hb := own_bd (he k (by omega))
    unfold F_X2_blocksWithin_49 fol
    rw [if_neg (by omega), isIn_ok (by omega), xb1_s]
    by_cases z : bt s k = true
    · rw [if_neg (by rw [if_pos z]; decide), if_pos z, xk_t (by omega), Int.toNat_natCast]
      by_cases y : N 2 (33 * o + k) 0 = 2
      · rw [if_pos y, if_pos y, xk_t (by omega), own_ok (he k (by omega)), xb1_s, xk_t (rgk (by omega)), xk_t (rgk (by omega)), suc, bw49 he j q (k + 1) _ (by omega) (by omega), Int.add_assoc]
        rfl
      · rw [if_neg y, if_neg y, xk_t (rgk (by omega)), suc, bw49 he j q (k + 1) _ (by omega) (by omega), Int.zero_add]
        rfl
    · rw [if_pos (by rw [if_neg z]), if_neg z, xk_t (rgk (by omega)), suc, bw49 he j q (k + 1) _ (by omega) (by omega), Int.zero_add]
      rfl
theorem bw17 {N : Mm} {o : Nat} {s : Int64} (he : Er N o) : ∀ (j q k : Nat) (acc : Int), k + j = 128 → 0 ≤ acc ∧ acc ≤ k → F_X2_blocksWithin_17 (q + j + 1) N o s acc (k : Int) = some (acc + sm (fun b => if 0 < N 9 o b then 1 else 0) k j + sm (fol N o s) 0 32, N)
  | 0, q, k, acc, hk, ha => by
    unfold F_X2_blocksWithin_17
    rw [if_pos (by omega)]
    show F_X2_blocksWithin_49 ((FU - 33) + 32 + 1) N o s acc ((0 : Nat) : Int) = some (acc + 0 + _, N)
    rw [bw49 he 32 (FU - 33) 0 acc (by decide) (by omega), Int.add_zero]
  | j + 1, q, k, acc, hk, ha => by
    show F_X2_blocksWithin_17 ((q + j + 1) + 1) N o s acc (k : Int) = some (acc + ((if 0 < N 9 o k then 1 else 0) + _) + _, N)
    unfold F_X2_blocksWithin_17
    rw [if_neg (by omega), xk_t (by omega), Int.toNat_natCast]
    by_cases z : N 9 o k ≤ 0
    · rw [if_pos z, if_neg (by omega : ¬ 0 < N 9 o k), xk_t (rgk (by omega)), suc, bw17 he j q (k + 1) acc (by omega) (by omega), Int.zero_add]
    · rw [if_neg z, if_pos (by omega : 0 < N 9 o k), xk_t (rgk (by omega)), xk_t (rgk (by omega)), suc, bw17 he j q (k + 1) (acc + 1) (by omega) (by omega), Int.add_assoc acc 1]
def bwV (M : Mm) (o : Nat) (s : Int64) : Int := sm (fun b => if 0 < (if b = 0 then 0 else cntS M o s b) then 1 else 0) 0 128 + sm (fol M o s) 0 32
theorem fol_of {M N : Mm} {o n : Nat} {s : Int64} (h : Of9 M N o) : fol N o s n = fol M o s n := by
  unfold fol
  rw [h.k (by omega), own_ag (h.k (by omega) _ _) (h.k (by omega) _ _) (fun k _ => h.k (by omega) _ _)]
theorem bw_ok {M : Mm} {o : Nat} {s : Int64} {a : Int} (he : Er M o) (h5 : Br5 M o) (hs : F_X2_reach M o a = some s) : ∃ N, F_X2_blocksWithin M o a = some (bwV M o s, N) ∧ Zm N = Zm M := by
  obtain ⟨N, e1, h1, o1⟩ := holders_ok (s := s) h5
  have heN : Er N o := fun n hn => by rw [o1.k (by omega)]; exact he n hn
  have e2 : F_X2_blocksWithin_17 FU N o s 0 0 = some (0 + sm (fun b => if 0 < N 9 o b then 1 else 0) 0 128 + sm (fol N o s) 0 32, N) := bw17 heN 128 (FU - 129) 0 0 (by decide) (by decide)
  unfold F_X2_blocksWithin
  rw [hs, xb1_s, e1, xb1_s, e2, Int.zero_add]
  refine ⟨N, ?_, o1.zm⟩
  have s1 : sm (fun b => if 0 < N 9 o b then (1 : Int) else 0) 0 128 = sm (fun b => if 0 < (if b = 0 then 0 else cntS M o s b) then 1 else 0) 0 128 := sm_congr fun b _ hb => by rw [h1 b (by omega)]
  have s2 : sm (fol N o s) 0 32 = sm (fol M o s) 0 32 := sm_congr fun n _ _ => fol_of o1
  rw [s1, s2]
  rfl
theorem eo5 {M : Mm} {o n e : Nat} {s : Int64} (h : Nr M o) (hn : n < 32) (h8 : M 2 (33 * o + n) 8 = e) : ∀ (j q k : Nat) (acc : Int), k + j = e → 0 ≤ acc ∧ acc ≤ k → ∃ r, F_X2_entriesOutside_5 M (q + j + 1) (33 * o + n) s acc (k : Int) = some r ∧ 0 ≤ r ∧ r ≤ e
  | 0, q, k, acc, hk, ha => by
    unfold F_X2_entriesOutside_5
    rw [h8, if_pos (by omega)]
    exact ⟨acc, rfl, ha.1, by omega⟩
  | j + 1, q, k, acc, hk, ha => by
    have he := h.1 n hn
    have v := h.2 n hn k (by omega)
    obtain ⟨x, ex⟩ : ∃ x : Nat, M 4 (33 * o + n) k = x := ⟨(M 4 (33 * o + n) k).toNat, by omega⟩
    show ∃ r, F_X2_entriesOutside_5 M ((q + j + 1) + 1) (33 * o + n) s acc (k : Int) = some r ∧ _
    unfold F_X2_entriesOutside_5
    rw [h8, if_neg (by omega), nodeIn_ok he (by omega), xb1_s, ex, isIn_ok (by omega), xb1_s]
    by_cases z : bt s x = true
    · rw [if_neg (by rw [if_pos z]; decide), xk_t (rgk (by omega)), suc]
      exact eo5 h hn h8 j q (k + 1) acc (by omega) (by omega)
    · rw [if_pos (by rw [if_neg z]), xk_t (rgk (by omega)), xk_t (rgk (by omega)), suc]
      exact eo5 h hn h8 j q (k + 1) (acc + 1) (by omega) (by omega)
def eoV (M : Mm) (i : Nat) (s : Int64) : Int := (F_X2_entriesOutside M i s).getD 0
theorem eo_ok {M : Mm} {o n : Nat} {s : Int64} (h : Nr M o) (hn : n < 32) : F_X2_entriesOutside M (33 * o + n) s = some (eoV M (33 * o + n) s) ∧ 0 ≤ eoV M (33 * o + n) s ∧ eoV M (33 * o + n) s ≤ 12 := by
  have he := h.1 n hn
  obtain ⟨e, h8⟩ : ∃ e : Nat, M 2 (33 * o + n) 8 = e := ⟨(M 2 (33 * o + n) 8).toNat, by omega⟩
  obtain ⟨r, e1, r0, r1⟩ := eo5 (s := s) h hn h8 e (FU - (e + 1)) 0 0 (by omega) (by decide)
  rw [show FU - (e + 1) + e + 1 = FU by have := fu_big; omega] at e1
  have e2 : F_X2_entriesOutside M (33 * o + n) s = some r := e1
  unfold eoV
  rw [e2]
  exact ⟨rfl, r0, by show r ≤ 12; omega⟩
/-- what a folder would free -/
def frd (M : Mm) (o : Nat) (s : Int64) (n : Nat) : Int := if M 2 (33 * o + n) 0 = 2 then own M (33 * o + n) - ((if bt s n = true then 0 else eoV M (33 * o + n) s) + 3) / 4 else 0
theorem fw124 {rec : Mm → Nat → Int64 → Int → Int → Option (Int × Mm)} {N : Mm} {o k : Nat} {s : Int64} {acc x : Int} (he : Er N o) (hk : k < 32) (hx : 0 ≤ x ∧ x ≤ 12) (ha : -1000 ≤ acc ∧ acc ≤ 1000) : F_X2_freedWithout_124 rec N o s acc (k : Int) x = rec N o s (acc + (own N (33 * o + k) - (x + 3) / 4)) ((k + 1 : Nat) : Int) := by
  have hb := own_bd (he k hk)
  unfold F_X2_freedWithout_124 F_X1_blocksFor
  have e : Int.tdiv (x + 3) 4 = (x + 3) / 4 := Int.tdiv_eq_ediv_of_nonneg (by omega)
  rw [xk_t (by omega), Int.toNat_natCast, own_ok (he k hk), xb1_s, xk_t (rgk (by omega)), e, xk_t (rgk (by omega)), xb1_s, xk_t (rgk (by omega)), xk_t (rgk (by omega)), xk_t (rgk (by omega)), suc]
theorem fw76 {N : Mm} {o : Nat} {s : Int64} (h : Nr N o) : ∀ (j q k : Nat) (acc : Int), k + j = 32 → -3 * k ≤ acc ∧ acc ≤ 128 + 20 * k → F_X2_freedWithout_76 (q + j + 1) N o s acc (k : Int) = some (acc + sm (frd N o s) k j, N)
  | 0, q, k, acc, hk, ha => by
    unfold F_X2_freedWithout_76
    rw [if_pos (by omega)]
    show some (acc, N) = some (acc + 0, N)
    rw [Int.add_zero]
  | j + 1, q, k, acc, hk, ha => by
    show F_X2_freedWithout_76 ((q + j + 1) + 1) N o s acc (k : Int) = some (acc + (frd N o s k + sm (frd N o s) (k + 1) j), N)
    have hb := own_bd (h.1 k (by omega))
    obtain ⟨x1, x2, x3⟩ := eo_ok (s := s) h (show k < 32 by omega)
    unfold F_X2_freedWithout_76
    rw [if_neg (by omega), xk_t (by omega), Int.toNat_natCast]
    by_cases y : N 2 (33 * o + k) 0 = 2
    · rw [if_pos y, isIn_ok (by omega), xb1_s]
      by_cases z : bt s k = true
      · have ef : frd N o s k = own N (33 * o + k) - (0 + 3) / 4 := by
          unfold frd
          rw [if_pos y, if_pos z]
        rw [if_neg (by rw [if_pos z]; decide), fw124 h.1 (by omega) (by decide) (by omega), fw76 h j q (k + 1) _ (by omega) (by omega), ef, Int.add_assoc]
      · have ef : frd N o s k = own N (33 * o + k) - (eoV N (33 * o + k) s + 3) / 4 := by
          unfold frd
          rw [if_pos y, if_neg z]
        rw [if_pos (by rw [if_neg z]), xk_t (by omega), x1, xb1_s, fw124 h.1 (by omega) ⟨x2, x3⟩ (by omega), fw76 h j q (k + 1) _ (by omega) (by omega), ef, Int.add_assoc]
    · have ef : frd N o s k = 0 := by
        unfold frd
        rw [if_neg y]
      rw [if_neg y, xk_t (rgk (by omega)), suc, fw76 h j q (k + 1) _ (by omega) (by omega), ef, Int.zero_add]
theorem fw17 {N : Mm} {o : Nat} {s : Int64} (h : Nr N o) : ∀ (j q k : Nat) (acc : Int), k + j = 128 → 0 ≤ acc ∧ acc ≤ k → F_X2_freedWithout_17 (q + j + 1) N o s acc (k : Int) = some (acc + sm (fun b => if 0 < N 9 o b ∧ N 9 o b = N 8 o b then 1 else 0) k j + sm (frd N o s) 0 32, N)
  | 0, q, k, acc, hk, ha => by
    unfold F_X2_freedWithout_17
    rw [if_pos (by omega)]
    show F_X2_freedWithout_76 ((FU - 33) + 32 + 1) N o s acc ((0 : Nat) : Int) = some (acc + 0 + _, N)
    rw [fw76 h 32 (FU - 33) 0 acc (by decide) (by omega), Int.add_zero]
  | j + 1, q, k, acc, hk, ha => by
    show F_X2_freedWithout_17 ((q + j + 1) + 1) N o s acc (k : Int) = some (acc + ((if 0 < N 9 o k ∧ N 9 o k = N 8 o k then 1 else 0) + _) + _, N)
    unfold F_X2_freedWithout_17
    rw [if_neg (by omega), if_neg (by omega), xk_t (by omega), Int.toNat_natCast]
    by_cases z : N 9 o k ≤ 0
    · rw [if_pos z, if_neg (fun w => by omega), xk_t (rgk (by omega)), suc, fw17 h j q (k + 1) acc (by omega) (by omega), Int.zero_add]
    · rw [if_neg z, xk_t (by omega), xk_t (by omega)]
      by_cases y : N 9 o k = N 8 o k
      · rw [if_pos y, if_pos (show 0 < N 9 o k ∧ N 9 o k = N 8 o k from ⟨by omega, y⟩), xk_t (rgk (by omega)), xk_t (rgk (by omega)), suc, fw17 h j q (k + 1) (acc + 1) (by omega) (by omega), Int.add_assoc acc 1]
      · rw [if_neg y, if_neg (fun w => y w.2), xk_t (rgk (by omega)), suc, fw17 h j q (k + 1) acc (by omega) (by omega), Int.zero_add]
def fwV (M : Mm) (o : Nat) (s : Int64) : Int := sm (fun b => if 0 < (if b = 0 then 0 else cntS M o s b) ∧ (if b = 0 then 0 else cntS M o s b) = M 8 o b then 1 else 0) 0 128 + sm (frd M o s) 0 32
theorem frd_of {M N : Mm} {o n : Nat} {s : Int64} (h : Of9 M N o) : frd N o s n = frd M o s n := by
  have e : F_X2_entriesOutside N (33 * o + n) s = F_X2_entriesOutside M (33 * o + n) s := zq (fun M => z_X2_entriesOutside M _ _) h.zm
  unfold frd eoV
  rw [h.k (by omega), own_ag (h.k (by omega) _ _) (h.k (by omega) _ _) (fun k _ => h.k (by omega) _ _), e]
theorem fw_ok {M : Mm} {o : Nat} {s : Int64} {a : Int} (h : Nr M o) (h5 : Br5 M o) (hs : F_X2_reach M o a = some s) : ∃ N, F_X2_freedWithout M o a = some (fwV M o s, N) ∧ Zm N = Zm M := by
  obtain ⟨N, e1, h1, o1⟩ := holders_ok (s := s) h5
  have hN : Nr N o := ⟨fun n hn => by rw [o1.k (by omega)]; exact h.1 n hn, fun n hn k hk => by
    rw [o1.k (by omega)] at hk ⊢
    exact h.2 n hn k hk⟩
  have e2 : F_X2_freedWithout_17 FU N o s 0 0 = some (0 + sm (fun b => if 0 < N 9 o b ∧ N 9 o b = N 8 o b then 1 else 0) 0 128 + sm (frd N o s) 0 32, N) := fw17 hN 128 (FU - 129) 0 0 (by decide) (by decide)
  unfold F_X2_freedWithout
  rw [hs, xb1_s, e1, xb1_s, e2, Int.zero_add]
  refine ⟨N, ?_, o1.zm⟩
  have s1 : sm (fun b => if 0 < N 9 o b ∧ N 9 o b = N 8 o b then (1 : Int) else 0) 0 128 = sm (fun b => if 0 < (if b = 0 then 0 else cntS M o s b) ∧ (if b = 0 then 0 else cntS M o s b) = M 8 o b then 1 else 0) 0 128 := sm_congr fun b _ hb => by rw [h1 b (by omega), o1.k (by omega)]
  have s2 : sm (frd N o s) 0 32 = sm (frd M o s) 0 32 := sm_congr fun n _ _ => frd_of o1
  rw [s1, s2]
  rfl
/-- where the set holds every node: all that is used -/
theorem cntS_all {M : Mm} {o : Nat} {s : Int64} (g : G2 M o) (hs : ∀ n, n < 32 → M 2 (33 * o + n) 0 ≠ 0 → bt s n = true) (b : Nat) (hb : b ≠ 0) : cntS M o s b = cntB M o b := sm_congr fun n _ hn => by
  by_cases z : bt s n = true
  · rw [if_pos z]
  · rw [if_neg z]
    have s0 : M 2 (33 * o + n) 0 = 0 := by
      by_cases w : M 2 (33 * o + n) 0 = 0
      · exact w
      · exact absurd (hs n (by omega) w) z
    have e : plc M (33 * o + n) b = sm (fun _ => 0) 0 20 := sm_congr fun p _ hp => by
      rw [((g.1 n (by omega)).2.2 p (by omega)).2.1 (by omega), if_neg (by omega)]
    rw [e, sm_zero]
theorem all_used {M : Mm} {o : Nat} {s : Int64} (g : G2 M o) (hs : ∀ n, n < 32 → M 2 (33 * o + n) 0 ≠ 0 → bt s n = true) : bwV M o s = usedT M o ∧ fwV M o s = usedT M o := by
  have c : ∀ b : Nat, b < 128 → (if b = 0 then 0 else cntS M o s b) = M 8 o b := fun b hb => by
    by_cases z : b = 0
    · rw [if_pos z, z, g.2.1]
    · rw [if_neg z, cntS_all g hs b z, g.2.2 b (by omega) hb]
  have f1 : sm (fol M o s) 0 32 = sm (fun n => if M 2 (33 * o + n) 0 = 2 then own M (33 * o + n) else 0) 0 32 := sm_congr fun n _ hn => by
    unfold fol
    by_cases z : M 2 (33 * o + n) 0 = 2
    · rw [if_pos (hs n (by omega) (by omega))]
    · rw [if_neg z, ite_self]
  have f2 : sm (frd M o s) 0 32 = sm (fun n => if M 2 (33 * o + n) 0 = 2 then own M (33 * o + n) else 0) 0 32 := sm_congr fun n _ hn => by
    unfold frd
    by_cases z : M 2 (33 * o + n) 0 = 2
    · rw [if_pos z, if_pos z, if_pos (hs n (by omega) (by omega))]
      omega
    · rw [if_neg z, if_neg z]
  unfold bwV fwV usedT
  rw [f1, f2]
  constructor
  · rw [sm_congr (g := fun b => if 0 < M 8 o b then 1 else 0) fun b _ hb => by rw [c b (by omega)]]
  · rw [sm_congr (g := fun b => if 0 < M 8 o b then 1 else 0) fun b _ hb => by
      rw [c b (by omega)]
      by_cases w : 0 < M 8 o b
      · rw [if_pos ⟨w, rfl⟩, if_pos w]
      · rw [if_neg (fun v => w v.1), if_neg w]]
