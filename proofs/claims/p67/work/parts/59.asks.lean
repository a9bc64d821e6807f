/-! WHAT IS ASKED HAS AN ANSWER, AND THE SAME ONE AGAIN -/
theorem ro {α : Type} {F : Mm → Option α} {M M' : Mm} {r : α} (z : ∀ M, F M = F (Zm M)) (h : Zm M' = Zm M) (e : F M = some r) : F M' = some r := (zq z h).trans e
/-- the answer is the same in all memories that differ in kinds 9 and 10 alone, and they differ in no more behind it -/
def SO {α : Type} (M : Mm) (F : Mm → Option (α × Mm)) : Prop := ∃ v, ∀ M', Zm M' = Zm M → ∃ N, F M' = some (v, N) ∧ Zm N = Zm M
theorem Zm.idx {M M' : Mm} {l d : Nat} (h : Zm M' = Zm M) (I : IDX M l d) : IDX M' l d := ⟨(zm_k h 0 0 (by decide) (by decide)).trans I.1, (zm_k h 0 1 (by decide) (by decide)).trans I.2.1, I.2.2⟩
theorem origin14 {M : Mm} {o : Nat} {u : Int} (hp : Pr M o) (hu : u ≤ 3) : ∀ (j q k : Nat) (f : Nat), k + j = 3 → f < 32 → ∃ r : Nat, r < 32 ∧ F_X2_origin_14 M (q + j + 1) o u (f : Int) (k : Int) = some (r : Int)
  | 0, q, k, f, hk, hf => by
    unfold F_X2_origin_14
    rw [if_pos (by omega)]
    exact ⟨f, hf, rfl⟩
  | j + 1, q, k, f, hk, hf => by
    show ∃ r : Nat, r < 32 ∧ F_X2_origin_14 M ((q + j + 1) + 1) o u (f : Int) (k : Int) = some (r : Int)
    unfold F_X2_origin_14
    by_cases z : u ≤ (k : Int)
    · rw [if_pos z]
      exact ⟨f, hf, rfl⟩
    · have v := hp f hf
      obtain ⟨p, ep⟩ : ∃ p : Nat, M 2 (33 * o + f) 4 = p := ⟨(M 2 (33 * o + f) 4).toNat, by omega⟩
      rw [if_neg z, at_ok hf, xb1_s, xk_t (rgk (by omega)), suc, ep]
      exact origin14 hp hu j q (k + 1) p (by omega) (by omega)
theorem origin_ok {M : Mm} {o f : Nat} {u : Int} (hp : Pr M o) (hf : f < 32) (hu : -1 ≤ u ∧ u ≤ 3) : ∃ r : Nat, r < 32 ∧ F_X2_origin M o (f : Int) u = some (r : Int) := by
  unfold F_X2_origin
  by_cases z : u = -1
  · rw [if_pos z]
    exact origin14 hp hu.2 3 (FU - 4) 0 0 (by decide) (by decide)
  · rw [if_neg z]
    exact origin14 hp hu.2 3 (FU - 4) 0 f (by decide) hf
def FIH (M : Mm) (o : Nat) (rec : Mm → Nat → Int → Int → Int → Int → Int → Option (Int × Mm)) (k : Nat) : Prop := ∀ (f : Nat) (a c : Int) (w : Nat) (W : Nat → Int), f < 32 → 0 ≤ c ∧ c ≤ 8 → w ≤ 8 → ∃ v, ∀ M', Zm M' = Zm M → (∀ i, i < w → M' 10 o i = W i) → ∃ N, rec M' o (f : Int) a c (w : Int) (k : Int) = some (v, N) ∧ Zm N = Zm M
theorem f157 {M : Mm} {o k x w : Nat} {c : Int} {W : Nat → Int} {rec : Mm → Nat → Int → Int → Int → Int → Int → Option (Int × Mm)} (ih : FIH M o rec (k + 1)) (hk : k ≤ 17) (hx : x < 32) (hc : 0 ≤ c ∧ c ≤ 8) (hw : w ≤ 8) : ∃ v, ∀ M', Zm M' = Zm M → (∀ i, i < w → M' 10 o i = W i) → ∃ N, F_X2_found_157 rec M' o c (w : Int) (k : Int) (x : Int) = some (v, N) ∧ Zm N = Zm M := by
  unfold F_X2_found_157
  by_cases z : w = 0
  · refine ⟨x, fun M' h _ => ⟨M', ?_, h⟩⟩
    rw [if_pos (by omega)]
  · obtain ⟨v, hv⟩ := ih x (W (w - 1)) c (w - 1) W hx hc (by omega)
    refine ⟨v, fun M' h hW => ?_⟩
    have e : (w : Int) + -1 = ((w - 1 : Nat) : Int) := by omega
    rw [if_neg (by omega), if_pos (by omega), e, xk_t (rgk (by omega)), xk_t (by omega), xk_t (rgk (by omega)), Int.toNat_natCast, hW (w - 1) (by omega), suc]
    exact hv M' h (fun i hi => hW i (by omega))
theorem f136 {M : Mm} {o k x w i : Nat} {c : Int} {W : Nat → Int} {rec : Mm → Nat → Int → Int → Int → Int → Int → Option (Int × Mm)} (ih : FIH M o rec (k + 1)) (hk : k ≤ 17) (hx : x < 32) (hc : 0 ≤ c ∧ c ≤ 8) (hw : w ≤ 8) : ∃ v, ∀ M', Zm M' = Zm M → (∀ i, i < w → M' 10 o i = W i) → ∃ N, F_X2_found_136 rec M' o c (w : Int) (k : Int) (x : Int) i = some (v, N) ∧ Zm N = Zm M := by
  unfold F_X2_found_136
  by_cases z : M 2 i 6 = 0
  · obtain ⟨v, hv⟩ := f157 (W := W) ih hk hx hc hw
    refine ⟨v, fun M' h hW => ?_⟩
    rw [if_pos (by rw [zm_k h i 6 (by decide) (by decide)]; exact z)]
    exact hv M' h hW
  · obtain ⟨v, hv⟩ := ih x (M 2 i 6) c w W hx hc hw
    refine ⟨v, fun M' h hW => ?_⟩
    rw [zm_k h i 6 (by decide) (by decide), if_neg z, xk_t (rgk (by omega)), suc]
    exact hv M' h hW
/-- what a search needs of a tree -/
def Fo (M : Mm) (o : Nat) : Prop := Nr M o ∧ Pr M o ∧ ∀ n, n < 32 → -1 ≤ M 2 (33 * o + n) 5 ∧ M 2 (33 * o + n) 5 ≤ 3
theorem SE.fo {M : Mm} {o : Nat} (g : SE M o) : Fo M o := ⟨g.nr, g.pr, fun n hn => (g.rg hn).2.2.2.2.1⟩
theorem found14 {M : Mm} {o : Nat} (hF : Fo M o) : ∀ (j q k : Nat), k + j = 17 → FIH M o (F_X2_found_14 (q + j + 1)) k
  | 0, q, k, hk => fun f a c w W hf hc hw => by
    unfold F_X2_found_14
    refine ⟨-6, fun M' h _ => ⟨M', ?_, h⟩⟩
    rw [if_pos (by omega)]
  | j + 1, q, k, hk => fun f a c w W hf hc hw => by
    obtain ⟨hn, hp, hu⟩ := hF
    have ih := found14 ⟨hn, hp, hu⟩ j q (k + 1) (by omega)
    have he := hn.1 f hf
    show ∃ v, ∀ M', Zm M' = Zm M → (∀ i, i < w → M' 10 o i = W i) → ∃ N, F_X2_found_14 ((q + j + 1) + 1) M' o (f : Int) a c (w : Int) (k : Int) = some (v, N) ∧ Zm N = Zm M
    unfold F_X2_found_14
    by_cases z : M 2 (33 * o + f) 0 = 2
    · rcases named_ok (M := M) (i := 33 * o + f) (a := a) he with ⟨e1, -, -⟩ | ⟨s, e1, -, hs, -⟩
      · refine ⟨-1, fun M' h _ => ⟨M', ?_, h⟩⟩
        rw [if_neg (by omega), at_ok hf, xb1_s, zm_k h _ 0 (by decide) (by decide), if_pos z, xb1_s, ro (fun M => z_X1_nodeNamed M _ _) h e1, xb1_s, if_pos rfl]
      · have v := hn.2 f hf s hs
        obtain ⟨y, ey⟩ : ∃ y : Nat, M 4 (33 * o + f) s = y := ⟨(M 4 (33 * o + f) s).toNat, by omega⟩
        have y32 : y < 32 := by omega
        rw [ey] at e1
        have pre : ∀ M', Zm M' = Zm M → ∀ (A : Option (Int × Mm)) (B : Nat → Option (Int × Mm)) (C : Option (Int × Mm)), (if (16 : Int) < (k : Int) then A else xb1 (F_X2_at M' o (f : Int)) fun y3 => if M' 2 y3 0 = 2 then xb1 (F_X2_at M' o (f : Int)) fun y9 => xb1 (F_X1_nodeNamed M' y9 a) fun y13 => if y13 = -1 then some (-1, M') else xb1 (F_X2_at M' o y13) B else C) = B (33 * o + y) := fun M' h A B C => by
          rw [if_neg (by omega), at_ok hf, xb1_s, zm_k h _ 0 (by decide) (by decide), if_pos z, xb1_s, ro (fun M => z_X1_nodeNamed M _ _) h e1, xb1_s, if_neg (by omega), at_ok y32, xb1_s]
        by_cases t3 : M 2 (33 * o + y) 0 = 3
        · by_cases c8 : c + 1 ≤ 8
          · obtain ⟨r, r32, er⟩ := origin_ok (u := M 2 (33 * o + y) 5) hp hf (hu y y32)
            by_cases s0 : M 2 (33 * o + y) 7 = 0
            · obtain ⟨v, hv⟩ := f136 (i := 33 * o + y) (W := W) (c := c + 1) ih (by omega) r32 (by omega) hw
              refine ⟨v, fun M' h hW => ?_⟩
              rw [if_neg (by omega), at_ok hf, xb1_s, zm_k h _ 0 (by decide) (by decide), if_pos z, xb1_s, ro (fun M => z_X1_nodeNamed M _ _) h e1, xb1_s, if_neg (by omega), at_ok y32, xb1_s, zm_k h _ 0 (by decide) (by decide), if_pos t3, xk_t (rgk (by omega)), if_pos c8, zm_k h _ 5 (by decide) (by decide), ro (fun M => z_X2_origin M _ _ _) h er, xb1_s, zm_k h _ 7 (by decide) (by decide), if_pos s0]
              exact hv M' h hW
            · by_cases w8 : 8 ≤ (w : Int)
              · obtain ⟨v, hv⟩ := f136 (i := 33 * o + y) (W := W) (c := c + 1) ih (by omega) r32 (by omega) hw
                refine ⟨v, fun M' h hW => ?_⟩
                rw [if_neg (by omega), at_ok hf, xb1_s, zm_k h _ 0 (by decide) (by decide), if_pos z, xb1_s, ro (fun M => z_X1_nodeNamed M _ _) h e1, xb1_s, if_neg (by omega), at_ok y32, xb1_s, zm_k h _ 0 (by decide) (by decide), if_pos t3, xk_t (rgk (by omega)), if_pos c8, zm_k h _ 5 (by decide) (by decide), ro (fun M => z_X2_origin M _ _ _) h er, xb1_s, zm_k h _ 7 (by decide) (by decide), if_neg s0, if_neg (by omega), if_pos w8]
                exact hv M' h hW
              · obtain ⟨v, hv⟩ := f136 (i := 33 * o + y) (W := fun i => if i = w then M 2 (33 * o + y) 7 else W i) (c := c + 1) (w := w + 1) ih (by omega) r32 (by omega) (by omega)
                refine ⟨v, fun M' h hW => ?_⟩
                have hz : Zm (mup M' 10 o w (M 2 (33 * o + y) 7)) = Zm M := (zm_of fun K i k _ h10 => mup_off (by omega)).trans h
                rw [if_neg (by omega), at_ok hf, xb1_s, zm_k h _ 0 (by decide) (by decide), if_pos z, xb1_s, ro (fun M => z_X1_nodeNamed M _ _) h e1, xb1_s, if_neg (by omega), at_ok y32, xb1_s, zm_k h _ 0 (by decide) (by decide), if_pos t3, xk_t (rgk (by omega)), if_pos c8, zm_k h _ 5 (by decide) (by decide), ro (fun M => z_X2_origin M _ _ _) h er, xb1_s, zm_k h _ 7 (by decide) (by decide), if_neg s0, if_neg (by omega), if_neg w8, xk_t (by omega), xl_e, Int.toNat_natCast, xk_t (rgk (by omega)), suc]
                refine hv _ hz (fun i hi => ?_)
                show mup M' 10 o w (M 2 (33 * o + y) 7) 10 o i = if i = w then M 2 (33 * o + y) 7 else W i
                by_cases q : i = w
                · rw [if_pos q, q, mup_at]
                · rw [if_neg q, mup_off (by omega)]
                  exact hW i (by omega)
          · refine ⟨-6, fun M' h _ => ⟨M', ?_, h⟩⟩
            rw [if_neg (by omega), at_ok hf, xb1_s, zm_k h _ 0 (by decide) (by decide), if_pos z, xb1_s, ro (fun M => z_X1_nodeNamed M _ _) h e1, xb1_s, if_neg (by omega), at_ok y32, xb1_s, zm_k h _ 0 (by decide) (by decide), if_pos t3, xk_t (rgk (by omega)), if_neg c8]
        · obtain ⟨v, hv⟩ := f157 (W := W) (c := c) ih (by omega) y32 hc hw
          refine ⟨v, fun M' h hW => ?_⟩
          rw [if_neg (by omega), at_ok hf, xb1_s, zm_k h _ 0 (by decide) (by decide), if_pos z, xb1_s, ro (fun M => z_X1_nodeNamed M _ _) h e1, xb1_s, if_neg (by omega), at_ok y32, xb1_s, zm_k h _ 0 (by decide) (by decide), if_neg t3]
          exact hv M' h hW
    · refine ⟨-3, fun M' h _ => ⟨M', ?_, h⟩⟩
      rw [if_neg (by omega), at_ok hf, xb1_s, zm_k h _ 0 (by decide) (by decide), if_neg z]
theorem found_ok {M : Mm} {o f : Nat} {a : Int} (hF : Fo M o) (hf : f < 32) : SO M (fun M' => F_X2_found M' o (f : Int) a) := by
  obtain ⟨v, hv⟩ := found14 hF 17 (FU - 18) 0 (by decide) f a 0 0 (fun _ => 0) hf (by decide) (by decide)
  exact ⟨v, fun M' h => hv M' h (fun i hi => by omega)⟩
/-! bytes, rows of locks, the greatest file -/
theorem byteOf_ok {M : Mm} {o n p : Nat} (h5 : Br5 M o) (hn : n < 32) (hp : p < 320) : ∃ r, F_X2_byteOf M o (33 * o + n) (p : Int) = some r := by
  have hd : Int.tdiv (p : Int) 16 = ((p / 16 : Nat) : Int) := by
    rw [tdiv16 (by omega)]
    omega
  have v := h5 n (p / 16) hn (by omega)
  obtain ⟨x, ex⟩ : ∃ x : Nat, M 5 (33 * o + n) (p / 16) = x := ⟨(M 5 (33 * o + n) (p / 16)).toNat, by omega⟩
  obtain ⟨w, ew, hw⟩ := word_ok (M := M) (b := x) (a := (p : Int)) (by omega) (by omega)
  obtain ⟨z, ez⟩ := shift_ok (M := M) (a := (p : Int)) (by omega)
  unfold F_X2_byteOf
  rw [hd, xk_t (rgk (by omega)), blockAt_ok (by omega), xb1_s, ex, ew, xb1_s, if_neg (by omega), if_neg (by omega), xk_t hw, ez, xb1_s]
  exact ⟨_, rfl⟩
theorem rows6 {M : Mm} {o : Nat} : ∀ (j q k : Nat) (acc b : Int), k + j = 320 → 0 ≤ acc ∧ acc ≤ k → ∃ r, F_X0_rows_6 M (q + j + 1) o acc b (k : Int) = some r
  | 0, q, k, acc, b, hk, ha => by
    unfold F_X0_rows_6
    rw [if_pos (by omega)]
    exact ⟨acc, rfl⟩
  | j + 1, q, k, acc, b, hk, ha => by
    show ∃ r, F_X0_rows_6 M ((q + j + 1) + 1) o acc b (k : Int) = some r
    unfold F_X0_rows_6 F_X0_rows_37
    rw [if_neg (by omega), xk_t (by omega), Int.toNat_natCast]
    by_cases z : M 12 o k = 0
    · rw [if_pos z, xk_t (by omega), xk_t (rgk (by omega)), suc]
      exact rows6 j q (k + 1) acc _ (by omega) (by omega)
    · rw [if_neg z, xk_t (by omega)]
      by_cases y : M 12 o k = b
      · rw [if_pos y, xk_t (by omega), xk_t (rgk (by omega)), suc]
        exact rows6 j q (k + 1) acc _ (by omega) (by omega)
      · rw [if_neg y, xk_t (rgk (by omega)), xk_t (by omega), xk_t (rgk (by omega)), suc]
        exact rows6 j q (k + 1) (acc + 1) _ (by omega) (by omega)
theorem rows_ok {M : Mm} {o : Nat} : ∃ r, F_X0_rows M o = some r := rows6 320 (FU - 321) 0 0 0 (by decide) (by decide)
theorem great6 {M : Mm} {o : Nat} (he : Er M o) : ∀ (j q k : Nat) (g m : Int), k + j = 32 → ∃ r, F_X2_greatest_6 M (q + j + 1) o g m (k : Int) = some r
  | 0, q, k, g, m, hk => by
    unfold F_X2_greatest_6
    rw [if_pos (by omega)]
    exact ⟨g, rfl⟩
  | j + 1, q, k, g, m, hk => by
    show ∃ r, F_X2_greatest_6 M ((q + j + 1) + 1) o g m (k : Int) = some r
    unfold F_X2_greatest_6
    rw [if_neg (by omega), xk_t (by omega), Int.toNat_natCast]
    by_cases z : M 2 (33 * o + k) 0 = 1
    · rw [if_pos z, xk_t (by omega), own_ok (he k (by omega)), xb1_s]
      by_cases y : own M (33 * o + k) ≤ m
      · rw [if_pos y, xk_t (rgk (by omega)), suc]
        exact great6 he j q (k + 1) g m (by omega)
      · rw [if_neg y, xk_t (by omega), xb1_s, xk_t (rgk (by omega)), suc]
        exact great6 he j q (k + 1) _ _ (by omega)
    · rw [if_neg z, xk_t (rgk (by omega)), suc]
      exact great6 he j q (k + 1) g m (by omega)
theorem great_ok {M : Mm} {o : Nat} (he : Er M o) : ∃ r, F_X2_greatest M o = some r := great6 he 32 (FU - 33) 0 (-1) (-1) (by decide)
/-- how many handles are open -/
def opn (M : Mm) : Int := sm (fun h => if M 11 h 0 = 0 then 0 else 1) 0 6
theorem hands8 {M : Mm} : ∀ (j q k : Nat) (acc : Int), k + j = 6 → 0 ≤ acc ∧ acc ≤ k → F_X3_handles_8 M (q + j + 1) acc (k : Int) = some (acc + sm (fun h => if M 11 h 0 = 0 then 0 else 1) k j)
  | 0, q, k, acc, hk, ha => by
    unfold F_X3_handles_8
    rw [if_pos (by omega)]
    show some acc = some (acc + 0)
    rw [Int.add_zero]
  | j + 1, q, k, acc, hk, ha => by
    show F_X3_handles_8 M ((q + j + 1) + 1) acc (k : Int) = some (acc + ((if M 11 k 0 = 0 then 0 else 1) + _))
    unfold F_X3_handles_8
    rw [if_neg (by omega), xk_t (by omega), Int.toNat_natCast]
    by_cases z : M 11 k 0 = 0
    · rw [if_pos z, if_pos z, xk_t (rgk (by omega)), suc, hands8 j q (k + 1) acc (by omega) (by omega), Int.zero_add]
    · rw [if_neg z, if_neg z, xk_t (rgk (by omega)), xk_t (rgk (by omega)), suc, hands8 j q (k + 1) (acc + 1) (by omega) (by omega), Int.add_assoc]
theorem hands_ok {M : Mm} (hp : M 0 0 5 = 0) : F_X3_handles M = some (opn M) := by
  unfold F_X3_handles
  rw [pw_ok hp, xb1_s]
  show F_X3_handles_8 M ((FU - 7) + 6 + 1) 0 ((0 : Nat) : Int) = _
  rw [hands8 6 (FU - 7) 0 0 (by decide) (by decide), Int.zero_add]
  rfl
/-- places whose block has more holders -/
def shr (M : Mm) (o i : Nat) : Int := sm (fun p => if (if M 5 i p = 0 then (0 : Int) else if M 8 o (M 5 i p).toNat ≤ 1 then 0 else 1) = 0 then 0 else 1) 0 20
theorem shared4 {M : Mm} {o n : Nat} (h5 : Br5 M o) (hn : n < 32) : ∀ (j q k : Nat) (acc : Int), k + j = 20 → 0 ≤ acc ∧ acc ≤ k → F_X2_sharedPlaces_4 M (q + j + 1) o (33 * o + n) acc (k : Int) = some (acc + sm (fun p => if (if M 5 (33 * o + n) p = 0 then (0 : Int) else if M 8 o (M 5 (33 * o + n) p).toNat ≤ 1 then 0 else 1) = 0 then 0 else 1) k j)
  | 0, q, k, acc, hk, ha => by
    unfold F_X2_sharedPlaces_4
    rw [if_pos (by omega)]
    show some acc = some (acc + 0)
    rw [Int.add_zero]
  | j + 1, q, k, acc, hk, ha => by
    have v := h5 n k hn (by omega)
    obtain ⟨x, ex⟩ : ∃ x : Nat, M 5 (33 * o + n) k = x := ⟨(M 5 (33 * o + n) k).toNat, by omega⟩
    show F_X2_sharedPlaces_4 M ((q + j + 1) + 1) o (33 * o + n) acc (k : Int) = some (acc + ((if (if M 5 (33 * o + n) k = 0 then (0 : Int) else if M 8 o (M 5 (33 * o + n) k).toNat ≤ 1 then 0 else 1) = 0 then 0 else 1) + _))
    unfold F_X2_sharedPlaces_4
    have e0 : (if x = 0 then (0 : Int) else if M 8 o x ≤ 1 then 0 else 1) = if (x : Int) = 0 then (0 : Int) else if M 8 o x ≤ 1 then 0 else 1 := by
      by_cases z : x = 0
      · rw [if_pos z, if_pos (by omega)]
      · rw [if_neg z, if_neg (show ¬ (x : Int) = 0 by omega)]
    rw [if_neg (by omega), blockAt_ok (by omega), xb1_s, ex, isShared_ok (by omega), xb1_s, e0, Int.toNat_natCast]
    by_cases z : (if (x : Int) = 0 then (0 : Int) else if M 8 o x ≤ 1 then 0 else 1) = 0
    · rw [if_pos z, if_pos z, xk_t (rgk (by omega)), suc, shared4 h5 hn j q (k + 1) acc (by omega) (by omega), Int.zero_add]
    · rw [if_neg z, if_neg z, xk_t (rgk (by omega)), xk_t (rgk (by omega)), suc, shared4 h5 hn j q (k + 1) (acc + 1) (by omega) (by omega), Int.add_assoc]
theorem shared_ok {M : Mm} {o n : Nat} (h5 : Br5 M o) (hn : n < 32) : F_X2_sharedPlaces M o (33 * o + n) = some (shr M o (33 * o + n)) := by
  show F_X2_sharedPlaces_4 M ((FU - 21) + 20 + 1) o (33 * o + n) 0 ((0 : Nat) : Int) = _
  rw [shared4 h5 hn 20 (FU - 21) 0 0 (by decide) (by decide), Int.zero_add]
  rfl
