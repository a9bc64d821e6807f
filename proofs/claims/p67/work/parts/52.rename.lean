/-! RENAME -/
/-- what is so where nothing hinders a move of x to the name b in g -/
def MV (M : Mm) (l f g x : Nat) (b : Int) : Prop := (∃ m, Up M l g m ∧ ∀ i, i ≤ m → upN M l i g ≠ x) ∧ (((∀ q : Nat, (q : Int) < M 2 (33 * l + g) 8 → M 3 (33 * l + g) q ≠ b) ∧ (g = f ∨ M 2 (33 * l + g) 8 < 12)) ∨ ∃ q y : Nat, (q : Int) < M 2 (33 * l + g) 8 ∧ M 3 (33 * l + g) q = b ∧ M 4 (33 * l + g) q = y ∧ M 2 (33 * l + y) 8 = 0)
theorem mv93 {M : Mm} {v : Nat} {s : Int} (he : 0 ≤ M 2 v 8) : ∃ r, F_X3_hindranceToMove_93 M v s = some r ∧ (r = 0 → M 2 v 8 = 0) := by
  unfold F_X3_hindranceToMove_93
  by_cases z : M 2 v 8 ≤ 0
  · rw [if_pos z]
    split
    · split
      · exact ⟨0, rfl, fun _ => by omega⟩
      · exact ⟨-3, rfl, fun h => by omega⟩
    · split
      · exact ⟨0, rfl, fun _ => by omega⟩
      · exact ⟨-3, rfl, fun h => by omega⟩
  · rw [if_neg z]
    split
    · split
      · exact ⟨-4, rfl, fun h => by omega⟩
      · exact ⟨-3, rfl, fun h => by omega⟩
    · split
      · exact ⟨-4, rfl, fun h => by omega⟩
      · exact ⟨-3, rfl, fun h => by omega⟩
theorem mv_ok {M : Mm} {l d f g x : Nat} {b : Int} (I : IDX M l d) (G : G1 M l) (hg : g < 32) (hx : x < 32) (sg : M 2 (33 * l + g) 0 = 2) : ∃ r, F_X3_hindranceToMove M (f : Int) (x : Int) (g : Int) b = some r ∧ (r = 0 → MV M l f g x b) := by
  have S := G.se
  obtain ⟨r1, w1, -, u1⟩ := within_ok x S.pr hg (S.up hg sg)
  unfold F_X3_hindranceToMove
  rw [xk_t I.l01, I.l, w1, xb1_s]
  by_cases z : r1 = 0
  · rw [if_pos z, xk_t I.l01, at_ok hg, xb1_s]
    rcases named_ok (M := M) (i := 33 * l + g) (a := b) (S.er g hg) with ⟨e1, -, hno⟩ | ⟨q, e1, -, hq, hnq⟩
    · rw [e1, xb1_s, if_pos rfl]
      by_cases y : (g : Int) = (f : Int)
      · rw [if_pos y]
        exact ⟨0, rfl, fun _ => ⟨u1 z, Or.inl ⟨hno, Or.inl (by omega)⟩⟩⟩
      · rw [if_neg y]
        by_cases w : M 2 (33 * l + g) 8 < 12
        · rw [if_pos w]
          exact ⟨0, rfl, fun _ => ⟨u1 z, Or.inl ⟨hno, Or.inr w⟩⟩⟩
        · rw [if_neg w]
          exact ⟨-5, rfl, fun h => by omega⟩
    · have v := (S.en hg).2.1 q hq
      obtain ⟨y, ey⟩ : ∃ y : Nat, M 4 (33 * l + g) q = y := ⟨(M 4 (33 * l + g) q).toNat, by omega⟩
      have ye := S.er y (by omega)
      obtain ⟨r2, e2, h2⟩ := mv93 (M := M) (v := 33 * l + y) (s := 1) ye.1
      obtain ⟨r3, e3, h3⟩ := mv93 (M := M) (v := 33 * l + y) (s := 0) ye.1
      rw [e1, xb1_s, ey, if_neg (by omega), xk_t I.l01, at_ok (by omega), xb1_s, xk_t I.l01, at_ok hx, xb1_s, e2, e3]
      by_cases w : M 2 (33 * l + x) 0 = 2
      · rw [if_pos w]
        exact ⟨r2, rfl, fun h => ⟨u1 z, Or.inr ⟨q, y, hq, hnq, ey, h2 h⟩⟩⟩
      · rw [if_neg w]
        exact ⟨r3, rfl, fun h => ⟨u1 z, Or.inr ⟨q, y, hq, hnq, ey, h3 h⟩⟩⟩
  · rw [if_neg z]
    exact ⟨-6, rfl, fun h => by omega⟩
theorem move_ok {M M1 : Mm} {t a b : Int} {l d f g x q : Nat} (s : SY M t l d 7) (dr : DRF M M1 t l d) (hf : f < 32) (hg : g < 32) (sg : M 2 (33 * l + g) 0 = 2) (hb : 1 ≤ b ∧ b ≤ 99) (hq : (q : Int) < M 2 (33 * l + f) 8) (hn : M 3 (33 * l + f) q = a) (hx : M 4 (33 * l + f) q = x) (hne : ∀ j : Nat, (j : Int) < M 2 (33 * l + g) 8 → M 3 (33 * l + g) j = b → M 4 (33 * l + g) j ≠ x) (mv : MV M l f g x b) : ∃ M2 M3 M4, F_X2_detach M1 d (f : Int) a = some ((x : Int), M2) ∧ IDX M2 l d ∧ F_X3_takeName M2 (g : Int) b = some M3 ∧ IDX M3 l d ∧ F_X2_attach M3 d (g : Int) b (x : Int) = some M4 ∧ DOK M4 d t ∧ Fr M M4 d := by
  obtain ⟨sy, D, ag, fr⟩ := dr
  have S := s.g1.se
  have T := D.1.1.se
  have v := (S.en hf).2.1 q hq
  have x32 : x < 32 := by omega
  have x1 : 1 ≤ x := by omega
  obtain ⟨q1, n1, y1⟩ := name_to ag (S.er f hf).2 hf hq
  rw [hn] at n1
  rw [hx] at y1
  have sg1 : M1 2 (33 * d + g) 0 = 2 := (ag.k2 hg (by omega)).trans sg
  have lx := (T.rg x32).2.2.1
  -- the name is taken out
  obtain ⟨M2, e2, De⟩ := detach_e hf x32 (T.er f hf) q1 (slot_is (T.en hf) q1 n1) y1 lx
  have se2 := De.se T hf x32
  have fx2 := De.fx hf x32
  have I2 : IDX M2 l d := sy.ix.fr fx2.fr
  have gb2 : G2 M2 d := D.1.2.1.ag De.ag2
  have h2 : ∀ h k : Nat, h < 6 → k < 2 → M2 11 h k = M1 11 h k := fun h k _ _ => fx2 11 h k (by omega) (by omega)
  have hd2 : ∀ n, HeldP M2 n → HeldP M1 n := fun n z => z.to (fun h k a b => (h2 h k a b).symm)
  have sx1 : M1 2 (33 * d + x) 0 ≠ 0 := by
    have := (T.is hf q q1).1
    rw [y1, Int.toNat_natCast] at this
    exact this
  obtain ⟨⟨m, um, am⟩, alt⟩ := mv
  have ac1 : AC M1 d g x := (um.ag ag S.pr hg).ac (fun i hi => by rw [upN_ag ag S.pr i g hg]; exact am i hi)
  have gx : g ≠ x := am 0 (Nat.zero_le m)
  have ac2 : AC M2 d g x := ac1.same T.pr hg (fun n _ => De.k (by omega) (by omega))
  have lp : 1 ≤ M1 2 (33 * d + x) 2 := by
    have := lnk_pos T.er hf q1
    rw [y1, ← (T.lk x32).1] at this
    exact this
  have l2 : M2 2 (33 * d + x) 2 = M1 2 (33 * d + x) 2 - 1 := De.2.2.1
  have ef : M2 2 (33 * d + f) 8 = M1 2 (33 * d + f) 8 - 1 := by
    obtain ⟨⟨e, h8, -, -, c⟩, -⟩ := De
    rw [c.1, h8]
  -- a name of g behind it was one before
  have back : ∀ j : Nat, (j : Int) < M2 2 (33 * d + g) 8 → M2 3 (33 * d + g) j = b → ∃ i : Nat, (i : Int) < M 2 (33 * l + g) 8 ∧ M 3 (33 * l + g) i = b ∧ M2 4 (33 * d + g) j = M 4 (33 * l + g) i := fun j hj hb => by
    obtain ⟨i, i1, -, i3, i4⟩ := De.listed hj
    rw [ag.k2 hg (by omega)] at i1
    have g12 := (S.er g hg).2
    rw [(ag.1 g hg).2.1 i (by omega)] at i3
    rw [(ag.1 g hg).2.2 i (by omega)] at i4
    exact ⟨i, i1, i3.symm.trans hb, i4⟩
  -- attach behind all that
  have last : ∀ M3 : Mm, SE M3 d → G2 M3 d → Fx M2 M3 d → AC M3 d g x → M3 2 (33 * d + g) 0 = 2 → M3 2 (33 * d + g) 8 < 12 → (∀ q : Nat, (q : Int) < M3 2 (33 * d + g) 8 → M3 3 (33 * d + g) q ≠ b) → (∀ k, k ≠ 8 → M3 2 (33 * d + x) k = M2 2 (33 * d + x) k) → (∀ n, n < 32 → n ≠ x → LkC M3 d n) → (∀ n, n < 32 → M1 2 (33 * d + n) 0 = 1 → HeldP M1 n → M3 2 (33 * d + n) 0 = 1) → (∀ n, n < 32 → n ≠ x → Orp M3 d n → HeldP M1 n) → ∃ M4, F_X2_attach M3 d (g : Int) b (x : Int) = some M4 ∧ DOK M4 d t ∧ Fr M M4 d := by
    intro M3 se3 g23 fx3 ac3 sg3 eg3 hn3 kx3 lc3 hs3 ho3
    have sx3 : M3 2 (33 * d + x) 0 = M1 2 (33 * d + x) 0 := (kx3 0 (by omega)).trans (De.k (by omega) (by omega))
    have lx3 : M3 2 (33 * d + x) 2 = M1 2 (33 * d + x) 2 - 1 := (kx3 2 (by omega)).trans l2
    obtain ⟨M4, e4, at4⟩ := attach_e (M := M3) (o := d) (a := b) hg x32 ⟨(se3.er g hg).1, eg3⟩ (by omega)
    have se4 := at4.se se3 hg sg3 hb hn3 ⟨x1, x32⟩ (by rw [sx3]; exact sx1) (by omega) (fun w => ⟨by
      rw [sx3] at w
      have := (D.1.1.lc x32).1 (by omega) w
      omega, ac3⟩)
    have fx4 := at4.2.2.2.2.fx hg x32
    have k0 : ∀ n, n < 32 → M4 2 (33 * d + n) 0 = M3 2 (33 * d + n) 0 := fun n hn => at4.2.2.2.2 2 _ _ (by omega) (by omega) (by omega) (by omega) (by omega)
    have k2 : ∀ n, n < 32 → n ≠ x → M4 2 (33 * d + n) 2 = M3 2 (33 * d + n) 2 := fun n hn z => at4.2.2.2.2 2 _ _ (by omega) (by omega) (by omega) (by omega) (by omega)
    have fx : Fx M1 M4 d := (fx2.trans fx3).trans fx4
    have lx4 : M4 2 (33 * d + x) 2 = M1 2 (33 * d + x) 2 := by
      rw [at4.2.1, lx3]
      omega
    refine ⟨M4, e4, D.chg ⟨se4.g1 (fun n hn => ?_), g23.ag at4.2.2.2.2.ag2, D.1.2.2.ag fx.ag3⟩ fx sy.ht (fun n hn sn hp => ?_) (fun n hn op => ?_), fun K i k hk => (fx.fr K i k hk).trans (fr K i k hk)⟩
    · by_cases z : n = x
      · rw [z]
        unfold LkC
        rw [k0 x x32, sx3, lx4]
        exact D.1.1.lc x32
      · unfold LkC
        rw [k0 n hn, k2 n hn z]
        exact lc3 n hn z
    · rw [k0 n hn]
      exact hs3 n hn sn hp
    · by_cases z : n = x
      · have := op.2
        rw [z, lx4] at this
        omega
      · exact ho3 n hn z ⟨(k0 n hn).symm.trans op.1, (k2 n hn z).symm.trans op.2⟩
  have held1 : ∀ n, HeldP M1 n → M1 2 (33 * d + n) 0 = 1 := fun n z => D.2.2.1.held z
  rcases takeName_ok (a := b) I2 se2 gb2 hg (fun j y j1 j2 j3 j4 => by
    obtain ⟨i, i1, i2, i3⟩ := back j j1 j2
    rcases alt with ⟨no, -⟩ | ⟨q0, y0, z1, z2, z3, z4⟩
    · exact absurd i2 (no i i1)
    · have ij := (S.en hg).inj i1 z1 (i2.trans z2.symm)
      have yy : y = y0 := by
        rw [ij, z3, j3] at i3
        omega
      subst yy
      have yx : y ≠ x := fun w => hne q0 z1 z2 (by rw [z3, w])
      have vy := (S.en hg).2.1 q0 z1
      rw [De.k (by omega) (by omega)] at j4
      have yf : y ≠ f := fun w => by
        subst w
        omega
      rw [De.k (by omega) (by omega), De.k (by omega) (by omega)]
      exact ⟨(ag.k2 (by omega) (by omega)).trans z4, (D.1.1.lc (by omega)).1 (by omega) j4⟩) with ⟨e3, no⟩ | ⟨j, y, M3, j1, j2, j3, e3, se3, g23, fx3, tk⟩
  · obtain ⟨M4, e4, D4, fr4⟩ := last M2 se2 gb2 Fx.refl ac2 ((De.k (by omega) (by omega)).trans sg1) (by
      rcases alt with ⟨-, w | w⟩ | ⟨q0, y0, z1, z2, z3, z4⟩
      · rw [w, ef]
        have := (T.er f hf).2
        omega
      · by_cases z : g = f
        · rw [z, ef]
          have := (T.er f hf).2
          omega
        · rw [De.k (by omega) (by omega), ag.k2 hg (by omega)]
          exact w
      · by_cases z : g = f
        · rw [z, ef]
          have := (T.er f hf).2
          omega
        · obtain ⟨i1, i2, -⟩ := name_to ag (S.er g hg).2 hg z1
          have hh := De.k34 (k := q0) z
          exact absurd (by rw [hh.1, i2, z2]) (no q0 (by rw [De.k (by omega) (by omega)]; exact i1))) no (fun _ _ => rfl) (fun n hn z => by
      unfold LkC
      rw [De.k (by omega) (by omega), De.k (by omega) (by omega)]
      exact D.1.1.lc hn) (fun n hn sn _ => (De.k (by omega) (by omega)).trans sn) (fun n hn z op => D.2.2.2 n hn ⟨by
      rw [← De.k (n := n) (k := 0) (by omega) (by omega)]
      exact op.1, by
      rw [← De.k (n := n) (k := 2) (by omega) (by omega)]
      exact op.2⟩)
    exact ⟨M2, M2, M4, e2, I2, e3, I2, e4, D4, fr4⟩
  · obtain ⟨i, i1, i2, i3⟩ := back j j1 j2
    have yx : y ≠ x := fun w => hne i i1 i2 (by rw [← i3, j3, w])
    have I3 : IDX M3 l d := I2.fr fx3.fr
    have tk0 := tk
    obtain ⟨yr, gy, ⟨e, h8, e12, je, c⟩, ks, k34, o⟩ := tk
    have sy2 : M2 2 (33 * d + y) 0 = M1 2 (33 * d + y) 0 := De.k (by omega) (by omega)
    have ly2 : M2 2 (33 * d + y) 2 = M1 2 (33 * d + y) 2 := De.k (by omega) (by omega)
    obtain ⟨M4, e4, D4, fr4⟩ := last M3 se3 g23 fx3 (by
      rcases o with ⟨-, -, -, o⟩ | ⟨-, -, o⟩
      · refine ac2.same se2.pr hg (fun n hn => ?_)
        by_cases z : n = y
        · rw [z]
          exact o 4 (by omega)
        · exact ks n 4 hn z (by omega)
      · obtain ⟨k, k1, k2⟩ := ac2
        exact AC.drop (M := M2) (M' := M3) (y := y) se2.pr (fun n hn z => ks n 4 hn z (by omega)) (o 4 (by omega)) (by omega) k g hg k1 k2) ((ks g 0 hg gy (by omega)).trans ((De.k (by omega) (by omega)).trans sg1)) (by rw [c.1]; omega) (fun r hr w => by
      obtain ⟨i', r1, r2, r3, -⟩ := c.old hr
      exact r2 ((se2.en hg).inj (by omega) j1 (r3.symm.trans (w.trans j2.symm)))) (fun k hk => by
      exact ks x k x32 (fun w => yx w.symm) (by omega)) (fun n hn z => tk0.lc se2 hg (fun w => by
      rw [ly2]
      rw [sy2] at w
      exact (D.1.1.lc yr.2).1 (by omega) w) (fun w => by
      rw [sy2]
      exact held1 y (hd2 y w)) hn (fun w => by
      unfold LkC
      rw [De.k (by omega) (by omega), De.k (by omega) (by omega)]
      exact D.1.1.lc hn)) (fun n hn sn hp => by
      by_cases z : n = y
      · subst z
        rcases o with ⟨-, -, -, o⟩ | ⟨-, o, -⟩
        · rw [o 0 (by omega), sy2]
          exact sn
        · exact absurd (hp.to h2) o
      · rw [ks n 0 hn z (by omega), De.k (by omega) (by omega)]
        exact sn) (fun n hn z op => by
      by_cases w : n = y
      · subst w
        rcases o with ⟨-, -, o, -⟩ | ⟨-, -, o⟩
        · exact hd2 n (o.resolve_left (fun w => w op.2))
        · have := op.1
          rw [o 0 (by omega)] at this
          exact absurd this (by decide)
      · refine D.2.2.2 n hn ⟨?_, ?_⟩
        · rw [← De.k (n := n) (k := 0) (by omega) (by omega), ← ks n 0 hn w (by omega)]
          exact op.1
        · rw [← De.k (n := n) (k := 2) (by omega) (by omega), ← ks n 2 hn w (by omega)]
          exact op.2)
    exact ⟨M2, M3, M4, e2, I2, e3, I3, e4, D4, fr4⟩
theorem rename_ok {M : Mm} {t a b : Int} {f g : Nat} (h : SYS M t) (ht : t ≤ 1000) (hf : LV M f) (hg : LV M g) (ha : 1 ≤ a ∧ a ≤ 99) (hb : 1 ≤ b ∧ b ≤ 99) : ∃ r M', F_X3_rename M (f : Int) a (g : Int) b = some (r, M') ∧ NX M M' t := by
  obtain ⟨l, d, s⟩ := h
  have S := s.g1.se
  have self : ∀ r : Int, ∃ r' M', some (r, M) = some (r', M') ∧ NX M M' t := fun r => ⟨r, M, rfl, NX.self ⟨l, d, s⟩⟩
  unfold F_X3_rename
  rw [two_ok s.ix s.pw hf hg ha hb, xb1_s, xk_t s.ix.l01, s.ix.l, at_ok hf.1, xb1_s]
  by_cases c1 : M 2 (33 * l + f) 0 = 2
  · rw [if_pos c1, xk_t s.ix.l01, at_ok hg.1, xb1_s]
    by_cases c2 : M 2 (33 * l + g) 0 = 2
    · rw [if_pos c2, xk_t s.ix.l01, xb1_s]
      rcases named_ok (M := M) (i := 33 * l + f) (a := a) (S.er f hf.1) with ⟨e1, -, -⟩ | ⟨q, e1, -, hq, hn⟩
      · rw [e1, xb1_s, if_pos rfl]
        exact self _
      · have v1 := (S.en hf.1).2.1 q hq
        obtain ⟨x, ex⟩ : ∃ x : Nat, M 4 (33 * l + f) q = x := ⟨(M 4 (33 * l + f) q).toNat, by omega⟩
        obtain ⟨M1, e3, dr⟩ := drf_ok s
        have sy := dr.1
        obtain ⟨y, ey, hy⟩ : ∃ y : Int, F_X1_nodeNamed M (33 * l + g) b = some y ∧ (y ≠ x → ∀ j : Nat, (j : Int) < M 2 (33 * l + g) 8 → M 3 (33 * l + g) j = b → M 4 (33 * l + g) j ≠ x) := by
          rcases named_ok (M := M) (i := 33 * l + g) (a := b) (S.er g hg.1) with ⟨e2, -, no⟩ | ⟨j, e2, -, hj, hnj⟩
          · exact ⟨-1, e2, fun _ j h1 h2 => absurd h2 (no j h1)⟩
          · refine ⟨_, e2, fun h i h1 h2 => ?_⟩
            rw [(S.en hg.1).inj h1 hj (h2.trans hnj.symm)]
            exact h
        rw [e1, xb1_s, ex, if_neg (by omega), xk_t s.ix.l01, xb1_s, ey, xb1_s]
        unfold F_X3_rename_87 F_X3_rename_108
        by_cases z : y = (x : Int)
        · obtain ⟨r3, M4, e4, nx⟩ := finx (x : Int) s dr.2.2.2 dr.2.1 ht
          rw [if_pos z, if_neg (by decide), if_pos rfl, e3, xb1_s, if_neg (by decide), e4, xb2_s]
          exact ⟨r3, M4, rfl, nx⟩
        · obtain ⟨r, e4, mv⟩ := mv_ok (f := f) (b := b) s.ix s.g1 hg.1 (show x < 32 by omega) c2
          rw [if_neg z, if_pos rfl, e4, xb1_s]
          by_cases w : r = 0
          · obtain ⟨M2, M3, M4, f2, I2, f3, I3, f4, D4, fr4⟩ := move_ok s dr hf.1 hg.1 c2 hb hq hn ex (hy z) (mv w)
            obtain ⟨r3, M5, e5, nx⟩ := finx (x : Int) s fr4 D4 ht
            rw [if_pos w, e3, xb1_s, if_pos rfl, xk_t sy.ix.d01, sy.ix.d, f2, xb2_s, f3, xb1_s, xk_t I3.d01, I3.d, f4, xb1_s, e5, xb2_s]
            exact ⟨r3, M5, rfl, nx⟩
          · rw [if_neg w]
            exact self _
    · rw [if_neg c2]
      exact self _
  · rw [if_neg c1]
    exact self _
