/-! CALLS THAT NAME, MOVE AND TAKE AWAY -/
theorem slot_is {M : Mm} {i q : Nat} {a : Int} (g : Ents M i) (hq : (q : Int) < M 2 i 8) (hn : M 3 i q = a) : F_X1_slotOf M i a = some (q : Int) := by
  rcases slot_ok (M := M) (i := i) (a := a) g.1 with ⟨-, h⟩ | ⟨j, h1, h2, h3⟩
  · exact absurd hn (h q hq)
  · rw [h1, g.inj h2 hq (h3.trans hn.symm)]
theorem names_to {M M1 : Mm} {l d f : Nat} {a : Int} (ag : Ag M M1 l d) (he : M 2 (33 * l + f) 8 ≤ 12) (hf : f < 32) (h : ∀ q : Nat, (q : Int) < M 2 (33 * l + f) 8 → M 3 (33 * l + f) q ≠ a) : ∀ q : Nat, (q : Int) < M1 2 (33 * d + f) 8 → M1 3 (33 * d + f) q ≠ a := fun q hq => by
  rw [ag.k2 hf (by omega)] at hq
  rw [(ag.1 f hf).2.1 q (by omega)]
  exact h q hq
/-- a name of the live tree stands in the draft -/
theorem name_to {M M1 : Mm} {l d f q : Nat} (ag : Ag M M1 l d) (he : M 2 (33 * l + f) 8 ≤ 12) (hf : f < 32) (hq : (q : Int) < M 2 (33 * l + f) 8) : (q : Int) < M1 2 (33 * d + f) 8 ∧ M1 3 (33 * d + f) q = M 3 (33 * l + f) q ∧ M1 4 (33 * d + f) q = M 4 (33 * l + f) q := ⟨by rw [ag.k2 hf (by omega)]; exact hq, (ag.1 f hf).2.1 q (by omega), (ag.1 f hf).2.2 q (by omega)⟩
theorem addName_ok {M : Mm} {t a : Int} {f n : Nat} (h : SYS M t) (ht : t ≤ 1000) (hf : LV M f) (hn : LV M n) (ha : 1 ≤ a ∧ a ≤ 99) : ∃ r M', F_X3_addName M (f : Int) a (n : Int) = some (r, M') ∧ NX M M' t := by
  obtain ⟨l, d, s⟩ := h
  have S := s.g1.se
  have he := S.er f hf.1
  have self : ∀ r : Int, ∃ r' M', some (r, M) = some (r', M') ∧ NX M M' t := fun r => ⟨r, M, rfl, NX.self ⟨l, d, s⟩⟩
  unfold F_X3_addName
  rw [pw_ok s.pw, xb1_s, nd_ok s.ix hf.1 (hf.2 l d s.ix), xb1_s, nd_ok s.ix hn.1 (hn.2 l d s.ix), xb1_s, rn_ok ha, xb1_s, xk_t s.ix.l01, s.ix.l, at_ok hf.1, xb1_s, xk_t s.ix.l01, at_ok hn.1, xb1_s]
  by_cases c1 : M 2 (33 * l + f) 0 = 2
  · rw [if_pos c1]
    by_cases c2 : M 2 (33 * l + n) 0 = 2
    · rw [if_pos c2]
      exact self _
    · rw [if_neg c2]
      by_cases c3 : M 2 (33 * l + n) 2 = 0
      · rw [if_pos c3]
        exact self _
      · rw [if_neg c3]
        rcases named_ok (M := M) (i := 33 * l + f) (a := a) he with ⟨e1, -, hno⟩ | ⟨q, e1, -, hq, hnq⟩
        · rw [e1, xb1_s, if_pos rfl]
          by_cases c4 : 12 ≤ M 2 (33 * l + f) 8
          · rw [if_pos c4]
            exact self _
          · rw [if_neg c4]
            by_cases c5 : M 2 (33 * l + n) 2 < 6
            · obtain ⟨M1, e2, sy, D, ag, fr⟩ := drf_ok s
              have n0 : n ≠ 0 := fun z => by
                rw [z, Nat.add_zero] at c3
                exact c3 S.1.2
              have ln := ag.k2 (n := n) (k := 2) hn.1 (by omega)
              have sn := ag.k2 (n := n) (k := 0) hn.1 (by omega)
              have lr := (S.rg hn.1).2.2.1
              obtain ⟨M2, e3, at1⟩ := attach_e (M := M1) (o := d) (a := a) hf.1 hn.1 (by rw [ag.k2 hf.1 (by omega)]; omega) (by omega)
              have se2 := at1.se D.1.1.se hf.1 ((ag.k2 hf.1 (by omega)).trans c1) ha (names_to ag he.2 hf.1 hno) ⟨by omega, hn.1⟩ (by rw [sn]; exact hn.2 l d s.ix) (by omega) (fun z => absurd z (by rw [sn]; exact c2))
              have fx := at1.2.2.2.2.fx hf.1 hn.1
              have I2 : IDX M2 l d := sy.ix.fr fx.fr
              have k0 : ∀ m, m < 32 → M2 2 (33 * d + m) 0 = M1 2 (33 * d + m) 0 := fun m hm => at1.2.2.2.2 2 _ _ (by omega) (by omega) (by omega) (by omega) (by omega)
              have k2 : ∀ m, m < 32 → m ≠ n → M2 2 (33 * d + m) 2 = M1 2 (33 * d + m) 2 := fun m hm z => at1.2.2.2.2 2 _ _ (by omega) (by omega) (by omega) (by omega) (by omega)
              have D2 : DOK M2 d t := by
                refine D.chg ⟨se2.g1 (fun m hm => ?_), D.1.2.1.ag at1.2.2.2.2.ag2, D.1.2.2.ag fx.ag3⟩ fx sy.ht (fun m hm sm _ => (k0 m hm).trans sm) (fun m hm op => D.2.2.2 m hm ?_)
                · by_cases z : m = n
                  · rw [z]
                    unfold LkC
                    rw [k0 n hn.1, at1.2.1, sn, ln]
                    exact ⟨fun _ w => absurd w c2, fun _ => by omega⟩
                  · unfold LkC
                    rw [k0 m hm, k2 m hm z]
                    exact D.1.1.lc hm
                · have z : m ≠ n := fun z => by
                    have := op.2
                    rw [z, at1.2.1, ln] at this
                    omega
                  exact ⟨(k0 m hm).symm.trans op.1, (k2 m hm z).symm.trans op.2⟩
              obtain ⟨r3, M3, e4, nx⟩ := finx (M2 2 (33 * d + n) 2) s (M := M2) (fun K i k hk => (fx.fr K i k hk).trans (fr K i k hk)) D2 ht
              rw [if_pos c5, e2, xb1_s, xk_t sy.ix.d01, sy.ix.d, e3, xb1_s, xk_t I2.d01, I2.d, at_ok hn.1, xb1_s, e4, xb2_s]
              exact ⟨r3, M3, rfl, nx⟩
            · rw [if_neg c5]
              exact self _
        · have v := (S.en hf.1).2.1 q hq
          rw [e1, xb1_s, if_neg (by omega)]
          exact self _
  · rw [if_neg c1]
    exact self _
theorem HF.held {M : Mm} {o n : Nat} (h : HF M o) (hp : HeldP M n) : M 2 (33 * o + n) 0 = 1 := by
  obtain ⟨k, k1, k2, k3⟩ := hp
  have := h k k1 k2
  rw [k3, Int.toNat_natCast] at this
  exact this
/-- a name of the draft taken away with its node -/
theorem tk_draft {M M1 : Mm} {t a : Int} {l d f q y : Nat} (s : SY M t l d 7) (dr : DRF M M1 t l d) (hf : f < 32) (hq : (q : Int) < M 2 (33 * l + f) 8) (hn : M 3 (33 * l + f) q = a) (hy : M 4 (33 * l + f) q = y) (he : M 2 (33 * l + y) 0 = 2 → M 2 (33 * l + y) 8 = 0) : ∃ M2, F_X3_takeName M1 (f : Int) a = some M2 ∧ DOK M2 d t ∧ Fr M M2 d := by
  obtain ⟨sy, D, ag, fr⟩ := dr
  have S := s.g1.se
  have v := (S.en hf).2.1 q hq
  have y32 : y < 32 := by omega
  obtain ⟨q1, n1, y1⟩ := name_to ag (S.er f hf).2 hf hq
  rw [hn] at n1
  rw [hy] at y1
  have T := D.1.1.se
  have ey : ∀ q' y' : Nat, (q' : Int) < M1 2 (33 * d + f) 8 → M1 3 (33 * d + f) q' = a → M1 4 (33 * d + f) q' = y' → y' = y := fun q' y' h1 h2 h3 => by
    have := (T.en hf).inj h1 q1 (h2.trans n1.symm)
    rw [this, y1] at h3
    omega
  rcases takeName_ok (a := a) sy.ix T D.1.2.1 hf (fun q' y' h1 h2 h3 h4 => by
    rw [ey q' y' h1 h2 h3] at h4 ⊢
    refine ⟨?_, (D.1.1.lc y32).1 (by omega) h4⟩
    rw [ag.k2 y32 (by omega)] at h4 ⊢
    exact he h4) with ⟨-, h⟩ | ⟨q', y', M2, h1, h2, h3, e, se, g2, fx, tk⟩
  · exact absurd n1 (h q q1)
  · have yy := ey q' y' h1 h2 h3
    subst yy
    refine ⟨M2, e, D.chg ⟨se.g1 (fun n hn => tk.lc T hf (fun w => (D.1.1.lc y32).1 (by omega) w) (fun w => D.2.2.1.held w) hn (fun _ => D.1.1.lc hn)), g2, D.1.2.2.ag fx.ag3⟩ fx sy.ht (fun n hn sn hp => ?_) (fun n hn op => ?_), fun K i k hk => (fx.fr K i k hk).trans (fr K i k hk)⟩
    · obtain ⟨-, fy, -, c, -, o⟩ := tk
      by_cases z : n = y'
      · subst z
        rcases o with ⟨-, -, -, o⟩ | ⟨-, o, -⟩
        · rw [o 0 (by omega)]
          exact sn
        · exact absurd hp o
      · rw [c n 0 hn z (by omega)]
        exact sn
    · obtain ⟨-, fy, -, c, -, o⟩ := tk
      by_cases z : n = y'
      · subst z
        rcases o with ⟨-, -, o, -⟩ | ⟨-, -, o⟩
        · exact o.resolve_left (fun w => w op.2)
        · have := op.1
          rw [o 0 (by omega)] at this
          exact absurd this (by decide)
      · refine D.2.2.2 n hn ⟨?_, ?_⟩
        · rw [← c n 0 hn z (by omega)]
          exact op.1
        · rw [← c n 2 hn z (by omega)]
          exact op.2
theorem unlink_ok {M : Mm} {t a : Int} {f : Nat} (h : SYS M t) (ht : t ≤ 1000) (hf : LV M f) (ha : 1 ≤ a ∧ a ≤ 99) : ∃ r M', F_X3_unlink M (f : Int) a = some (r, M') ∧ NX M M' t := by
  obtain ⟨l, d, s⟩ := h
  have S := s.g1.se
  have he := S.er f hf.1
  have self : ∀ r : Int, ∃ r' M', some (r, M) = some (r', M') ∧ NX M M' t := fun r => ⟨r, M, rfl, NX.self ⟨l, d, s⟩⟩
  unfold F_X3_unlink
  rw [ent_ok s.ix s.pw hf.1 (hf.2 l d s.ix) ha, xb1_s, xk_t s.ix.l01, s.ix.l, at_ok hf.1, xb1_s]
  by_cases c1 : M 2 (33 * l + f) 0 = 2
  · rw [if_pos c1, xk_t s.ix.l01, xb1_s]
    rcases named_ok (M := M) (i := 33 * l + f) (a := a) he with ⟨e1, -, hno⟩ | ⟨q, e1, -, hq, hnq⟩
    · rw [e1, xb1_s, if_pos rfl]
      exact self _
    · have v := (S.en hf.1).2.1 q hq
      obtain ⟨y, ey⟩ : ∃ y : Nat, M 4 (33 * l + f) q = y := ⟨(M 4 (33 * l + f) q).toNat, by omega⟩
      rw [e1, xb1_s, ey, if_neg (by omega), xk_t s.ix.l01, at_ok (by omega), xb1_s]
      by_cases c2 : M 2 (33 * l + y) 0 = 2
      · rw [if_pos c2]
        exact self _
      · obtain ⟨M1, e2, dr⟩ := drf_ok s
        obtain ⟨M2, e3, D2, fr2⟩ := tk_draft s dr hf.1 hq hnq ey (fun w => absurd w c2)
        have I2 : IDX M2 l d := s.ix.fr fr2
        obtain ⟨r3, M3, e4, nx⟩ := finx (M2 2 (33 * d + y) 2) s fr2 D2 ht
        rw [if_neg c2, e2, xb1_s, e3, xb1_s, xk_t I2.d01, I2.d, at_ok (by omega), xb1_s, e4, xb2_s]
        exact ⟨r3, M3, rfl, nx⟩
  · rw [if_neg c1]
    exact self _
theorem removeFolder_ok {M : Mm} {t a : Int} {f : Nat} (h : SYS M t) (ht : t ≤ 1000) (hf : LV M f) (ha : 1 ≤ a ∧ a ≤ 99) : ∃ r M', F_X3_removeFolder M (f : Int) a = some (r, M') ∧ NX M M' t := by
  obtain ⟨l, d, s⟩ := h
  have S := s.g1.se
  have he := S.er f hf.1
  have self : ∀ r : Int, ∃ r' M', some (r, M) = some (r', M') ∧ NX M M' t := fun r => ⟨r, M, rfl, NX.self ⟨l, d, s⟩⟩
  unfold F_X3_removeFolder
  rw [ent_ok s.ix s.pw hf.1 (hf.2 l d s.ix) ha, xb1_s, xk_t s.ix.l01, s.ix.l, at_ok hf.1, xb1_s]
  by_cases c1 : M 2 (33 * l + f) 0 = 2
  · rw [if_pos c1, xk_t s.ix.l01, xb1_s]
    rcases named_ok (M := M) (i := 33 * l + f) (a := a) he with ⟨e1, -, hno⟩ | ⟨q, e1, -, hq, hnq⟩
    · rw [e1, xb1_s, if_pos rfl]
      exact self _
    · have v := (S.en hf.1).2.1 q hq
      obtain ⟨y, ey⟩ : ∃ y : Nat, M 4 (33 * l + f) q = y := ⟨(M 4 (33 * l + f) q).toNat, by omega⟩
      rw [e1, xb1_s, ey, if_neg (by omega), xk_t s.ix.l01, at_ok (by omega), xb1_s]
      by_cases c2 : M 2 (33 * l + y) 0 = 2
      · rw [if_pos c2, xk_t s.ix.l01, xb1_s]
        by_cases c3 : M 2 (33 * l + y) 8 ≤ 0
        · obtain ⟨M1, e2, dr⟩ := drf_ok s
          obtain ⟨M2, e3, D2, fr2⟩ := tk_draft s dr hf.1 hq hnq ey (fun _ => by have := (S.er y (by omega)).1; omega)
          obtain ⟨r3, M3, e4, nx⟩ := finx (y : Int) s fr2 D2 ht
          rw [if_pos c3, e2, xb1_s, e3, xb1_s, e4, xb2_s]
          exact ⟨r3, M3, rfl, nx⟩
        · rw [if_neg c3]
          exact self _
      · rw [if_neg c2]
        exact self _
  · rw [if_neg c1]
    exact self _
theorem two_ok {M : Mm} {l d f g : Nat} {a b : Int} (I : IDX M l d) (hp : M 0 0 5 = 0) (hf : LV M f) (hg : LV M g) (ha : 1 ≤ a ∧ a ≤ 99) (hb : 1 ≤ b ∧ b ≤ 99) : F_X3_needTwoEntries M (f : Int) a (g : Int) b = some () := by
  unfold F_X3_needTwoEntries
  rw [pw_ok hp, xb1_s, nd_ok I hf.1 (hf.2 l d I), xb1_s, nd_ok I hg.1 (hg.2 l d I), xb1_s, rn_ok ha, xb1_s, rn_ok hb, xb1_s]
theorem upN_ag {M M1 : Mm} {l d : Nat} (ag : Ag M M1 l d) (hr : Pr M l) : ∀ (j n : Nat), n < 32 → upN M1 d j n = upN M l j n
  | 0, n, hn => rfl
  | j + 1, n, hn => by
    show upN M1 d j (M1 2 (33 * d + n) 4).toNat = upN M l j (M 2 (33 * l + n) 4).toNat
    rw [ag.k2 hn (by omega)]
    exact upN_ag ag hr j _ (by have := hr n hn; omega)
theorem Up.ag {M M1 : Mm} {l d f m : Nat} (h : Up M l f m) (ag : Ag M M1 l d) (hr : Pr M l) (hf : f < 32) : Up M1 d f m := ⟨(upN_ag ag hr m f hf).trans h.1, fun i hi => by rw [upN_ag ag hr i f hf]; exact h.2 i hi⟩
theorem exchange_ok {M : Mm} {t a b : Int} {f g : Nat} (h : SYS M t) (ht : t ≤ 1000) (hf : LV M f) (hg : LV M g) (ha : 1 ≤ a ∧ a ≤ 99) (hb : 1 ≤ b ∧ b ≤ 99) : ∃ r M', F_X3_exchange M (f : Int) a (g : Int) b = some (r, M') ∧ NX M M' t := by
  obtain ⟨l, d, s⟩ := h
  have S := s.g1.se
  have self : ∀ r : Int, ∃ r' M', some (r, M) = some (r', M') ∧ NX M M' t := fun r => ⟨r, M, rfl, NX.self ⟨l, d, s⟩⟩
  unfold F_X3_exchange
  rw [two_ok s.ix s.pw hf hg ha hb, xb1_s, xk_t s.ix.l01, s.ix.l, at_ok hf.1, xb1_s]
  by_cases c1 : M 2 (33 * l + f) 0 = 2
  · rw [if_pos c1, xk_t s.ix.l01, at_ok hg.1, xb1_s]
    by_cases c2 : M 2 (33 * l + g) 0 = 2
    · rw [if_pos c2, xk_t s.ix.l01, xb1_s]
      have hx := named_ok (M := M) (i := 33 * l + f) (a := a) (S.er f hf.1)
      have hy := named_ok (M := M) (i := 33 * l + g) (a := b) (S.er g hg.1)
      rcases hx with ⟨e1, -, -⟩ | ⟨q1, e1, -, hq1, hn1⟩
      · rcases hy with ⟨e2, -, -⟩ | ⟨q2, e2, -, hq2, hn2⟩
        · rw [e1, xb1_s, xk_t s.ix.l01, xb1_s, e2, xb1_s, if_pos rfl]
          exact self _
        · rw [e1, xb1_s, xk_t s.ix.l01, xb1_s, e2, xb1_s, if_pos rfl]
          exact self _
      · have v1 := (S.en hf.1).2.1 q1 hq1
        obtain ⟨x, ex⟩ : ∃ x : Nat, M 4 (33 * l + f) q1 = x := ⟨(M 4 (33 * l + f) q1).toNat, by omega⟩
        rcases hy with ⟨e2, -, -⟩ | ⟨q2, e2, -, hq2, hn2⟩
        · rw [e1, xb1_s, xk_t s.ix.l01, xb1_s, e2, xb1_s, if_neg (by omega), if_pos rfl]
          exact self _
        · have v2 := (S.en hg.1).2.1 q2 hq2
          obtain ⟨y, ey⟩ : ∃ y : Nat, M 4 (33 * l + g) q2 = y := ⟨(M 4 (33 * l + g) q2).toNat, by omega⟩
          obtain ⟨r1, w1, -, u1⟩ := within_ok x S.pr hg.1 (S.up hg.1 c2)
          obtain ⟨r2, w2, -, u2⟩ := within_ok y S.pr hf.1 (S.up hf.1 c1)
          rw [e1, xb1_s, xk_t s.ix.l01, xb1_s, e2, xb1_s, ex, ey, if_neg (by omega), if_neg (by omega), xk_t s.ix.l01, w1, xb1_s]
          by_cases z1 : r1 = 0
          · rw [if_pos z1, xk_t s.ix.l01, w2, xb1_s]
            by_cases z2 : r2 = 0
            · obtain ⟨M1, e3, sy, D, ag, fr⟩ := drf_ok s
              obtain ⟨k1, n1, x1⟩ := name_to ag (S.er f hf.1).2 hf.1 hq1
              obtain ⟨k2, n2, y1⟩ := name_to ag (S.er g hg.1).2 hg.1 hq2
              rw [hn1] at n1
              rw [hn2] at n2
              rw [ex] at x1
              rw [ey] at y1
              have T := D.1.1.se
              have q12 := (T.er f hf.1).2
              obtain ⟨M2, M3, e4, e5, t1, t2, E⟩ := exc_e (M := M1) (d := d) (x := x) (y := y) hf.1 hg.1 (by omega) (by omega) (T.en hg.1) (by omega) k2 (slot_is (T.en hf.1) k1 n1) n2
              obtain ⟨m1, um1, am1⟩ := u1 z1
              obtain ⟨m2, um2, am2⟩ := u2 z2
              have T2 : Er M2 d := fun n hn => by
                rw [t1.2.2.2 2 _ _ (by omega) (by omega)]
                exact T.er n hn
              have hl : ∀ z : Int, lnk M3 d z = lnk M1 d z := fun z => by
                rw [t2.lnk T2 hg.1 (by rw [t1.2.2.2 2 _ _ (by omega) (by omega)]; exact k2) z, t1.lnk T.er hf.1 k1 z]
                have : M2 4 (33 * d + g) q2 = (y : Int) := by
                  by_cases w : g = f ∧ q2 = q1
                  · rw [w.1, w.2]
                    exact t1.1
                  · rw [t1.2.2.2 4 _ _ (by omega) (by omega)]
                    exact y1
                rw [this, x1]
                omega
              have g3 := exc_g1 D.1.1 hf.1 hg.1 (by omega) (by omega) k1 k2 x1 y1 ⟨m1, um1.ag ag S.pr hg.1, fun i hi => by rw [upN_ag ag S.pr i g hg.1]; exact am1 i hi⟩ ⟨m2, um2.ag ag S.pr hf.1, fun i hi => by rw [upN_ag ag S.pr i f hf.1]; exact am2 i hi⟩ E hl
              have F := E.2.2.2.2
              have fx : Fx M1 M3 d := fun K j k a b => F K j k (by omega) (by omega)
              have D3 : DOK M3 d t := by
                refine D.chg ⟨g3, D.1.2.1.ag ⟨fun n hn => ⟨F 2 _ _ (by omega) (by omega), F 2 _ _ (by omega) (by omega), fun k _ => F 5 _ _ (by omega) (by omega)⟩, fun k _ => F 8 _ _ (by omega) (by omega)⟩, D.1.2.2.ag fx.ag3⟩ fx sy.ht (fun n hn sn _ => ?_) (fun n hn op => D.2.2.2 n hn ⟨?_, ?_⟩)
                · rw [F 2 _ _ (by omega) (by omega)]
                  exact sn
                · rw [← F 2 _ 0 (by omega) (by omega)]
                  exact op.1
                · rw [← F 2 _ 2 (by omega) (by omega)]
                  exact op.2
              have I2 : IDX M2 l d := ⟨(t1.2.2.2 0 0 0 (by omega) (by omega)).trans sy.ix.1, (t1.2.2.2 0 0 1 (by omega) (by omega)).trans sy.ix.2.1, sy.ix.2.2⟩
              obtain ⟨r3, M4, e6, nx⟩ := finx (y : Int) s (M := M3) (fun K i k hk => (fx.fr K i k hk).trans (fr K i k hk)) D3 ht
              rw [if_pos z2, e3, xb1_s, xk_t sy.ix.d01, sy.ix.d, e4, xb1_s, xk_t I2.d01, I2.d, e5, xb1_s, e6, xb2_s]
              exact ⟨r3, M4, rfl, nx⟩
            · rw [if_neg z2]
              exact self _
          · rw [if_neg z1]
            exact self _
    · rw [if_neg c2]
      exact self _
  · rw [if_neg c1]
    exact self _
