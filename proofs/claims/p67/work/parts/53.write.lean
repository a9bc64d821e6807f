/-! CALLS THAT WRITE -/
theorem bs_dok {M M' : Mm} {d n : Nat} {t : Int} (D : DOK M d t) (hr : HR M) (hn : n < 32) (bs : Bs M M' d (33 * d + n)) (g : G2 M' d) : DOK M' d t := by
  have fx := bs.fx hn
  have k : ∀ m i, i ≠ 3 → M' 2 (33 * d + m) i = M 2 (33 * d + m) i := fun m i hi => bs 2 _ _ (by omega) (by omega) (by omega) (by omega)
  exact D.chg ⟨D.1.1.ag bs.ag1, g, D.1.2.2.ag fx.ag3⟩ fx hr (fun m hm sm _ => (k m 0 (by omega)).trans sm) (fun m hm op => D.2.2.2 m hm ⟨(k m 0 (by omega)).symm.trans op.1, (k m 2 (by omega)).symm.trans op.2⟩)
theorem op_ok {M : Mm} {h : Nat} (hh : h < 6) (ho : M 11 h 0 ≠ 0) : F_X3_needOpen M (h : Int) = some h := by
  unfold F_X3_needOpen
  rw [if_neg (by omega), if_neg (by omega), xk_t (by omega), Int.toNat_natCast, if_neg ho, xk_t (by omega)]
/-- only handles were written -/
theorem SY.hand {M M' : Mm} {t w : Int} {l d : Nat} (s : SY M t l d w) (f : ∀ K i k : Nat, K ≠ 11 → K ≠ 12 → M' K i k = M K i k) (hr : HR M') (hf : HF M' l) (oh : OH M' l) : SY M' t l d w := by
  obtain ⟨⟨I, w1, p, u, r, la, ag⟩, D, us⟩ := s
  have z : ∀ k, M' 0 0 k = M 0 0 k := fun k => f 0 0 k (by omega) (by omega)
  have ao : ∀ o, Ag M M' o o := fun o => ag_of fun K i k _ _ => f K i k (by omega) (by omega)
  refine ⟨⟨⟨(z 0).trans I.1, (z 1).trans I.2.1, I.2.2⟩, ?_, ?_, ?_, hr, la.to (ao 2) (f 1 2 5 (by omega) (by omega)), fun w0 => ?_⟩, ⟨D.1.ag (ao l), D.2.1.to (f 1 l 5 (by omega) (by omega)), hf, oh⟩, ?_⟩
  · rw [z]; exact w1
  · rw [z]; exact p
  · rw [z]; exact u
  · rw [z] at w0
    rw [f 1 2 5 (by omega) (by omega), f 1 l 5 (by omega) (by omega)]
    exact ⟨((ao l).symm.trans (ag w0).1).trans (ao 2), (ag w0).2⟩
  · rw [(ao l).usedE]
    exact us
theorem SY.seek {M : Mm} {t w v : Int} {l d h : Nat} (s : SY M t l d w) (hv : 0 ≤ v ∧ v ≤ 320) : SY (mup M 11 h 2 v) t l d w ∧ ∀ k, mup M 11 h 2 v 11 k 0 = M 11 k 0 := by
  have k0 : ∀ k, mup M 11 h 2 v 11 k 0 = M 11 k 0 := fun k => mup_off (by omega)
  have k1 : ∀ k, mup M 11 h 2 v 11 k 1 = M 11 k 1 := fun k => mup_off (by omega)
  have e2 : ∀ K i k : Nat, K ≠ 11 → mup M 11 h 2 v K i k = M K i k := fun K i k hk => mup_off (by omega)
  refine ⟨s.hand (fun K i k hk _ => e2 K i k hk) (fun k hk => ?_) (fun k hk ho => ?_) (fun n hn op => ?_), k0⟩
  · have r := s.ht k hk
    refine ⟨by rw [k0]; exact r.1, by rw [k1]; exact r.2.1, ?_⟩
    by_cases z : k = h
    · rw [z, mup_at]
      exact hv
    · rw [mup_off (by omega)]
      exact r.2.2
  · rw [k0] at ho
    rw [k1, e2 2 _ _ (by omega)]
    exact s.2.1.2.2.1 k hk ho
  · refine (s.2.1.2.2.2 n hn ⟨?_, ?_⟩).to (fun k i hk hi => ?_)
    · rw [← e2 2 _ _ (by omega)]
      exact op.1
    · rw [← e2 2 _ _ (by omega)]
      exact op.2
    · exact mup_off (by omega)
theorem write_ok {M : Mm} {t v : Int} {h L : Nat} (hs : SYS M t) (ht : t ≤ 1000) (hh : h < 6) (ho : M 11 h 0 ≠ 0) (hL : 1 ≤ L ∧ L ≤ 64) (hv : 0 ≤ v ∧ v ≤ 255) : ∃ r M', F_X3_write M (h : Int) (L : Int) v = some (r, M') ∧ NX M M' t := by
  obtain ⟨l, d, s⟩ := hs
  have r := s.ht h hh
  obtain ⟨p, ep⟩ : ∃ p : Nat, M 11 h 2 = p := ⟨(M 11 h 2).toNat, by omega⟩
  obtain ⟨n, en⟩ : ∃ n : Nat, M 11 h 1 = n := ⟨(M 11 h 1).toNat, by omega⟩
  have n32 : n < 32 := by omega
  unfold F_X3_write
  rw [pw_ok s.pw, xb1_s, op_ok hh ho, xb1_s, rn_ok (by omega), xb1_s, rn_ok hv, xb1_s, ep, xk_t (rgk (by omega))]
  by_cases z : (p : Int) + (L : Int) ≤ 320
  · obtain ⟨M1, e1, sy, D, ag, fr⟩ := drf_ok s
    have h11 : ∀ k i, M1 11 k i = M 11 k i := fun k i => fr 11 k i (by omega)
    have sf : M1 2 (33 * d + n) 0 = 1 := by
      have := s.2.1.2.2.1 h hh ho
      rw [en, Int.toNat_natCast] at this
      exact (ag.k2 n32 (by omega)).trans this
    obtain ⟨M2, e2, g2, bs⟩ := writeRow_ok D.1.2.1 n32 sf hL.2 (show p + L ≤ 320 by omega) hv
    have D2 := bs_dok D sy.ht n32 bs g2
    obtain ⟨r3, M3, e3, o⟩ := fin (M2 2 (33 * d + n) 3) s (M := M2) (fun K i k hk => ((bs.fx n32).fr K i k hk).trans (fr K i k hk)) D2 ht
    rw [if_pos z, e1, xb1_s, xk_t sy.ix.d01, sy.ix.d, h11, h11, en, ep, at_ok n32, xb1_s, xk_t sy.ix.d01, e2, xb1_s, e3, xb2_s]
    by_cases y : r3 < 0
    · rw [if_pos y]
      refine ⟨r3, M3, rfl, ?_⟩
      rcases o with ⟨o1, o2⟩ | ⟨o1, -⟩
      · exact Or.inl ⟨o1, fun k _ => o2 k 0⟩
      · exact Or.inr o1
    · rw [if_neg y, xl_e]
      rcases o with ⟨⟨l', d', o1⟩, o2⟩ | ⟨-, o2⟩
      · have sk := o1.seek (h := h) (v := (p : Int) + (L : Int)) (by omega)
        exact ⟨r3, _, rfl, Or.inl ⟨⟨l', d', sk.1⟩, fun k _ => (sk.2 k).trans (o2 k 0)⟩⟩
      · omega
  · rw [if_neg z]
    exact ⟨-5, M, rfl, NX.self ⟨l, d, s⟩⟩
theorem truncate_ok {M : Mm} {t : Int} {n a : Nat} (hs : SYS M t) (ht : t ≤ 1000) (hn : LV M n) (ha : a ≤ 320) : ∃ r M', F_X3_truncate M (n : Int) (a : Int) = some (r, M') ∧ NX M M' t := by
  obtain ⟨l, d, s⟩ := hs
  unfold F_X3_truncate
  rw [pw_ok s.pw, xb1_s, nd_ok s.ix hn.1 (hn.2 l d s.ix), xb1_s, rn_ok (by omega), xb1_s, xk_t s.ix.l01, s.ix.l, at_ok hn.1, xb1_s]
  by_cases z : M 2 (33 * l + n) 0 = 1
  · obtain ⟨M1, e1, sy, D, ag, fr⟩ := drf_ok s
    obtain ⟨M2, e2, g2, bs⟩ := resize_ok D.1.2.1 hn.1 ((ag.k2 hn.1 (by omega)).trans z) ha
    have fr2 : Fr M M2 d := fun K i k hk => ((bs.fx hn.1).fr K i k hk).trans (fr K i k hk)
    have I2 : IDX M2 l d := s.ix.fr fr2
    obtain ⟨r3, M3, e3, nx⟩ := finx (M2 2 (33 * l + n) 3) s fr2 (bs_dok D sy.ht hn.1 bs g2) ht
    rw [if_pos z, e1, xb1_s, xk_t sy.ix.d01, xk_t sy.ix.d01, sy.ix.d, at_ok hn.1, xb1_s, e2, xb1_s, xk_t I2.l01, I2.l, at_ok hn.1, xb1_s, e3, xb2_s]
    exact ⟨r3, M3, rfl, nx⟩
  · rw [if_neg z]
    exact ⟨-3, M, rfl, NX.self ⟨l, d, s⟩⟩
theorem punch_ok {M : Mm} {t : Int} {n p : Nat} (hs : SYS M t) (ht : t ≤ 1000) (hn : LV M n) (hp : p < 20) : ∃ r M', F_X3_punch M (n : Int) (p : Int) = some (r, M') ∧ NX M M' t := by
  obtain ⟨l, d, s⟩ := hs
  unfold F_X3_punch
  rw [pw_ok s.pw, xb1_s, nd_ok s.ix hn.1 (hn.2 l d s.ix), xb1_s, rn_ok (by omega), xb1_s, xk_t s.ix.l01, s.ix.l, at_ok hn.1, xb1_s]
  by_cases z : M 2 (33 * l + n) 0 = 1
  · obtain ⟨M1, e1, sy, D, ag, fr⟩ := drf_ok s
    obtain ⟨M2, e2, g2, bs⟩ := put_g2 (b := 0) D.1.2.1 hn.1 ((ag.k2 hn.1 (by omega)).trans z) hp (by decide) (fun h => absurd rfl h)
    have fr2 : Fr M M2 d := fun K i k hk => ((bs.fx hn.1).fr K i k hk).trans (fr K i k hk)
    have I2 : IDX M2 l d := s.ix.fr fr2
    have D2 := bs_dok D sy.ht hn.1 bs g2
    obtain ⟨r3, M3, e3, nx3⟩ := finx 0 s fr2 D2 ht
    obtain ⟨r4, M4, e4, nx4⟩ := finx 1 s fr2 D2 ht
    rw [if_pos z, e1, xb1_s, xk_t sy.ix.d01, xk_t sy.ix.d01, sy.ix.d, at_ok hn.1, xb1_s, e2, xb1_s, xk_t I2.l01, I2.l, at_ok hn.1, xb1_s, blockAt_ok hp, xb1_s, e3, e4, xb2_s, xb2_s]
    split
    · exact ⟨r3, M3, rfl, nx3⟩
    · exact ⟨r4, M4, rfl, nx4⟩
  · rw [if_neg z]
    exact ⟨-3, M, rfl, NX.self ⟨l, d, s⟩⟩
theorem share94 {M : Mm} {t : Int} {l d n p : Nat} {b : Int} (s : SY M t l d 7) (ht : t ≤ 1000) (hn : n < 32) (hp : p < 20) (z : M 2 (33 * l + n) 0 = 1) (hb : 0 ≤ b ∧ b < 128) : ∃ r M', F_X3_share_94 M (n : Int) (p : Int) (33 * l + n) b = some (r, M') ∧ NX M M' t := by
  obtain ⟨r1, e1, h1⟩ := elsewhere_ok (M := M) (i := 33 * l + n) (b := b) (v := (p : Int))
  unfold F_X3_share_94
  rw [e1, xb1_s]
  by_cases c1 : r1 = 0
  · rw [if_pos c1, xk_t (rgk (by omega)), xk_t (rgk (by omega))]
    by_cases c2 : ((p : Int) + 1) * 16 ≤ M 2 (33 * l + n) 3
    · obtain ⟨M1, e2, sy, D, ag, fr⟩ := drf_ok s
      obtain ⟨M2, e3, g2, bs⟩ := put_g2 (b := b) D.1.2.1 hn ((ag.k2 hn (by omega)).trans z) hp hb (fun _ => by
        rw [ag.k2 hn (by omega)]
        omega)
      have fr2 : Fr M M2 d := fun K i k hk => ((bs.fx hn).fr K i k hk).trans (fr K i k hk)
      have D2 := bs_dok D sy.ht hn bs g2
      obtain ⟨r3, M3, e4, nx3⟩ := finx 0 s fr2 D2 ht
      obtain ⟨r4, M4, e5, nx4⟩ := finx 1 s fr2 D2 ht
      rw [if_pos c2, e2, xb1_s, xk_t sy.ix.d01, xk_t sy.ix.d01, sy.ix.d, at_ok hn, xb1_s, e3, xb1_s, e4, e5, xb2_s, xb2_s]
      split
      · exact ⟨r3, M3, rfl, nx3⟩
      · exact ⟨r4, M4, rfl, nx4⟩
    · rw [if_neg c2]
      exact ⟨-5, M, rfl, NX.self ⟨l, d, s⟩⟩
  · rw [if_neg c1]
    exact ⟨-6, M, rfl, NX.self ⟨l, d, s⟩⟩
theorem share_ok {M : Mm} {t : Int} {n m p q : Nat} (hs : SYS M t) (ht : t ≤ 1000) (hn : LV M n) (hm : LV M m) (hp : p < 20) (hq : q < 20) : ∃ r M', F_X3_share M (n : Int) (p : Int) (m : Int) (q : Int) = some (r, M') ∧ NX M M' t := by
  obtain ⟨l, d, s⟩ := hs
  have self : ∀ r : Int, ∃ r' M', some (r, M) = some (r', M') ∧ NX M M' t := fun r => ⟨r, M, rfl, NX.self ⟨l, d, s⟩⟩
  unfold F_X3_share
  rw [pw_ok s.pw, xb1_s, nd_ok s.ix hn.1 (hn.2 l d s.ix), xb1_s, nd_ok s.ix hm.1 (hm.2 l d s.ix), xb1_s, rn_ok (by omega), xb1_s, rn_ok (by omega), xb1_s, xk_t s.ix.l01, s.ix.l, at_ok hn.1, xb1_s]
  by_cases z : M 2 (33 * l + n) 0 = 1
  · rw [if_pos z, xk_t s.ix.l01, at_ok hm.1, xb1_s]
    by_cases y : M 2 (33 * l + m) 0 = 1
    · obtain ⟨r1, M1, e1, nx⟩ := share94 (b := M 5 (33 * l + m) q) s ht hn.1 hp z (((s.g2.1 m hm.1).2.2 q hq).1)
      rw [if_pos y, xk_t s.ix.l01, xb1_s, blockAt_ok hq, xb1_s, e1]
      split
      · split
        · exact ⟨r1, M1, rfl, nx⟩
        · exact self _
      · exact ⟨r1, M1, rfl, nx⟩
    · rw [if_neg y]
      exact self _
  · rw [if_neg z]
    exact self _
theorem G1.owner {M M' : Mm} {o x : Nat} (g : G1 M o) (h : ∀ K j k : Nat, ¬ (K = 2 ∧ j = 33 * o + x ∧ k = 1) → M' K j k = M K j k) (h1 : 0 ≤ M' 2 (33 * o + x) 1 ∧ M' 2 (33 * o + x) 1 ≤ 3) : G1 M' o := by
  have S := g.se
  have k2 : ∀ n k, k ≠ 1 → M' 2 (33 * o + n) k = M 2 (33 * o + n) k := fun n k hk => h 2 _ _ (by omega)
  have k34 : ∀ n k, M' 3 (33 * o + n) k = M 3 (33 * o + n) k ∧ M' 4 (33 * o + n) k = M 4 (33 * o + n) k := fun n k => ⟨h 3 _ _ (by omega), h 4 _ _ (by omega)⟩
  have lk : ∀ z : Int, lnk M' o z = lnk M o z := fun z => sm_congr fun n _ _ => occ_same (k2 n 8 (by omega)) (fun k _ => (k34 n k).2)
  refine SE.g1 ⟨?_, fun n hn => ?_, fun n hn => ?_, fun n hn => ?_, fun n hn k hk => ?_, fun n hn hs => ?_⟩ (fun n hn => ?_)
  · have a0 := k2 0 0 (by omega)
    have a2 := k2 0 2 (by omega)
    rw [Nat.add_zero] at a0 a2
    rw [a0, a2]
    exact S.1
  · obtain ⟨r0, r1, r2, r4, r5, r8⟩ := S.rg hn
    unfold Rgs
    rw [k2 n 0 (by omega), k2 n 2 (by omega), k2 n 4 (by omega), k2 n 5 (by omega), k2 n 8 (by omega)]
    refine ⟨r0, ?_, r2, r4, r5, r8⟩
    by_cases z : n = x
    · rw [z]
      exact h1
    · rw [h 2 _ _ (by omega)]
      exact r1
  · exact (S.en hn).ag (k2 n 8 (by omega)) (fun k _ => (k34 n k).1) (fun k _ => (k34 n k).2)
  · unfold LkE
    rw [lk, k2 n 0 (by omega), k2 n 2 (by omega)]
    exact S.lk hn
  · rw [k2 n 8 (by omega)] at hk
    rw [(k34 n k).2, k2 _ 0 (by omega), k2 _ 4 (by omega)]
    exact S.is hn k hk
  · rw [k2 n 0 (by omega)] at hs
    obtain ⟨j, hj⟩ := S.up hn hs
    exact acyc_upd (P := fun _ => False) S.pr (fun m _ _ => k2 m 4 (by omega)) (fun _ _ z => z.elim) j n hn hj
  · unfold LkC
    rw [k2 n 0 (by omega), k2 n 2 (by omega)]
    exact g.lc hn
theorem setOwner_ok {M : Mm} {t u : Int} {n : Nat} (hs : SYS M t) (ht : t ≤ 1000) (hn : LV M n) (hu : 0 ≤ u ∧ u ≤ 3) : ∃ r M', F_X3_setOwner M (n : Int) u = some (r, M') ∧ NX M M' t := by
  obtain ⟨l, d, s⟩ := hs
  obtain ⟨M1, e1, sy, D, ag, fr⟩ := drf_ok s
  have n32 := hn.1
  have f2 : ∀ K j k : Nat, ¬ (K = 2 ∧ j = 33 * d + n ∧ k = 1) → mup M1 2 (33 * d + n) 1 u K j k = M1 K j k := fun K j k hk => mup_off hk
  have z2 : mup M1 2 (33 * d + n) 1 u 2 (33 * d + n) 1 = u := mup_at
  unfold F_X3_setOwner
  rw [pw_ok s.pw, xb1_s, nd_ok s.ix hn.1 (hn.2 l d s.ix), xb1_s, rn_ok hu, xb1_s, e1, xb1_s, xk_t sy.ix.d01, sy.ix.d, at_ok hn.1, xb1_s, xl_e]
  generalize mup M1 2 (33 * d + n) 1 u = M2 at f2 z2
  have fx : Fx M1 M2 d := fun K j k a b => f2 K j k (by omega)
  have fr2 : Fr M M2 d := fun K i k hk => (fx.fr K i k hk).trans (fr K i k hk)
  have I2 : IDX M2 l d := s.ix.fr fr2
  have k : ∀ m i, i ≠ 1 → M2 2 (33 * d + m) i = M1 2 (33 * d + m) i := fun m i hi => f2 2 _ _ (by omega)
  have D2 : DOK M2 d t := D.chg ⟨D.1.1.owner f2 (by rw [z2]; exact hu), D.1.2.1.ag ⟨fun m hm => ⟨k m 3 (by omega), k m 0 (by omega), fun i _ => f2 5 _ _ (by omega)⟩, fun i _ => f2 8 _ _ (by omega)⟩, D.1.2.2.ag fx.ag3⟩ fx sy.ht (fun m hm sm _ => (k m 0 (by omega)).trans sm) (fun m hm op => D.2.2.2 m hm ⟨(k m 0 (by omega)).symm.trans op.1, (k m 2 (by omega)).symm.trans op.2⟩)
  obtain ⟨r3, M3, e3, nx⟩ := finx (M2 2 (33 * l + n) 1) s fr2 D2 ht
  rw [xk_t I2.l01, I2.l, at_ok hn.1, xb1_s, e3, xb2_s]
  exact ⟨r3, M3, rfl, nx⟩
theorem setQuota_ok {M : Mm} {t q : Int} {u : Nat} (hs : SYS M t) (ht : t ≤ 1000) (hu : u < 4) (hq : 0 ≤ q ∧ q ≤ 120) : ∃ r M', F_X3_setQuota M (u : Int) q = some (r, M') ∧ NX M M' t := by
  obtain ⟨l, d, s⟩ := hs
  obtain ⟨M1, e1, sy, D, ag, fr⟩ := drf_ok s
  have hd := s.ix.ld
  have f2 : ∀ K j k : Nat, ¬ (K = 6 ∧ j = d ∧ k = u) → mup M1 6 d u q K j k = M1 K j k := fun K j k hk => mup_off hk
  have z2 : mup M1 6 d u q 6 d u = q := mup_at
  unfold F_X3_setQuota F_X2_limit
  rw [pw_ok s.pw, xb1_s, rn_ok (by omega), xb1_s, rn_ok hq, xb1_s, e1, xb1_s, xk_t sy.ix.d01, sy.ix.d, if_neg (by omega), if_neg (by omega), xk_t (by omega), xl_e, Int.toNat_natCast, xb1_s]
  generalize mup M1 6 d u q = M2 at f2 z2
  have fr2 : Fr M M2 d := fun K i k hk => (f2 K i k (by omega)).trans (fr K i k hk)
  have I2 : IDX M2 l d := s.ix.fr fr2
  have k2 : ∀ K i k : Nat, K ≠ 6 → M2 K i k = M1 K i k := fun K i k hk => f2 K i k (by omega)
  have D2 : DOK M2 d t := by
    refine ⟨⟨D.1.1.ag fun n hn => ⟨fun k _ _ => k2 2 _ _ (by omega), fun k _ => k2 3 _ _ (by omega), fun k _ => k2 4 _ _ (by omega)⟩, D.1.2.1.ag ⟨fun n hn => ⟨k2 2 _ _ (by omega), k2 2 _ _ (by omega), fun k _ => k2 5 _ _ (by omega)⟩, fun k _ => k2 8 _ _ (by omega)⟩, fun v hv => ?_⟩, D.2.1.to (k2 1 _ _ (by omega)), fun h h6 ho => ?_, fun n hn op => (D.2.2.2 n hn ⟨?_, ?_⟩).to (fun h k _ _ => k2 11 _ _ (by omega))⟩
    · by_cases z : v = u
      · rw [z, z2]
        exact hq
      · rw [f2 6 _ _ (by omega)]
        exact D.1.2.2 v hv
    · rw [k2 11 _ _ (by omega)] at ho
      rw [k2 11 _ _ (by omega), k2 2 _ _ (by omega)]
      exact D.2.2.1 h h6 ho
    · rw [← k2 2 _ _ (by omega)]
      exact op.1
    · rw [← k2 2 _ _ (by omega)]
      exact op.2
  obtain ⟨r3, M3, e3, nx⟩ := finx (M2 6 l u) s fr2 D2 ht
  rw [xk_t I2.l01, I2.l, limitOf_ok hu, xb1_s, e3, xb2_s]
  exact ⟨r3, M3, rfl, nx⟩
