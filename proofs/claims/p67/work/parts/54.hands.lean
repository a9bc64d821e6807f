/-! HANDLES, COMMITS, POWER -/
theorem open29 {M : Mm} {n c : Nat} (hc : c < 6) (h0 : M 11 c 0 = 0) (hb : ∀ j, j < c → M 11 j 0 ≠ 0) : ∀ (j q k : Nat), k + j = c → F_X3_open_29 (q + j + 1) M (n : Int) (k : Int) = some ((c : Int), mup (mup (mup M 11 c 0 1) 11 c 1 (n : Int)) 11 c 2 0)
  | 0, q, k, hk => by
    have e : k = c := by omega
    subst e
    unfold F_X3_open_29 F_X0_take
    rw [if_neg (by omega), xk_t (by omega), Int.toNat_natCast, if_pos h0, xk_t (by omega), xl_e, xl_e, xl_e, xb1_s]
  | j + 1, q, k, hk => by
    show F_X3_open_29 ((q + j + 1) + 1) M (n : Int) (k : Int) = _
    unfold F_X3_open_29
    rw [if_neg (by omega), xk_t (by omega), Int.toNat_natCast, if_neg (hb k (by omega)), xk_t (rgk (by omega)), suc, open29 hc h0 hb j q (k + 1) (by omega)]
theorem open_ok {M : Mm} {t : Int} {n c : Nat} (hs : SYS M t) (hn : LV M n) (hc : c < 6) (h0 : M 11 c 0 = 0) (hb : ∀ j, j < c → M 11 j 0 ≠ 0) : ∃ r M', F_X3_open M (n : Int) = some (r, M') ∧ ((r = -3 ∧ M' = M) ∨ (r = c ∧ SYS M' t ∧ M' 11 c 0 = 1 ∧ ∀ k, k ≠ c → M' 11 k 0 = M 11 k 0)) := by
  obtain ⟨l, d, s⟩ := hs
  unfold F_X3_open
  rw [pw_ok s.pw, xb1_s, nd_ok s.ix hn.1 (hn.2 l d s.ix), xb1_s, xk_t s.ix.l01, s.ix.l, at_ok hn.1, xb1_s]
  by_cases z : M 2 (33 * l + n) 0 = 1
  · have e : F_X3_open_29 FU M (n : Int) 0 = some ((c : Int), mup (mup (mup M 11 c 0 1) 11 c 1 (n : Int)) 11 c 2 0) := by
      have := open29 (n := n) hc h0 hb c (FU - (c + 1)) 0 (by omega)
      rw [show FU - (c + 1) + c + 1 = FU by have := fu_big; omega] at this
      exact this
    have f : ∀ K i k : Nat, ¬ (K = 11 ∧ i = c) → mup (mup (mup M 11 c 0 1) 11 c 1 (n : Int)) 11 c 2 0 K i k = M K i k := fun K i k hk => by rw [mup_off (by omega), mup_off (by omega), mup_off (by omega)]
    have a0 : mup (mup (mup M 11 c 0 1) 11 c 1 (n : Int)) 11 c 2 0 11 c 0 = 1 := by rw [mup_off (by omega), mup_off (by omega), mup_at]
    have a1 : mup (mup (mup M 11 c 0 1) 11 c 1 (n : Int)) 11 c 2 0 11 c 1 = n := by rw [mup_off (by omega), mup_at]
    have a2 : mup (mup (mup M 11 c 0 1) 11 c 1 (n : Int)) 11 c 2 0 11 c 2 = 0 := mup_at
    rw [if_pos z, e]
    generalize mup (mup (mup M 11 c 0 1) 11 c 1 (n : Int)) 11 c 2 0 = M1 at f a0 a1 a2
    have n32 := hn.1
    refine ⟨c, M1, rfl, Or.inr ⟨rfl, ⟨l, d, s.hand (fun K i k h1 _ => f K i k (by omega)) (fun h h6 => ?_) (fun h h6 ho => ?_) (fun m hm op => ?_)⟩, a0, fun k hk => f 11 k 0 (by omega)⟩⟩
    · by_cases y : h = c
      · rw [y, a0, a1, a2]
        exact ⟨Or.inr rfl, by omega, by omega⟩
      · rw [f 11 h 0 (by omega), f 11 h 1 (by omega), f 11 h 2 (by omega)]
        exact s.ht h h6
    · by_cases y : h = c
      · rw [y, a1, Int.toNat_natCast, f 2 _ _ (by omega)]
        exact z
      · rw [f 11 h 0 (by omega)] at ho
        rw [f 11 h 1 (by omega), f 2 _ _ (by omega)]
        exact s.2.1.2.2.1 h h6 ho
    · obtain ⟨h, h1, h2, h3⟩ := s.2.1.2.2.2 m hm ⟨by rw [← f 2 _ _ (by omega)]; exact op.1, by rw [← f 2 _ _ (by omega)]; exact op.2⟩
      have y : h ≠ c := fun w => by
        rw [w] at h2
        exact h2 h0
      exact ⟨h, h1, by rw [f 11 h 0 (by omega)]; exact h2, by rw [f 11 h 1 (by omega)]; exact h3⟩
  · rw [if_neg z]
    exact ⟨-3, M, rfl, Or.inl ⟨rfl, rfl⟩⟩
theorem seek_ok {M : Mm} {t v : Int} {h : Nat} (hs : SYS M t) (hh : h < 6) (ho : M 11 h 0 ≠ 0) (hv : 0 ≤ v ∧ v ≤ 320) : ∃ r M', F_X3_seek M (h : Int) v = some (r, M') ∧ SYS M' t ∧ ∀ k, M' 11 k 0 = M 11 k 0 := by
  obtain ⟨l, d, s⟩ := hs
  have sk := s.seek (h := h) hv
  unfold F_X3_seek
  rw [pw_ok s.pw, xb1_s, op_ok hh ho, xb1_s, rn_ok hv, xb1_s, xl_e]
  exact ⟨_, _, rfl, ⟨l, d, sk.1⟩, sk.2⟩
theorem close_ok {M : Mm} {t : Int} {h : Nat} (hs : SYS M t) (ht : t ≤ 1000) (hh : h < 6) (ho : M 11 h 0 ≠ 0) : ∃ r M', F_X3_close M (h : Int) = some (r, M') ∧ ((SYS M' (t + 1) ∧ M' 11 h 0 = 0 ∧ ∀ k, k ≠ h → M' 11 k 0 = M 11 k 0) ∨ DOWN M' (t + 1)) := by
  obtain ⟨l, d, s⟩ := hs
  have hr := s.ht
  have r := hr h hh
  obtain ⟨n, en⟩ : ∃ n : Nat, M 11 h 1 = n := ⟨(M 11 h 1).toNat, by omega⟩
  have n32 : n < 32 := by omega
  have hd := s.ix.ld
  obtain ⟨M1, e1, z0, f0⟩ := leave_ok (M := M) (o := h)
  have k0 : ∀ k, k ≠ h → M1 11 k 0 = M 11 k 0 := fun k hk => f0 11 k 0 (by omega) (by omega)
  have k1 : ∀ k, M1 11 k 1 = M 11 k 1 := fun k => f0 11 k 1 (by omega) (by omega)
  have k2 : ∀ k, M1 11 k 2 = M 11 k 2 := fun k => f0 11 k 2 (by omega) (by omega)
  have ft : ∀ K i k : Nat, K ≠ 11 → K ≠ 12 → M1 K i k = M K i k := fun K i k a b => f0 K i k b (by omega)
  have hr1 : HR M1 := fun k hk => by
    rw [k1, k2]
    by_cases z : k = h
    · rw [z, z0]
      exact ⟨Or.inl rfl, (hr h hh).2⟩
    · rw [k0 k z]
      exact hr k hk
  have hf1 : HF M1 l := fun k hk hop => by
    have z : k ≠ h := fun z => by
      rw [z] at hop
      exact hop z0
    rw [k0 k z] at hop
    rw [k1, ft 2 _ _ (by omega) (by omega)]
    exact s.2.1.2.2.1 k hk hop
  -- a file held by another handle is held still
  have hold : ∀ m, m ≠ n → HeldP M m → HeldP M1 m := fun m hm hp => by
    obtain ⟨k, a, b, c⟩ := hp
    have z : k ≠ h := fun z => by
      rw [z] at c
      omega
    exact ⟨k, a, by rw [k0 k z]; exact b, by rw [k1]; exact c⟩
  have orp : ∀ m, Orp M1 l m → Orp M l m := fun m op => ⟨by rw [← ft 2 _ _ (by omega) (by omega)]; exact op.1, by rw [← ft 2 _ _ (by omega) (by omega)]; exact op.2⟩
  have ao : ∀ o, Ag M M1 o o := fun o => ag_of fun K i k _ _ => ft K i k (by omega) (by omega)
  have I1 : IDX M1 l d := ⟨(ft 0 0 0 (by omega) (by omega)).trans s.ix.1, (ft 0 0 1 (by omega) (by omega)).trans s.ix.2.1, s.ix.2.2⟩
  have fin1 : OH M1 l → ∀ v : Int, ∃ r M', some (v, M1) = some (r, M') ∧ ((SYS M' (t + 1) ∧ M' 11 h 0 = 0 ∧ ∀ k, k ≠ h → M' 11 k 0 = M 11 k 0) ∨ DOWN M' (t + 1)) := fun oh v => ⟨v, M1, rfl, Or.inl ⟨⟨l, d, (s.hand ft hr1 hf1 oh).up (by omega) (Int.le_refl 7)⟩, z0, k0⟩⟩
  unfold F_X3_close
  rw [pw_ok s.pw, xb1_s, op_ok hh ho, xb1_s, e1, xb1_s, xk_t I1.l01, I1.l, en, at_ok n32, xb1_s, forsaken_ok, xb1_s]
  by_cases z : Orp M1 l n
  · obtain ⟨r2, e2, o2⟩ := held_ok (M := M1) n
    rw [if_pos (show M1 2 (33 * l + n) 0 = 1 ∧ M1 2 (33 * l + n) 2 = 0 from z), if_neg (by decide), e2, xb1_s]
    rcases o2 with ⟨r0, nh⟩ | ⟨r0, yh⟩
    · -- all but the names without holders, then the draft
      have sya : SYA M1 t l d 7 := by
        obtain ⟨⟨I, w1, p, u, -, la, ag⟩, D, us⟩ := s
        have zz : ∀ k, M1 0 0 k = M 0 0 k := fun k => ft 0 0 k (by omega) (by omega)
        refine ⟨I1, by rw [zz]; exact w1, by rw [zz]; exact p, by rw [zz]; exact u, hr1, la.to (ao 2) (ft 1 2 5 (by omega) (by omega)), fun w0 => ?_⟩
        rw [zz] at w0
        rw [ft 1 2 5 (by omega) (by omega), ft 1 l 5 (by omega) (by omega)]
        exact ⟨((ao l).symm.trans (ag w0).1).trans (ao 2), (ag w0).2⟩
      obtain ⟨M2, e3, a2, m2, f2⟩ := draft_ok I1
      have gg2 : GG M2 d := (s.2.1.1.ag (ao l)).ag a2
      have sya2 : SYA M2 t l d 7 := sya.fr f2
      have orp2 : ∀ m, m < 32 → Orp M2 d m → Orp M l m := fun m hm op => orp m ⟨by rw [← a2.k2 hm (by omega)]; exact op.1, by rw [← a2.k2 hm (by omega)]; exact op.2⟩
      obtain ⟨M3, e4, gg3, dr⟩ := dropF_ok gg2 n32 ⟨(a2.k2 n32 (by omega)).trans z.1, (a2.k2 n32 (by omega)).trans z.2⟩
      have fx := dr.fx n32
      have f23 : Fr M1 M3 d := fun K i k hk => (fx.fr K i k hk).trans (f2 K i k hk)
      have sya3 : SYA M3 t l d 7 := sya.fr f23
      have h3 : ∀ k i, M3 11 k i = M1 11 k i := fun k i => f23 11 k i (by omega)
      have al3 : Ag M1 M3 l l := f23.ag hd.1
      have D3 : DOK M3 d t := by
        refine ⟨gg3, ((s.2.1.2.1.to (ft 1 l 5 (by omega) (by omega))).to m2).to fx.made, fun k hk hop => ?_, fun m hm op => ?_⟩
        · rw [h3] at hop
          have rr := (hr1 k hk).2.1
          have q := hf1 k hk hop
          rw [h3]
          have w : (M1 11 k 1).toNat ≠ n := fun w => nh ⟨k, hk, hop, by omega⟩
          rw [dr.ze.k w, a2.k2 (by omega) (by omega)]
          exact q
        · have w : m ≠ n := fun w => by
            have := op.1
            rw [w, dr.1 0 (by omega)] at this
            exact absurd this (by decide)
          have := hold m w (s.2.1.2.2.2 m hm (orp2 m hm ⟨by rw [← dr.ze.k w]; exact op.1, by rw [← dr.ze.k w]; exact op.2⟩))
          exact this.to (fun k i _ _ => h3 k i)
      obtain ⟨r3, M4, e5, o⟩ := settle_ok (n : Int) sya3 ((s.g1.ag (ao l).1).ag al3.1).er D3 ht
      have us : usedT M3 d ≤ 120 := by
        have a := dr.used gg2.1.er
        rw [a2.usedE, (ao l).usedE] at a
        have := s.2.2
        omega
      have tk : ∀ u : Nat, takB M3 d u ≤ takB M3 l u := fun u => by
        have a := dr.tak (u := (u : Int)) gg2.1.er
        rw [a2.takE] at a
        rw [al3.takE]
        exact a
      rw [if_pos r0, e3, xb1_s, xk_t sya2.1.d01, sya2.1.d, e4, xb1_s, e5, xb2_s]
      refine ⟨r3, M4, rfl, ?_⟩
      rcases o with ⟨-, -, o | ⟨u, -, o⟩⟩ | ⟨o1, o2⟩ | ⟨o, -⟩
      · omega
      · have := tk u
        omega
      · exact Or.inl ⟨o1, by rw [o2, h3]; exact z0, fun k hk => by rw [o2, h3]; exact k0 k hk⟩
      · exact Or.inr o
    · rw [if_neg (by omega)]
      refine fin1 (fun m hm op => ?_) _
      by_cases w : m = n
      · rw [w]
        exact yh
      · exact hold m w (s.2.1.2.2.2 m hm (orp m op))
  · rw [if_neg (show ¬ (M1 2 (33 * l + n) 0 = 1 ∧ M1 2 (33 * l + n) 2 = 0) from z), if_pos rfl]
    refine fin1 (fun m hm op => ?_) _
    have w : m ≠ n := fun w => by
      rw [w] at op
      exact z op
    exact hold m w (s.2.1.2.2.2 m hm (orp m op))
theorem down_ok {M : Mm} {t : Int} (h : DOWN M t) : F_X3_isDown M = some 1 := by
  obtain ⟨l, d, -, -, p, -⟩ := h
  unfold F_X3_isDown
  rw [xk_t (Or.inr p), p]
theorem up_ok {M : Mm} {t : Int} (h : SYS M t) : F_X3_isDown M = some 0 := by
  obtain ⟨l, d, s⟩ := h
  unfold F_X3_isDown
  rw [xk_t (Or.inl s.pw), s.pw]
theorem sync_ok {M : Mm} {t : Int} {l d : Nat} (s : SY M t l d 7) : ∃ r M', F_X3_sync M = some (r, M') ∧ ((r = 1 ∧ SY M' t l d 7 ∧ M' 0 0 4 = 0 ∧ Ag M M' l l ∧ M' 1 l 5 = M 1 l 5 ∧ ∀ k i, M' 11 k i = M 11 k i) ∨ (r = 0 ∧ DOWN M' t)) := by
  unfold F_X3_sync
  rw [pw_ok s.pw, xb1_s]
  by_cases z : M 0 0 4 = 0
  · rw [if_pos z]
    exact ⟨1, M, rfl, Or.inl ⟨rfl, s, z, ag_of (fun _ _ _ _ _ => rfl), rfl, fun _ _ => rfl⟩⟩
  · obtain ⟨r, M1, e, o⟩ := commit_ok s
    rw [if_neg z, e, xb2_s]
    rcases o with ⟨r1, s1, c⟩ | ⟨r0, dn⟩
    · rw [if_neg (by omega)]
      exact ⟨1, M1, rfl, Or.inl ⟨rfl, s1, c.1, c.live s.ix.ld.2.1, c.2.2.2 1 l 5 (by omega) (by have := s.ix.ld; omega) (by omega), c.h11⟩⟩
    · rw [if_pos r0]
      exact ⟨0, M1, rfl, Or.inr ⟨rfl, dn⟩⟩
theorem flush20 {M : Mm} {t : Int} {l d : Nat} (s : SY M t l d 7) : ∃ r M', F_X3_flush_20 M = some (r, M') ∧ ((r = 1 ∧ M' = M) ∨ (r = 0 ∧ DOWN M' t)) := by
  unfold F_X3_flush_20
  by_cases z : M 0 0 7 = 2
  · obtain ⟨M1, e, h5, h4, hh, hf⟩ := fall_ok (M := mup M 0 0 7 (-1))
    rw [if_pos z, xl_e, e, xb1_s]
    refine ⟨0, M1, rfl, Or.inr ⟨rfl, s.down h5 h4 hh (fun K i k a b c => ?_)⟩⟩
    rw [hf K i k a b (by omega), mup_off (by omega)]
  · rw [if_neg z]
    exact ⟨1, M, rfl, Or.inl ⟨rfl, rfl⟩⟩
theorem flush_ok {M : Mm} {t : Int} {l d : Nat} (s : SY M t l d 7) : ∃ r M', F_X3_flush M = some (r, M') ∧ ((r = 1 ∧ SY M' t l d 7 ∧ ∀ k i, M' 11 k i = M 11 k i) ∨ (r = 0 ∧ DOWN M' t)) := by
  unfold F_X3_flush
  rw [pw_ok s.pw, xb1_s]
  by_cases z : M 0 0 4 ≤ 0
  · obtain ⟨r, M1, e, o⟩ := flush20 s
    rw [if_pos z, e]
    refine ⟨r, M1, rfl, ?_⟩
    rcases o with ⟨o1, o2⟩ | o
    · rw [o2]
      exact Or.inl ⟨o1, s, fun _ _ => rfl⟩
    · exact Or.inr o
  · obtain ⟨r, M1, e, o⟩ := commit_ok s
    rw [if_neg z, e, xb2_s]
    rcases o with ⟨r1, s1, c⟩ | ⟨r0, dn⟩
    · obtain ⟨r2, M2, e2, o2⟩ := flush20 s1
      rw [if_neg (by omega), e2]
      refine ⟨r2, M2, rfl, ?_⟩
      rcases o2 with ⟨p1, p2⟩ | o2
      · rw [p2]
        exact Or.inl ⟨p1, s1, c.h11⟩
      · exact Or.inr o2
    · rw [if_pos r0]
      exact ⟨0, M1, rfl, Or.inr ⟨rfl, dn⟩⟩
theorem cut_ok {M : Mm} {t : Int} {l d : Nat} (s : SY M t l d 7) : ∃ M', F_X3_cut M = some M' ∧ DOWN M' t ∧ ∀ K i k : Nat, 1 ≤ K → K ≤ 8 → M' K i k = M K i k := by
  obtain ⟨M1, e, h5, h4, hh, hf⟩ := fall_ok (M := M)
  unfold F_X3_cut
  rw [pw_ok s.pw, xb1_s, e, xb1_s]
  exact ⟨M1, rfl, s.down h5 h4 hh (fun K i k a b c => hf K i k a b (by omega)), fun K i k a b => hf K i k (by omega) (by omega) (by omega)⟩
theorem SY.fail {M M' : Mm} {t : Int} {l d : Nat} (s : SY M t l d 7) (f : ∀ K i k : Nat, ¬ (K = 0 ∧ i = 0 ∧ 7 ≤ k) → M' K i k = M K i k) : SY M' t l d 7 := by
  obtain ⟨⟨I, w1, p, u, r, la, ag⟩, D, us⟩ := s
  have z : ∀ k, k < 7 → M' 0 0 k = M 0 0 k := fun k hk => f 0 0 k (by omega)
  have ao : ∀ o, Ag M M' o o := fun o => ag_of fun K i k _ _ => f K i k (by omega)
  have h11 : ∀ h k, M' 11 h k = M 11 h k := fun h k => f 11 h k (by omega)
  refine ⟨⟨⟨(z 0 (by omega)).trans I.1, (z 1 (by omega)).trans I.2.1, I.2.2⟩, ?_, ?_, ?_, fun h h6 => ?_, la.to (ao 2) (f 1 2 5 (by omega)), fun w0 => ?_⟩, D.to (ao l) (D.2.1.to (f 1 l 5 (by omega))) r (fun h k _ _ => h11 h k), ?_⟩
  · rw [z 4 (by omega)]; exact w1
  · rw [z 5 (by omega)]; exact p
  · rw [z 6 (by omega)]; exact u
  · rw [h11, h11, h11]; exact r h h6
  · rw [z 4 (by omega)] at w0
    rw [f 1 2 5 (by omega), f 1 l 5 (by omega)]
    exact ⟨((ao l).symm.trans (ag w0).1).trans (ao 2), (ag w0).2⟩
  · rw [(ao l).usedE]
    exact us
theorem fail_ok {M : Mm} {t a b c : Int} {l d : Nat} (s : SY M t l d 7) (ha : 0 ≤ a ∧ a ≤ 3) (hb : 1 ≤ b ∧ b ≤ 40) (hc : 0 ≤ c ∧ c ≤ 40) : ∃ M', F_X3_fail M a b c = some M' ∧ SY M' t l d 7 ∧ ∀ k i, M' 11 k i = M 11 k i := by
  unfold F_X3_fail
  rw [rn_ok ha, xb1_s, rn_ok hb, xb1_s, rn_ok hc, xb1_s, xl_e, xl_e]
  have f : ∀ K i k : Nat, ¬ (K = 0 ∧ i = 0 ∧ 7 ≤ k) → mup (mup M 0 0 7 a) 0 0 8 c K i k = M K i k := fun K i k hk => by rw [mup_off (by omega), mup_off (by omega)]
  exact ⟨_, rfl, s.fail f, fun k i => f 11 k i (by omega)⟩
