/-! CALLS THAT MAKE -/
def NX (M M' : Mm) (t : Int) : Prop := (SYS M' (t + 1) ∧ ∀ h, h < 6 → M' 11 h 0 = M 11 h 0) ∨ DOWN M' (t + 1)
theorem NX.self {M : Mm} {t : Int} (h : SYS M t) : NX M M t := Or.inl ⟨h.up (by omega), fun _ _ => rfl⟩
theorem pw_ok {M : Mm} (h : M 0 0 5 = 0) : F_X3_needPower M = some () := by
  unfold F_X3_needPower
  rw [if_pos h]
theorem rn_ok {M : Mm} {x a b : Int} (h : a ≤ x ∧ x ≤ b) : F_X3_needRange M x a b = some () := by
  unfold F_X3_needRange
  rw [if_neg (by omega), if_pos h.2]
theorem nd_ok {M : Mm} {l d n : Nat} (I : IDX M l d) (hn : n < 32) (hs : M 2 (33 * l + n) 0 ≠ 0) : F_X3_needNode M (n : Int) = some () := by
  unfold F_X3_needNode
  rw [xk_t I.l01, I.l, at_ok hn, xb1_s, if_neg hs]
theorem ent_ok {M : Mm} {l d n : Nat} {a : Int} (I : IDX M l d) (hp : M 0 0 5 = 0) (hn : n < 32) (hs : M 2 (33 * l + n) 0 ≠ 0) (ha : 1 ≤ a ∧ a ≤ 99) : F_X3_needEntry M (n : Int) a = some () := by
  unfold F_X3_needEntry
  rw [pw_ok hp, xb1_s, nd_ok I hn hs, xb1_s, rn_ok ha, xb1_s]
theorem Ag.k2 {M M' : Mm} {o o' n k : Nat} (h : Ag M M' o o') (hn : n < 32) (hk : k < 9) : M' 2 (33 * o' + n) k = M 2 (33 * o + n) k := by
  by_cases y : k = 3
  · rw [y]
    exact (h.2.1.1 n hn).1
  · exact (h.1 n hn).1 k hk y
theorem SY.ht {M : Mm} {t w : Int} {l d : Nat} (h : SY M t l d w) : HR M := h.1.2.2.2.2.1
theorem SY.ix {M : Mm} {t w : Int} {l d : Nat} (h : SY M t l d w) : IDX M l d := h.1.1
theorem SY.pw {M : Mm} {t w : Int} {l d : Nat} (h : SY M t l d w) : M 0 0 5 = 0 := h.1.2.2.1
theorem SY.g1 {M : Mm} {t w : Int} {l d : Nat} (h : SY M t l d w) : G1 M l := h.2.1.1.1
theorem SY.g2 {M : Mm} {t w : Int} {l d : Nat} (h : SY M t l d w) : G2 M l := h.2.1.1.2.1
/-- the draft of a sound disk -/
def DRF (M M1 : Mm) (t : Int) (l d : Nat) : Prop := SY M1 t l d 7 ∧ DOK M1 d t ∧ Ag M M1 l d ∧ Fr M M1 d
theorem drf_ok {M : Mm} {t : Int} {l d : Nat} (h : SY M t l d 7) : ∃ M1, F_X3_startDraft M = some M1 ∧ DRF M M1 t l d := by
  obtain ⟨M1, e, a, m, f⟩ := draft_ok h.ix
  exact ⟨M1, e, h.fr f, h.2.1.to a (h.2.1.2.1.to m) h.ht (fun h k _ _ => f 11 h k (by omega)), a, f⟩
theorem DOK.chg {M M' : Mm} {o : Nat} {t : Int} (D : DOK M o t) (g : GG M' o) (fx : Fx M M' o) (hr : HR M) (hs : ∀ n, n < 32 → M 2 (33 * o + n) 0 = 1 → HeldP M n → M' 2 (33 * o + n) 0 = 1) (ho : ∀ n, n < 32 → Orp M' o n → HeldP M n) : DOK M' o t := by
  have h11 : ∀ h k, M' 11 h k = M 11 h k := fun h k => fx 11 h k (by omega) (by omega)
  refine ⟨g, D.2.1.to fx.made, fun h h6 hop => ?_, fun n hn op => (ho n hn op).to (fun h k _ _ => h11 h k)⟩
  have := (hr h h6).2.1
  rw [h11] at hop ⊢
  exact hs _ (by omega) (D.2.2.1 h h6 hop) ⟨h, h6, hop, by omega⟩
/-- the end of a change: the draft is settled, or is left -/
theorem fin {M0 M : Mm} {t : Int} {l d : Nat} (a : Int) (h : SY M0 t l d 7) (hf : Fr M0 M d) (D : DOK M d t) (ht : t ≤ 1000) : ∃ r M', F_X3_settle M a = some (r, M') ∧ ((SYS M' (t + 1) ∧ (∀ h k, M' 11 h k = M0 11 h k)) ∨ (DOWN M' (t + 1) ∧ r = -9)) := by
  have s := h.fr hf
  obtain ⟨r, M', e, o⟩ := settle_ok a s.1 s.g1.er D ht
  refine ⟨r, M', e, ?_⟩
  rcases o with ⟨o1, o2, o3⟩ | ⟨o1, o2⟩ | o
  · rw [o2]
    exact Or.inl ⟨⟨l, d, s.up (by omega) (Int.le_refl 7)⟩, fun h k => hf 11 h k (by omega)⟩
  · exact Or.inl ⟨o1, fun h k => (o2 h k).trans (hf 11 h k (by omega))⟩
  · exact Or.inr o
theorem finx {M0 M : Mm} {t : Int} {l d : Nat} (a : Int) (h : SY M0 t l d 7) (hf : Fr M0 M d) (D : DOK M d t) (ht : t ≤ 1000) : ∃ r M', F_X3_settle M a = some (r, M') ∧ NX M0 M' t := by
  obtain ⟨r, M', e, o⟩ := fin a h hf D ht
  refine ⟨r, M', e, ?_⟩
  rcases o with ⟨o1, o2⟩ | ⟨o1, -⟩
  · exact Or.inl ⟨o1, fun h _ => o2 h 0⟩
  · exact Or.inr o1
/-- nothing hinders a new name -/
def NH (M : Mm) (l f : Nat) (a : Int) : Prop := M 2 (33 * l + f) 0 = 2 ∧ (∀ q : Nat, (q : Int) < M 2 (33 * l + f) 8 → M 3 (33 * l + f) q ≠ a) ∧ M 2 (33 * l + f) 8 < 12 ∧ cntN M l < 32
theorem hm_ok {M : Mm} {l d f : Nat} {a : Int} (I : IDX M l d) (g : G1 M l) (hf : f < 32) : ∃ r, F_X3_hindranceToMake M (f : Int) a = some r ∧ (r = 0 → NH M l f a) := by
  have he := g.er f hf
  unfold F_X3_hindranceToMake
  rw [xk_t I.l01, I.l, at_ok hf, xb1_s]
  by_cases z : M 2 (33 * l + f) 0 = 2
  · rw [if_pos z]
    rcases named_ok (M := M) (i := 33 * l + f) (a := a) he with ⟨e1, -, hno⟩ | ⟨q, e1, -, hq, hn⟩
    · rw [e1, xb1_s, if_pos rfl]
      by_cases y : 12 ≤ M 2 (33 * l + f) 8
      · rw [if_pos y]
        exact ⟨-5, rfl, fun w => by omega⟩
      · rw [if_neg y, xk_t I.l01, count_ok, xb1_s]
        by_cases x : cntN M l < 32
        · rw [if_pos x]
          exact ⟨0, rfl, fun _ => ⟨z, hno, by omega, x⟩⟩
        · rw [if_neg x]
          exact ⟨-5, rfl, fun w => by omega⟩
    · have v := (g.se.en hf).2.1 q hq
      rw [e1, xb1_s, if_neg (by omega)]
      exact ⟨-2, rfl, fun w => by omega⟩
  · rw [if_neg z]
    exact ⟨-3, rfl, fun w => by omega⟩
theorem NH.to {M M1 : Mm} {l d f : Nat} {a : Int} (h : NH M l f a) (ag : Ag M M1 l d) (hf : f < 32) : NH M1 d f a := by
  obtain ⟨h1, h2, h3, h4⟩ := h
  have e8 := ag.k2 (n := f) (k := 8) hf (by omega)
  refine ⟨(ag.k2 hf (by omega)).trans h1, fun q hq => ?_, by rw [e8]; exact h3, ?_⟩
  · rw [e8] at hq
    rw [(ag.1 f hf).2.1 q (by omega)]
    exact h2 q hq
  · have e : cntN M1 d = cntN M l := sm_congr fun n _ hn => by rw [ag.k2 (n := n) (k := 0) (by omega) (by omega)]
    rw [e]
    exact h4
/-- a new node in the draft -/
theorem mk_draft {M : Mm} {t s a : Int} {l d f : Nat} (h : SY M t l d 7) (hf : f < 32) (ha : 1 ≤ a ∧ a ≤ 99) (hn : NH M l f a) (hs : 1 ≤ s ∧ s ≤ 3) : ∃ M1 x M2, F_X3_startDraft M = some M1 ∧ DRF M M1 t l d ∧ F_X2_make M1 d s (f : Int) a = some (((x : Nat) : Int), M2) ∧ MkE M1 M2 d f x s ∧ DOK M2 d t ∧ Fr M M2 d := by
  obtain ⟨M1, e1, sy, D, ag, fr⟩ := drf_ok h
  obtain ⟨n1, n2, n3, n4⟩ := hn.to ag hf
  obtain ⟨x, M2, e2, mk, g1, g2⟩ := make_ok D.1.1 D.1.2.1 n4 hf n1 n3 ha n2 hs
  refine ⟨M1, x, M2, e1, ⟨sy, D, ag, fr⟩, e2, mk, ?_, fun K i k hk => ?_⟩
  · obtain ⟨x32, x0, xf, s0, ⟨sx, lx, ex⟩, ks, fx⟩ := mk
    refine D.chg ⟨g1, g2, D.1.2.2.ag fx.ag3⟩ fx sy.ht (fun n hn sn _ => ?_) (fun n hn op => ?_)
    · have : n ≠ x := fun z => by
        rw [z] at sn
        omega
      rw [ks n 0 hn this (by omega)]
      exact sn
    · have : n ≠ x := fun z => by
        have := op.2
        rw [z] at this
        omega
      refine D.2.2.2 n hn ⟨?_, ?_⟩
      · rw [← ks n 0 hn this (by omega)]
        exact op.1
      · rw [← ks n 2 hn this (by omega)]
        exact op.2
  · rw [mk.2.2.2.2.2.2.fr K i k hk]
    exact fr K i k hk
theorem makeEmpty_ok {M : Mm} {t s a : Int} {l d f : Nat} (h : SY M t l d 7) (ht : t ≤ 1000) (hf : f < 32) (ha : 1 ≤ a ∧ a ≤ 99) (hs : 1 ≤ s ∧ s ≤ 3) : ∃ r M', F_X3_makeEmpty M s (f : Int) a = some (r, M') ∧ NX M M' t := by
  obtain ⟨r, e, hr⟩ := hm_ok (a := a) h.ix h.g1 hf
  unfold F_X3_makeEmpty
  rw [e, xb1_s]
  by_cases z : r = 0
  · obtain ⟨M1, x, M2, e1, ⟨sy, -⟩, e2, -, D, fr⟩ := mk_draft (s := s) h hf ha (hr z) hs
    obtain ⟨r3, M3, e3, nx⟩ := finx (x : Int) h fr D ht
    rw [if_pos z, e1, xb1_s, xk_t sy.ix.d01, sy.ix.d, e2, xb2_s, e3, xb2_s]
    exact ⟨r3, M3, rfl, nx⟩
  · rw [if_neg z]
    exact ⟨r, M, rfl, NX.self ⟨l, d, h⟩⟩
/-- a node that is there -/
def LV (M : Mm) (n : Nat) : Prop := n < 32 ∧ ∀ l d, IDX M l d → M 2 (33 * l + n) 0 ≠ 0
theorem makeFile_ok {M : Mm} {t a : Int} {f : Nat} (h : SYS M t) (ht : t ≤ 1000) (hf : LV M f) (ha : 1 ≤ a ∧ a ≤ 99) : ∃ r M', F_X3_makeFile M (f : Int) a = some (r, M') ∧ NX M M' t := by
  obtain ⟨l, d, s⟩ := h
  obtain ⟨r, M', e, nx⟩ := makeEmpty_ok (s := 1) s ht hf.1 ha (by decide)
  unfold F_X3_makeFile
  rw [ent_ok s.ix s.pw hf.1 (hf.2 l d s.ix) ha, xb1_s, e, xb2_s]
  exact ⟨r, M', rfl, nx⟩
theorem makeFolder_ok {M : Mm} {t a : Int} {f : Nat} (h : SYS M t) (ht : t ≤ 1000) (hf : LV M f) (ha : 1 ≤ a ∧ a ≤ 99) : ∃ r M', F_X3_makeFolder M (f : Int) a = some (r, M') ∧ NX M M' t := by
  obtain ⟨l, d, s⟩ := h
  obtain ⟨r, M', e, nx⟩ := makeEmpty_ok (s := 2) s ht hf.1 ha (by decide)
  unfold F_X3_makeFolder
  rw [ent_ok s.ix s.pw hf.1 (hf.2 l d s.ix) ha, xb1_s, e, xb2_s]
  exact ⟨r, M', rfl, nx⟩
/-- where a link leads is written anew -/
theorem G1.aim {M M' : Mm} {o x : Nat} (g : G1 M o) (h : ∀ K j k : Nat, ¬ (K = 2 ∧ j = 33 * o + x ∧ 5 ≤ k ∧ k ≤ 7) → M' K j k = M K j k) (h5 : -1 ≤ M' 2 (33 * o + x) 5 ∧ M' 2 (33 * o + x) 5 ≤ 3) : G1 M' o := by
  have S := g.se
  have k2 : ∀ n k, ¬ (5 ≤ k ∧ k ≤ 7) → M' 2 (33 * o + n) k = M 2 (33 * o + n) k := fun n k hk => h 2 _ _ (by omega)
  have k34 : ∀ n k, M' 3 (33 * o + n) k = M 3 (33 * o + n) k ∧ M' 4 (33 * o + n) k = M 4 (33 * o + n) k := fun n k => ⟨h 3 _ _ (by omega), h 4 _ _ (by omega)⟩
  have lk : ∀ z : Int, lnk M' o z = lnk M o z := fun z => sm_congr fun n _ _ => occ_same (k2 n 8 (by omega)) (fun k _ => (k34 n k).2)
  refine SE.g1 ⟨?_, fun n hn => ?_, fun n hn => ?_, fun n hn => ?_, fun n hn k hk => ?_, fun n hn hs => ?_⟩ (fun n hn => ?_)
  · have a0 := k2 0 0 (by omega)
    have a2 := k2 0 2 (by omega)
    rw [Nat.add_zero] at a0 a2
    rw [a0, a2]
    exact S.1
  · obtain ⟨r0, r1, r2, r4, r5, r8⟩ := S.rg hn
    unfold Rgs
    rw [k2 n 0 (by omega), k2 n 1 (by omega), k2 n 2 (by omega), k2 n 4 (by omega), k2 n 8 (by omega)]
    refine ⟨r0, r1, r2, r4, ?_, r8⟩
    by_cases z : n = x
    · rw [z]
      exact h5
    · rw [h 2 _ _ (by omega)]
      exact r5
  · exact (S.en hn).ag (k2 n 8 (by omega)) (fun k _ => (k34 n k).1) (fun k _ => (k34 n k).2)
  · unfold LkE
    rw [lk, k2 n 0 (by omega), k2 n 2 (by omega)]
    exact S.lk hn
  · rw [k2 n 8 (by omega)] at hk
    rw [(k34 n k).2, k2 _ 0 (by omega), k2 _ 4 (by omega)]
    exact S.is hn k hk
  · rw [k2 n 0 (by omega)] at hs
    obtain ⟨j, hj⟩ := S.up hn hs
    exact acyc_upd (P := fun _ => False) S.pr (fun m _ _ => k2 m 4 (by omega)) (fun _ _ z => z.elim) j n hn hj
  · unfold LkC
    rw [k2 n 0 (by omega), k2 n 2 (by omega)]
    exact g.lc hn
theorem makeLink_ok {M : Mm} {t a u p : Int} {f : Nat} (h : SYS M t) (ht : t ≤ 1000) (hf : LV M f) (ha : 1 ≤ a ∧ a ≤ 99) (hu : -1 ≤ u ∧ u ≤ 3) (hp : 1 ≤ p ∧ p ≤ 99) : ∃ r M', F_X3_makeLink M (f : Int) a u p 0 = some (r, M') ∧ NX M M' t := by
  obtain ⟨l, d, s⟩ := h
  obtain ⟨r, e, hr⟩ := hm_ok (a := a) s.ix s.g1 hf.1
  unfold F_X3_makeLink F_X3_makeLink_37
  rw [ent_ok s.ix s.pw hf.1 (hf.2 l d s.ix) ha, xb1_s, rn_ok hu, xb1_s, rn_ok (by omega), xb1_s, if_neg (by omega), rn_ok (by decide), xb1_s, e, xb1_s]
  by_cases z : r = 0
  · obtain ⟨M1, x, M2, e1, ⟨sy, -⟩, e2, mk, D, fr⟩ := mk_draft (s := 3) s hf.1 ha (hr z) (by decide)
    have I2 : IDX M2 l d := s.ix.fr fr
    have f3 : ∀ K j k : Nat, ¬ (K = 2 ∧ j = 33 * d + x ∧ 5 ≤ k ∧ k ≤ 7) → mup (mup (mup M2 2 (33 * d + x) 5 u) 2 (33 * d + x) 6 p) 2 (33 * d + x) 7 0 K j k = M2 K j k := fun K j k hk => by rw [mup_off (by omega), mup_off (by omega), mup_off (by omega)]
    have z5 : mup (mup (mup M2 2 (33 * d + x) 5 u) 2 (33 * d + x) 6 p) 2 (33 * d + x) 7 0 2 (33 * d + x) 5 = u := by rw [mup_off (by omega), mup_off (by omega), mup_at]
    rw [if_pos z, e1, xb1_s, xk_t sy.ix.d01, sy.ix.d, e2, xb2_s, xk_t I2.d01, I2.d, at_ok mk.1, xb1_s]
    unfold F_X1_aim
    rw [xl_e, xl_e, xl_e, xb1_s]
    generalize mup (mup (mup M2 2 (33 * d + x) 5 u) 2 (33 * d + x) 6 p) 2 (33 * d + x) 7 0 = M3 at f3 z5
    have x32 := mk.1
    have fx : Fx M2 M3 d := fun K j k a b => f3 K j k (by omega)
    have D3 : DOK M3 d t := by
      refine D.chg ⟨D.1.1.aim f3 (by rw [z5]; exact hu), D.1.2.1.ag ⟨fun n hn => ⟨f3 2 _ _ (by omega), f3 2 _ _ (by omega), fun k _ => f3 5 _ _ (by omega)⟩, fun k _ => f3 8 _ _ (by omega)⟩, D.1.2.2.ag fx.ag3⟩ fx (s.fr fr).ht (fun n hn sn _ => ?_) (fun n hn op => D.2.2.2 n hn ⟨?_, ?_⟩)
      · rw [f3 2 _ _ (by omega)]
        exact sn
      · rw [← f3 2 _ 0 (by omega)]
        exact op.1
      · rw [← f3 2 _ 2 (by omega)]
        exact op.2
    obtain ⟨r3, M4, e3, nx⟩ := finx (x : Int) s (M := M3) (fun K i k hk => (fx.fr K i k hk).trans (fr K i k hk)) D3 ht
    rw [e3, xb2_s]
    exact ⟨r3, M4, rfl, nx⟩
  · rw [if_neg z]
    exact ⟨r, M, rfl, NX.self ⟨l, d, s⟩⟩
theorem cloneFile_ok {M : Mm} {t a : Int} {f m : Nat} (h : SYS M t) (ht : t ≤ 1000) (hf : LV M f) (hm : LV M m) (ha : 1 ≤ a ∧ a ≤ 99) : ∃ r M', F_X3_cloneFile M (f : Int) a (m : Int) = some (r, M') ∧ NX M M' t := by
  obtain ⟨l, d, s⟩ := h
  obtain ⟨r, e, hr⟩ := hm_ok (a := a) s.ix s.g1 hf.1
  unfold F_X3_cloneFile
  rw [pw_ok s.pw, xb1_s, nd_ok s.ix hf.1 (hf.2 l d s.ix), xb1_s, nd_ok s.ix hm.1 (hm.2 l d s.ix), xb1_s, rn_ok ha, xb1_s, xk_t s.ix.l01, s.ix.l, at_ok hm.1, xb1_s]
  by_cases y : M 2 (33 * l + m) 0 = 1
  · rw [if_pos y, e, xb1_s]
    by_cases z : r = 0
    · obtain ⟨M1, x, M2, e1, ⟨sy, D1, ag, fr1⟩, e2, mk, D, fr⟩ := mk_draft (s := 1) s hf.1 ha (hr z) (by decide)
      have I2 : IDX M2 l d := s.ix.fr fr
      have sm1 : M1 2 (33 * d + m) 0 = 1 := (ag.k2 hm.1 (by omega)).trans y
      have mx : m ≠ x := fun w => by
        have := mk.2.2.2.1
        rw [w] at sm1
        omega
      have sm2 : M2 2 (33 * d + m) 0 = 1 := (mk.2.2.2.2.2.1 m 0 hm.1 mx (by omega)).trans sm1
      obtain ⟨M3, e3, g3, bs⟩ := shareAll_ok D.1.2.1 mk.1 hm.1 mx mk.2.2.2.2.1.1 sm2
      have fx := bs.fx mk.1
      have D3 : DOK M3 d t := by
        refine D.chg ⟨D.1.1.ag bs.ag1, g3, D.1.2.2.ag fx.ag3⟩ fx (s.fr fr).ht (fun n hn sn _ => ?_) (fun n hn op => D.2.2.2 n hn ⟨?_, ?_⟩)
        · rw [bs 2 _ _ (by omega) (by omega) (by omega) (by omega)]
          exact sn
        · rw [← bs 2 _ 0 (by omega) (by omega) (by omega) (by omega)]
          exact op.1
        · rw [← bs 2 _ 2 (by omega) (by omega) (by omega) (by omega)]
          exact op.2
      obtain ⟨r3, M4, e4, nx⟩ := finx (x : Int) s (M := M3) (fun K i k hk => (fx.fr K i k hk).trans (fr K i k hk)) D3 ht
      rw [if_pos z, e1, xb1_s, xk_t sy.ix.d01, sy.ix.d, e2, xb2_s, xk_t I2.d01, xk_t I2.d01, I2.d, at_ok mk.1, xb1_s, xk_t I2.d01, at_ok hm.1, xb1_s, e3, xb1_s, e4, xb2_s]
      exact ⟨r3, M4, rfl, nx⟩
    · rw [if_neg z]
      exact ⟨r, M, rfl, NX.self ⟨l, d, s⟩⟩
  · rw [if_neg y]
    exact ⟨-3, M, rfl, NX.self ⟨l, d, s⟩⟩
