/-! THE LAW'S isSound SAYS YES OF A SOUND DISK -/
section
variable {M : Mm} {t w : Int} {l d : Nat}
theorem SY.er (s : SY M t l d w) : Er M l := s.g1.er
theorem is113 {rec12 : Mm → Int → Int → Int → (Nat → Int) → Option (Int × Mm)} {rec38 : Mm → Int → Int → Int → Int → Int → (Nat → Int) → Option (Int × Mm)} {v2 v3 v4 b : Int} {k y : Nat} {f : Nat → Int} (hy : y < 32) (hk : k ≤ 1000) (hf : 0 ≤ f y ∧ f y ≤ 1000) : F_L_isSound_113 rec12 rec38 M v2 v3 v4 (k : Int) b (y : Int) f = rec38 M v2 v3 v4 b ((k + 1 : Nat) : Int) (fun z => if z = y then f y + 1 else f z) := by
  unfold F_L_isSound_113
  rw [xk_t (by omega), Int.toNat_natCast, xk_t (rgk (by omega)), xk_t (by omega), xl_e, xk_t (rgk (by omega)), suc]
theorem is38 {a e : Nat} {rec12 : Mm → Int → Int → Int → (Nat → Int) → Option (Int × Mm)} {v2 v3 : Int} (s : SY M t l d w) (ha : a < 32) (hs : M 2 (33 * l + a) 0 = 2) (h8 : M 2 (33 * l + a) 8 = e) : ∀ (j q k : Nat) (b : Int) (f : Nat → Int), k + j = e → (b = 0 ∨ ∃ i : Nat, k = i + 1 ∧ b = M 3 (33 * l + a) i) → (∀ x : Nat, x < 32 → 0 ≤ f x ∧ f x + j ≤ 1000) → ∃ f', F_L_isSound_38 rec12 (q + j + 1) M v2 v3 (a : Int) b (k : Int) f = rec12 M v2 v3 ((a + 1 : Nat) : Int) f' ∧ ∀ x : Nat, x < 32 → f' x = f x + sm (fun k => if (k : Int) < M 2 (33 * l + a) 8 ∧ M 4 (33 * l + a) k = (x : Int) then 1 else 0) k j
  | 0, q, k, b, f, hk, hb, hf => by
    refine ⟨f, ?_, fun x hx => ?_⟩
    · unfold F_L_isSound_38
      rw [sizeOf_ok s ha (by omega), xb1_s, ext_f hs, h8, if_pos (by omega), xk_t (rgk (by omega)), suc]
    · show f x = f x + 0
      omega
  | j + 1, q, k, b, f, hk, hb, hf => by
    obtain ⟨E1, E2, E3⟩ := s.g1.se.en ha
    have kl : (k : Int) < M 2 (33 * l + a) 8 := by omega
    have e2 := E2 k kl
    have lk : F_X3_lookup M (a : Int) (M 3 (33 * l + a) k) = some (M 4 (33 * l + a) k) := by
      rw [lookup_ok s ha hs ⟨e2.1, e2.2.1⟩]
      rcases named_ok (M := M) (i := 33 * l + a) (a := M 3 (33 * l + a) k) E1 with ⟨-, -, n⟩ | ⟨i, e1, -, hi, e3⟩
      · exact absurd rfl (n k kl)
      · have := (s.g1.se.en ha).inj hi kl e3
        rw [e1, this]
    have up : b < M 3 (33 * l + a) k := by
      rcases hb with hb | ⟨i, hi, hb⟩
      · omega
      · have := E3 i (by omega)
        rw [hb, hi]
        exact this
    obtain ⟨y, ey⟩ : ∃ y : Nat, M 4 (33 * l + a) k = y := ⟨(M 4 (33 * l + a) k).toNat, by omega⟩
    have I := s.g1.se.is ha k kl
    rw [ey, Int.toNat_natCast] at I
    have hy : y < 32 := by omega
    have fy := hf y hy
    obtain ⟨f', e', h'⟩ := is38 (rec12 := rec12) (v2 := v2) (v3 := v3) s ha hs h8 j q (k + 1) (M 3 (33 * l + a) k) (fun z => if z = y then f y + 1 else f z) (by omega) (Or.inr ⟨k, rfl, rfl⟩) (fun x hx => by
      have fx := hf x hx
      show 0 ≤ (if x = y then f y + 1 else f x) ∧ (if x = y then f y + 1 else f x) + j ≤ 1000
      by_cases z : x = y
      · rw [if_pos z]
        omega
      · rw [if_neg z]
        omega)
    have e113 : F_L_isSound_113 rec12 (F_L_isSound_38 rec12 (q + j + 1)) M v2 v3 (a : Int) (k : Int) (M 3 (33 * l + a) k) (y : Int) f = rec12 M v2 v3 ((a + 1 : Nat) : Int) f' := by
      rw [is113 hy (by omega) (by omega)]
      exact e'
    refine ⟨f', ?_, fun x hx => ?_⟩
    · show F_L_isSound_38 rec12 ((q + j + 1) + 1) M v2 v3 (a : Int) b (k : Int) f = _
      unfold F_L_isSound_38
      rw [sizeOf_ok s ha (by omega), xb1_s, ext_f hs, h8, if_neg (by omega), nameAt_ok s ha (by omega) kl, xb1_s, lk, xb1_s, if_neg (by omega), ey, if_neg (by omega), typeOf_ok s hy, xb1_s, if_neg I.1, xb1_s]
      by_cases z : M 2 (33 * l + y) 0 = 2
      · rw [if_pos z, parentOf_ok s hy I.1, xb1_s, if_pos z, if_pos (I.2 z)]
        exact e113
      · rw [if_neg z]
        exact e113
    · rw [h' x hx]
      show (if x = y then f y + 1 else f x) + sm _ (k + 1) j = f x + ((if (k : Int) < M 2 (33 * l + a) 8 ∧ M 4 (33 * l + a) k = (x : Int) then 1 else 0) + sm _ (k + 1) j)
      by_cases z : x = y
      · rw [if_pos z, if_pos ⟨kl, by rw [ey, z]⟩, z]
        omega
      · rw [if_neg z, if_neg (fun v => z (by have := v.2; omega))]
        omega
theorem is12 (s : SY M t l d w) : ∀ (j q k : Nat) (f : Nat → Int), k + j = 32 → (∀ x : Nat, x < 32 → f x = sm (fun g => occ M (33 * l + g) x) 0 k) → ∃ f', F_L_isSound_12 (q + j + 1) M 0 0 (k : Int) f = F_L_isSound_140 FU M 0 0 0 f' ∧ ∀ x : Nat, x < 32 → f' x = lnk M l x
  | 0, q, k, f, hk, hf => by
    refine ⟨f, ?_, fun x hx => ?_⟩
    · unfold F_L_isSound_12
      rw [if_pos (by omega)]
    · rw [hf x hx, show k = 32 by omega]
      rfl
  | j + 1, q, k, f, hk, hf => by
    have E := s.er k (by omega)
    obtain ⟨e, h8⟩ : ∃ e : Nat, M 2 (33 * l + k) 8 = e := ⟨(M 2 (33 * l + k) 8).toNat, by omega⟩
    have he : e ≤ 12 := by omega
    have bd : ∀ x : Nat, x < 32 → 0 ≤ f x ∧ f x + e ≤ 1000 := fun x hx => by
      rw [hf x hx]
      have h1 := sm_nn (f := fun g => occ M (33 * l + g) x) (k := 0) (j := k) (fun _ _ _ => occ_nn)
      have h2 := sm_bd (f := fun g => occ M (33 * l + g) x) (c := 12) (k := 0) (j := k) (fun _ _ _ => occ_bd)
      omega
    by_cases z : M 2 (33 * l + k) 0 = 2
    · obtain ⟨f1, e1, h1⟩ := is38 (rec12 := F_L_isSound_12 (q + j + 1)) (v2 := 0) (v3 := 0) s (show k < 32 by omega) z h8 e (FU - (e + 1)) 0 0 f (by omega) (Or.inl rfl) bd
      rw [show FU - (e + 1) + e + 1 = FU by have := fu_big; omega] at e1
      obtain ⟨f2, e2, h2⟩ := is12 s j q (k + 1) f1 (by omega) (fun x hx => by
        rw [h1 x hx, hf x hx, occ_e h8 he, sm_snoc, Nat.zero_add])
      refine ⟨f2, ?_, h2⟩
      show F_L_isSound_12 ((q + j + 1) + 1) M 0 0 (k : Int) f = _
      conv => lhs; unfold F_L_isSound_12
      rw [if_neg (by omega), typeOf_ok s (by omega), xb1_s, if_pos z]
      exact e1.trans e2
    · have e0 := (s.g1.se.rg (show k < 32 by omega)).2.2.2.2.2 z
      obtain ⟨f2, e2, h2⟩ := is12 s j q (k + 1) f (by omega) (fun x hx => by
        rw [hf x hx, sm_snoc, Nat.zero_add, occ_0 e0, Int.add_zero])
      refine ⟨f2, ?_, h2⟩
      show F_L_isSound_12 ((q + j + 1) + 1) M 0 0 (k : Int) f = _
      conv => lhs; unfold F_L_isSound_12
      rw [if_neg (by omega), typeOf_ok s (by omega), xb1_s, if_neg z, xk_t (rgk (by omega)), suc]
      exact e2
theorem isOrphan_e {n : Nat} (s : SY M t l d w) (hn : n < 32) (hs : M 2 (33 * l + n) 0 ≠ 0) : F_X3_isOrphan M (n : Int) = some (orpI M l n) := isOrphan_ok s hn hs
theorem own_0 {n : Nat} (s : SY M t l d w) (hn : n < 32) (hs : M 2 (33 * l + n) 0 = 0) : own M (33 * l + n) = 0 := by
  unfold own
  rw [if_neg (by omega)]
  exact (sm_congr (g := fun _ => 0) fun p _ hp => if_pos (((s.g2.1 n hn).2.2 p (by omega)).2.1 (by omega))).trans sm_zero
theorem is140 (s : SY M t l d w) {f : Nat → Int} (hf : ∀ x : Nat, x < 32 → f x = lnk M l x) : ∀ (j q k : Nat) (a b : Int), k + j = 32 → a = sm (fun n => own M (33 * l + n)) 0 k → b = sm (orpI M l) 0 k → F_L_isSound_140 (q + j + 1) M a b (k : Int) f = F_L_isSound_329 FU M (sm (fun n => own M (33 * l + n)) 0 32) (sm (orpI M l) 0 32) 0 0
  | 0, q, k, a, b, hk, ha, hb => by
    unfold F_L_isSound_140
    rw [if_pos (by omega), ha, hb, show k = 32 by omega]
  | j + 1, q, k, a, b, hk, ha, hb => by
    have k32 : k < 32 := by omega
    have ob := own_bd (s.er k k32)
    have a1 : 0 ≤ a ∧ a ≤ 20 * k := by
      rw [ha]
      have h1 := sm_nn (f := fun n => own M (33 * l + n)) (k := 0) (j := k) (fun i _ hi => (own_bd (s.er i (by omega))).1)
      have h2 := sm_bd (f := fun n => own M (33 * l + n)) (c := 20) (k := 0) (j := k) (fun i _ hi => (own_bd (s.er i (by omega))).2)
      omega
    have b1 : 0 ≤ b ∧ b ≤ k := by
      rw [hb]
      have h1 := sm_nn (f := orpI M l) (k := 0) (j := k) (fun _ _ _ => orpI_01.1)
      have h2 := sm_bd (f := orpI M l) (c := 1) (k := 0) (j := k) (fun _ _ _ => orpI_01.2)
      omega
    have ih := is140 s hf j q (k + 1) (a + own M (33 * l + k)) (b + orpI M l k) (by omega) (by rw [sm_snoc, Nat.zero_add, ← ha]) (by rw [sm_snoc, Nat.zero_add, ← hb])
    show F_L_isSound_140 ((q + j + 1) + 1) M a b (k : Int) f = _
    conv => lhs; unfold F_L_isSound_140
    rw [if_neg (by omega), typeOf_ok s k32, xb1_s]
    by_cases z : M 2 (33 * l + k) 0 = 0
    · have o0 : orpI M l k = 0 := if_neg (fun v => by have := v.1; omega)
      rw [own_0 s k32 z, o0, Int.add_zero, Int.add_zero] at ih
      rw [if_pos z, xk_t (rgk (by omega)), suc]
      exact ih
    · have L := s.g1.2.2.2.1 k k32
      have R := s.g1.se.rg k32
      have B := s.g2.1 k k32
      have fk : f k = M 2 (33 * l + k) 2 := by rw [hf k k32, L.1]
      have o01 := orpI_01 (M := M) (o := l) (n := k)
      have c295 : F_L_isSound_295 (F_L_isSound_140 (q + j + 1)) M a b (k : Int) (orpI M l k) f = F_L_isSound_329 FU M (sm (fun n => own M (33 * l + n)) 0 32) (sm (orpI M l) 0 32) 0 0 := by
        unfold F_L_isSound_295
        rw [blocksOf_ok s k32 z, xb1_s, xk_t (rgk (by omega))]
        by_cases y : orpI M l k = 0
        · rw [y] at ih
          rw [if_pos y, xk_t (rgk (by omega)), xk_t (rgk (by omega)), suc]
          exact ih
        · rw [show orpI M l k = 1 by omega] at ih
          rw [if_neg y, xk_t (rgk (by omega)), xk_t (rgk (by omega)), suc]
          exact ih
      have c240 : F_L_isSound_240 (F_L_isSound_140 (q + j + 1)) M a b (k : Int) (M 2 (33 * l + k) 0) (orpI M l k) f = F_L_isSound_329 FU M (sm (fun n => own M (33 * l + n)) 0 32) (sm (orpI M l) 0 32) 0 0 := by
        have sl := shr_le s.g2 s.er k32
        unfold F_L_isSound_240
        rw [xk_t (by omega), Int.toNat_natCast, fk, if_pos R.2.2.1.2, sharedOf_ok s k32 z, xb1_s, blocksOf_ok s k32 z, xb1_s, if_neg (by omega)]
        by_cases y : M 2 (33 * l + k) 0 = 1
        · have o16 := own16 s.g2 k32 y
          have ee : ext M (33 * l + k) = M 2 (33 * l + k) 3 := by
            unfold ext
            rw [if_neg (by omega), if_neg (by omega)]
          have s3 := B.1
          rw [if_pos y, xb1_s, xk_t (rgk (by omega)), sizeOf_ok s k32 z, xb1_s, ee, xk_t (rgk (by omega)), if_pos o16]
          exact c295
        · rw [if_neg y]
          exact c295
      have c217 : F_L_isSound_217 (F_L_isSound_140 (q + j + 1)) M a b (k : Int) (M 2 (33 * l + k) 0) (orpI M l k) f = F_L_isSound_329 FU M (sm (fun n => own M (33 * l + n)) 0 32) (sm (orpI M l) 0 32) 0 0 := by
        unfold F_L_isSound_217
        by_cases y : M 2 (33 * l + k) 0 = 2
        · rw [if_pos y, xk_t (by omega), Int.toNat_natCast, fk]
          by_cases x : k = 0
          · have r0 := s.g1.1.2
            have e0 : M 2 (33 * l + k) 2 = 0 := by
              rw [x, Nat.add_zero]
              exact r0
            rw [if_pos (by omega), if_pos e0]
            exact c240
          · rw [if_neg (by omega), if_pos (L.2.1 x y)]
            exact c240
        · rw [if_neg y]
          exact c240
      have c202 : orpI M l k = 0 → F_L_isSound_202 (F_L_isSound_140 (q + j + 1)) M a b (k : Int) (M 2 (33 * l + k) 0) (orpI M l k) (orpI M l k) f = F_L_isSound_329 FU M (sm (fun n => own M (33 * l + n)) 0 32) (sm (orpI M l) 0 32) 0 0 := fun y => by
        unfold F_L_isSound_202
        rw [if_pos y, if_pos y]
        exact c217
      rw [if_neg z, isOrphan_e s k32 z, xb1_s, linksOf_ok s k32 z, xb1_s, xk_t (by omega), Int.toNat_natCast, fk, if_pos rfl]
      by_cases x : k = 0
      · rw [if_pos (by omega)]
        refine c202 (if_neg (fun v => ?_))
        have r0 := s.g1.1.1
        have e1 := v.1
        rw [x, Nat.add_zero] at e1
        omega
      · rw [if_neg (by omega), xk_t (by omega)]
        by_cases y : M 2 (33 * l + k) 2 = 0
        · have s1 : M 2 (33 * l + k) 0 = 1 := by
            have l1 := L.2.1 x
            have l3 := L.2.2.1
            have r1 := R.1
            by_cases u : M 2 (33 * l + k) 0 = 1
            · exact u
            · by_cases v : M 2 (33 * l + k) 0 = 2
              · have := l1 v
                omega
              · have := l3 (by omega)
                omega
          have o1 : orpI M l k = 1 := if_pos ⟨s1, y⟩
          rw [if_pos y, if_pos o1, if_neg (by omega), if_pos s1]
          exact c217
        · rw [if_neg y]
          exact c202 (if_neg (fun v => y v.2))
theorem is329 (s : SY M t l d 7) {A B : Int} (hA : A = sm (fun n => own M (33 * l + n)) 0 32) (hB : B = sm (orpI M l) 0 32) : ∀ (j q k : Nat) (acc : Int), k + j = 4 → acc = sm (fun u => takB M l u) 0 k → ∃ N, F_L_isSound_329 (q + j + 1) M A B acc (k : Int) = some (1, N) ∧ Zm N = Zm M
  | 0, q, k, acc, hk, ha => by
    have k4 : k = 4 := by omega
    have u : acc = A := by
      rw [ha, hA, k4, ← users_e (fun n hn => (s.g1.se.rg hn).2.1)]
      show takB M l ((0 : Nat) : Int) + (takB M l ((0 + 1 : Nat) : Int) + (takB M l ((0 + 1 + 1 : Nat) : Int) + (takB M l ((0 + 1 + 1 + 1 : Nat) : Int) + 0))) = takB M l 0 + takB M l 1 + takB M l 2 + takB M l 3
      have e0 : ((0 : Nat) : Int) = 0 := rfl
      have e1 : ((0 + 1 : Nat) : Int) = 1 := rfl
      have e2 : ((0 + 1 + 1 : Nat) : Int) = 2 := rfl
      have e3 : ((0 + 1 + 1 + 1 : Nat) : Int) = 3 := rfl
      rw [e0, e1, e2, e3]
      omega
    have ul : usedT M l ≤ A := by
      rw [hA]
      exact used_le s.g1 s.g2
    have us : usedT M l ≤ 120 := s.2.2
    have ol : B ≤ opn M := by
      rw [hB]
      exact orp_le s.2.1.2.2.2
    have w7 : M 0 0 4 ≤ 7 := s.1.2.1.2
    unfold F_L_isSound_329
    rw [if_pos (by omega), if_pos u, used3_ok s, xb1_s, if_neg (by omega), xb1_s, if_neg (by omega), hands_ok s.pw, xb1_s, if_neg (by omega), waiting_ok s, xb1_s, if_pos w7]
    by_cases z : 0 < B
    · rw [if_pos z]
      exact ⟨M, rfl, rfl⟩
    · have no : ∀ n, n < 32 → ¬ Orp M l n := fun n hn o => by
        have g := sm_ge (f := orpI M l) (a := n) (k := 0) (j := 32) (fun _ _ _ => orpI_01.1) (by omega) (by omega)
        have e : orpI M l n = 1 := if_pos o
        omega
      have r0 : M 2 (33 * l + 0) 0 ≠ 0 := by
        have := s.g1.1.1
        rw [Nat.add_zero]
        omega
      obtain ⟨r, er, hr⟩ := under_ok (n := 0) s (by decide) r0
      obtain ⟨r', er', hb⟩ := reach_all s.g1.se.nr
      have rr : r = r' := Option.some.inj (er.symm.trans er')
      have au := all_used (s := r) s.g2 (fun n hn hs => by
        rw [rr]
        exact hb n hn (all_in s.g1 hn hs (no n hn)))
      obtain ⟨⟨N1, e1, h1⟩, -⟩ := hr M rfl
      obtain ⟨-, N2, e2, h2⟩ := hr N1 h1
      have e1' : F_X3_blocksUnder M (0 : Int) = some (bwV M l r, N1) := e1
      have e2' : F_X3_wouldFree N1 (0 : Int) = some (fwV M l r, N2) := e2
      rw [if_neg z, e1', xb2_s, ro (fun M => z_X3_used M) h1 (used3_ok s), xb1_s, if_pos au.1, e2', xb2_s, ro (fun M => z_X3_used M) h2 (used3_ok s), xb1_s, if_pos au.2]
      exact ⟨N2, rfl, h2⟩
  | j + 1, q, k, acc, hk, ha => by
    have tb : ∀ u, 0 ≤ takB M l u ∧ takB M l u ≤ 640 := fun u => by
      have h1 := sm_nn (f := fun n => if M 2 (33 * l + n) 1 = u then own M (33 * l + n) else 0) (k := 0) (j := 32) (fun i _ hi => by
        have := own_bd (s.er i (by omega))
        show 0 ≤ if M 2 (33 * l + i) 1 = u then own M (33 * l + i) else 0
        split <;> omega)
      have h2 := sm_bd (f := fun n => if M 2 (33 * l + n) 1 = u then own M (33 * l + n) else 0) (c := 20) (k := 0) (j := 32) (fun i _ hi => by
        have := own_bd (s.er i (by omega))
        show (if M 2 (33 * l + i) 1 = u then own M (33 * l + i) else 0) ≤ 20
        split <;> omega)
      unfold takB
      omega
    have ab : 0 ≤ acc ∧ acc ≤ 640 * k := by
      rw [ha]
      have h1 := sm_nn (f := fun u => takB M l u) (k := 0) (j := k) (fun i _ _ => (tb i).1)
      have h2 := sm_bd (f := fun u => takB M l u) (c := 640) (k := 0) (j := k) (fun i _ _ => (tb i).2)
      omega
    have tk := tb (k : Int)
    obtain ⟨N, e, h⟩ := is329 s hA hB j q (k + 1) (acc + takB M l k) (by omega) (by rw [sm_snoc, Nat.zero_add, ← ha])
    refine ⟨N, ?_, h⟩
    show F_L_isSound_329 ((q + j + 1) + 1) M A B acc (k : Int) = _
    unfold F_L_isSound_329
    rw [if_neg (by omega), usedBy_ok s (by omega), xb1_s, xk_t (rgk (by omega)), xk_t (rgk (by omega)), suc]
    exact e
theorem isSound_ok (s : SY M t l d 7) : ∃ N, F_L_isSound M = some (1, N) ∧ Zm N = Zm M := by
  obtain ⟨f, e, hf⟩ := is12 s 32 (FU - 33) 0 (fun _ => 0) (by decide) (fun x _ => rfl)
  have e2 := is140 s hf 32 (FU - 33) 0 0 0 (by decide) rfl rfl
  obtain ⟨N, e3, h3⟩ := is329 s rfl rfl 4 (FU - 5) 0 0 (by decide) rfl
  refine ⟨N, ?_, h3⟩
  have a1 : F_L_isSound M = F_L_isSound_140 FU M 0 0 0 f := e
  have a2 : F_L_isSound_140 FU M 0 0 0 f = F_L_isSound_329 FU M (sm (fun n => own M (33 * l + n)) 0 32) (sm (orpI M l) 0 32) 0 0 := e2
  rw [a1, a2]
  exact e3
end
