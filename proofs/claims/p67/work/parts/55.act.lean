/-! WHAT THE LAW DOES IN ONE STEP -/
theorem andI_nn (x : Int) : 0 ≤ andI x 2147483647 := by
  unfold andI
  have h : (jI x &&& jI 2147483647).toBitVec.msb = false := by
    rw [Int32.toBitVec_and, BitVec.msb_and]
    have : (jI 2147483647).toBitVec.msb = false := by decide
    rw [this, Bool.and_false]
  show 0 ≤ (jI x &&& jI 2147483647).toBitVec.toInt
  rw [BitVec.toInt_eq_toNat_of_msb h]
  omega
theorem below_ok {a n : Int} (hn : 1 ≤ n ∧ n ≤ 1000) : ∃ r : Nat, F_L_below a n = some (r : Int) ∧ (r : Int) < n := by
  have h0 := andI_nn a
  have h1 : 0 ≤ andI a 2147483647 % n := Int.emod_nonneg _ (by omega)
  have h2 : andI a 2147483647 % n < n := Int.emod_lt_of_pos _ (by omega)
  unfold F_L_below
  rw [xk_t (by omega), tmod_nn h0, xk_t (rgk (by omega))]
  exact ⟨(andI a 2147483647 % n).toNat, by rw [Int.toNat_of_nonneg h1], by omega⟩
theorem typeOf_ok {M : Mm} {t w : Int} {l d n : Nat} (s : SY M t l d w) (hn : n < 32) : F_X3_typeOf M (n : Int) = some (M 2 (33 * l + n) 0) := by
  unfold F_X3_typeOf
  rw [pw_ok s.pw, xb1_s, xk_t s.ix.l01, s.ix.l, at_ok hn, xb1_s]
theorem node_ok {M : Mm} {t : Int} (a : Int) (h : SYS M t) : ∃ n : Nat, F_L_node M a = some (n : Int) ∧ LV M n := by
  obtain ⟨l, d, s⟩ := h
  obtain ⟨r, e, hr⟩ := below_ok (a := a) (n := 11) (by decide)
  have uni : ∀ l' d', IDX M l' d' → l' = l := fun l' d' I => by
    have a := I.1
    have b := s.ix.1
    omega
  unfold F_L_node
  rw [e, xb1_s, typeOf_ok s (by omega), xb1_s]
  by_cases z : M 2 (33 * l + r) 0 ≤ 0
  · rw [if_pos z]
    refine ⟨0, rfl, by decide, fun l' d' I => ?_⟩
    rw [uni l' d' I, Nat.add_zero, s.g1.1.1]
    decide
  · rw [if_neg z]
    refine ⟨r, rfl, by omega, fun l' d' I => ?_⟩
    rw [uni l' d' I]
    omega
/-- the law's row of open handles is right -/
def MIR (M : Mm) (f : Nat → Int) : Prop := ∀ h, h < 6 → (f h = 0 ↔ M 11 h 0 = 0)
def AR (M : Mm) (f : Nat → Int) (t : Int) : Prop := (SYS M (t + 1) ∧ MIR M f) ∨ DOWN M (t + 1)
theorem MIR.to {M M' : Mm} {f : Nat → Int} (h : MIR M f) (e : ∀ k, k < 6 → M' 11 k 0 = M 11 k 0) : MIR M' f := fun k hk => by
  rw [e k hk]
  exact h k hk
theorem NX.ar {M M' : Mm} {f : Nat → Int} {t : Int} (h : NX M M' t) (m : MIR M f) : AR M' f t := by
  rcases h with ⟨h1, h2⟩ | h
  · exact Or.inl ⟨h1, m.to h2⟩
  · exact Or.inr h
theorem act_nx {F : Option (Int × Mm)} {M : Mm} {f : Nat → Int} {t : Int} (h : ∃ r M', F = some (r, M') ∧ NX M M' t) (m : MIR M f) : ∃ M' f', (xb2 F fun _ M24 => (some ((1 : Int), M24, f))) = some (1, M', f') ∧ AR M' f' t := by
  obtain ⟨r, M', e, nx⟩ := h
  rw [e, xb2_s]
  exact ⟨M', f, rfl, nx.ar m⟩
theorem h111_ok {M : Mm} {t y : Int} {h : Nat} {f : Nat → Int} (s : SYS M t) (ht : t ≤ 1000) (m : MIR M f) (hh : h < 6) (ho : M 11 h 0 ≠ 0) : ∃ M' f', F_L_handle_111 M (h : Int) y f = some (1, M', f') ∧ AR M' f' t := by
  obtain ⟨r1, e1, h1⟩ := below_ok (a := shrI y 3) (n := 64) (by decide)
  obtain ⟨r2, e2, h2⟩ := below_ok (a := y) (n := 256) (by decide)
  obtain ⟨r, M', e, nx⟩ := write_ok (L := 1 + r1) (v := (r2 : Int)) s ht hh ho (by omega) (by omega)
  unfold F_L_handle_111
  rw [e1, xb1_s, xk_t (rgk (by omega)), e2, xb1_s, show (1 : Int) + (r1 : Int) = ((1 + r1 : Nat) : Int) by omega, e, xb2_s]
  exact ⟨M', f, rfl, nx.ar m⟩
theorem h8_ok {M : Mm} {t : Int} {n c : Nat} {f : Nat → Int} (s : SYS M t) (m : MIR M f) (hn : LV M n) (hc : c < 6) (hf : f c = 0) (hb : ∀ j, j < c → f j ≠ 0) : ∀ (j q k : Nat), k + j = c → ∃ M' f', F_L_handle_8 (q + j + 1) M (k : Int) (n : Int) f = some (1, M', f') ∧ AR M' f' t
  | 0, q, k, hk => by
    have e : k = c := by omega
    subst e
    obtain ⟨r, M1, e1, o⟩ := open_ok s hn hc ((m k hc).1 hf) (fun j hj z => hb j hj ((m j (by omega)).2 z))
    unfold F_L_handle_8 F_L_handle_40
    rw [xk_t (by omega), Int.toNat_natCast, if_pos hf, e1, xb2_s]
    rcases o with ⟨o1, o2⟩ | ⟨o1, o2, o3, o4⟩
    · rw [if_neg (by omega), xk_t (by omega), xk_t (by decide), xl_e, if_neg (by omega), if_pos o1]
      refine ⟨M1, _, rfl, Or.inl ⟨by rw [o2]; exact s.up (by omega), fun h hh => ?_⟩⟩
      rw [o2]
      show (if h = k then (0 : Int) else f h) = 0 ↔ M 11 h 0 = 0
      by_cases z : h = k
      · rw [if_pos z, z]
        exact ⟨fun _ => (m k hc).1 hf, fun _ => rfl⟩
      · rw [if_neg z]
        exact m h hh
    · rw [if_pos o1, xk_t (by omega), xk_t (by decide), xl_e, if_pos o1]
      refine ⟨M1, _, rfl, Or.inl ⟨o2.up (by omega), fun h hh => ?_⟩⟩
      show (if h = k then (1 : Int) else f h) = 0 ↔ M1 11 h 0 = 0
      by_cases z : h = k
      · rw [if_pos z, z, o3]
      · rw [if_neg z, o4 h z]
        exact m h hh
  | j + 1, q, k, hk => by
    show ∃ M' f', F_L_handle_8 ((q + j + 1) + 1) M (k : Int) (n : Int) f = some (1, M', f') ∧ _
    unfold F_L_handle_8
    rw [xk_t (by omega), Int.toNat_natCast, if_neg (hb k (by omega)), xk_t (rgk (by omega)), suc]
    exact h8_ok s m hn hc hf hb j q (k + 1) (by omega)
theorem handle_ok {M : Mm} {t x y : Int} {h n : Nat} {f : Nat → Int} (s : SYS M t) (ht : t ≤ 1000) (m : MIR M f) (hh : h < 6) (hn : LV M n) : ∃ M' f', F_L_handle M (h : Int) (n : Int) x y f = some (1, M', f') ∧ AR M' f' t := by
  unfold F_L_handle
  rw [xk_t (by omega), Int.toNat_natCast]
  by_cases z : f h = 0
  · obtain ⟨c, c1, c2, c3⟩ := least (P := fun j => f j = 0) h z
    rw [if_pos z]
    have := h8_ok s m hn (show c < 6 by omega) c2 c3 c (FU - (c + 1)) 0 (by omega)
    rw [show FU - (c + 1) + c + 1 = FU by have := fu_big; omega] at this
    exact this
  · have ho : M 11 h 0 ≠ 0 := fun w => z ((m h hh).2 w)
    obtain ⟨r1, e1, h1⟩ := below_ok (a := shrI x 6) (n := 4) (by decide)
    obtain ⟨r2, e2, h2⟩ := below_ok (a := shrI x 6) (n := 2) (by decide)
    rw [if_neg z, e1, xb1_s]
    by_cases c1 : (r1 : Int) = 0
    · obtain ⟨r, M1, e3, o⟩ := close_ok s ht hh ho
      rw [if_pos c1, xk_t (by omega), xl_e, e3, xb2_s]
      refine ⟨M1, _, rfl, ?_⟩
      rcases o with ⟨o1, o2, o3⟩ | o
      · refine Or.inl ⟨o1, fun k hk => ?_⟩
        show (if k = h then (0 : Int) else f k) = 0 ↔ M1 11 k 0 = 0
        by_cases w : k = h
        · rw [if_pos w, w, o2]
        · rw [if_neg w, o3 k w]
          exact m k hk
      · exact Or.inr o
    · rw [if_neg c1, e2, xb1_s]
      by_cases c2 : (r2 : Int) = 0
      · obtain ⟨r3, e3, h3⟩ := below_ok (a := y) (n := 257) (by decide)
        obtain ⟨r, M1, e4, s1, k1⟩ := seek_ok (v := (r3 : Int)) s hh ho (by omega)
        rw [if_pos c2, e3, xb1_s, e4, xb2_s]
        exact h111_ok s1 ht (m.to fun k _ => k1 k) hh (by rw [k1]; exact ho)
      · rw [if_neg c2]
        exact h111_ok s ht m hh ho
theorem power_ok {M : Mm} {t x y : Int} {f : Nat → Int} (s : SYS M t) (m : MIR M f) : ∃ M', F_L_power M x y = some (1, M') ∧ AR M' f t := by
  obtain ⟨l, d, s⟩ := s
  obtain ⟨r, e, hr⟩ := below_ok (a := shrI x 6) (n := 5) (by decide)
  unfold F_L_power
  rw [e, xb1_s]
  by_cases c0 : (r : Int) = 0
  · obtain ⟨r1, M1, e1, o⟩ := sync_ok s
    rw [if_pos c0, e1, xb2_s]
    rcases o with ⟨o1, o2, -, -, -, o3⟩ | ⟨o1, o2⟩
    · rw [up_ok ⟨l, d, o2⟩, xb1_s, if_neg (by omega)]
      exact ⟨M1, rfl, Or.inl ⟨(show SYS M1 t from ⟨l, d, o2⟩).up (by omega), m.to fun k _ => o3 k 0⟩⟩
    · rw [down_ok o2, xb1_s, if_neg (by omega)]
      exact ⟨M1, rfl, Or.inr (o2.up (by omega))⟩
  · rw [if_neg c0]
    by_cases c1 : (r : Int) = 1
    · obtain ⟨r1, M1, e1, o⟩ := flush_ok s
      rw [if_pos c1, e1, xb2_s]
      rcases o with ⟨o1, o2, o3⟩ | ⟨o1, o2⟩
      · rw [up_ok ⟨l, d, o2⟩, xb1_s, if_neg (by omega)]
        exact ⟨M1, rfl, Or.inl ⟨(show SYS M1 t from ⟨l, d, o2⟩).up (by omega), m.to fun k _ => o3 k 0⟩⟩
      · rw [down_ok o2, xb1_s, if_neg (by omega)]
        exact ⟨M1, rfl, Or.inr (o2.up (by omega))⟩
    · rw [if_neg c1]
      by_cases c2 : (r : Int) = 2
      · obtain ⟨M1, e1, o, -⟩ := cut_ok s
        rw [if_pos c2, e1, xb1_s, down_ok o, xb1_s, xk_t (by decide)]
        exact ⟨M1, rfl, Or.inr (o.up (by omega))⟩
      · obtain ⟨a, ea, ha⟩ := below_ok (a := y) (n := 4) (by decide)
        obtain ⟨b, eb, hb⟩ := below_ok (a := shrI y 2) (n := 40) (by decide)
        obtain ⟨c, ec, hc⟩ := below_ok (a := shrI y 5) (n := 41) (by decide)
        obtain ⟨M1, e1, s1, h1⟩ := fail_ok (a := (a : Int)) (b := 1 + (b : Int)) (c := (c : Int)) s (by omega) (by omega) (by omega)
        rw [if_neg c2, ea, xb1_s, eb, xb1_s, xk_t (rgk (by omega)), ec, xb1_s, e1, xb1_s, up_ok ⟨l, d, s1⟩, xb1_s, if_pos rfl]
        exact ⟨M1, rfl, Or.inl ⟨(show SYS M1 t from ⟨l, d, s1⟩).up (by omega), m.to fun k _ => h1 k 0⟩⟩
theorem act_ok {M : Mm} {t x y : Int} {f : Nat → Int} (s : SYS M t) (ht : t ≤ 1000) (m : MIR M f) : ∃ M' f', F_L_act M x y f = some (1, M', f') ∧ AR M' f' t := by
  obtain ⟨a, ea, la⟩ := node_ok y s
  obtain ⟨b, eb, lb⟩ := node_ok (shrI y 4) s
  obtain ⟨n, en, hn⟩ := below_ok (a := shrI y 8) (n := 6) (by decide)
  obtain ⟨o, eo, ho⟩ := below_ok (a := shrI x 5) (n := 6) (by decide)
  obtain ⟨h, eh, hh⟩ := below_ok (a := shrI x 4) (n := 3) (by decide)
  obtain ⟨c, ec, hc⟩ := below_ok (a := x) (n := 20) (by decide)
  have nr : 1 ≤ 1 + (n : Int) ∧ 1 + (n : Int) ≤ 99 := by omega
  have orr : 1 ≤ 1 + (o : Int) ∧ 1 + (o : Int) ≤ 99 := by omega
  unfold F_L_act
  rw [ea, xb1_s, eb, xb1_s, en, xb1_s, xk_t (rgk (by omega)), eo, xb1_s, xk_t (rgk (by omega)), eh, xb1_s, ec, xb1_s]
  rcases (show c = 0 ∨ c = 1 ∨ c = 2 ∨ c = 3 ∨ c = 4 ∨ c = 5 ∨ c = 6 ∨ c = 7 ∨ c = 8 ∨ c = 9 ∨ c = 10 ∨ c = 11 ∨ c = 12 ∨ c = 13 ∨ c = 14 ∨ c = 15 ∨ c = 16 ∨ c = 17 ∨ c = 18 ∨ c = 19 by omega) with rfl | rfl | rfl | rfl | rfl | rfl | rfl | rfl | rfl | rfl | rfl | rfl | rfl | rfl | rfl | rfl | rfl | rfl | rfl | rfl
  · rw [if_pos (by decide)]
    exact act_nx (makeFile_ok s ht la nr) m
  · rw [if_neg (by decide), if_pos (by decide)]
    exact act_nx (makeFile_ok s ht la nr) m
  · rw [if_neg (by decide), if_neg (by decide), if_pos (by decide)]
    exact act_nx (makeFile_ok s ht la nr) m
  · rw [if_neg (by decide), if_neg (by decide), if_neg (by decide), if_pos (by decide)]
    exact act_nx (makeFolder_ok s ht la nr) m
  · rw [if_neg (by decide), if_neg (by decide), if_neg (by decide), if_neg (by decide), if_pos (by decide)]
    exact act_nx (makeFolder_ok s ht la nr) m
  · rw [if_neg (by decide), if_neg (by decide), if_neg (by decide), if_neg (by decide), if_neg (by decide), if_pos (by decide)]
    obtain ⟨u, eu, hu⟩ := below_ok (a := shrI x 5) (n := 5) (by decide)
    rw [eu, xb1_s, xk_t (rgk (by omega))]
    exact act_nx (makeLink_ok s ht la nr (by omega) nr) m
  · rw [if_neg (by decide), if_neg (by decide), if_neg (by decide), if_neg (by decide), if_neg (by decide), if_neg (by decide), if_pos (by decide)]
    exact act_nx (cloneFile_ok s ht la lb nr) m
  · rw [if_neg (by decide), if_neg (by decide), if_neg (by decide), if_neg (by decide), if_neg (by decide), if_neg (by decide), if_neg (by decide), if_pos (by decide)]
    exact act_nx (addName_ok s ht la lb nr) m
  · rw [if_neg (by decide), if_neg (by decide), if_neg (by decide), if_neg (by decide), if_neg (by decide), if_neg (by decide), if_neg (by decide), if_neg (by decide), if_pos (by decide)]
    exact act_nx (unlink_ok s ht la nr) m
  · rw [if_neg (by decide), if_neg (by decide), if_neg (by decide), if_neg (by decide), if_neg (by decide), if_neg (by decide), if_neg (by decide), if_neg (by decide), if_neg (by decide), if_pos (by decide)]
    exact act_nx (rename_ok s ht la lb nr orr) m
  · rw [if_neg (by decide), if_neg (by decide), if_neg (by decide), if_neg (by decide), if_neg (by decide), if_neg (by decide), if_neg (by decide), if_neg (by decide), if_neg (by decide), if_neg (by decide), if_pos (by decide)]
    exact act_nx (exchange_ok s ht la lb nr orr) m
  · rw [if_neg (by decide), if_neg (by decide), if_neg (by decide), if_neg (by decide), if_neg (by decide), if_neg (by decide), if_neg (by decide), if_neg (by decide), if_neg (by decide), if_neg (by decide), if_neg (by decide), if_pos (by decide)]
    exact act_nx (removeFolder_ok s ht la nr) m
  · rw [if_neg (by decide), if_neg (by decide), if_neg (by decide), if_neg (by decide), if_neg (by decide), if_neg (by decide), if_neg (by decide), if_neg (by decide), if_neg (by decide), if_neg (by decide), if_neg (by decide), if_neg (by decide), if_pos (by decide)]
    obtain ⟨u, eu, hu⟩ := below_ok (a := shrI x 5) (n := 321) (by decide)
    rw [eu, xb1_s]
    exact act_nx (truncate_ok s ht la (by omega)) m
  · rw [if_neg (by decide), if_neg (by decide), if_neg (by decide), if_neg (by decide), if_neg (by decide), if_neg (by decide), if_neg (by decide), if_neg (by decide), if_neg (by decide), if_neg (by decide), if_neg (by decide), if_neg (by decide), if_neg (by decide), if_pos (by decide)]
    obtain ⟨u, eu, hu⟩ := below_ok (a := shrI x 5) (n := 20) (by decide)
    rw [eu, xb1_s]
    exact act_nx (punch_ok s ht la (by omega)) m
  · rw [if_neg (by decide), if_neg (by decide), if_neg (by decide), if_neg (by decide), if_neg (by decide), if_neg (by decide), if_neg (by decide), if_neg (by decide), if_neg (by decide), if_neg (by decide), if_neg (by decide), if_neg (by decide), if_neg (by decide), if_neg (by decide), if_pos (by decide)]
    obtain ⟨u, eu, hu⟩ := below_ok (a := shrI x 5) (n := 4) (by decide)
    obtain ⟨w, ew, hw⟩ := below_ok (a := shrI x 7) (n := 4) (by decide)
    rw [eu, xb1_s, ew, xb1_s]
    exact act_nx (share_ok s ht la lb (by omega) (by omega)) m
  · rw [if_neg (by decide), if_neg (by decide), if_neg (by decide), if_neg (by decide), if_neg (by decide), if_neg (by decide), if_neg (by decide), if_neg (by decide), if_neg (by decide), if_neg (by decide), if_neg (by decide), if_neg (by decide), if_neg (by decide), if_neg (by decide), if_neg (by decide), if_pos (by decide)]
    obtain ⟨u, eu, hu⟩ := below_ok (a := shrI x 5) (n := 4) (by decide)
    rw [eu, xb1_s]
    exact act_nx (setOwner_ok s ht la (by omega)) m
  · rw [if_neg (by decide), if_neg (by decide), if_neg (by decide), if_neg (by decide), if_neg (by decide), if_neg (by decide), if_neg (by decide), if_neg (by decide), if_neg (by decide), if_neg (by decide), if_neg (by decide), if_neg (by decide), if_neg (by decide), if_neg (by decide), if_neg (by decide), if_neg (by decide), if_pos (by decide)]
    obtain ⟨u, eu, hu⟩ := below_ok (a := shrI x 5) (n := 4) (by decide)
    obtain ⟨w, ew, hw⟩ := below_ok (a := shrI x 7) (n := 4) (by decide)
    obtain ⟨q, eq, hq⟩ := below_ok (a := y) (n := 9) (by decide)
    obtain ⟨p, ep, hp⟩ := below_ok (a := y) (n := 121) (by decide)
    rw [eu, xb1_s, ew, xb1_s, eq, ep, xb1_s, xb1_s]
    by_cases z : (w : Int) = 0
    · rw [if_pos z]
      exact act_nx (setQuota_ok s ht (by omega) (by omega)) m
    · rw [if_neg z]
      exact act_nx (setQuota_ok s ht (by omega) (by omega)) m
  · rw [if_neg (by decide), if_neg (by decide), if_neg (by decide), if_neg (by decide), if_neg (by decide), if_neg (by decide), if_neg (by decide), if_neg (by decide), if_neg (by decide), if_neg (by decide), if_neg (by decide), if_neg (by decide), if_neg (by decide), if_neg (by decide), if_neg (by decide), if_neg (by decide), if_neg (by decide), if_pos (by decide)]
    obtain ⟨M1, f1, e1, ar⟩ := handle_ok (x := x) (y := y) s ht m (show h < 6 by omega) la
    rw [e1, xb3_s, xk_t (by decide)]
    exact ⟨M1, f1, rfl, ar⟩
  · rw [if_neg (by decide), if_neg (by decide), if_neg (by decide), if_neg (by decide), if_neg (by decide), if_neg (by decide), if_neg (by decide), if_neg (by decide), if_neg (by decide), if_neg (by decide), if_neg (by decide), if_neg (by decide), if_neg (by decide), if_neg (by decide), if_neg (by decide), if_neg (by decide), if_neg (by decide), if_neg (by decide), if_pos (by decide)]
    obtain ⟨M1, f1, e1, ar⟩ := handle_ok (x := x) (y := y) s ht m (show h < 6 by omega) la
    rw [e1, xb3_s, xk_t (by decide)]
    exact ⟨M1, f1, rfl, ar⟩
  · rw [if_neg (by decide), if_neg (by decide), if_neg (by decide), if_neg (by decide), if_neg (by decide), if_neg (by decide), if_neg (by decide), if_neg (by decide), if_neg (by decide), if_neg (by decide), if_neg (by decide), if_neg (by decide), if_neg (by decide), if_neg (by decide), if_neg (by decide), if_neg (by decide), if_neg (by decide), if_neg (by decide), if_neg (by decide)]
    obtain ⟨M1, e1, ar⟩ := power_ok (x := x) (y := y) s m
    rw [e1, xb2_s, xk_t (by decide)]
    exact ⟨M1, f, rfl, ar⟩
