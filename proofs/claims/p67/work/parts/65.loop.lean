/-! THE LAW ANSWERS 1 -/
section
variable {xs : Nat → Int32} {L : Nat}
theorem flaws_ok {M : Mm} (h : M 0 0 5 = 0) : F_X3_flaws M = some 0 := by
  unfold F_X3_flaws
  rw [pw_ok h, xb1_s]
theorem lcmp_self (x : Int64) : lcmpI x x = 0 := by
  unfold lcmpI
  by_cases z : x < x
  · exact absurd z (Int64.lt_irrefl)
  · rw [if_neg z, if_pos rfl]
theorem law108_ok {M : Mm} {t : Int} {k : Nat} {f : Nat → Int} {rec15 : Mm → Int → (Nat → Int) → Option (Int × Mm)} (s : SYS M t) (m : MIR M f) (hk : k ≤ 1000) (h : ∀ M', SYS M' t → MIR M' f → ∃ M2, rec15 M' ((k + 1 : Nat) : Int) f = some (1, M2)) : ∃ M2, F_L_law_108 xs L rec15 M (k : Int) f = some (1, M2) := by
  have e3 : Int.tmod (k : Int) 3 = (k : Int) % 3 := tmod_nn (by omega)
  have rk : rg ((k + 1 : Nat) : Int) := rgk (by omega)
  unfold F_L_law_108
  rw [e3, xk_t (rgk (by omega)), suc]
  by_cases z : (k : Int) % 3 = 2
  · obtain ⟨l, d, s⟩ := s
    obtain ⟨N, e, hz⟩ := isSound_ok s
    rw [if_pos z, e, xb2_s, if_neg (by decide), xk_t rk]
    exact h N ⟨l, d, s.zm hz⟩ (m.to fun i _ => zm_k hz i 0 (by decide) (by decide))
  · rw [if_neg z, xk_t rk]
    exact h M s m
theorem lawEnd_ok {M : Mm} {t : Int} {f : Nat → Int} (s : SYS M t) (ht : t ≤ 900) (n : Nat) : ∃ M2, F_L_law_15 xs L (n + 1) M 45 f = some (1, M2) := by
  obtain ⟨l, d, s⟩ := s
  obtain ⟨v, hv⟩ := digest_so s
  obtain ⟨M4, e4, z4⟩ := hv M rfl
  have s4 := s.zm z4
  obtain ⟨M7, e7, z7⟩ := isSound_ok s4
  have s7 := s4.zm z7
  obtain ⟨M16, e16, z16⟩ := hv M7 (z7.trans z4)
  have s16 := s.zm z16
  obtain ⟨r, M23, e23, o⟩ := sync_ok s16
  unfold F_L_law_15
  rw [if_pos (by decide), e4, xb2_s, e7, xb2_s, if_neg (by decide), flaws_ok s7.pw, xb1_s, if_pos rfl, e16, xb2_s, if_pos (lcmp_self v), changes_ok s16, xb1_s, e23, xb2_s]
  rcases o with ⟨r1, s23, w0, -, m5, -⟩ | ⟨r0, dn⟩
  · rw [up_ok ⟨l, d, s23⟩, xb1_s, if_pos rfl, if_pos r1, if_neg (by omega)]
    exact law211_ok s23 (by omega) w0 m5 32 (FU - 33) 0 _ _ (by decide) (fun n hn => absurd hn (Nat.not_lt_zero n))
  · rw [down_ok dn, xb1_s, if_neg (by decide), if_pos r0, if_pos r0]
    exact ⟨M23, rfl⟩
theorem law15_ok : ∀ (j q k : Nat) (M : Mm) (f : Nat → Int) (t : Int), k + j = 45 → SYS M t → t ≤ 4 * (k : Int) → MIR M f → ∃ M2, F_L_law_15 xs L (q + j + 1) M (k : Int) f = some (1, M2)
  | 0, q, k, M, f, t, hk, s, ht, m => by
    have e : (k : Int) = 45 := by omega
    rw [e]
    exact lawEnd_ok s (by omega) (q + 0)
  | j + 1, q, k, M, f, t, hk, s, ht, m => by
    have ih := law15_ok j q (k + 1)
    have d15 : Int.tdiv (k : Int) 15 = (k : Int) / 15 := Int.tdiv_eq_ediv_of_nonneg (by omega)
    have d16 : Int.tdiv (k : Int) 16 = (k : Int) / 16 := Int.tdiv_eq_ediv_of_nonneg (by omega)
    have m15 : Int.tmod (k : Int) 15 = (k : Int) % 15 := tmod_nn (by omega)
    have m16 : Int.tmod ((k : Int) + 4) 16 = ((k : Int) + 4) % 16 := tmod_nn (by omega)
    show ∃ M2, F_L_law_15 xs L ((q + j + 1) + 1) M (k : Int) f = some (1, M2)
    unfold F_L_law_15
    rw [d15, d16, m15, m16, if_neg (by omega), xk_t (rgk (by omega)), xk_t (by omega), xk_t (rgk (by omega)), xk_t (rgk (by omega)), xk_t (rgk (by omega)), xk_t (rgk (by omega)), xk_t (by omega), xk_t (rgk (by omega)), xk_t (rgk (by omega))]
    obtain ⟨M1, f1, e1, ar⟩ := act_ok (x := shrI (cellX xs L ((k : Int) % 15)) ((k : Int) / 15 * 7)) (y := shrI (cellX xs L (((k : Int) + 4) % 16)) ((k : Int) / 16 * 6)) s (by omega) m
    have go : ∀ (M' : Mm) (f' : Nat → Int) (t' : Int), SYS M' t' → t' ≤ 4 * (k : Int) + 4 → MIR M' f' → ∃ M2, F_L_law_108 xs L (F_L_law_15 xs L (q + j + 1)) M' (k : Int) f' = some (1, M2) := fun M' f' t' s' ht' m' => law108_ok s' m' (by omega) fun M2 s2 m2 => ih M2 f' t' (by omega) s2 (by omega) m2
    rw [e1, xb3_s, if_neg (by decide)]
    rcases ar with ⟨s1, m1⟩ | dn
    · rw [up_ok s1, xb1_s, if_pos rfl]
      exact go M1 f1 (t + 1) s1 (by omega) m1
    · have up : ∀ M2, UPE M1 M2 (t + 1 + 1) → SYS M2 (t + 1 + 1) ∧ MIR M2 (fun _ => 0) := fun M2 u => by
        obtain ⟨l, d, s2, h11, -⟩ := u
        exact ⟨⟨l, d, s2⟩, fun h hh => ⟨fun _ => h11 h hh, fun _ => rfl⟩⟩
      rw [down_ok dn, xb1_s, if_neg (by decide)]
      rcases mount2 dn (by omega) with ⟨r, M2, e2, r0, u⟩ | ⟨M3, e3, dn3, r, M2, e2, r0, u⟩
      · rw [e2, xb2_s, if_pos r0]
        exact go M2 _ _ (up M2 u).1 (by omega) (up M2 u).2
      · rw [e3, xb2_s, if_neg (by decide), down_ok dn3, xb1_s, if_neg (by decide), e2, xb2_s, if_pos r0]
        exact go M2 _ _ (up M2 u).1 (by omega) (up M2 u).2
end
theorem law_true (xs : Nat → Int32) (L : Nat) : ∃ M', F_L_law_15 xs L FU M0 0 (fun _ => 0) = some (1, M') := law15_ok 45 (FU - 46) 0 M0 (fun _ => 0) 0 (by decide) m0_sys (by decide) m0_mir
