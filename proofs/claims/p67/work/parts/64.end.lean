/-! THE LAW'S END: what was committed is there -/
section
variable {xs : Nat → Int32} {L : Nat}
theorem law303_ok {M : Mm} {t v : Int} {l d : Nat} {fs ft : Nat → Int} (s : SY M t l d 7) (hh : ∀ h, h < 6 → M 11 h 0 = 0) (hw : M 0 0 4 = 0) (hc : M 1 l 5 = v) (hn : ∀ n : Nat, n < 32 → M 2 (33 * l + n) 0 = ft n ∧ (0 < ft n → ext M (33 * l + n) = fs n)) : ∀ (j q k : Nat), k + j = 32 → ∃ M', F_L_law_303 xs L (q + j + 1) M v (k : Int) fs ft = some (1, M')
  | 0, q, k, hk => by
    have o : opn M = 0 := (sm_congr (g := fun _ => 0) fun h _ h6 => if_pos (hh h (by omega))).trans sm_zero
    obtain ⟨N, e, -⟩ := isSound_ok s
    unfold F_L_law_303
    rw [if_pos (by omega), changes_ok s, xb1_s, if_pos hc, hands_ok s.pw, xb1_s, if_pos o, waiting_ok s, xb1_s, if_pos hw, e, xb2_s, if_neg (by decide)]
    exact ⟨N, rfl⟩
  | j + 1, q, k, hk => by
    have k32 : k < 32 := by omega
    obtain ⟨M', ih⟩ := law303_ok s hh hw hc hn j q (k + 1) (by omega)
    obtain ⟨a, b⟩ := hn k k32
    refine ⟨M', ?_⟩
    show F_L_law_303 xs L ((q + j + 1) + 1) M v (k : Int) fs ft = _
    unfold F_L_law_303
    rw [if_neg (by omega), typeOf_ok s k32, xb1_s, xk_t (by omega), Int.toNat_natCast, if_pos a, xk_t (by omega), suc, ih]
    have rk : rg ((k + 1 : Nat) : Int) := rgk (by omega)
    by_cases z : ft k ≤ 0
    · rw [if_pos z, xk_t rk]
    · rw [if_neg z, sizeOf_ok s k32 (by omega), xb1_s, xk_t (by omega), if_pos (b (by omega)), xk_t rk]
/-- what the law notes of a node -/
def srt (M : Mm) (l n : Nat) : Int := if M 2 (33 * l + n) 0 = 1 ∧ M 2 (33 * l + n) 2 = 0 then 0 else M 2 (33 * l + n) 0
def szt (M : Mm) (l n : Nat) : Int := if srt M l n ≤ 0 then 0 else ext M (33 * l + n)
theorem law250_ok {M : Mm} {rec211 : Mm → Int → Int → (Nat → Int) → (Nat → Int) → Option (Int × Mm)} {t v s2 : Int} {l d k : Nat} {fs ft : Nat → Int} (s : SY M t l d 7) (hk : k < 32) (h2 : s2 ≤ 0 ∨ M 2 (33 * l + k) 0 ≠ 0) : F_L_law_250 xs L rec211 M v (k : Int) (k : Int) s2 fs ft = rec211 M v ((k + 1 : Nat) : Int) (fun n => if n = k then (if s2 ≤ 0 then 0 else ext M (33 * l + k)) else fs n) (fun n => if n = k then s2 else ft n) := by
  have e : (fun n => if n = k then s2 else ft n) k = s2 := if_pos rfl
  have rk : rg ((k + 1 : Nat) : Int) := rgk (by omega)
  unfold F_L_law_250
  rw [xk_t (by omega), Int.toNat_natCast, xl_e, xk_t (by omega)]
  by_cases z : s2 ≤ 0
  · have z' : (fun n => if n = k then s2 else ft n) k ≤ 0 := by
      rw [e]
      exact z
    rw [if_pos z', xk_t (by omega), xl_e, suc, xk_t rk]
    simp only [if_pos z]
  · have z' : ¬ (fun n => if n = k then s2 else ft n) k ≤ 0 := by
      rw [e]
      exact z
    rw [if_neg z', sizeOf_ok s hk (h2.resolve_left z), xb1_s, xk_t (by omega), xl_e, suc, xk_t rk]
    simp only [if_neg z]
theorem law211_ok {M : Mm} {t v : Int} {l d : Nat} (s : SY M t l d 7) (ht : t ≤ 999) (hw : M 0 0 4 = 0) (hc : M 1 l 5 = v) : ∀ (j q k : Nat) (fs ft : Nat → Int), k + j = 32 → (∀ n : Nat, n < k → ft n = srt M l n ∧ fs n = szt M l n) → ∃ M', F_L_law_211 xs L (q + j + 1) M v (k : Int) fs ft = some (1, M')
  | 0, q, k, fs, ft, hk, hf => by
    obtain ⟨ag, mk⟩ := s.1.2.2.2.2.2.2 hw
    obtain ⟨M1, e1, dn, f1⟩ := cut_ok s
    have c2 : ∀ n k, n < 32 → k < 9 → M1 2 (33 * 2 + n) k = M 2 (33 * l + n) k := fun n k hn hk => (f1 2 _ k (by decide) (by decide)).trans (ag.k2 hn hk)
    have key : ∀ M2, UPE M1 M2 (t + 1) → ∃ M', F_L_law_303 xs L FU M2 v 0 fs ft = some (1, M') := fun M2 u => by
      obtain ⟨l2, d2, s2, h11, w0, m5, rows⟩ := u
      refine law303_ok s2 h11 w0 ?_ (fun n hn => ?_) 32 (FU - 33) 0 (by decide)
      · rw [m5, f1 1 2 5 (by decide) (by decide), mk, hc]
      · obtain ⟨a, b⟩ := rows n hn
        obtain ⟨g1, g2⟩ := hf n (by omega)
        have oe : Orp M1 2 n ↔ Orp M l n := by
          unfold Orp
          rw [c2 n 0 hn (by decide), c2 n 2 hn (by decide)]
        rw [oe] at a b
        by_cases z : Orp M l n
        · have s0 : srt M l n = 0 := if_pos z
          rw [g1, s0]
          exact ⟨a z 0 (by decide), fun y => by omega⟩
        · have s0 : srt M l n = M 2 (33 * l + n) 0 := if_neg z
          have eq : ∀ k, k < 9 → M2 2 (33 * l2 + n) k = M 2 (33 * l + n) k := fun k hk => (b z k hk).trans (c2 n k hn hk)
          have ee : ext M2 (33 * l2 + n) = ext M (33 * l + n) := by
            unfold ext
            rw [eq 0 (by decide), eq 8 (by decide), eq 6 (by decide), eq 7 (by decide), eq 3 (by decide)]
          rw [g1, s0]
          refine ⟨eq 0 (by decide), fun y => ?_⟩
          rw [g2, ee]
          unfold szt
          rw [if_neg (by omega)]
    unfold F_L_law_211
    rw [if_pos (by omega), e1, xb1_s]
    rcases mount2 dn (by omega) with ⟨r, M2, e2, r0, u⟩ | ⟨M3, e3, -, r, M2, e2, r0, u⟩
    · rw [e2, xb2_s, if_pos r0]
      exact key M2 u
    · rw [e3, xb2_s, if_neg (by decide), e2, xb2_s, if_pos r0]
      exact key M2 u
  | j + 1, q, k, fs, ft, hk, hf => by
    have k32 : k < 32 := by omega
    have step : ∀ s2 : Int, s2 = srt M l k → ∃ M', F_L_law_250 xs L (F_L_law_211 xs L (q + j + 1)) M v (k : Int) (k : Int) s2 fs ft = some (1, M') := fun s2 h2 => by
      have o : s2 ≤ 0 ∨ M 2 (33 * l + k) 0 ≠ 0 := by
        by_cases z : M 2 (33 * l + k) 0 = 0
        · left
          rw [h2]
          unfold srt
          rw [z, ite_self]
          exact Int.le_refl 0
        · exact Or.inr z
      rw [law250_ok s k32 o]
      refine law211_ok s ht hw hc j q (k + 1) _ _ (by omega) (fun n hn => ?_)
      show (if n = k then s2 else ft n) = srt M l n ∧ (if n = k then (if s2 ≤ 0 then 0 else ext M (33 * l + k)) else fs n) = szt M l n
      by_cases z : n = k
      · rw [if_pos z, if_pos z, z, h2]
        exact ⟨rfl, rfl⟩
      · rw [if_neg z, if_neg z]
        exact hf n (by omega)
    show ∃ M', F_L_law_211 xs L ((q + j + 1) + 1) M v (k : Int) fs ft = some (1, M')
    unfold F_L_law_211 F_L_law_240
    rw [if_neg (by omega), typeOf_ok s k32, xb1_s]
    by_cases z : M 2 (33 * l + k) 0 = 0
    · rw [if_pos z]
      refine step 0 ?_
      unfold srt
      rw [z, ite_self]
    · rw [if_neg z, isOrphan_e s k32 z, xb1_s]
      by_cases y : Orp M l k
      · have o1 : orpI M l k = 1 := if_pos y
        rw [o1, if_neg (by decide)]
        exact step 0 (if_pos (c := M 2 (33 * l + k) 0 = 1 ∧ M 2 (33 * l + k) 2 = 0) y).symm
      · have o1 : orpI M l k = 0 := if_neg y
        rw [o1, if_pos rfl, xb1_s]
        exact step _ (if_neg (c := M 2 (33 * l + k) 0 = 1 ∧ M 2 (33 * l + k) 2 = 0) y).symm
end
