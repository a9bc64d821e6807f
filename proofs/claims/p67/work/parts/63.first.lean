/-! THE FIRST MEMORY IS SOUND -/
theorem m0_2 {o n k : Nat} (hn : n < 32) : M0 2 (33 * o + n) k = if n = 0 ∧ k = 0 then 2 else 0 := by
  show (if (33 * o + n) % 33 = 0 ∧ k = 0 then (2 : Int) else 0) = if n = 0 ∧ k = 0 then 2 else 0
  by_cases z : n = 0 ∧ k = 0
  · rw [if_pos z, if_pos (by omega)]
  · rw [if_neg z, if_neg (by omega)]
theorem m0_2z {o n k : Nat} (hn : n < 32) (hk : k ≠ 0) : M0 2 (33 * o + n) k = 0 := by
  rw [m0_2 hn, if_neg (by omega)]
theorem m0_occ {o n : Nat} {x : Int} (hn : n < 32) : occ M0 (33 * o + n) x = 0 := occ_0 (m0_2z hn (by decide))
theorem m0_g1 (o : Nat) : G1 M0 o := by
  have s0 : ∀ n, n < 32 → M0 2 (33 * o + n) 0 = 0 ∨ (n = 0 ∧ M0 2 (33 * o + n) 0 = 2) := fun n hn => by
    rw [m0_2 hn]
    by_cases z : n = 0
    · rw [if_pos ⟨z, rfl⟩]
      exact Or.inr ⟨z, rfl⟩
    · rw [if_neg (fun v => z v.1)]
      exact Or.inl rfl
  have r := s0 0 (by decide)
  refine ⟨⟨?_, ?_⟩, fun n hn => ?_, fun n hn => ?_, fun n hn => ?_, fun n hn k hk => ?_, fun n hn hs => ?_⟩
  · have := m0_2 (o := o) (n := 0) (k := 0) (by decide)
    rw [Nat.add_zero] at this
    rw [this, if_pos ⟨rfl, rfl⟩]
  · have := m0_2z (o := o) (n := 0) (k := 2) (by decide) (by decide)
    rw [Nat.add_zero] at this
    exact this
  · have a := s0 n hn
    unfold Rgs
    rw [m0_2z hn (show 1 ≠ 0 by decide), m0_2z hn (show 2 ≠ 0 by decide), m0_2z hn (show 4 ≠ 0 by decide), m0_2z hn (show 5 ≠ 0 by decide), m0_2z hn (show 8 ≠ 0 by decide)]
    omega
  · have e := m0_2z (o := o) (k := 8) hn (by decide)
    unfold Ents
    rw [e]
    exact ⟨by decide, fun k hk => by omega, fun k hk => by omega⟩
  · have a := s0 n hn
    have e : lnk M0 o n = 0 := (sm_congr (g := fun _ => 0) fun f _ hf => m0_occ (by omega)).trans sm_zero
    unfold Lks
    rw [e, m0_2z hn (show 2 ≠ 0 by decide)]
    omega
  · rw [m0_2z hn (show 8 ≠ 0 by decide)] at hk
    omega
  · have a := s0 n hn
    exact ⟨0, show n = 0 by omega⟩
theorem m0_g2 (o : Nat) : G2 M0 o := by
  refine ⟨fun n hn => ?_, rfl, fun b h1 h2 => ?_⟩
  · have e := m0_2z (o := o) (k := 3) hn (by decide)
    unfold Blk
    rw [e]
    exact ⟨by decide, fun _ => rfl, fun p _ => ⟨⟨Int.le_refl 0, (by decide : (0 : Int) < 128)⟩, fun _ => rfl, fun h => absurd rfl h⟩⟩
  · have e : cntB M0 o b = 0 := (sm_congr (g := fun _ => 0) fun n _ _ => (sm_congr (g := fun _ => 0) fun p _ _ => if_neg (fun v => by
      have v : (0 : Int) = b := v
      omega)).trans sm_zero).trans sm_zero
    rw [e]
    rfl
theorem m0_gg (o : Nat) : GG M0 o := ⟨m0_g1 o, m0_g2 o, fun u hu => by
  have e : M0 6 o u = 120 := if_pos hu
  rw [e]
  decide⟩
theorem m0_used (o : Nat) : usedT M0 o ≤ 120 := by
  have e : sm (fun b => if 0 < M0 8 o b then (1 : Int) else 0) 0 128 = 0 := (sm_congr (g := fun _ => 0) fun b _ _ => if_neg (show ¬ (0 : Int) < 0 by decide)).trans sm_zero
  have f : sm (fun n => if M0 2 (33 * o + n) 0 = 2 then own M0 (33 * o + n) else 0) 0 32 = 0 := (sm_congr (g := fun _ => 0) fun n _ hn => by
    by_cases z : M0 2 (33 * o + n) 0 = 2
    · rw [if_pos z]
      unfold own
      rw [if_pos z, m0_2z (by omega) (by decide)]
      rfl
    · rw [if_neg z]).trans sm_zero
  unfold usedT
  rw [e, f]
  decide
theorem m0_ag : Ag M0 M0 0 2 := ⟨fun n hn => ⟨fun k _ _ => by rw [m0_2 hn, m0_2 hn], fun _ _ => rfl, fun _ _ => rfl⟩, ⟨fun n hn => ⟨by rw [m0_2 hn, m0_2 hn], by rw [m0_2 hn, m0_2 hn], fun _ _ => rfl⟩, fun _ _ => rfl⟩, fun _ _ => rfl⟩
theorem m0_sys : SYS M0 0 := by
  refine ⟨0, 1, ⟨⟨rfl, rfl, Or.inl ⟨rfl, rfl⟩⟩, ⟨Int.le_refl 0, (by decide : (0 : Int) ≤ 7)⟩, rfl, ⟨Int.le_refl 0, Int.le_refl 0⟩, fun h _ => ⟨Or.inl rfl, ⟨Int.le_refl 0, (by decide : (0 : Int) ≤ 31)⟩, Int.le_refl 0, (by decide : (0 : Int) ≤ 320)⟩, ⟨m0_gg 2, ⟨Int.le_refl 0, Int.le_refl 0⟩, m0_used 2⟩, fun _ => ⟨m0_ag, rfl⟩⟩, ⟨m0_gg 0, ⟨Int.le_refl 0, Int.le_refl 0⟩, fun h _ ho => absurd rfl ho, fun n hn o => ?_⟩, m0_used 0⟩
  have h1 := o.1
  rw [m0_2 hn] at h1
  split at h1 <;> omega
theorem m0_mir : MIR M0 (fun _ => 0) := fun _ _ => ⟨fun _ => rfl, fun _ => rfl⟩
/-- up again at last -/
theorem mount_up {M M' : Mm} {t r : Int} (h : DOWN M t) (z : M 0 0 7 ≠ 3) (e : F_X3_mount M = some (r, M')) : 0 ≤ r := by
  obtain ⟨l, d, I, w, p, u, hr, ho, la⟩ := h
  obtain ⟨r1, M1, e1, r0, -⟩ := df_ok la.1
  unfold F_X3_mount at e
  rw [if_neg (by omega), if_neg z, e1, xb2_s] at e
  obtain ⟨-, e⟩ := xk_some e
  obtain ⟨M2, -, e⟩ := xb1_some e
  obtain ⟨M3, -, e⟩ := xl_some e
  obtain ⟨-, e⟩ := xk_some e
  obtain ⟨M4, -, e⟩ := xl_some e
  cases e
  exact r0
/-- the disk is up: what mount leaves of what lasts -/
def UPE (M M' : Mm) (t : Int) : Prop := ∃ l d, SY M' t l d 7 ∧ (∀ h, h < 6 → M' 11 h 0 = 0) ∧ M' 0 0 4 = 0 ∧ M' 1 l 5 = M 1 2 5 ∧ ∀ n, n < 32 → (Orp M 2 n → ∀ k, k < 9 → M' 2 (33 * l + n) k = 0) ∧ (¬ Orp M 2 n → ∀ k, k < 9 → M' 2 (33 * l + n) k = M 2 (33 * 2 + n) k)
theorem mount2 {M : Mm} {t : Int} (h : DOWN M t) (ht : t ≤ 1000) : (∃ r M', F_X3_mount M = some (r, M') ∧ 0 ≤ r ∧ UPE M M' (t + 1)) ∨ ∃ M1, F_X3_mount M = some (-9, M1) ∧ DOWN M1 t ∧ ∃ r M', F_X3_mount M1 = some (r, M') ∧ 0 ≤ r ∧ UPE M M' (t + 1) := by
  obtain ⟨r, M1, e1, o⟩ := mount_ok h ht
  rcases o with ⟨o1, o2, o3, o4⟩ | ⟨-, o1, o2⟩
  · rw [o1] at e1
    obtain ⟨r2, M2, e2, p⟩ := mount_ok o2 ht
    have r0 := mount_up o2 o3 e2
    rcases p with ⟨p1, -⟩ | ⟨-, -, l, d, s, p3, p4, p5, p6⟩
    · omega
    · refine Or.inr ⟨M1, e1, o2, r2, M2, e2, r0, l, d, s, p3, p4, p5.trans (o4 1 2 5 (by decide)), fun n hn => ?_⟩
      have q : ∀ k, M1 2 (33 * 2 + n) k = M 2 (33 * 2 + n) k := fun k => o4 2 _ k (by decide)
      obtain ⟨a, b⟩ := p6 n hn
      unfold Orp at a b
      rw [q 0, q 2] at a b
      exact ⟨a, fun v k hk => (b v k hk).trans (q k)⟩
  · exact Or.inl ⟨r, M1, e1, o1, o2⟩
