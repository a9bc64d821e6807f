/-! THE LAW'S CASES: an argument, a truth value, what thrown() says, the answers beside each other -/
def bz (p : Int) : Int := if p = 0 then 0 else 1
theorem bz_rg (p : Int) : rg (bz p) := by unfold bz; split <;> decide
theorem jI_of (x : Int32) : jI x.toInt = x := Int32.ofInt_toInt x
theorem rg_of (x : Int32) : rg x.toInt := by
  have h1 := Int32.le_toInt x
  have h2 := Int32.toInt_lt x
  have h3 : (-2 ^ 31 : Int) = -2147483648 := by decide
  have h4 : (2 ^ 31 : Int) = 2147483648 := by decide
  rw [h3] at h1
  rw [h4] at h2
  exact ⟨h1, by omega⟩
section LR
variable {p : Program} {l : Launch} {e : Env} {R : Room} {S : State} {m : MethodId} {below : List Frame} {meth : Method} {c : Code} {H : Heap} {locs : List Loc} {cells slots : Nat} {Q : State → Prop}
variable {pc : Nat} {ls : Array Slot} {rest : List Value} {g : Gx} {b L : Nat} {xs : Nat → Int32}
theorem z_arg (A0 : LA p S m c b L xs g) (hS : va_S (fun a => S.heap.size ≤ a) S.heap H locs) (h0 : ls[0]? = some (.val (.ref b))) (h5 : ls[5]? = some (.val (.int (jI 0)))) (j : Nat) (hj : j < L) (hj6 : j < 6)
    (d0 : decode cL_law pc = .ok (.aload_n 0, 1)) (d1 : decode cL_law (pc + 1) = .ok (.iload 5, 2)) (d2 : decode cL_law (pc + 3) = .ok (.iconst (j : Int), 1)) (d3 : decode cL_law (pc + 4) = .ok (.iadd, 1)) (d4 : decode cL_law (pc + 5) = .ok (.iaload, 1))
    (kk : W p l e R S m #[.ref b] below meth c H locs cells slots Q (F0 m (pc + 6) ls (.int (jI (xs j).toInt) :: rest))) : W p l e R S m #[.ref b] below meth c H locs cells slots Q (F0 m pc ls rest) := by
  obtain ⟨hx, hb, hml, hown, hts, hX, hbl, hK, hTH, hNP, hNW⟩ := A0
  have hr : rg (j : Int) := ⟨by omega, by omega⟩
  refine lv_aload_n hx hb d0 rfl h0 ?_
  refine lv_iload hx hb d1 h5 ?_
  refine lv_iconst (v := jI (j : Int)) hx hb d2 rfl ?_
  refine lv_iadd hx hb d3 ?_
  rw [jI_add, Int.zero_add]
  refine va_sld (A := fun a => S.heap.size ≤ a) hx hb hX hbl (Nat.not_le.mpr hbl) hS (jI_in hr ⟨by omega, by omega⟩) d4 ?_
  rw [jI_cl hr, show ((j : Int).toNat) = j from rfl]
  rw [jI_of] at kk
  exact kk
theorem z_bool (A0 : LA p S m c b L xs g) {v : Int} (hv : rg v) {of1 : Int} (d0 : decode cL_law pc = .ok (.ifCond .eq 7, 3)) (d1 : decode cL_law (pc + 3) = .ok (.iconst 1, 1)) (d2 : decode cL_law (pc + 4) = .ok (.goto 4, 3)) (d3 : decode cL_law (pc + 7) = .ok (.iconst 0, 1))
    (kk : W p l e R S m #[.ref b] below meth c H locs cells slots Q (F0 m (pc + 8) ls (.int (jI (bz v)) :: rest))) : W p l e R S m #[.ref b] below meth c H locs cells slots Q (F0 m pc ls (.int (jI v) :: rest)) := by
  obtain ⟨hx, hb, hml, hown, hts, hX, hbl, hK, hTH, hNP, hNW⟩ := A0
  refine lv_if_eq (tgt := pc + 7) hx hb d0 (by omega) (fun ci => ?_) (fun ci => ?_)
  · have c0 : v = 0 := (jI_eq hv rg_0).mp (ci.trans jI_0.symm)
    rw [show bz v = 0 from by unfold bz; rw [if_pos c0]] at kk
    exact lv_iconst (v := jI 0) hx hb d3 rfl kk
  · have c0 : ¬ v = 0 := fun z => ci (by rw [z]; exact jI_0)
    rw [show bz v = 1 from by unfold bz; rw [if_neg c0]] at kk
    refine lv_iconst (v := jI 1) hx hb d1 rfl ?_
    exact lv_goto (tgt := pc + 8) hx hb d2 (by omega) kk
theorem z_thr (A0 : LA p S m c b L xs g) {q o : Nat} {Mr : Mm} {Post : Heap → Prop} (hP : ∀ H H' : Heap, H'[o]? = H[o]? → Post H → Post H') (hW : LQ g S.heap.size q o Mr Post H) (hS : va_S (fun a => S.heap.size ≤ a) S.heap H locs) (hsz : ls.size = 9) (h2 : ls[2]? = some (.val (.ref q))) {k : Int} (h6 : ls[6]? = some (.val (.int (jI k)))) (hT : F_X4_thrown Mr = some k)
    {ix : Nat} (w1 : Cond.methodLink "JournalDiskLaw" ix yX4_thrown ∈ wT) (hroom : 1 ≤ R.frames ∧ 20 ≤ R.locals) (hcs : cells ≤ R.cells ∧ slots ≤ R.slots)
    (d0 : decode cL_law pc = .ok (.aload_n 2, 1)) (d1 : decode cL_law (pc + 1) = .ok (.invokevirtual ix, 3)) (d2 : decode cL_law (pc + 4) = .ok (.iload 6, 2)) (d3 : decode cL_law (pc + 6) = .ok (.if_icmp .eq 5, 3))
    (kk : ∀ (H1 : Heap) (locs1 : List Loc), LQ g S.heap.size q o Mr Post H1 → va_S (fun a => S.heap.size ≤ a) S.heap H1 locs1 → W p l e R S m #[.ref b] below meth c H1 locs1 cells slots Q (F0 m (pc + 11) ls [])) : W p l e R S m #[.ref b] below meth c H locs cells slots Q (F0 m pc ls []) := by
  obtain ⟨hx, hb, hml, hown, hts, hX, hbl, hK, hTH, hNP, hNW⟩ := id A0
  refine lv_aload_n hx hb d0 rfl h2 ?_
  refine z_refi (As := []) (rest := []) (mc := 0) (ms := 0) A0 hP hW hS (c_X4_thrown (l := l) (g := g) (b := q) hT) w1 wd1157 wd1158 wd1159 hyX4_thrown ⟨rfl, rfl⟩ ⟨hroom.1, hroom.2⟩ hsz (Nat.le_of_ble_eq_true rfl) d1 hcs rfl (fun hrg H1 locs1 hW1 hS1 => ?_)
  refine lv_iload hx hb d2 h6 ?_
  refine lv_icmp_eq (tgt := pc + 11) hx hb d3 (by omega) (fun _ => kk H1 locs1 hW1 hS1) (fun ci => absurd rfl ci)
theorem z_cmp (A0 : LA p S m c b L xs g) {q o : Nat} {Mr : Mm} {Post : Heap → Prop} (hW : LQ g S.heap.size q o Mr Post H) {k : Int} (hk : rg k) (h6 : ls[6]? = some (.val (.int (jI k)))) (h3 : ls[3]? = some (.val (.ref o))) {v : Int64} (hE : k = 0 → ∀ H, Post H → OL g o v H) {pc2 tgt : Nat}
    (d0 : decode cL_law pc = .ok (.iload 6, 2)) {of1 : Int} (d1 : decode cL_law (pc + 2) = .ok (.ifCond .ne of1, 3)) (h1 : ((pc + 2 : Nat) : Int) + of1 = ((pc2 + 6 : Nat) : Int)) (d2 : decode cL_law (pc + 5) = .ok (.aload_n 3, 1)) (d3 : decode cL_law (pc + 6) = .ok (.iconst 0, 1)) (d4 : decode cL_law (pc + 7) = .ok (.laload, 1))
    (hmid : W p l e R S m #[.ref b] below meth c H locs cells slots Q (F0 m pc2 ls [.long v, .long v]) → W p l e R S m #[.ref b] below meth c H locs cells slots Q (F0 m (pc + 8) ls [.long v]))
    (d7 : decode cL_law pc2 = .ok (.lcmp, 1)) (d8 : decode cL_law (pc2 + 1) = .ok (.ifCond .eq 5, 3)) {of2 : Int} (d9 : decode cL_law (pc2 + 6) = .ok (.goto of2, 3)) (h2 : ((pc2 + 6 : Nat) : Int) + of2 = (tgt : Int))
    (kk : W p l e R S m #[.ref b] below meth c H locs cells slots Q (F0 m tgt ls [])) : W p l e R S m #[.ref b] below meth c H locs cells slots Q (F0 m pc ls []) := by
  obtain ⟨hx, hb, hml, hown, hts, hX, hbl, hK, hTH, hNP, hNW⟩ := id A0
  have hend : W p l e R S m #[.ref b] below meth c H locs cells slots Q (F0 m (pc2 + 6) ls []) := lv_goto (tgt := tgt) hx hb d9 h2 kk
  refine lv_iload hx hb d0 h6 ?_
  refine lv_if_ne (tgt := pc2 + 6) hx hb d1 h1 (fun _ => hend) (fun ci => ?_)
  have c0 : k = 0 := (jI_eq hk rg_0).mp (ci.trans jI_0.symm)
  obtain ⟨f, hf, hv⟩ := hE c0 H hW.2.1
  refine lv_aload_n hx hb d2 rfl h3 ?_
  refine lv_iconst (v := jI 0) hx hb d3 rfl ?_
  refine va_lald (D := g.1) (cl := vwCl) (tys := tysX g) (ws := [(o, .inl (g.2 4, 1, .inr (.inl f)))]) hx hb hK (fun k q hq => ?_) 0 4 rfl rfl (jI_in rg_0 (by decide)) d4 ?_
  · match k, hq with
    | 0, hq => cases hq; exact hf
    | k + 1, hq => simp at hq
  · rw [show (jI 0).toNatClampNeg = 0 from by decide +kernel, hv]
    refine hmid ?_
    refine x_lcmp hx hb d7 ?_
    have e0 : lcmpI v v = 0 := by
      unfold lcmpI
      rw [if_neg (Int64.lt_irrefl), if_pos rfl]
    rw [e0]
    exact lv_if_eq (tgt := pc2 + 6) hx hb d8 (by omega) (fun _ => hend) (fun ci => absurd jI_0 ci)
end LR
