/-! FROM THE LAW'S ENTRY TO ITS END -/
theorem rowK {s : State} {ty : FieldType} (hT : ∀ C, ty ≠ .object C) (h : ∃ (c : ClassId) (k : Class) (comp : ClassId), s.vm.findClass ("[" ++ ty.toString) = some c ∧ s.vm.classes[c]? = some k ∧ k.kind = .array comp ty) : ∃ c : ClassId, ArrOfT s c ty ∧ va_RA s c ty := by
  obtain ⟨c, k, comp, h1, h2, h3⟩ := h
  refine ⟨c, fun n z => ⟨(fun k h => by cases h), k, h2, comp, h3⟩, ?_⟩
  cases ty <;> first | exact h1 | exact absurd rfl (hT _)
theorem rowQ {s : State} {C : String} (h : va_AO C s) : ∃ c : ClassId, ArrOfT s c (.object C) ∧ va_RA s c (.object C) := by
  obtain ⟨comp, c, k, h1, -, h2, h3, h4⟩ := Cond.arrayOver_spec h
  exact ⟨c, fun n z => ⟨(fun k h => by cases h), k, h2, comp, h3⟩, k, comp, h2, h3, h1, h4⟩
set_option maxRecDepth 100000 in
theorem law_g {s : State} {args : Array Value} (hts : ∀ w ∈ lw_tbl, w.before args s = true) (hN : va_AO "JournalDisk$Node" s) (hH : va_AO "JournalDisk$Handle" s) : ∃ g : Gx, va_K g.1 vwCl (tysX g) s := by
  have ht : ∀ w ∈ wT, w.before args s = true := fun w h => hts w (wT_in w h)
  obtain ⟨c0, i0, k0⟩ := u_known (n := 4) ht inX0 (ht _ wd117)
  obtain ⟨c1, i1, k1⟩ := u_known (n := 12) ht inX1 (ht _ wd29)
  obtain ⟨c2, i2, k2⟩ := u_known (n := 8) ht inX2 (ht _ wd22)
  obtain ⟨c3, i3, k3⟩ := u_known (n := 9) ht inX3 (ht _ wd14)
  obtain ⟨a0, r0⟩ := rowK (ty := .int) (fun C q => by cases q) (Cond.arrayClass_spec (ht _ wd87))
  obtain ⟨a3, r3⟩ := rowK (ty := .boolean) (fun C q => by cases q) (Cond.arrayClass_spec (ht _ wd845))
  obtain ⟨a4, r4⟩ := rowK (ty := .long) (fun C q => by cases q) (Cond.arrayClass_spec (ht _ wd114))
  obtain ⟨a1, r1⟩ := rowQ hN
  obtain ⟨a2, r2⟩ := rowQ hH
  refine ⟨((fun k => match k with | 0 => c0 | 1 => c1 | 2 => c2 | _ => c3, fun k => match k with | 0 => i0 | 1 => i1 | 2 => i2 | _ => i3), fun k => match k with | 0 => a0 | 1 => a1 | 2 => a2 | 3 => a3 | _ => a4), ?_, ?_⟩
  · intro k q hq
    match k, hq with
    | 0, hq => cases hq; exact k0
    | 1, hq => cases hq; exact k1
    | 2, hq => cases hq; exact k2
    | 3, hq => cases hq; exact k3
    | k + 4, hq => simp [vwCl] at hq
  · intro k q hq
    match k, hq with
    | 0, hq => cases hq; exact r0
    | 1, hq => cases hq; exact r1
    | 2, hq => cases hq; exact r2
    | 3, hq => cases hq; exact r3
    | 4, hq => cases hq; exact r4
    | k + 5, hq => simp [tysX, tysE] at hq
theorem NWd.go {s U : State} (hW : s.WarmedH U.vm) (h : NWd s) : NWd U := ⟨va_Nw.warmM hW h.1, h.2.1.moved hW.alike, va_Nw.warmM hW h.2.2.1, h.2.2.2.moved hW.alike⟩
theorem NWd.call {U : State} {fr : JFrame} {mk : MethodId} {a : Array Value} (h : NWd U) : NWd (U.calling fr mk a) := ⟨va_Nw.same (u := U) rfl rfl h.1, h.2.1.moved (Vm.Alike.refl U.vm), va_Nw.same (u := U) rfl rfl h.2.2.1, h.2.2.2.moved (Vm.Alike.refl U.vm)⟩
set_option maxHeartbeats 4000000 in
set_option maxRecDepth 100000 in
theorem law_ND {b : Nat} {s : State} (hts : ∀ w ∈ lw_tbl, w.before #[Value.ref b] s = true) : NWd s :=
  ⟨va_Nw.of rfl (hts (.methodLinkNest RX2 17 yX1_init "JournalDisk") (by decide +kernel)),
    va_AO.of (hts (.arrayOver (.object "JournalDisk$Node")) (by decide +kernel)),
    va_Nw.of rfl (hts (.methodLinkNest RX3 45 yX0_init "JournalDisk") (by decide +kernel)),
    va_AO.of (hts (.arrayOver (.object "JournalDisk$Handle")) (by decide +kernel))⟩
set_option maxHeartbeats 4000000 in
set_option maxRecDepth 100000 in
theorem whole_start {p : Program} {e : Env} {s : State} {m : MethodId} {below : List Frame} {meth : Method} {c : Code} (l : Launch) (hflags : l.flags = flags0) {b L : Nat} {xs : Nat → Int32} (hL : L ≤ 260) (C0 : lw_At p s m meth c b L xs) : W p l e room_1 s m #[Value.ref b] below meth c s.heap [] 0 0 (lw_Z below #[Value.ref b] s) (entryFrame m ([Value.ref b] : List Value).toArray 10) := by
  obtain ⟨hx, hb, hr, hml, hown, hts0, hX, hbl, hlocks, hgv⟩ := id C0
  have hNW := law_ND hts0
  obtain ⟨g, hK⟩ := law_g hts0 hNW.2.1 hNW.2.2.2
  have hts : ∀ w ∈ wT, w.before #[Value.ref b] s = true := fun w h => hts0 w (wT_in w h)
  obtain ⟨M', hF⟩ := law_true xs L
  have hl := lv_entry ([.ref b]) (n := 10) (Nat.le_of_ble_eq_true rfl)
  rw [lg_entry_eq]
  generalize (lg_sl ([.ref b]) ++ List.replicate (10 - (lg_sl ([.ref b])).length) Slot.unset).toArray = ls at hl ⊢
  have hl : lv_has ls 10 [(0, .ref b)] := hl
  have hret : ∀ (H : Heap) (locs : List Loc) (ls : Array Slot) (cells slots pc : Nat), cells ≤ 600086 → slots ≤ 7301442 → va_S (fun a => s.heap.size ≤ a) s.heap H locs → decode cL_law pc = .ok (.ireturn, 1) → W p l e room_1 s m #[Value.ref b] below meth c H locs cells slots (lw_Z below #[Value.ref b] s) (F0 m pc ls [.int (jI 1)]) := by
    intro H locs ls cells slots pc h1 h2 hS hdg
    refine va_forget hS.2.2 ?_
    refine W.widen (k := 600086) (n := 7301442) h1 h2 ?_
    exact lw_ret hx hb hr hlocks hdg
  have hS : va_S (fun a => s.heap.size ≤ a) s.heap s.heap [] := va_S.rf
  obtain ⟨Z, hZ⟩ : ∃ z, z = s.heap.size := ⟨_, rfl⟩
  have hC : CW g (fun _ => none) Z s.heap := ⟨hZ.symm, fun a e h => by cases h⟩
  obtain ⟨H0, hH0⟩ : ∃ z, z = s.heap := ⟨_, rfl⟩
  rw [← hH0] at hC
  have hS : va_S (fun a => Z ≤ a) s.heap H0 [] := by rw [hH0, hZ]; exact hS
  rw [← hH0]
  refine i_new (C := RX3) (T := TX3) (N := 9) (ci := 3) (fs := [.null, .null, .null, .null, .int (jI 0), .int (jI 0), .int (jI 0), .int (jI 0), .int (jI 0)]) hx hb hts inX3 tyX3 tyX3_ok hown wd13 wd14 wd1 hK hC hS rfl (fun j hj => by rcases (show j = 0 ∨ j = 1 ∨ j = 2 ∨ j = 3 ∨ j = 4 ∨ j = 5 ∨ j = 6 ∨ j = 7 ∨ j = 8 by omega) with rfl | rfl | rfl | rfl | rfl | rfl | rfl | rfl | rfl <;> decide +kernel) (Nat.le_of_ble_eq_true rfl) (Nat.le_of_ble_eq_true rfl) dL_law_0 (fun H1 hC1 hS1 => ?_)
  refine lv_dup hx hb dL_law_3 rfl ?_
  refine va_callv (va_runI (As := []) (rest := [.ref Z]) ⟨hx, hb, hml, hown, hts⟩ (c_X3_init (l := l) (g := g) (q := Z)) (cwI 0 hts (fun w hw => (List.mem_cons.mp hw).elim (fun e => by rw [e]; exact ⟨wd17, wT_good wd17⟩) (fun h => ⟨h, wT_good h⟩)) rfl rfl rfl (hts _ wd1) (hts _ wd15) (hts _ wd16) rfl hyX3_init ⟨Nat.le_of_ble_eq_true rfl, Nat.le_of_ble_eq_true rfl⟩) ⟨fun a U fr mk z => ?_, fun U hU hW => ⟨rfl, by rw [hU]; exact hC1.1, by rw [hU]; exact hC1.2 Z _ (by unfold fup; rw [if_pos rfl]), va_K.moved hW.alike hK, hNW.go hW⟩⟩ rfl rfl hl.1 rfl (lv_room (Nat.le_of_ble_eq_true rfl)) dL_law_4 ⟨Nat.le_of_ble_eq_true rfl, Nat.le_of_ble_eq_true rfl⟩) hS1 (fun a _ h => h) (fun a h => h) (fun u t H2 locs2 ht hvm hw hB hz2 hk2 hS2 => ?_)
  · obtain ⟨z0, z1, z2, z3, z4⟩ := z
    exact ⟨z0, z1, z2, va_K.moved (u := U) (U := U.calling fr mk a) (Vm.Alike.refl U.vm) z3, z4.call⟩
  rw [ht] at hB
  obtain ⟨hsz2, hR2⟩ := hB
  refine lv_astore_n (lv' := [(1, .ref Z), (0, .ref b)]) hx hb dL_law_7 rfl hl (by decide) rfl (fun ls hl => ?_)
  have hR : RD g Z M0 [] H2 := ⟨hR2, DYN.nil⟩
  have hS3 : va_S (fun a => s.heap.size ≤ a) s.heap H2 locs2 := by rw [← hZ]; exact hS2
  refine x_bipush hx hb (by decide +kernel) dL_law_8 ?_
  refine e_new (atype := .boolean) (kd := 3) (N := 6) hx hb hts wd845 rfl rfl (fun cA h => Option.some.inj (h.symm.trans (hK.2 3 _ rfl).2)) hR hS3 (by decide) rfl (by decide) (Nat.le_of_ble_eq_true rfl) (Nat.le_of_ble_eq_true rfl) dL_law_10 (fun dq1 H hdq1 hR hS => ?_)
  refine lv_astore_n (lv' := [(2, .ref dq1), (1, .ref Z), (0, .ref b)]) hx hb dL_law_12 rfl hl (by decide) rfl (fun ls hl => ?_)
  refine x_iconst hx hb dL_law_13 ?_
  refine lv_istore_n (lv' := [(3, .int (jI 0)), (2, .ref dq1), (1, .ref Z), (0, .ref b)]) hx hb dL_law_14 rfl hl (by decide) rfl (fun ls hl => ?_)
  have C1 : LA p s m c #[Value.ref b] b L xs g Z := ⟨hx, hb, hml, hown, hts, ⟨hX, hL⟩, hbl, hK, hZ.symm⟩
  exact w_L_law_15 C1 hret FU M0 0 (fun _ => 0) rg_0 dq1 hdq1 H locs2 _ _ (by decide) hR hS ls (lv_sub hl [3, 2, 1, 0] rfl) hF
