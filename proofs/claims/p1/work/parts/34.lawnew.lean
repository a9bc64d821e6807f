/-- what holds in the law's frame, over the start with any record of draws -/
def LA (p : Program) (S : State) (m : MethodId) (c : Code) (b L : Nat) (xs : Nat → Int32) (g : Gx) : Prop :=
  p.tables.exec = Jvm.exec ∧ c.code = cL_law ∧ c.maxLocals = 9 ∧ S.vm.findClass "JournalDiskLaw" = some m.cls ∧ (∀ w ∈ wT, w.before #[Value.ref b] S = true) ∧ va_X b L xs S S.heap ∧ b < S.heap.size ∧ va_K g.1 vwCl (tysX g) S ∧ TH S.heap.size S ∧ NP S ∧ NWd S
def LW (g : Gx) (Z q o d : Nat) (M Mr : Mm) (H : Heap) : Prop := Rel g Z M H ∧ Rem g q Mr [] H ∧ (∃ x, OL g o x H) ∧ (∃ y, OD g d y H) ∧ Z + 431 ≤ q ∧ q + 7 ≤ o ∧ o < d ∧ d < H.size
theorem NWd.go {s U : State} (hW : s.WarmedH U.vm) (h : NWd s) : NWd U := ⟨va_Nw.warmM hW h.1, h.2.1.moved hW.alike, va_Nw.warmM hW h.2.2.1, h.2.2.2.moved hW.alike⟩
theorem NWd.call {U : State} {fr : JFrame} {mk : MethodId} {a : Array Value} (h : NWd U) : NWd (U.calling fr mk a) := ⟨va_Nw.same (u := U) rfl rfl h.1, h.2.1.moved (Vm.Alike.refl U.vm), va_Nw.same (u := U) rfl rfl h.2.2.1, h.2.2.2.moved (Vm.Alike.refl U.vm)⟩
theorem rel_q {g : Gx} {b : Nat} {M : Mm} {H H1 : Heap} (h : Rel g b M H) (hq : ∀ q : Nat, b ≤ q → q < b + 431 → H1[q]? = H[q]?) : Rel g b M H1 := ⟨fun K i ok => (h.1 K i ok).kept (hq _ (adr_bd ok).1 (adr_bd ok).2), h.2⟩
theorem rem_q {g : Gx} {b : Nat} {M : Mm} {H H1 : Heap} (h : Rem g b M [] H) (hq : ∀ q : Nat, b ≤ q → q < b + 7 → H1[q]? = H[q]?) : Rem g b M [] H1 := ⟨fun K ok => (h.1 K ok).kept (hq _ (by omega) (by omega)), h.2.1, DYN.nil⟩
section IRO
variable {p : Program} {l : Launch} {e : Env} {R : Room} {s : State} {m : MethodId} {args : Array Value} {below : List Frame} {meth : Method} {c : Code} {H : Heap} {locs : List Loc} {cells slots : Nat} {Q : State → Prop}
variable {cc : ByteArray} {pc : Nat} {ls : Array Slot} {rest : List Value} {g : Gx} {f : Nat → Option va_E} {h lo : Nat}
theorem i_newO (hexec : p.tables.exec = Jvm.exec) (hb : c.code = cc) {own C : String} {T : u_T} {N ci index : Nat} (hts : ∀ w ∈ wT, w.before args s = true) (hin : ∀ w ∈ u_ws C T N, w ∈ wT) (ty : Nat → FieldType) (hty : ∀ k, k < N → parseFieldDescriptor (T k).2.2.1 = some (ty k)) (hown : s.vm.findClass own = some m.cls) (hcl : Cond.classLink own index C ∈ wT) (hinst : Cond.instantiable C N ∈ wT) (hini : Cond.initialized C ∈ wT)
    (hK : va_K g.1 vwCl (tysX g) s) (hC : CW g f h H) (hS : va_S (fun a => lo ≤ a) s.heap H locs) (hc : vwCl[ci]? = some (C, T, N)) {fs : List Value} (hfs : ∀ j, j < N → defaultValue (ty j) = vp_V fs j) (hcells : cells + 1 ≤ R.cells) (hslots : slots + N ≤ R.slots) (hdg : decode cc pc = .ok (.new index, 3))
    (kk : ∀ (H1 : Heap), CW g (fup f h (.inr (ci, fs))) (h + 1) H1 → (∀ q : Nat, q < h → H1[q]? = H[q]?) → va_S (fun a => lo ≤ a) s.heap H1 locs →
      W p l e R s m args below meth c H1 locs (cells + 1) (slots + N) Q (F0 m (pc + 3) ls (.ref h :: rest))) : W p l e R s m args below meth c H locs cells slots Q (F0 m pc ls rest) := by
  have hKn := hK.1 ci _ hc
  refine W.newcK hexec hb hown (hts _ hcl) (hts _ hinst) (hts _ hini) rfl hdg hcells hslots hKn.2.1 hC.1 fun H1 kC hkC e1 z1 o1 => ?_
  refine kk H1 (hC.push ⟨_, hc, (u_born ty hts hin hKn hkC e1 hty).to hfs⟩ z1 o1) o1 ⟨Nat.le_trans hS.1 (by rw [z1, ← hC.1]; omega), fun x h1 h2 => (o1 x (by have := hS.1; have := hC.1; omega)).trans (hS.2.1 x h1 h2), hS.2.2⟩
end IRO
set_option maxHeartbeats 4000000 in
set_option maxRecDepth 100000 in
theorem law_new {p : Program} {l : Launch} {e : Env} {S : State} {m : MethodId} {below : List Frame} {meth : Method} {c : Code} {b L : Nat} {xs : Nat → Int32} {g : Gx} {Q : State → Prop} (A0 : LA p S m c b L xs g) {Mr : Mm} (hF : F_X4_init_61 N00 = some Mr) {ls : Array Slot} (hl : lv_has ls 9 [(0, .ref b)])
    (kk : ∀ (H : Heap) (locs : List Loc) (ls : Array Slot) (q o d : Nat), LW g S.heap.size q o d M0 Mr H → va_S (fun a => S.heap.size ≤ a) S.heap H locs → lv_has ls 9 [(5, .int (jI 0)), (4, .ref d), (3, .ref o), (2, .ref q), (1, .ref S.heap.size), (0, .ref b)] → W p l e room_1 S m #[Value.ref b] below meth c H locs 440 25558 Q (F0 m 28 ls [])) :
    W p l e room_1 S m #[Value.ref b] below meth c S.heap [] 0 0 Q (F0 m 0 ls []) := by
  obtain ⟨hx, hb, hml, hown, hts, hX, hbl, hK, hTH, hNP, hNW⟩ := A0
  have hS : va_S (fun a => S.heap.size ≤ a) S.heap S.heap [] := va_S.rf
  obtain ⟨Z, hZ⟩ : ∃ z, z = S.heap.size := ⟨_, rfl⟩
  rw [← hZ] at kk hS
  have hC : CW g (fun _ => none) Z S.heap := ⟨hZ.symm, fun a e h => by cases h⟩
  obtain ⟨H0, hH0⟩ : ∃ z, z = S.heap := ⟨_, rfl⟩
  rw [← hH0] at hC
  have hS : va_S (fun a => Z ≤ a) S.heap H0 [] := by rw [hH0]; exact hS
  rw [← hH0]
  refine i_new (C := RX3) (T := TX3) (N := 9) (ci := 3) (fs := [.null, .null, .null, .null, .int (jI 0), .int (jI 0), .int (jI 0), .int (jI 0), .int (jI 0)]) hx hb hts inX3 tyX3 tyX3_ok hown wd14 wd15 wd1 hK hC hS rfl (fun j hj => by rcases (show j = 0 ∨ j = 1 ∨ j = 2 ∨ j = 3 ∨ j = 4 ∨ j = 5 ∨ j = 6 ∨ j = 7 ∨ j = 8 by omega) with rfl | rfl | rfl | rfl | rfl | rfl | rfl | rfl | rfl <;> decide +kernel) (Nat.le_of_ble_eq_true rfl) (Nat.le_of_ble_eq_true rfl) dL_law_0 (fun H1 hC1 hS1 => ?_)
  refine lv_dup hx hb dL_law_3 rfl ?_
  refine va_callv (va_runI (As := []) (rest := [.ref Z]) ⟨hx, hb, hml, hown, hts⟩ (c_X3_init (l := l) (g := g) (q := Z)) (cwI 0 hts (fun w hw => (List.mem_cons.mp hw).elim (fun e => by rw [e]; exact ⟨wd18, wT_good wd18⟩) (fun h => ⟨h, wT_good h⟩)) rfl rfl rfl (hts _ wd1) (hts _ wd16) (hts _ wd17) rfl hyX3_init ⟨Nat.le_of_ble_eq_true rfl, Nat.le_of_ble_eq_true rfl⟩) ⟨fun a U fr mk z => ?_, fun U hU hW => ⟨rfl, by rw [hU]; exact hC1.1, by rw [hU]; exact hC1.2 Z _ (by unfold fup; rw [if_pos rfl]), va_K.moved hW.alike hK, hNW.go hW⟩⟩ rfl rfl hl.1 rfl (lv_room (Nat.le_of_ble_eq_true rfl)) dL_law_4 ⟨Nat.le_of_ble_eq_true rfl, Nat.le_of_ble_eq_true rfl⟩) hS1 (fun a _ h => h) (fun a h => h) (fun u t H2 locs2 ht hvm hw hB hz2 hk2 hS2 => ?_)
  · obtain ⟨z0, z1, z2, z3, z4⟩ := z
    exact ⟨z0, z1, z2, va_K.moved (u := U) (U := U.calling fr mk a) (Vm.Alike.refl U.vm) z3, z4.call⟩
  rw [ht] at hB
  obtain ⟨hsz2, hR2⟩ := hB
  refine lv_astore_n (lv' := [(1, .ref Z), (0, .ref b)]) hx hb dL_law_7 rfl hl (by decide) rfl (fun ls hl => ?_)
  have hC2 : CW g (fun _ => none) (Z + 431) H2 := ⟨hsz2, fun a e h => by cases h⟩
  refine i_newO (C := RX4) (T := TX4) (N := 14) (ci := 4) (fs := [.null, .null, .null, .null, .null, .null, .int (jI 0), .int (jI 0), .int (jI 0), .int (jI 0), .int (jI 0), .int (jI 0), .int (jI 0), .long 0]) hx hb hts inX4 tyX4 tyX4_ok hown wd1106 wd1107 wd5 hK hC2 hS2 rfl (fun j hj => by rcases (show j = 0 ∨ j = 1 ∨ j = 2 ∨ j = 3 ∨ j = 4 ∨ j = 5 ∨ j = 6 ∨ j = 7 ∨ j = 8 ∨ j = 9 ∨ j = 10 ∨ j = 11 ∨ j = 12 ∨ j = 13 by omega) with rfl | rfl | rfl | rfl | rfl | rfl | rfl | rfl | rfl | rfl | rfl | rfl | rfl | rfl <;> decide +kernel) (Nat.le_of_ble_eq_true rfl) (Nat.le_of_ble_eq_true rfl) dL_law_8 (fun H3 hC3 o3 hS3 => ?_)
  have hR3 : Rel g Z M0 H3 := rel_q hR2 (fun q _ h => o3 q h)
  refine lv_dup hx hb dL_law_11 rfl ?_
  refine va_callv (va_runI (As := []) (rest := [.ref (Z + 431)]) ⟨hx, hb, hml, hown, hts⟩ (c_X4_init (l := l) (g := g) (q := Z + 431) hF) (cwI 0 hts (fun w hw => (List.mem_cons.mp hw).elim (fun e => by rw [e]; exact ⟨wd1110, wT_good wd1110⟩) (fun h => ⟨h, wT_good h⟩)) rfl rfl rfl (hts _ wd5) (hts _ wd1108) (hts _ wd1109) rfl hyX4_init ⟨Nat.le_of_ble_eq_true rfl, Nat.le_of_ble_eq_true rfl⟩) ⟨fun a U fr mk z => ?_, fun U hU hW => ⟨rfl, by rw [hU]; exact hC3.1, by rw [hU]; exact hC3.2 (Z + 431) _ (by unfold fup; rw [if_pos rfl]), va_K.moved hW.alike hK⟩⟩ rfl rfl hl.1 rfl (lv_room (Nat.le_of_ble_eq_true rfl)) dL_law_12 ⟨Nat.le_of_ble_eq_true rfl, Nat.le_of_ble_eq_true rfl⟩) hS3 (fun a _ h => by rcases h with h | h <;> omega) (fun a h => by rcases h with h | h <;> omega) (fun u t H4 locs4 ht hvm hw hB hz4 hk4 hS4 => ?_)
  · obtain ⟨z0, z1, z2, z3⟩ := z
    exact ⟨z0, z1, z2, va_K.moved (u := U) (U := U.calling fr mk a) (Vm.Alike.refl U.vm) z3⟩
  obtain ⟨hM4, -⟩ := hB
  rw [ht] at hM4
  have hR4 : Rel g Z M0 H4 := rel_q hR3 (fun q h1 h2 => hk4 q (by rw [hC3.1]; omega) (fun h => by rcases h with h | h <;> omega))
  refine lv_astore_n (lv' := [(2, .ref (Z + 431)), (1, .ref Z), (0, .ref b)]) hx hb dL_law_15 rfl hl (by decide) rfl (fun ls hl => ?_)
  have hlt4 := hM4.lt
  refine lv_iconst hx hb (v := 1) dL_law_16 rfl ?_
  obtain ⟨o, ho⟩ : ∃ z, z = H4.size := ⟨_, rfl⟩
  refine va_newaK (atype := .long) hx hb (hts _ wd115) rfl dL_law_17 rfl (by decide +kernel) (show _ = 1 by decide +kernel) (Nat.le_of_ble_eq_true rfl) (Nat.le_of_ble_eq_true rfl) (Nat.le_of_ble_eq_true rfl) ho.symm fun H5 cA e5 z5 o5 hAr hNm => ?_
  have hcA : cA = g.2 4 := Option.some.inj (hNm.symm.trans (hK.2 4 (g.2 4, .long) rfl).2)
  subst hcA
  refine lv_astore_n (lv' := [(3, .ref o), (2, .ref (Z + 431)), (1, .ref Z), (0, .ref b)]) hx hb dL_law_19 rfl hl (by decide) rfl (fun ls hl => ?_)
  refine lv_iconst hx hb (v := 1) dL_law_20 rfl ?_
  refine va_newaK (atype := .double) hx hb (hts _ wd1666) rfl dL_law_21 rfl (by decide +kernel) (show _ = 1 by decide +kernel) (Nat.le_of_ble_eq_true rfl) (Nat.le_of_ble_eq_true rfl) (Nat.le_of_ble_eq_true rfl) z5 fun H6 cA e6 z6 o6 hAr6 hNm6 => ?_
  have hcA : cA = g.2 5 := Option.some.inj (hNm6.symm.trans (hK.2 5 (g.2 5, .double) rfl).2)
  subst hcA
  refine lv_astore (lv' := [(4, .ref (o + 1)), (3, .ref o), (2, .ref (Z + 431)), (1, .ref Z), (0, .ref b)]) hx hb dL_law_23 hl (by decide) rfl (fun ls hl => ?_)
  refine lv_iconst hx hb (v := jI 0) dL_law_25 rfl ?_
  refine lv_istore (lv' := [(5, .int (jI 0)), (4, .ref (o + 1)), (3, .ref o), (2, .ref (Z + 431)), (1, .ref Z), (0, .ref b)]) hx hb dL_law_26 hl (by decide) rfl (fun ls hl => ?_)
  have hk6 : ∀ q : Nat, q < o → H6[q]? = H4[q]? := fun q h => (o6 q (by omega)).trans (o5 q h)
  refine W.widen (k := 440) (n := 25558) (Nat.le_of_ble_eq_true rfl) (Nat.le_of_ble_eq_true rfl) (kk H6 _ ls (Z + 431) o (o + 1) ⟨rel_q hR4 (fun q _ h => hk6 q (by omega)), rem_q hM4 (fun q _ h => hk6 q (by omega)), ⟨0, fun _ => 0, ?_, rfl⟩, ⟨0, fun _ => 0, ?_, rfl⟩, Nat.le_refl _, by omega, by omega, by omega⟩ ⟨?_, ?_, ?_⟩ hl)
  · rw [vp_cell_l, o6 o (by omega)]
    exact e5
  · rw [vp_cell_d]
    exact e6
  · have := hS4.1
    omega
  · intro q h1 h2
    exact (hk6 q (by have := hS4.1; omega)).trans (hS4.2.1 q h1 h2)
  · exact hS4.2.2
