theorem z_clsi {p : Program} {l : Launch} {e : Env} {R : Room} {S : State} {m : MethodId} {below : List Frame} {meth : Method} {c : Code} {H : Heap} {locs : List Loc} {cells slots : Nat} {Q : State → Prop} {pc : Nat} {ls : Array Slot} {rest : List Value} {g : Gx} {b L : Nat} {xs : Nat → Int32} (A0 : LA p S m c b L xs g) {q o d : Nat} {M Mr : Mm} (hW : LW g S.heap.size q o d M Mr H) (hS : va_S (fun a => S.heap.size ≤ a) S.heap H locs)
    {y : MethodName} {bytes : ByteArray} {maxL : Nat} {ret : Option FieldType} {rm : Room} {As : List Value} {r : Int} {M' : Mm} {index : Nat} (hM : Ct l y bytes maxL ret rm g S.heap.size (.ref (adr S.heap.size 0 0) :: As) M (qI g S.heap.size r M'))
    (w1 : Cond.methodLink "JournalDiskLaw" index y ∈ wT) (w2 : Cond.instanceMethod y ∈ wT) (w3 : Cond.selects RX3 y y ∈ wT) (w5 : Cond.code y bytes maxL ret ∈ wT) (hy : y.cls = RX3 ∧ y.cls ≠ "java/lang/invoke/MethodHandle" ∧ y.cls ≠ "java/lang/invoke/VarHandle" ∧ (parseMethodDescriptor y.desc).map (fun d => d.parameters.length) = some As.length)
    (hrm : rm.cells = 0 ∧ rm.slots = 0) (hroom : rm.frames + 1 ≤ R.frames ∧ 8 + (maxL + 11) + rm.locals ≤ R.locals) (hsz : ls.size = 9) (hst : (rest.map fun v => v.category).sum ≤ 8) (hdg : decode cL_law pc = .ok (.invokevirtual index, 3)) (hcs : cells ≤ R.cells ∧ slots ≤ R.slots) {st : List Value} (hst0 : st = As.reverse ++ .ref S.heap.size :: rest)
    (kk : rg r → ∀ (H1 : Heap) (locs1 : List Loc), LQ g S.heap.size q o Mr (fun _ => True) H1 → va_S (fun a => S.heap.size ≤ a) S.heap H1 locs1 → W p l e R S m #[.ref b] below meth c H1 locs1 cells slots Q (F0 m (pc + 3) ls (.int (jI r) :: rest))) : W p l e R S m #[.ref b] below meth c H locs cells slots Q (F0 m pc ls st) := by
  subst hst0
  obtain ⟨hx, hb, hml, hown, hts, hX, hbl, hK, hTH, hNP, hNW⟩ := A0
  obtain ⟨hR, hRm, hO, hD, k1, k2, k3, k4⟩ := hW
  have hZ := hS.1
  refine va_calli (va_runV (As := As) (rest := rest) ⟨hx, hb, hml, hown, hts⟩ (hM H.size) (cwV As.length hts (gV w1 w2 w3 wd1 w5) rfl hrm.1 hrm.2 hy hroom) ⟨ct_blind, va_recv (q0 := 0) (ci := 3) (q := (RX3, TX3, 9)) hK (hR.P1 ok0) rfl rfl, fun U hU hW => ⟨rfl, by rw [hU], by rw [hU]; exact hR, va_K.moved hW.alike hK⟩⟩ rfl rfl hsz rfl (lv_room hst) hdg ⟨hcs.1, hcs.2⟩) hS (fun a _ h => ?_) (fun a h => ?_) (fun r0 u t H1 locs1 ht hvm hw hB hz1 hk1 hS1 => ?_)
  · rcases h with h | h <;> omega
  · rcases h with h | h <;> omega
  · obtain ⟨rfl, hrg⟩ := hw
    exact kk hrg H1 locs1 ⟨rem_q hRm (fun a h1 h2 => hk1 a (by omega) (fun h => by rcases h with h | h <;> omega)), trivial, by omega, by omega, by omega⟩ hS1
set_option maxHeartbeats 4000000 in
set_option maxRecDepth 100000 in
theorem k_isDown {p : Program} {l : Launch} {e : Env} {S : State} {m : MethodId} {below : List Frame} {meth : Method} {c : Code} {H : Heap} {locs : List Loc} {Q : State → Prop} {ls : Array Slot} {g : Gx} {b L : Nat} {xs : Nat → Int32} (A0 : LA p S m c b L xs g) {q o d : Nat} {M Mr Mr' M' : Mm} (hLW : LW g S.heap.size q o d M Mr H) (hS : va_S (fun a => S.heap.size ≤ a) S.heap H locs) (hl : lv_has ls 9 [(5, .int (jI 0)), (4, .ref d), (3, .ref o), (2, .ref q), (1, .ref S.heap.size), (0, .ref b)]) {r : Int} (hC : Ct l yX3_isDown cX3_isDown 1 (some .boolean) rmX3_isDown g S.heap.size [.ref (adr S.heap.size 0 0)] M (qI g S.heap.size r M')) (hM : Cm l yX4_isDown cX4_isDown 1 (some .boolean) rmX4_isDown g q [.ref (q + 0)] Mr [] 0 0 (pI g q r Mr'))
    (kk : ∀ (H1 : Heap) (locs1 : List Loc) (ls1 : Array Slot), va_S (fun a => S.heap.size ≤ a) S.heap H1 locs1 → lv_has ls1 9 [(5, .int (jI 0)), (0, .ref b)] → W p l e room_1 S m #[.ref b] below meth c H1 locs1 440 25558 Q (F0 m 4280 ls1 [])) : W p l e room_1 S m #[.ref b] below meth c H locs 440 25558 Q (F0 m 2589 ls []) := by
  obtain ⟨hx, hb, hml, hown, hts, hX, hbl, hK, hTH, hNP, hNW⟩ := id A0
  refine lv_aload_n hx hb dL_law_2589 rfl (lv_at hl 4 rfl) ?_
  refine z_clsi (As := []) (rest := []) A0 hLW hS hC wd167 wd168 wd169 wd170 hyX3_isDown ⟨rfl, rfl⟩ ⟨Nat.le_of_ble_eq_true rfl, Nat.le_of_ble_eq_true rfl⟩ hl.1 (Nat.le_of_ble_eq_true rfl) dL_law_2590 ⟨Nat.le_of_ble_eq_true rfl, Nat.le_of_ble_eq_true rfl⟩ rfl (fun _ H locs hW hS => ?_)
  refine lv_aload_n hx hb dL_law_2593 rfl (lv_at hl 3 rfl) ?_
  refine z_refi (As := []) (rest := [.int (jI r)]) (mc := 0) (ms := 0) A0 (fun _ _ _ h => h) hW hS hM wd1480 wd1481 wd1482 wd1483 hyX4_isDown ⟨rfl, rfl⟩ ⟨Nat.le_of_ble_eq_true rfl, Nat.le_of_ble_eq_true rfl⟩ hl.1 (Nat.le_of_ble_eq_true rfl) dL_law_2594 ⟨Nat.le_of_ble_eq_true rfl, Nat.le_of_ble_eq_true rfl⟩ rfl (fun _ H locs hW hS => ?_)
  exact lv_icmp_eq (tgt := 4280) hx hb dL_law_2597 rfl (fun _ => kk H locs ls hS (lv_sub hl [0, 5] rfl)) (fun ci => absurd rfl ci)
set_option maxHeartbeats 4000000 in
set_option maxRecDepth 100000 in
theorem k_mounts {p : Program} {l : Launch} {e : Env} {S : State} {m : MethodId} {below : List Frame} {meth : Method} {c : Code} {H : Heap} {locs : List Loc} {Q : State → Prop} {ls : Array Slot} {g : Gx} {b L : Nat} {xs : Nat → Int32} (A0 : LA p S m c b L xs g) {q o d : Nat} {M Mr Mr' M' : Mm} (hLW : LW g S.heap.size q o d M Mr H) (hS : va_S (fun a => S.heap.size ≤ a) S.heap H locs) (hl : lv_has ls 9 [(5, .int (jI 0)), (4, .ref d), (3, .ref o), (2, .ref q), (1, .ref S.heap.size), (0, .ref b)]) {r : Int} (hC : Ct l yX3_mounts cX3_mounts 1 (some .int) rmX3_mounts g S.heap.size [.ref (adr S.heap.size 0 0)] M (qI g S.heap.size r M')) (hM : Cm l yX4_mounts cX4_mounts 1 (some .int) rmX4_mounts g q [.ref (q + 0)] Mr [] 0 0 (pI g q r Mr'))
    (kk : ∀ (H1 : Heap) (locs1 : List Loc) (ls1 : Array Slot), va_S (fun a => S.heap.size ≤ a) S.heap H1 locs1 → lv_has ls1 9 [(5, .int (jI 0)), (0, .ref b)] → W p l e room_1 S m #[.ref b] below meth c H1 locs1 440 25558 Q (F0 m 4280 ls1 [])) : W p l e room_1 S m #[.ref b] below meth c H locs 440 25558 Q (F0 m 2602 ls []) := by
  obtain ⟨hx, hb, hml, hown, hts, hX, hbl, hK, hTH, hNP, hNW⟩ := id A0
  refine lv_aload_n hx hb dL_law_2602 rfl (lv_at hl 4 rfl) ?_
  refine z_clsi (As := []) (rest := []) A0 hLW hS hC wd171 wd172 wd173 wd174 hyX3_mounts ⟨rfl, rfl⟩ ⟨Nat.le_of_ble_eq_true rfl, Nat.le_of_ble_eq_true rfl⟩ hl.1 (Nat.le_of_ble_eq_true rfl) dL_law_2603 ⟨Nat.le_of_ble_eq_true rfl, Nat.le_of_ble_eq_true rfl⟩ rfl (fun _ H locs hW hS => ?_)
  refine lv_aload_n hx hb dL_law_2606 rfl (lv_at hl 3 rfl) ?_
  refine z_refi (As := []) (rest := [.int (jI r)]) (mc := 0) (ms := 0) A0 (fun _ _ _ h => h) hW hS hM wd1484 wd1485 wd1486 wd1487 hyX4_mounts ⟨rfl, rfl⟩ ⟨Nat.le_of_ble_eq_true rfl, Nat.le_of_ble_eq_true rfl⟩ hl.1 (Nat.le_of_ble_eq_true rfl) dL_law_2607 ⟨Nat.le_of_ble_eq_true rfl, Nat.le_of_ble_eq_true rfl⟩ rfl (fun _ H locs hW hS => ?_)
  exact lv_icmp_eq (tgt := 4280) hx hb dL_law_2610 rfl (fun _ => kk H locs ls hS (lv_sub hl [0, 5] rfl)) (fun ci => absurd rfl ci)
