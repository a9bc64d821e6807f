/-! CALLS FROM THE LAW'S FRAME -/
theorem gSW {own : String} {index : Nat} {y : MethodName} {bytes : ByteArray} {maxL : Nat} {ret : Option FieldType} {hh : List (Nat × Nat × Nat × Nat)} (w1 : Cond.methodLink own index y ∈ wT) (w2 : Cond.static y ∈ wT) (w4 : Cond.initialized y.cls ∈ wT) (w5 : Cond.codeWith y bytes maxL ret hh ∈ wT) : GoodIn wT (va_wsS own index y (Cond.codeWith y bytes maxL ret hh :: wT)) := by
  intro w hw
  have h : w ∈ wT := by
    unfold va_wsS at hw
    simp only [List.cons_append, List.nil_append, List.mem_cons] at hw
    rcases hw with rfl | rfl | rfl | rfl | h
    · exact w1
    · exact w2
    · exact w4
    · exact w5
    · exact h
  exact ⟨h, wT_good h⟩
section LC
variable {p : Program} {l : Launch} {e : Env} {R : Room} {S : State} {m : MethodId} {below : List Frame} {meth : Method} {c : Code} {H : Heap} {locs : List Loc} {cells slots : Nat} {Q : State → Prop}
variable {pc : Nat} {ls : Array Slot} {rest : List Value} {g : Gx} {b L : Nat} {xs : Nat → Int32}
/-- what is left of the law's world behind the class's call: the reference, and what the call said -/
def LQ (g : Gx) (Z q o : Nat) (Mr : Mm) (Post : Heap → Prop) (H : Heap) : Prop := Rem g q Mr [] H ∧ Post H ∧ Z ≤ q ∧ q + 7 ≤ o ∧ o < H.size
theorem z_wrap (A0 : LA p S m c b L xs g) {q o d o' : Nat} {M Mr : Mm} (hW : LW g S.heap.size q o d M Mr H) (hS : va_S (fun a => S.heap.size ≤ a) S.heap H locs) (ho : o' = o ∨ o' = d)
    {y : MethodName} {bytes : ByteArray} {maxL : Nat} {hh : List (Nat × Nat × Nat × Nat)} {rm : Room} {As : List Value} {Pre Post : Heap → Prop} {k : Int} {M' : Mm} {index : Nat} (hM : Lt l y bytes maxL hh rm g S.heap.size o' As M Pre k M' Post) (hPre : Pre H)
    (w1 : Cond.methodLink "JournalDiskLaw" index y ∈ wT) (w2 : Cond.static y ∈ wT) (w5 : Cond.codeWith y bytes maxL (some .int) hh ∈ wT) (hy : y.cls = "JournalDiskLaw" ∧ y.cls ≠ "java/lang/invoke/MethodHandle" ∧ y.cls ≠ "java/lang/invoke/VarHandle" ∧ (parseMethodDescriptor y.desc).map (fun d => d.parameters.length) = some As.length)
    (hrm : rm.cells = 1 ∧ rm.slots = 6) (hroom : rm.frames + 1 ≤ R.frames ∧ 8 + (maxL + 11) + rm.locals ≤ R.locals) (hsz : ls.size = 9) (hst : (rest.map fun v => v.category).sum ≤ 8) (hdg : decode cL_law pc = .ok (.invokestatic index, 3)) (hcs : cells + 1 ≤ R.cells ∧ slots + 6 ≤ R.slots) {st : List Value} (hst0 : st = As.reverse ++ rest)
    (kk : ∀ (H1 : Heap) (locs1 : List Loc), LQ g S.heap.size q o' Mr Post H1 → va_S (fun a => S.heap.size ≤ a) S.heap H1 locs1 → W p l e R S m #[.ref b] below meth c H1 locs1 (cells + 1) (slots + 6) Q (F0 m (pc + 3) ls (.int (jI k) :: rest))) : W p l e R S m #[.ref b] below meth c H locs cells slots Q (F0 m pc ls st) := by
  subst hst0
  obtain ⟨hx, hb, hml, hown, hts, hX, hbl, hK, hTH, hNP, hNW⟩ := A0
  obtain ⟨hR, hRm, hO, hD, k1, k2, k3, k4⟩ := hW
  have hS2 : va_S (AA S.heap.size S.heap.size) S.heap H locs := ⟨hS.1, fun q h1 h2 => hS.2.1 q h1 (fun z => h2 (Or.inr z)), fun q hq => Or.inr (hS.2.2 q hq)⟩
  have hZ := hS.1
  have w4 : Cond.initialized y.cls ∈ wT := by rw [hy.1]; exact wd0
  refine vx_calli (vx_runSX (As := As) (rest := rest) (hh := hh) ⟨hx, hb, hml, hown, hts⟩ (hM H.size) (vx_cwSW As.length hts (gSW w1 w2 w4 w5) rfl hrm.1 hrm.2 hy.2 hroom) ⟨lt_blind, fun U hU hW => ⟨rfl, by rw [hU], ⟨by rw [hU]; exact hR, va_K.moved hW.alike hK⟩, hTH.go (by rw [hU]; exact hS2) hW, hNP.moved hW.alike, by rw [hU]; exact hPre⟩⟩ rfl rfl hsz rfl (lv_room hst) hdg ⟨hcs.1, hcs.2⟩) hS (fun a _ h => ?_) (fun a h => ?_) (fun a _ h => h.elim) (fun E ce q9 u t H1 locs1 _ _ hu => hu.elim) (fun r u t H1 locs1 ht hvm hw hB hz1 hk1 hS1 => ?_)
  · rcases h with (h | h) | h <;> omega
  · rcases h with (h | h) | h <;> omega
  · subst hw
    refine kk H1 locs1 ⟨rem_q hRm (fun a h1 h2 => hk1 a (by omega) (fun h => by rcases h with (h | h) | h <;> omega)), by rw [← ht]; exact hB.2, by omega, by omega, by omega⟩ hS1
/-- a call of the reference -/
theorem z_refi (A0 : LA p S m c b L xs g) {q o : Nat} {Mr Mr' : Mm} {Post : Heap → Prop} (hP : ∀ H H' : Heap, H'[o]? = H[o]? → Post H → Post H') (hW : LQ g S.heap.size q o Mr Post H) (hS : va_S (fun a => S.heap.size ≤ a) S.heap H locs)
    {y : MethodName} {bytes : ByteArray} {maxL : Nat} {ret : Option FieldType} {rm : Room} {As : List Value} {r : Int} {index mc ms : Nat} (hM : Cm l y bytes maxL ret rm g q (.ref (q + 0) :: As) Mr [] mc ms (pI g q r Mr'))
    (w1 : Cond.methodLink "JournalDiskLaw" index y ∈ wT) (w2 : Cond.instanceMethod y ∈ wT) (w3 : Cond.selects RX4 y y ∈ wT) (w5 : Cond.code y bytes maxL ret ∈ wT) (hy : y.cls = RX4 ∧ y.cls ≠ "java/lang/invoke/MethodHandle" ∧ y.cls ≠ "java/lang/invoke/VarHandle" ∧ (parseMethodDescriptor y.desc).map (fun d => d.parameters.length) = some As.length)
    (hrm : rm.cells = mc ∧ rm.slots = ms) (hroom : rm.frames + 1 ≤ R.frames ∧ 8 + (maxL + 11) + rm.locals ≤ R.locals) (hsz : ls.size = 9) (hst : (rest.map fun v => v.category).sum ≤ 8) (hdg : decode cL_law pc = .ok (.invokevirtual index, 3)) (hcs : cells + mc ≤ R.cells ∧ slots + ms ≤ R.slots) {st : List Value} (hst0 : st = As.reverse ++ .ref q :: rest)
    (kk : rg r → ∀ (H1 : Heap) (locs1 : List Loc), LQ g S.heap.size q o Mr' Post H1 → va_S (fun a => S.heap.size ≤ a) S.heap H1 locs1 → W p l e R S m #[.ref b] below meth c H1 locs1 (cells + mc) (slots + ms) Q (F0 m (pc + 3) ls (.int (jI r) :: rest))) : W p l e R S m #[.ref b] below meth c H locs cells slots Q (F0 m pc ls st) := by
  subst hst0
  obtain ⟨hx, hb, hml, hown, hts, hX, hbl, hK, hTH, hNP, hNW⟩ := A0
  obtain ⟨hR, hPo, k1, k2, k3⟩ := hW
  have hZ := hS.1
  refine va_calli (va_runV (As := As) (rest := rest) ⟨hx, hb, hml, hown, hts⟩ (hM H.size) (cwV As.length hts (gV w1 w2 w3 wd5 w5) rfl hrm.1 hrm.2 hy hroom) ⟨cm_blind, va_recv (q0 := 0) (ci := 4) (q := (RX4, TX4, 14)) (fs := [.ref (q + 1), .ref (q + 2), .ref (q + 3), .ref (q + 4), .ref (q + 5), .ref (q + 6), .int (jI (Mr 0 0 6)), .int (jI (Mr 0 0 7)), .int (jI (Mr 0 0 8)), .int (jI (Mr 0 0 9)), .int (jI (Mr 0 0 10)), .int (jI (Mr 0 0 11)), .int (jI (Mr 0 0 12)), .long (jL (Mr 0 0 13))]) hK (hR.P1 (K := 0) (by decide)) rfl rfl, fun U hU hW => ⟨rfl, by rw [hU], by rw [hU]; exact hR, va_K.moved hW.alike hK⟩⟩ rfl rfl hsz rfl (lv_room hst) hdg ⟨hcs.1, hcs.2⟩) hS (fun a _ h => ?_) (fun a h => ?_) (fun r0 u t H1 locs1 ht hvm hw hB hz1 hk1 hS1 => ?_)
  · rcases h with h | h <;> omega
  · rcases h with h | h <;> omega
  · obtain ⟨rfl, hrg⟩ := hw
    exact kk hrg H1 locs1 ⟨by rw [← ht]; exact hB.1, hP H H1 (hk1 o k3 (fun h => by rcases h with h | h <;> omega)) hPo, k1, k2, by omega⟩ hS1
theorem z_refl (A0 : LA p S m c b L xs g) {q o : Nat} {Mr Mr' : Mm} {Post : Heap → Prop} (hP : ∀ H H' : Heap, H'[o]? = H[o]? → Post H → Post H') (hW : LQ g S.heap.size q o Mr Post H) (hS : va_S (fun a => S.heap.size ≤ a) S.heap H locs)
    {y : MethodName} {bytes : ByteArray} {maxL : Nat} {ret : Option FieldType} {rm : Room} {As : List Value} {r : Int64} {index mc ms : Nat} (hM : Cm l y bytes maxL ret rm g q (.ref (q + 0) :: As) Mr [] mc ms (pL g q r Mr'))
    (w1 : Cond.methodLink "JournalDiskLaw" index y ∈ wT) (w2 : Cond.instanceMethod y ∈ wT) (w3 : Cond.selects RX4 y y ∈ wT) (w5 : Cond.code y bytes maxL ret ∈ wT) (hy : y.cls = RX4 ∧ y.cls ≠ "java/lang/invoke/MethodHandle" ∧ y.cls ≠ "java/lang/invoke/VarHandle" ∧ (parseMethodDescriptor y.desc).map (fun d => d.parameters.length) = some As.length)
    (hrm : rm.cells = mc ∧ rm.slots = ms) (hroom : rm.frames + 1 ≤ R.frames ∧ 8 + (maxL + 11) + rm.locals ≤ R.locals) (hsz : ls.size = 9) (hst : (rest.map fun v => v.category).sum ≤ 8) (hdg : decode cL_law pc = .ok (.invokevirtual index, 3)) (hcs : cells + mc ≤ R.cells ∧ slots + ms ≤ R.slots) {st : List Value} (hst0 : st = As.reverse ++ .ref q :: rest)
    (kk : ∀ (H1 : Heap) (locs1 : List Loc), LQ g S.heap.size q o Mr' Post H1 → va_S (fun a => S.heap.size ≤ a) S.heap H1 locs1 → W p l e R S m #[.ref b] below meth c H1 locs1 (cells + mc) (slots + ms) Q (F0 m (pc + 3) ls (.long r :: rest))) : W p l e R S m #[.ref b] below meth c H locs cells slots Q (F0 m pc ls st) := by
  subst hst0
  obtain ⟨hx, hb, hml, hown, hts, hX, hbl, hK, hTH, hNP, hNW⟩ := A0
  obtain ⟨hR, hPo, k1, k2, k3⟩ := hW
  have hZ := hS.1
  refine va_calll (va_runV (As := As) (rest := rest) ⟨hx, hb, hml, hown, hts⟩ (hM H.size) (cwV As.length hts (gV w1 w2 w3 wd5 w5) rfl hrm.1 hrm.2 hy hroom) ⟨cm_blind, va_recv (q0 := 0) (ci := 4) (q := (RX4, TX4, 14)) (fs := [.ref (q + 1), .ref (q + 2), .ref (q + 3), .ref (q + 4), .ref (q + 5), .ref (q + 6), .int (jI (Mr 0 0 6)), .int (jI (Mr 0 0 7)), .int (jI (Mr 0 0 8)), .int (jI (Mr 0 0 9)), .int (jI (Mr 0 0 10)), .int (jI (Mr 0 0 11)), .int (jI (Mr 0 0 12)), .long (jL (Mr 0 0 13))]) hK (hR.P1 (K := 0) (by decide)) rfl rfl, fun U hU hW => ⟨rfl, by rw [hU], by rw [hU]; exact hR, va_K.moved hW.alike hK⟩⟩ rfl rfl hsz rfl (lv_room hst) hdg ⟨hcs.1, hcs.2⟩) hS (fun a _ h => ?_) (fun a h => ?_) (fun r0 u t H1 locs1 ht hvm hw hB hz1 hk1 hS1 => ?_)
  · rcases h with h | h <;> omega
  · rcases h with h | h <;> omega
  · subst hw
    exact kk H1 locs1 ⟨by rw [← ht]; exact hB.1, hP H H1 (hk1 o k3 (fun h => by rcases h with h | h <;> omega)) hPo, k1, k2, by omega⟩ hS1
theorem z_refv (A0 : LA p S m c b L xs g) {q o : Nat} {Mr Mr' : Mm} {Post : Heap → Prop} (hP : ∀ H H' : Heap, H'[o]? = H[o]? → Post H → Post H') (hW : LQ g S.heap.size q o Mr Post H) (hS : va_S (fun a => S.heap.size ≤ a) S.heap H locs)
    {y : MethodName} {bytes : ByteArray} {maxL : Nat} {ret : Option FieldType} {rm : Room} {As : List Value} {index mc ms : Nat} (hM : Cm l y bytes maxL ret rm g q (.ref (q + 0) :: As) Mr [] mc ms (pV g q Mr'))
    (w1 : Cond.methodLink "JournalDiskLaw" index y ∈ wT) (w2 : Cond.instanceMethod y ∈ wT) (w3 : Cond.selects RX4 y y ∈ wT) (w5 : Cond.code y bytes maxL ret ∈ wT) (hy : y.cls = RX4 ∧ y.cls ≠ "java/lang/invoke/MethodHandle" ∧ y.cls ≠ "java/lang/invoke/VarHandle" ∧ (parseMethodDescriptor y.desc).map (fun d => d.parameters.length) = some As.length)
    (hrm : rm.cells = mc ∧ rm.slots = ms) (hroom : rm.frames + 1 ≤ R.frames ∧ 8 + (maxL + 11) + rm.locals ≤ R.locals) (hsz : ls.size = 9) (hst : (rest.map fun v => v.category).sum ≤ 8) (hdg : decode cL_law pc = .ok (.invokevirtual index, 3)) (hcs : cells + mc ≤ R.cells ∧ slots + ms ≤ R.slots) {st : List Value} (hst0 : st = As.reverse ++ .ref q :: rest)
    (kk : ∀ (H1 : Heap) (locs1 : List Loc), LQ g S.heap.size q o Mr' Post H1 → va_S (fun a => S.heap.size ≤ a) S.heap H1 locs1 → W p l e R S m #[.ref b] below meth c H1 locs1 (cells + mc) (slots + ms) Q (F0 m (pc + 3) ls rest)) : W p l e R S m #[.ref b] below meth c H locs cells slots Q (F0 m pc ls st) := by
  subst hst0
  obtain ⟨hx, hb, hml, hown, hts, hX, hbl, hK, hTH, hNP, hNW⟩ := A0
  obtain ⟨hR, hPo, k1, k2, k3⟩ := hW
  have hZ := hS.1
  refine va_callv (va_runV (As := As) (rest := rest) ⟨hx, hb, hml, hown, hts⟩ (hM H.size) (cwV As.length hts (gV w1 w2 w3 wd5 w5) rfl hrm.1 hrm.2 hy hroom) ⟨cm_blind, va_recv (q0 := 0) (ci := 4) (q := (RX4, TX4, 14)) (fs := [.ref (q + 1), .ref (q + 2), .ref (q + 3), .ref (q + 4), .ref (q + 5), .ref (q + 6), .int (jI (Mr 0 0 6)), .int (jI (Mr 0 0 7)), .int (jI (Mr 0 0 8)), .int (jI (Mr 0 0 9)), .int (jI (Mr 0 0 10)), .int (jI (Mr 0 0 11)), .int (jI (Mr 0 0 12)), .long (jL (Mr 0 0 13))]) hK (hR.P1 (K := 0) (by decide)) rfl rfl, fun U hU hW => ⟨rfl, by rw [hU], by rw [hU]; exact hR, va_K.moved hW.alike hK⟩⟩ rfl rfl hsz rfl (lv_room hst) hdg ⟨hcs.1, hcs.2⟩) hS (fun a _ h => ?_) (fun a h => ?_) (fun u t H1 locs1 ht hvm hw hB hz1 hk1 hS1 => ?_)
  · rcases h with h | h <;> omega
  · rcases h with h | h <;> omega
  · exact kk H1 locs1 ⟨by rw [← ht]; exact hB.1, hP H H1 (hk1 o k3 (fun h => by rcases h with h | h <;> omega)) hPo, k1, k2, by omega⟩ hS1
end LC
