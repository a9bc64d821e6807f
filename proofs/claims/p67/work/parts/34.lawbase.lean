/-! THE LAW'S FRAME -/
/-- what holds in the law's frame: the script of L ints at b0, the object's cells from b on -/
def LA (p : Program) (s : State) (m : MethodId) (c : Code) (args : Array Value) (b0 L : Nat) (xs : Nat → Int32) (g : Gx) (b : Nat) : Prop :=
  p.tables.exec = Jvm.exec ∧ c.code = cL_law ∧ c.maxLocals = 10 ∧ s.vm.findClass "JournalDiskLaw" = some m.cls ∧ (∀ w ∈ wT, w.before args s = true) ∧ (va_X b0 L xs s s.heap ∧ L ≤ 260) ∧ b0 < s.heap.size ∧ va_K g.1 vwCl (tysX g) s ∧ s.heap.size = b
theorem RD.kept0 {g : Gx} {b : Nat} {M : Mm} {ws : List dyE} {H H1 : Heap} (h : RD g b M ws H) (hk : ∀ q : Nat, q < H.size → H1[q]? = H[q]?) : RD g b M ws H1 :=
  ⟨rel_kept h.1 (fun q _ h2 => hk q (by have := h.1.ltD; omega)), h.2.kept (fun _ _ hq => hk _ (h.2.lt hq))⟩
/-- a cell of the script, and behind its end a number of its own -/
def cellX (xs : Nat → Int32) (L : Nat) (k : Int) : Int := if (L : Int) ≤ k then mulI 790386105 (k + 3) else (xs k.toNat).toInt
theorem cellX_rg (xs : Nat → Int32) (L : Nat) (k : Int) : rg (cellX xs L k) := by
  unfold cellX
  split
  · exact mulI_rg _ _
  · exact rg_ofD _
abbrev rmL_cell : Room := { frames := 0, cells := 0, slots := 0, locals := 0 }
theorem hyL_cell : yL_cell.cls ≠ "java/lang/invoke/MethodHandle" ∧ yL_cell.cls ≠ "java/lang/invoke/VarHandle" ∧ (parseMethodDescriptor yL_cell.desc).map (fun d => d.parameters.length) = some 2 := by decide +kernel
theorem jI_nat {L : Nat} (h : L ≤ 260) : Int32.ofNat L = jI (L : Int) := by
  apply Int32.toInt_inj.1
  rw [Int32.toInt_ofNat_of_lt (by omega), jI_toInt ⟨by omega, by omega⟩]
def preC (b0 L : Nat) (xs : Nat → Int32) (k : Int) (sz : Nat) : Array Value → State → Prop := va_Pc [.ref b0, .int (jI k)] (fun U => U.heap.size = sz ∧ va_X b0 L xs U U.heap ∧ b0 < U.heap.size)
set_option maxHeartbeats 4000000 in
set_option maxRecDepth 100000 in
theorem c_L_cell {l : Launch} {b0 L : Nat} {xs : Nat → Int32} {k : Int} (hL : L ≤ 260) (hk : rg k) (h0 : 0 ≤ k) (sz : Nat) : Met l yL_cell (Cond.code yL_cell cL_cell 2 (some .int) :: wT) rmL_cell (preC b0 L xs k sz) (va_Qi (fun (x : Int32) (_ : Unit) => x = jI (cellX xs L k)) (fun _ _ => True) (fun q => sz ≤ q)) 0 0 (fun q => sz ≤ q) := by
  refine Met.ofW (cc := cL_cell) (maxL := 2) (ret := some .int) (by decide +kernel) rfl ?_
  intro p e s m args below meth c s₁ B hml hv
  obtain ⟨rfl, hsz, hX, hbl⟩ := hv
  subst hsz
  have hts0 := atoms_spec (ws := Cond.code yL_cell cL_cell 2 (some .int) :: wT) B.pre
  have hts : ∀ w ∈ wT, w.before _ s = true := fun w hw => hts0 w (List.mem_cons_of_mem _ hw)
  have hx := B.exec
  have hb := B.bytes
  have hr := B.returns
  have hown : s.vm.findClass "JournalDiskLaw" = some m.cls := findClass_of_methodNamed B.named
  have hlocks := B.notSynchronized
  rw [lg_entry_eq]
  have hl := lv_entry [.ref b0, .int (jI k)] (n := 2) (Nat.le_of_ble_eq_true rfl)
  generalize (lg_sl [.ref b0, .int (jI k)] ++ List.replicate (2 - (lg_sl [.ref b0, .int (jI k)]).length) Slot.unset).toArray = ls at hl ⊢
  have hl : lv_has ls 2 [(0, .ref b0), (1, .int (jI k))] := hl
  have hS : va_S (fun q => s.heap.size ≤ q) s.heap s.heap [] := va_S.rf
  have hbA : ¬ (fun q : Nat => s.heap.size ≤ q) b0 := Nat.not_le.mpr hbl
  refine lv_iload_n hx hb dL_cell_0 rfl (lv_at hl 1 rfl) ?_
  refine lv_aload_n hx hb dL_cell_1 rfl (lv_at hl 0 rfl) ?_
  refine va_slen hx hb hX hbl hbA hS dL_cell_2 ?_
  rw [jI_nat hL]
  have hLr : rg (L : Int) := ⟨by omega, by omega⟩
  refine x_icmp_ge (tgt := 12) hx hb hk hLr dL_cell_3 (by decide) (fun ci => ?_) (fun ci => ?_)
  · refine x_ldc (n := 790386105) hx hb hown (hts _ wd606) (by decide +kernel) dL_cell_12 ?_
    refine lv_iload_n hx hb dL_cell_14 rfl (lv_at hl 1 rfl) ?_
    refine x_iconst hx hb dL_cell_15 ?_
    refine x_iadd hx hb dL_cell_16 ?_
    refine x_imulW hx hb dL_cell_17 ?_
    exact W.iret hx hb hr (fun t ht hW => ⟨⟨_, (), rfl, by unfold cellX; rw [if_pos ci], trivial⟩, hS.F ht⟩) hS.2.2 dL_cell_18 hlocks
  · refine lv_aload_n hx hb dL_cell_6 rfl (lv_at hl 0 rfl) ?_
    refine lv_iload_n hx hb dL_cell_7 rfl (lv_at hl 1 rfl) ?_
    refine va_sld hx hb hX hbl hbA hS (jI_in hk ⟨h0, by omega⟩) dL_cell_8 ?_
    refine lv_goto (tgt := 18) hx hb dL_cell_9 (by decide) ?_
    exact W.iret hx hb hr (fun t ht hW => ⟨⟨_, (), rfl, by unfold cellX; rw [if_neg ci, jI_ofD, jI_cl hk], trivial⟩, hS.F ht⟩) hS.2.2 dL_cell_18 hlocks
section LCE
variable {p : Program} {l : Launch} {e : Env} {s : State} {m : MethodId} {args : Array Value} {below : List Frame} {meth : Method} {c : Code} {H : Heap} {locs : List Loc} {cells slots : Nat} {Q : State → Prop}
variable {pc : Nat} {ls : Array Slot} {rest : List Value} {g : Gx} {b b0 L : Nat} {xs : Nat → Int32}
theorem l_cell (C0 : LA p s m c args b0 L xs g b) (hS : va_S (fun a => s.heap.size ≤ a) s.heap H locs) {k : Int} (hk : rg k) (h0 : 0 ≤ k) {index : Nat} (w1 : Cond.methodLink "JournalDiskLaw" index yL_cell ∈ wT) (hsz : ls.size = 10) (hst : (rest.map fun v => v.category).sum ≤ 8) (hdg : decode cL_law pc = .ok (.invokestatic index, 3)) (hcs : cells ≤ room_1.cells ∧ slots ≤ room_1.slots) {st : List Value} (hst0 : st = [.ref b0, .int (jI k)].reverse ++ rest)
    (kk : ∀ (H1 : Heap) (locs1 : List Loc), va_S (fun a => s.heap.size ≤ a) s.heap H1 locs1 → (∀ q : Nat, q < H.size → H1[q]? = H[q]?) → W p l e room_1 s m args below meth c H1 locs1 cells slots Q (F0 m (pc + 3) ls (.int (jI (cellX xs L k)) :: rest))) : W p l e room_1 s m args below meth c H locs cells slots Q (F0 m pc ls st) := by
  subst hst0
  obtain ⟨hx, hb, hml, hown, hts, ⟨hX, hL⟩, hbl, hK, hbZ⟩ := C0
  refine va_calli (va_runS (As := [.ref b0, .int (jI k)]) (rest := rest) ⟨hx, hb, hml, hown, hts⟩ (c_L_cell (xs := xs) hL hk h0 H.size) (va_cwS 2 hts (gS w1 wd604 wd0 wd605) rfl rfl rfl hyL_cell ⟨Nat.le_of_ble_eq_true rfl, Nat.le_of_ble_eq_true rfl⟩) ⟨fun a U fr mk q => by obtain ⟨q0, q1, q2, q3⟩ := q; exact ⟨q0, q1, va_X.moved (u := U) (U := U.calling fr mk a) (Vm.Alike.refl U.vm) q2, q3⟩, fun U hU hW => ⟨rfl, by rw [hU], by rw [hU]; exact va_X.moved hW.alike (hX.kept (hS.2.1 b0 hbl (Nat.not_le.mpr hbl))), by rw [hU]; exact Nat.lt_of_lt_of_le hbl hS.1⟩⟩ rfl rfl hsz rfl (lv_room hst) hdg ⟨hcs.1, hcs.2⟩) hS (fun q _ h => Nat.le_trans hS.1 h) (fun q h => Nat.le_trans hS.1 h) (fun r0 u t H1 locs1 ht hvm hw hB hz1 hk1 hS1 => ?_)
  subst hw
  exact kk H1 locs1 hS1 (fun q hq => hk1 q hq (Nat.not_le.mpr hq))
end LCE
