def lcmpI (x y : Int64) : Int := if y < x then 1 else if x = y then 0 else -1
theorem lcmpI_rg (x y : Int64) : rg (lcmpI x y) := by
  unfold lcmpI
  split
  · decide
  · split <;> decide
theorem jI_lcmp (x y : Int64) : lg_cmp x y = jI (lcmpI x y) := by
  unfold lcmpI lg_cmp
  split
  · decide +kernel
  · split <;> decide +kernel
def maxI (x y : Int) : Int := if x < y then y else x
def minI (x y : Int) : Int := if y < x then y else x
theorem maxI_rg {x y : Int} (hx : rg x) (hy : rg y) : rg (maxI x y) := by unfold maxI; split <;> assumption
theorem minI_rg {x y : Int} (hx : rg x) (hy : rg y) : rg (minI x y) := by unfold minI; split <;> assumption
theorem gV {own C : String} {index : Nat} {y : MethodName} {bytes : ByteArray} {maxL : Nat} {ret : Option FieldType} (w1 : Cond.methodLink own index y ∈ wT) (w2 : Cond.instanceMethod y ∈ wT) (w3 : Cond.selects C y y ∈ wT) (w4 : Cond.initialized C ∈ wT) (w5 : Cond.code y bytes maxL ret ∈ wT) : GoodIn wT (wsV own index C y (Cond.code y bytes maxL ret :: wT)) := by
  intro w hw
  have h : w ∈ wT := by
    unfold wsV at hw
    simp only [List.cons_append, List.nil_append, List.mem_cons] at hw
    rcases hw with rfl | rfl | rfl | rfl | rfl | h
    · exact w1
    · exact w2
    · exact w3
    · exact w4
    · exact w5
    · exact h
  exact ⟨h, wT_good h⟩
theorem gS {own : String} {index : Nat} {y : MethodName} {bytes : ByteArray} {maxL : Nat} {ret : Option FieldType} (w1 : Cond.methodLink own index y ∈ wT) (w2 : Cond.static y ∈ wT) (w4 : Cond.initialized y.cls ∈ wT) (w5 : Cond.code y bytes maxL ret ∈ wT) : GoodIn wT (va_wsS own index y (Cond.code y bytes maxL ret :: wT)) := by
  intro w hw
  have h : w ∈ wT := by
    unfold va_wsS at hw
    simp only [List.cons_append, List.nil_append, List.mem_cons] at hw
    rcases hw with rfl | rfl | rfl | rfl | h
    · exact w1
    · exact w2
    · exact w4
    · exact w5
    · exact h
  exact ⟨h, wT_good h⟩
section XC
variable {p : Program} {l : Launch} {e : Env} {R : Room} {s : State} {m : MethodId} {args : Array Value} {below : List Frame} {meth : Method} {c : Code} {H : Heap} {locs : List Loc} {cells slots : Nat} {Q : State → Prop}
variable {cc : ByteArray} {pc : Nat} {ls : Array Slot} {rest : List Value} {g : Gx} {b : Nat} {M : Mm}
theorem x_lcmp (hexec : p.tables.exec = Jvm.exec) (hb : c.code = cc) {x y : Int64} (hdg : decode cc pc = .ok (.lcmp, 1))
    (k : W p l e R s m args below meth c H locs cells slots Q (F0 m (pc + 1) ls (.int (jI (lcmpI x y)) :: rest))) : W p l e R s m args below meth c H locs cells slots Q (F0 m pc ls (.long y :: .long x :: rest)) := W.lcmp hexec hb hdg (by rw [jI_lcmp]; exact k)
theorem x_max (hexec : p.tables.exec = Jvm.exec) (hb : c.code = cc) {nL : Nat} (hml : c.maxLocals = nL) (hls : ls.size = nL) {own : String} {index : Nat} (hts : ∀ w ∈ wT, w.before args s = true) (hown : s.vm.findClass own = some m.cls) (w1 : Cond.methodLink own index Lib.Math.max.name ∈ wT) (w2 : Cond.static Lib.Math.max.name ∈ wT) (w3 : Cond.initialized "java/lang/Math" ∈ wT) (w4 : Cond.code Lib.Math.max.name Lib.Math.max.code 2 (some .int) ∈ wT)
    (hframes : 1 ≤ R.frames) (hlocals : (rest.map fun v => v.category).sum + 13 ≤ R.locals) (hcs : cells ≤ R.cells ∧ slots ≤ R.slots) {x y : Int} (hx : rg x) (hy : rg y) (hdg : decode cc pc = .ok (.invokestatic index, 3))
    (kk : W p l e R s m args below meth c H locs cells slots Q (F0 m (pc + 3) ls (.int (jI (maxI x y)) :: rest))) : W p l e R s m args below meth c H locs cells slots Q (F0 m pc ls (.int (jI y) :: .int (jI x) :: rest)) :=
  va_mmax hexec hb (hml.trans hls.symm) hown (hts _ w1) (hts _ w2) (hts _ w3) (hts _ w4) hframes hlocals hcs.1 hcs.2 hdg (by
    rw [show (if jI x < jI y then jI y else jI x) = jI (maxI x y) from by
      unfold maxI
      by_cases q : x < y
      · rw [if_pos ((jI_lt hx hy).mpr q), if_pos q]
      · rw [if_neg (fun z => q ((jI_lt hx hy).mp z)), if_neg q]]
    exact kk)
theorem x_min (hexec : p.tables.exec = Jvm.exec) (hb : c.code = cc) {nL : Nat} (hml : c.maxLocals = nL) (hls : ls.size = nL) {own : String} {index : Nat} (hts : ∀ w ∈ wT, w.before args s = true) (hown : s.vm.findClass own = some m.cls) (w1 : Cond.methodLink own index Lib.Math.min.name ∈ wT) (w2 : Cond.static Lib.Math.min.name ∈ wT) (w3 : Cond.initialized "java/lang/Math" ∈ wT) (w4 : Cond.code Lib.Math.min.name Lib.Math.min.code 2 (some .int) ∈ wT)
    (hframes : 1 ≤ R.frames) (hlocals : (rest.map fun v => v.category).sum + 13 ≤ R.locals) (hcs : cells ≤ R.cells ∧ slots ≤ R.slots) {x y : Int} (hx : rg x) (hy : rg y) (hdg : decode cc pc = .ok (.invokestatic index, 3))
    (kk : W p l e R s m args below meth c H locs cells slots Q (F0 m (pc + 3) ls (.int (jI (minI x y)) :: rest))) : W p l e R s m args below meth c H locs cells slots Q (F0 m pc ls (.int (jI y) :: .int (jI x) :: rest)) :=
  va_mmin hexec hb (hml.trans hls.symm) hown (hts _ w1) (hts _ w2) (hts _ w3) (hts _ w4) hframes hlocals hcs.1 hcs.2 hdg (by
    rw [show (if jI y < jI x then jI y else jI x) = jI (minI x y) from by
      unfold minI
      by_cases q : y < x
      · rw [if_pos ((jI_lt hy hx).mpr q), if_pos q]
      · rw [if_neg (fun z => q ((jI_lt hy hx).mp z)), if_neg q]]
    exact kk)
/-! System.arraycopy between two of the cells -/
theorem x_copy (hexec : p.tables.exec = Jvm.exec) (hb : c.code = cc) {nL : Nat} (hml : c.maxLocals = nL) (hls : ls.size = nL) {own : String} {index : Nat} (hts : ∀ w ∈ wT, w.before args s = true) (hown : s.vm.findClass own = some m.cls) (w1 : Cond.methodLink own index arraycopyName ∈ wT) (w2 : Cond.native arraycopyName ∈ wT) (w3 : Cond.static arraycopyName ∈ wT) (w4 : Cond.initialized "java/lang/System" ∈ wT)
    (hK : va_K g.1 vwCl (tysX g) s) (hR : Rel g b M H) {sz : Nat} (hS : va_S (AA b sz) s.heap H locs) {K i K2 i2 : Nat} (ok : okK K i) (ok2 : okK K2 i2) (hl : lenK K ≠ 0) (hl2 : lenK K2 ≠ 0)
    {sp dp n : Int} (hsp : rg sp) (hdp : rg dp) (hn : rg n) (h1 : 0 ≤ sp) (h2 : 0 ≤ dp) (h3 : 0 ≤ n) (h4 : sp + n ≤ ((lenK K : Nat) : Int)) (h5 : dp + n ≤ ((lenK K2 : Nat) : Int))
    (hframes : 1 ≤ R.frames) (hlocals : (rest.map fun v => v.category).sum + (nativeFrameWords "java/lang/System" "arraycopy" 5 + 11) ≤ R.locals) (hdg : decode cc pc = .ok (.invokestatic index, 3))
    (kk : ∀ (H1 : Heap) (locs1 : List Loc), Rel g b (mcp M K i sp.toNat K2 i2 dp.toNat n.toNat) H1 → va_S (AA b sz) s.heap H1 locs1 → W p l e R s m args below meth c H1 locs1 cells slots Q (F0 m (pc + 3) ls rest)) : W p l e R s m args below meth c H locs cells slots Q (F0 m pc ls (.int (jI n) :: .int (jI dp) :: .ref (adr b K2 i2) :: .int (jI sp) :: .ref (adr b K i) :: rest)) := by
  intro T hT X
  have hc0 : H[adr b K i]? = some (vp_cell (g.2 0) (lenK K, .inl (fun k => jI (M K i k)))) := by
    have h0 := hR.1 K i ok
    rw [cellE_arr hl] at h0
    exact h0
  have hc1 : H[adr b K2 i2]? = some (vp_cell (g.2 0) (lenK K2, .inl (fun k => jI (M K2 i2 k)))) := by
    have h0 := hR.1 K2 i2 ok2
    rw [cellE_arr hl2] at h0
    exact h0
  obtain ⟨-, k0, hk0, cm0, hkk0⟩ := (hK.2 0 ((g.2 0), .int) rfl).1 (lenK K) (fun j => .int (jI (M K i j)))
  obtain ⟨-, k1, hk1, cm1, hkk1⟩ := (hK.2 0 ((g.2 0), .int) rfl).1 (lenK K2) (fun j => .int (jI (M K2 i2 j)))
  have n1 : ¬ jI sp < 0 := by rw [← jI_0, jI_lt hsp rg_0]; omega
  have n2 : ¬ jI dp < 0 := by rw [← jI_0, jI_lt hdp rg_0]; omega
  have n3 : ¬ jI n < 0 := by rw [← jI_0, jI_lt hn rg_0]; omega
  obtain ⟨vm', X', step⟩ := X.arraycopy hexec hown (hts _ w1) (hts _ w2) (hts _ w3) (hts _ w4) (src := adr b K i) (dst := adr b K2 i2) (cs := vp_cell (g.2 0) (lenK K, .inl (fun k => jI (M K i k)))) (cd := vp_cell (g.2 0) (lenK K2, .inl (fun k => jI (M K2 i2 k)))) (srcPos := jI sp) (destPos := jI dp) (n := jI n) (by rw [hT]; exact hc0) (by rw [hT]; exact hc1)
    (fun _ h => by cases h) (fun _ h => by cases h) (fun h => by cases h) (fun h => by cases h) hk0 hk1 hkk0 hkk1 (by simp [refKind]) n1 n2 n3
    (by rw [jI_toInt hsp, jI_toInt hn]; show ¬ _ > ((arrV (g.2 0) (lenK K) (fun j => .int (jI (M K i j)))).slots.size : Int); rw [arrV_size]; omega)
    (by rw [jI_toInt hdp, jI_toInt hn]; show ¬ _ > ((arrV (g.2 0) (lenK K2) (fun j => .int (jI (M K2 i2 j)))).slots.size : Int); rw [arrV_size]; omega)
    (fun vm₁ _ j hj => by
      rw [jI_cl hn] at hj
      have ez : (vp_cell (g.2 0) (lenK K, .inl (fun k => jI (M K i k)))).slots.getD ((jI sp).toNatClampNeg + j) .null = .int (jI (M K i ((jI sp).toNatClampNeg + j))) := by
        show (arrV (g.2 0) (lenK K) (fun j => .int (jI (M K i j)))).slots.getD _ _ = _
        rw [Array.getD_eq_getD_getElem?, arrV_read _ _ (by rw [jI_cl hsp]; omega)]
        rfl
      refine ⟨?_, ?_⟩
      · rw [ez]
        rfl
      · rw [ez]
        exact trivial)
    (g := F0 m pc ls (.int (jI n) :: .int (jI dp) :: .ref (adr b K2 i2) :: .int (jI sp) :: .ref (adr b K i) :: rest)) rfl (by rw [hml, ← hls]) (rest := rest) rfl (by rw [hb]; exact hdg) hframes (by show 2 * 0 + _ + _ ≤ _; omega)
  have e1 : copied (vp_cell (g.2 0) (lenK K, .inl (fun k => jI (M K i k)))) (vp_cell (g.2 0) (lenK K2, .inl (fun k => jI (M K2 i2 k)))) (jI sp) (jI dp) (jI n) = vp_cell (g.2 0) (lenK K2, .inl (fun k => jI (mcp M K i sp.toNat K2 i2 dp.toNat n.toNat K2 i2 k))) := by
    have h9 := va_copied (fun z => Value.int z) (g.2 0) (g.2 0) (n0 := lenK K) (n1 := lenK K2) (sp := (jI sp).toNatClampNeg) (dp := (jI dp).toNatClampNeg) (n := (jI n).toNatClampNeg) (fun k => jI (M K i k)) (fun k => jI (M K2 i2 k)) (by rw [jI_cl hsp, jI_cl hn]; omega)
    refine (show copied _ _ _ _ _ = _ from h9).trans ?_
    rw [vp_cell_i]
    congr 1
    funext k
    congr 1
    unfold va_cpy mcp
    rw [jI_cl hsp, jI_cl hdp, jI_cl hn]
    by_cases q : dp.toNat ≤ k ∧ k < dp.toNat + n.toNat
    · rw [if_pos q, if_pos ⟨rfl, rfl, q⟩]
    · rw [if_neg q, if_neg (fun z => q ⟨z.2.2.1, z.2.2.2⟩)]
  rw [e1] at X' step
  have hl9 : adr b K2 i2 < H.size := (Array.getElem?_eq_some_iff.mp hc1).1
  have hheap : ((T.setVm vm').setCell (adr b K2 i2) (vp_cell (g.2 0) (lenK K2, .inl (fun k => jI (mcp M K i sp.toNat K2 i2 dp.toNat n.toNat K2 i2 k))))).heap = H.setIfInBounds (adr b K2 i2) (vp_cell (g.2 0) (lenK K2, .inl (fun k => jI (mcp M K i sp.toNat K2 i2 dp.toNat n.toNat K2 i2 k)))) := by rw [← hT]; rfl
  have oq : ∀ q : Nat, q ≠ adr b K2 i2 → (H.setIfInBounds (adr b K2 i2) (vp_cell (g.2 0) (lenK K2, .inl (fun k => jI (mcp M K i sp.toNat K2 i2 dp.toNat n.toNat K2 i2 k)))))[q]? = H[q]? := fun q hq => by simp [Array.getElem?_setIfInBounds, Ne.symm hq]
  obtain ⟨t, a1, b1⟩ := kk _ _ (hR.set ok2 (M' := mcp M K i sp.toNat K2 i2 dp.toNat n.toNat) (by rw [cellE_arr hl2]; exact (show (H.setIfInBounds (adr b K2 i2) _)[adr b K2 i2]? = some _ by simp [Array.getElem?_setIfInBounds, hl9])) oq mcp_ne (mcp_rg hR.2 (fun e => absurd (by rw [e]; rfl) hl))) ⟨by simp; exact hS.1, fun q g1 g2 => by
      rw [oq q (fun ez => g2 (by rw [ez]; exact AA_ok ok2))]
      exact hS.2.1 q g1 g2, fun q hq => by
      rcases List.mem_append.mp hq with h | h
      · exact hS.2.2 q h
      · obtain ⟨z, -, hz⟩ := List.mem_map.mp h
        rw [← hz]
        exact AA_ok ok2⟩ _ hheap X'
  exact ⟨t, step t a1, b1⟩
theorem x_copyl (hexec : p.tables.exec = Jvm.exec) (hb : c.code = cc) {nL : Nat} (hml : c.maxLocals = nL) (hls : ls.size = nL) {own : String} {index : Nat} (hts : ∀ w ∈ wT, w.before args s = true) (hown : s.vm.findClass own = some m.cls) (w1 : Cond.methodLink own index arraycopyName ∈ wT) (w2 : Cond.native arraycopyName ∈ wT) (w3 : Cond.static arraycopyName ∈ wT) (w4 : Cond.initialized "java/lang/System" ∈ wT)
    (hK : va_K g.1 vwCl (tysX g) s) (hR : Rel g b M H) {sz : Nat} (hS : va_S (AA b sz) s.heap H locs) {i i2 : Nat} (ok : okK 7 i) (ok2 : okK 7 i2)
    {sp dp n : Int} (hsp : rg sp) (hdp : rg dp) (hn : rg n) (h1 : 0 ≤ sp) (h2 : 0 ≤ dp) (h3 : 0 ≤ n) (h4 : sp + n ≤ 256) (h5 : dp + n ≤ 256)
    (hframes : 1 ≤ R.frames) (hlocals : (rest.map fun v => v.category).sum + (nativeFrameWords "java/lang/System" "arraycopy" 5 + 11) ≤ R.locals) (hdg : decode cc pc = .ok (.invokestatic index, 3))
    (kk : ∀ (H1 : Heap) (locs1 : List Loc), Rel g b (mcp M 7 i sp.toNat 7 i2 dp.toNat n.toNat) H1 → va_S (AA b sz) s.heap H1 locs1 → W p l e R s m args below meth c H1 locs1 cells slots Q (F0 m (pc + 3) ls rest)) : W p l e R s m args below meth c H locs cells slots Q (F0 m pc ls (.int (jI n) :: .int (jI dp) :: .ref (adr b 7 i2) :: .int (jI sp) :: .ref (adr b 7 i) :: rest)) := by
  intro T hT X
  obtain ⟨N, hN⟩ : ∃ N : Nat, N = 256 := ⟨_, rfl⟩
  have hc0 : H[adr b 7 i]? = some (vp_cell (g.2 4) (N, .inr (.inl (fun k => Int64.ofInt (M 7 i k))))) := by
    rw [hN]
    exact hR.1 7 i ok
  have hc1 : H[adr b 7 i2]? = some (vp_cell (g.2 4) (N, .inr (.inl (fun k => Int64.ofInt (M 7 i2 k))))) := by
    rw [hN]
    exact hR.1 7 i2 ok2
  obtain ⟨-, k0, hk0, cm0, hkk0⟩ := (hK.2 4 ((g.2 4), .long) rfl).1 (N) (fun j => .long (Int64.ofInt (M 7 i j)))
  obtain ⟨-, k1, hk1, cm1, hkk1⟩ := (hK.2 4 ((g.2 4), .long) rfl).1 (N) (fun j => .long (Int64.ofInt (M 7 i2 j)))
  have n1 : ¬ jI sp < 0 := by rw [← jI_0, jI_lt hsp rg_0]; omega
  have n2 : ¬ jI dp < 0 := by rw [← jI_0, jI_lt hdp rg_0]; omega
  have n3 : ¬ jI n < 0 := by rw [← jI_0, jI_lt hn rg_0]; omega
  obtain ⟨vm', X', step⟩ := X.arraycopy hexec hown (hts _ w1) (hts _ w2) (hts _ w3) (hts _ w4) (src := adr b 7 i) (dst := adr b 7 i2) (cs := vp_cell (g.2 4) (N, .inr (.inl (fun k => Int64.ofInt (M 7 i k))))) (cd := vp_cell (g.2 4) (N, .inr (.inl (fun k => Int64.ofInt (M 7 i2 k))))) (srcPos := jI sp) (destPos := jI dp) (n := jI n) (by rw [hT]; exact hc0) (by rw [hT]; exact hc1)
    (fun _ h => by cases h) (fun _ h => by cases h) (fun h => by cases h) (fun h => by cases h) hk0 hk1 hkk0 hkk1 (by simp [refKind]) n1 n2 n3
    (by rw [jI_toInt hsp, jI_toInt hn]; show ¬ _ > ((arrV (g.2 4) (N) (fun j => .long (Int64.ofInt (M 7 i j)))).slots.size : Int); rw [arrV_size]; omega)
    (by rw [jI_toInt hdp, jI_toInt hn]; show ¬ _ > ((arrV (g.2 4) (N) (fun j => .long (Int64.ofInt (M 7 i2 j)))).slots.size : Int); rw [arrV_size]; omega)
    (fun vm₁ _ j hj => by
      rw [jI_cl hn] at hj
      have ez : (vp_cell (g.2 4) (N, .inr (.inl (fun k => Int64.ofInt (M 7 i k))))).slots.getD ((jI sp).toNatClampNeg + j) .null = .long (Int64.ofInt (M 7 i ((jI sp).toNatClampNeg + j))) := by
        show (arrV (g.2 4) (N) (fun j => .long (Int64.ofInt (M 7 i j)))).slots.getD _ _ = _
        rw [Array.getD_eq_getD_getElem?, arrV_read _ _ (by rw [jI_cl hsp]; omega)]
        rfl
      refine ⟨?_, ?_⟩
      · rw [ez]
        rfl
      · rw [ez]
        exact trivial)
    (g := F0 m pc ls (.int (jI n) :: .int (jI dp) :: .ref (adr b 7 i2) :: .int (jI sp) :: .ref (adr b 7 i) :: rest)) rfl (by rw [hml, ← hls]) (rest := rest) rfl (by rw [hb]; exact hdg) hframes (by show 2 * 0 + _ + _ ≤ _; omega)
  have e1 : copied (vp_cell (g.2 4) (N, .inr (.inl (fun k => Int64.ofInt (M 7 i k))))) (vp_cell (g.2 4) (N, .inr (.inl (fun k => Int64.ofInt (M 7 i2 k))))) (jI sp) (jI dp) (jI n) = vp_cell (g.2 4) (N, .inr (.inl (fun k => Int64.ofInt (mcp M 7 i sp.toNat 7 i2 dp.toNat n.toNat 7 i2 k)))) := by
    have h9 := va_copied (fun z => Value.long z) (g.2 4) (g.2 4) (n0 := N) (n1 := N) (sp := (jI sp).toNatClampNeg) (dp := (jI dp).toNatClampNeg) (n := (jI n).toNatClampNeg) (fun k => Int64.ofInt (M 7 i k)) (fun k => Int64.ofInt (M 7 i2 k)) (by rw [jI_cl hsp, jI_cl hn]; omega)
    refine (show copied _ _ _ _ _ = _ from h9).trans ?_
    rw [vp_cell_l]
    congr 1
    funext k
    congr 1
    unfold va_cpy mcp
    rw [jI_cl hsp, jI_cl hdp, jI_cl hn]
    by_cases q : dp.toNat ≤ k ∧ k < dp.toNat + n.toNat
    · rw [if_pos q, if_pos ⟨rfl, rfl, q⟩]
    · rw [if_neg q, if_neg (fun z => q ⟨z.2.2.1, z.2.2.2⟩)]
  rw [e1] at X' step
  have hl9 : adr b 7 i2 < H.size := (Array.getElem?_eq_some_iff.mp hc1).1
  have hheap : ((T.setVm vm').setCell (adr b 7 i2) (vp_cell (g.2 4) (N, .inr (.inl (fun k => Int64.ofInt (mcp M 7 i sp.toNat 7 i2 dp.toNat n.toNat 7 i2 k)))))).heap = H.setIfInBounds (adr b 7 i2) (vp_cell (g.2 4) (N, .inr (.inl (fun k => Int64.ofInt (mcp M 7 i sp.toNat 7 i2 dp.toNat n.toNat 7 i2 k))))) := by rw [← hT]; rfl
  have oq : ∀ q : Nat, q ≠ adr b 7 i2 → (H.setIfInBounds (adr b 7 i2) (vp_cell (g.2 4) (N, .inr (.inl (fun k => Int64.ofInt (mcp M 7 i sp.toNat 7 i2 dp.toNat n.toNat 7 i2 k))))))[q]? = H[q]? := fun q hq => by simp [Array.getElem?_setIfInBounds, Ne.symm hq]
  obtain ⟨t, a1, b1⟩ := kk _ _ (hR.set ok2 (M' := mcp M 7 i sp.toNat 7 i2 dp.toNat n.toNat) (by
    have h9 : (H.setIfInBounds (adr b 7 i2) (vp_cell (g.2 4) (N, .inr (.inl (fun k => Int64.ofInt (mcp M 7 i sp.toNat 7 i2 dp.toNat n.toNat 7 i2 k))))))[adr b 7 i2]? = some (vp_cell (g.2 4) (N, .inr (.inl (fun k => Int64.ofInt (mcp M 7 i sp.toNat 7 i2 dp.toNat n.toNat 7 i2 k))))) := by simp [Array.getElem?_setIfInBounds, hl9]
    have h8 := h9
    rw [hN] at h8
    rw [hN]
    exact h8) oq mcp_ne (mcp_rg hR.2 (fun _ => rfl))) ⟨by simp; exact hS.1, fun q g1 g2 => by
      rw [oq q (fun ez => g2 (by rw [ez]; exact AA_ok ok2))]
      exact hS.2.1 q g1 g2, fun q hq => by
      rcases List.mem_append.mp hq with h | h
      · exact hS.2.2 q h
      · obtain ⟨z, -, hz⟩ := List.mem_map.mp h
        rw [← hz]
        exact AA_ok ok2⟩ _ hheap X'
  exact ⟨t, step t a1, b1⟩
theorem x_cVi (hexec : p.tables.exec = Jvm.exec) (hb : c.code = cc) {nL : Nat} (hml : c.maxLocals = nL) {own : String} (hown : s.vm.findClass own = some m.cls) (hts : ∀ w ∈ wT, w.before args s = true) (hK : va_K g.1 vwCl (tysX g) s) (hR : Rel g b M H) (hS : va_S (AA b s.heap.size) s.heap H locs) {y : MethodName} {bytes : ByteArray} {maxL : Nat} {ret : Option FieldType} {rm : Room} {As : List Value} {K i : Nat} {r : Int} {M' : Mm} {index ci N : Nat} {C : String} {T : u_T} {fs : List Value} (hM : Ct l y bytes maxL ret rm g b (.ref (adr b K i) :: As) M (qI g b r M')) (ok : okK K i) (hcell : cellE g b M K i = .inr (ci, fs)) (hc : vwCl[ci]? = some (C, T, N)) (w1 : Cond.methodLink own index y ∈ wT) (w2 : Cond.instanceMethod y ∈ wT) (w3 : Cond.selects C y y ∈ wT) (w4 : Cond.initialized C ∈ wT) (w5 : Cond.code y bytes maxL ret ∈ wT) (hy : y.cls = C ∧ y.cls ≠ "java/lang/invoke/MethodHandle" ∧ y.cls ≠ "java/lang/invoke/VarHandle" ∧ (parseMethodDescriptor y.desc).map (fun d => d.parameters.length) = some As.length) (hrm : rm.cells = 0 ∧ rm.slots = 0) (hroom : rm.frames + 1 ≤ R.frames ∧ 8 + (maxL + 11) + rm.locals ≤ R.locals) (hsz : ls.size = nL) (hst : (rest.map fun v => v.category).sum ≤ 8) (hdg : decode cc pc = .ok (.invokevirtual index, 3)) (hcs : cells ≤ R.cells ∧ slots ≤ R.slots) {st : List Value} (hst0 : st = As.reverse ++ .ref (adr b K i) :: rest)
    (kk : rg r → ∀ (H1 : Heap) (locs1 : List Loc), Rel g b M' H1 → va_S (AA b s.heap.size) s.heap H1 locs1 → W p l e R s m args below meth c H1 locs1 cells slots Q (F0 m (pc + 3) ls (.int (jI r) :: rest))) : W p l e R s m args below meth c H locs cells slots Q (F0 m pc ls st) := by
  subst hst0
  refine va_calli (va_runV (As := As) (rest := rest) ⟨hexec, hb, hml, hown, hts⟩ (hM H.size) (cwV As.length hts (gV w1 w2 w3 w4 w5) rfl hrm.1 hrm.2 hy hroom) ⟨ct_blind, va_recv (q0 := 0) (fs := fs) hK (hR.P1 ok) hc (by rw [hcell]; rfl), fun U hU hW => ⟨rfl, by rw [hU], by rw [hU]; exact hR, va_K.moved hW.alike hK⟩⟩ rfl rfl hsz rfl (lv_room hst) hdg ⟨hcs.1, hcs.2⟩) hS (fun q _ h => AA_mono hS.1 q h) (fun q h => AA_mono hS.1 q h) (fun r0 u t H1 locs1 ht hvm hw hB hz1 hk1 hS1 => ?_)
  obtain ⟨rfl, hrg⟩ := hw
  exact kk hrg H1 locs1 (by rw [← ht]; exact hB.1) hS1
theorem x_cSi (hexec : p.tables.exec = Jvm.exec) (hb : c.code = cc) {nL : Nat} (hml : c.maxLocals = nL) {own : String} (hown : s.vm.findClass own = some m.cls) (hts : ∀ w ∈ wT, w.before args s = true) (hK : va_K g.1 vwCl (tysX g) s) (hR : Rel g b M H) (hS : va_S (AA b s.heap.size) s.heap H locs) {y : MethodName} {bytes : ByteArray} {maxL : Nat} {ret : Option FieldType} {rm : Room} {As : List Value} {r : Int} {M' : Mm} {index : Nat} (hM : Ct l y bytes maxL ret rm g b As M (qI g b r M')) (w1 : Cond.methodLink own index y ∈ wT) (w2 : Cond.static y ∈ wT) (w4 : Cond.initialized y.cls ∈ wT) (w5 : Cond.code y bytes maxL ret ∈ wT) (hy : y.cls ≠ "java/lang/invoke/MethodHandle" ∧ y.cls ≠ "java/lang/invoke/VarHandle" ∧ (parseMethodDescriptor y.desc).map (fun d => d.parameters.length) = some As.length) (hrm : rm.cells = 0 ∧ rm.slots = 0) (hroom : rm.frames + 1 ≤ R.frames ∧ 8 + (maxL + 11) + rm.locals ≤ R.locals) (hsz : ls.size = nL) (hst : (rest.map fun v => v.category).sum ≤ 8) (hdg : decode cc pc = .ok (.invokestatic index, 3)) (hcs : cells ≤ R.cells ∧ slots ≤ R.slots) {st : List Value} (hst0 : st = As.reverse ++ rest)
    (kk : rg r → ∀ (H1 : Heap) (locs1 : List Loc), Rel g b M' H1 → va_S (AA b s.heap.size) s.heap H1 locs1 → W p l e R s m args below meth c H1 locs1 cells slots Q (F0 m (pc + 3) ls (.int (jI r) :: rest))) : W p l e R s m args below meth c H locs cells slots Q (F0 m pc ls st) := by
  subst hst0
  refine va_calli (va_runS (As := As) (rest := rest) ⟨hexec, hb, hml, hown, hts⟩ (hM H.size) (va_cwS As.length hts (gS w1 w2 w4 w5) rfl hrm.1 hrm.2 hy hroom) ⟨ct_blind, fun U hU hW => ⟨rfl, by rw [hU], by rw [hU]; exact hR, va_K.moved hW.alike hK⟩⟩ rfl rfl hsz rfl (lv_room hst) hdg ⟨hcs.1, hcs.2⟩) hS (fun q _ h => AA_mono hS.1 q h) (fun q h => AA_mono hS.1 q h) (fun r0 u t H1 locs1 ht hvm hw hB hz1 hk1 hS1 => ?_)
  obtain ⟨rfl, hrg⟩ := hw
  exact kk hrg H1 locs1 (by rw [← ht]; exact hB.1) hS1
theorem x_cVl (hexec : p.tables.exec = Jvm.exec) (hb : c.code = cc) {nL : Nat} (hml : c.maxLocals = nL) {own : String} (hown : s.vm.findClass own = some m.cls) (hts : ∀ w ∈ wT, w.before args s = true) (hK : va_K g.1 vwCl (tysX g) s) (hR : Rel g b M H) (hS : va_S (AA b s.heap.size) s.heap H locs) {y : MethodName} {bytes : ByteArray} {maxL : Nat} {ret : Option FieldType} {rm : Room} {As : List Value} {K i : Nat} {r : Int64} {M' : Mm} {index ci N : Nat} {C : String} {T : u_T} {fs : List Value} (hM : Ct l y bytes maxL ret rm g b (.ref (adr b K i) :: As) M (qL g b r M')) (ok : okK K i) (hcell : cellE g b M K i = .inr (ci, fs)) (hc : vwCl[ci]? = some (C, T, N)) (w1 : Cond.methodLink own index y ∈ wT) (w2 : Cond.instanceMethod y ∈ wT) (w3 : Cond.selects C y y ∈ wT) (w4 : Cond.initialized C ∈ wT) (w5 : Cond.code y bytes maxL ret ∈ wT) (hy : y.cls = C ∧ y.cls ≠ "java/lang/invoke/MethodHandle" ∧ y.cls ≠ "java/lang/invoke/VarHandle" ∧ (parseMethodDescriptor y.desc).map (fun d => d.parameters.length) = some As.length) (hrm : rm.cells = 0 ∧ rm.slots = 0) (hroom : rm.frames + 1 ≤ R.frames ∧ 8 + (maxL + 11) + rm.locals ≤ R.locals) (hsz : ls.size = nL) (hst : (rest.map fun v => v.category).sum ≤ 8) (hdg : decode cc pc = .ok (.invokevirtual index, 3)) (hcs : cells ≤ R.cells ∧ slots ≤ R.slots) {st : List Value} (hst0 : st = As.reverse ++ .ref (adr b K i) :: rest)
    (kk : ∀ (H1 : Heap) (locs1 : List Loc), Rel g b M' H1 → va_S (AA b s.heap.size) s.heap H1 locs1 → W p l e R s m args below meth c H1 locs1 cells slots Q (F0 m (pc + 3) ls (.long r :: rest))) : W p l e R s m args below meth c H locs cells slots Q (F0 m pc ls st) := by
  subst hst0
  refine va_calll (va_runV (As := As) (rest := rest) ⟨hexec, hb, hml, hown, hts⟩ (hM H.size) (cwV As.length hts (gV w1 w2 w3 w4 w5) rfl hrm.1 hrm.2 hy hroom) ⟨ct_blind, va_recv (q0 := 0) (fs := fs) hK (hR.P1 ok) hc (by rw [hcell]; rfl), fun U hU hW => ⟨rfl, by rw [hU], by rw [hU]; exact hR, va_K.moved hW.alike hK⟩⟩ rfl rfl hsz rfl (lv_room hst) hdg ⟨hcs.1, hcs.2⟩) hS (fun q _ h => AA_mono hS.1 q h) (fun q h => AA_mono hS.1 q h) (fun r0 u t H1 locs1 ht hvm hw hB hz1 hk1 hS1 => ?_)
  obtain rfl := hw
  exact kk H1 locs1 (by rw [← ht]; exact hB.1) hS1
theorem x_cSl (hexec : p.tables.exec = Jvm.exec) (hb : c.code = cc) {nL : Nat} (hml : c.maxLocals = nL) {own : String} (hown : s.vm.findClass own = some m.cls) (hts : ∀ w ∈ wT, w.before args s = true) (hK : va_K g.1 vwCl (tysX g) s) (hR : Rel g b M H) (hS : va_S (AA b s.heap.size) s.heap H locs) {y : MethodName} {bytes : ByteArray} {maxL : Nat} {ret : Option FieldType} {rm : Room} {As : List Value} {r : Int64} {M' : Mm} {index : Nat} (hM : Ct l y bytes maxL ret rm g b As M (qL g b r M')) (w1 : Cond.methodLink own index y ∈ wT) (w2 : Cond.static y ∈ wT) (w4 : Cond.initialized y.cls ∈ wT) (w5 : Cond.code y bytes maxL ret ∈ wT) (hy : y.cls ≠ "java/lang/invoke/MethodHandle" ∧ y.cls ≠ "java/lang/invoke/VarHandle" ∧ (parseMethodDescriptor y.desc).map (fun d => d.parameters.length) = some As.length) (hrm : rm.cells = 0 ∧ rm.slots = 0) (hroom : rm.frames + 1 ≤ R.frames ∧ 8 + (maxL + 11) + rm.locals ≤ R.locals) (hsz : ls.size = nL) (hst : (rest.map fun v => v.category).sum ≤ 8) (hdg : decode cc pc = .ok (.invokestatic index, 3)) (hcs : cells ≤ R.cells ∧ slots ≤ R.slots) {st : List Value} (hst0 : st = As.reverse ++ rest)
    (kk : ∀ (H1 : Heap) (locs1 : List Loc), Rel g b M' H1 → va_S (AA b s.heap.size) s.heap H1 locs1 → W p l e R s m args below meth c H1 locs1 cells slots Q (F0 m (pc + 3) ls (.long r :: rest))) : W p l e R s m args below meth c H locs cells slots Q (F0 m pc ls st) := by
  subst hst0
  refine va_calll (va_runS (As := As) (rest := rest) ⟨hexec, hb, hml, hown, hts⟩ (hM H.size) (va_cwS As.length hts (gS w1 w2 w4 w5) rfl hrm.1 hrm.2 hy hroom) ⟨ct_blind, fun U hU hW => ⟨rfl, by rw [hU], by rw [hU]; exact hR, va_K.moved hW.alike hK⟩⟩ rfl rfl hsz rfl (lv_room hst) hdg ⟨hcs.1, hcs.2⟩) hS (fun q _ h => AA_mono hS.1 q h) (fun q h => AA_mono hS.1 q h) (fun r0 u t H1 locs1 ht hvm hw hB hz1 hk1 hS1 => ?_)
  obtain rfl := hw
  exact kk H1 locs1 (by rw [← ht]; exact hB.1) hS1
theorem x_cVv (hexec : p.tables.exec = Jvm.exec) (hb : c.code = cc) {nL : Nat} (hml : c.maxLocals = nL) {own : String} (hown : s.vm.findClass own = some m.cls) (hts : ∀ w ∈ wT, w.before args s = true) (hK : va_K g.1 vwCl (tysX g) s) (hR : Rel g b M H) (hS : va_S (AA b s.heap.size) s.heap H locs) {y : MethodName} {bytes : ByteArray} {maxL : Nat} {ret : Option FieldType} {rm : Room} {As : List Value} {K i : Nat}  {M' : Mm} {index ci N : Nat} {C : String} {T : u_T} {fs : List Value} (hM : Ct l y bytes maxL ret rm g b (.ref (adr b K i) :: As) M (qV g b M')) (ok : okK K i) (hcell : cellE g b M K i = .inr (ci, fs)) (hc : vwCl[ci]? = some (C, T, N)) (w1 : Cond.methodLink own index y ∈ wT) (w2 : Cond.instanceMethod y ∈ wT) (w3 : Cond.selects C y y ∈ wT) (w4 : Cond.initialized C ∈ wT) (w5 : Cond.code y bytes maxL ret ∈ wT) (hy : y.cls = C ∧ y.cls ≠ "java/lang/invoke/MethodHandle" ∧ y.cls ≠ "java/lang/invoke/VarHandle" ∧ (parseMethodDescriptor y.desc).map (fun d => d.parameters.length) = some As.length) (hrm : rm.cells = 0 ∧ rm.slots = 0) (hroom : rm.frames + 1 ≤ R.frames ∧ 8 + (maxL + 11) + rm.locals ≤ R.locals) (hsz : ls.size = nL) (hst : (rest.map fun v => v.category).sum ≤ 8) (hdg : decode cc pc = .ok (.invokevirtual index, 3)) (hcs : cells ≤ R.cells ∧ slots ≤ R.slots) {st : List Value} (hst0 : st = As.reverse ++ .ref (adr b K i) :: rest)
    (kk : ∀ (H1 : Heap) (locs1 : List Loc), Rel g b M' H1 → va_S (AA b s.heap.size) s.heap H1 locs1 → W p l e R s m args below meth c H1 locs1 cells slots Q (F0 m (pc + 3) ls (rest))) : W p l e R s m args below meth c H locs cells slots Q (F0 m pc ls st) := by
  subst hst0
  refine va_callv (va_runV (As := As) (rest := rest) ⟨hexec, hb, hml, hown, hts⟩ (hM H.size) (cwV As.length hts (gV w1 w2 w3 w4 w5) rfl hrm.1 hrm.2 hy hroom) ⟨ct_blind, va_recv (q0 := 0) (fs := fs) hK (hR.P1 ok) hc (by rw [hcell]; rfl), fun U hU hW => ⟨rfl, by rw [hU], by rw [hU]; exact hR, va_K.moved hW.alike hK⟩⟩ rfl rfl hsz rfl (lv_room hst) hdg ⟨hcs.1, hcs.2⟩) hS (fun q _ h => AA_mono hS.1 q h) (fun q h => AA_mono hS.1 q h) (fun u t H1 locs1 ht hvm hw hB hz1 hk1 hS1 => ?_)
  exact kk H1 locs1 (by rw [← ht]; exact hB.1) hS1
theorem x_cSv (hexec : p.tables.exec = Jvm.exec) (hb : c.code = cc) {nL : Nat} (hml : c.maxLocals = nL) {own : String} (hown : s.vm.findClass own = some m.cls) (hts : ∀ w ∈ wT, w.before args s = true) (hK : va_K g.1 vwCl (tysX g) s) (hR : Rel g b M H) (hS : va_S (AA b s.heap.size) s.heap H locs) {y : MethodName} {bytes : ByteArray} {maxL : Nat} {ret : Option FieldType} {rm : Room} {As : List Value}  {M' : Mm} {index : Nat} (hM : Ct l y bytes maxL ret rm g b As M (qV g b M')) (w1 : Cond.methodLink own index y ∈ wT) (w2 : Cond.static y ∈ wT) (w4 : Cond.initialized y.cls ∈ wT) (w5 : Cond.code y bytes maxL ret ∈ wT) (hy : y.cls ≠ "java/lang/invoke/MethodHandle" ∧ y.cls ≠ "java/lang/invoke/VarHandle" ∧ (parseMethodDescriptor y.desc).map (fun d => d.parameters.length) = some As.length) (hrm : rm.cells = 0 ∧ rm.slots = 0) (hroom : rm.frames + 1 ≤ R.frames ∧ 8 + (maxL + 11) + rm.locals ≤ R.locals) (hsz : ls.size = nL) (hst : (rest.map fun v => v.category).sum ≤ 8) (hdg : decode cc pc = .ok (.invokestatic index, 3)) (hcs : cells ≤ R.cells ∧ slots ≤ R.slots) {st : List Value} (hst0 : st = As.reverse ++ rest)
    (kk : ∀ (H1 : Heap) (locs1 : List Loc), Rel g b M' H1 → va_S (AA b s.heap.size) s.heap H1 locs1 → W p l e R s m args below meth c H1 locs1 cells slots Q (F0 m (pc + 3) ls (rest))) : W p l e R s m args below meth c H locs cells slots Q (F0 m pc ls st) := by
  subst hst0
  refine va_callv (va_runS (As := As) (rest := rest) ⟨hexec, hb, hml, hown, hts⟩ (hM H.size) (va_cwS As.length hts (gS w1 w2 w4 w5) rfl hrm.1 hrm.2 hy hroom) ⟨ct_blind, fun U hU hW => ⟨rfl, by rw [hU], by rw [hU]; exact hR, va_K.moved hW.alike hK⟩⟩ rfl rfl hsz rfl (lv_room hst) hdg ⟨hcs.1, hcs.2⟩) hS (fun q _ h => AA_mono hS.1 q h) (fun q h => AA_mono hS.1 q h) (fun u t H1 locs1 ht hvm hw hB hz1 hk1 hS1 => ?_)
  exact kk H1 locs1 (by rw [← ht]; exact hB.1) hS1
theorem x_cVr (hexec : p.tables.exec = Jvm.exec) (hb : c.code = cc) {nL : Nat} (hml : c.maxLocals = nL) {own : String} (hown : s.vm.findClass own = some m.cls) (hts : ∀ w ∈ wT, w.before args s = true) (hK : va_K g.1 vwCl (tysX g) s) (hR : Rel g b M H) (hS : va_S (AA b s.heap.size) s.heap H locs) {y : MethodName} {bytes : ByteArray} {maxL : Nat} {ret : Option FieldType} {rm : Room} {As : List Value} {K i : Nat} {K9 r : Nat} {M' : Mm} {index ci N : Nat} {C : String} {T : u_T} {fs : List Value} (hM : Ct l y bytes maxL ret rm g b (.ref (adr b K i) :: As) M (qR g b K9 r M')) (ok : okK K i) (hcell : cellE g b M K i = .inr (ci, fs)) (hc : vwCl[ci]? = some (C, T, N)) (w1 : Cond.methodLink own index y ∈ wT) (w2 : Cond.instanceMethod y ∈ wT) (w3 : Cond.selects C y y ∈ wT) (w4 : Cond.initialized C ∈ wT) (w5 : Cond.code y bytes maxL ret ∈ wT) (hy : y.cls = C ∧ y.cls ≠ "java/lang/invoke/MethodHandle" ∧ y.cls ≠ "java/lang/invoke/VarHandle" ∧ (parseMethodDescriptor y.desc).map (fun d => d.parameters.length) = some As.length) (hrm : rm.cells = 0 ∧ rm.slots = 0) (hroom : rm.frames + 1 ≤ R.frames ∧ 8 + (maxL + 11) + rm.locals ≤ R.locals) (hsz : ls.size = nL) (hst : (rest.map fun v => v.category).sum ≤ 8) (hdg : decode cc pc = .ok (.invokevirtual index, 3)) (hcs : cells ≤ R.cells ∧ slots ≤ R.slots) {st : List Value} (hst0 : st = As.reverse ++ .ref (adr b K i) :: rest)
    (kk : okK K9 r → ∀ (H1 : Heap) (locs1 : List Loc), Rel g b M' H1 → va_S (AA b s.heap.size) s.heap H1 locs1 → W p l e R s m args below meth c H1 locs1 cells slots Q (F0 m (pc + 3) ls (.ref (adr b K9 r) :: rest))) : W p l e R s m args below meth c H locs cells slots Q (F0 m pc ls st) := by
  subst hst0
  refine va_callr (va_runV (As := As) (rest := rest) ⟨hexec, hb, hml, hown, hts⟩ (hM H.size) (cwV As.length hts (gV w1 w2 w3 w4 w5) rfl hrm.1 hrm.2 hy hroom) ⟨ct_blind, va_recv (q0 := 0) (fs := fs) hK (hR.P1 ok) hc (by rw [hcell]; rfl), fun U hU hW => ⟨rfl, by rw [hU], by rw [hU]; exact hR, va_K.moved hW.alike hK⟩⟩ rfl rfl hsz rfl (lv_room hst) hdg ⟨hcs.1, hcs.2⟩) hS (fun q _ h => AA_mono hS.1 q h) (fun q h => AA_mono hS.1 q h) (fun u ra t H1 locs1 ht hvm hw hB hz1 hk1 hS1 => ?_)
  obtain ⟨rfl, hB⟩ := hB
  exact kk hw H1 locs1 (by rw [← ht]; exact hB.1) hS1
theorem x_cSr (hexec : p.tables.exec = Jvm.exec) (hb : c.code = cc) {nL : Nat} (hml : c.maxLocals = nL) {own : String} (hown : s.vm.findClass own = some m.cls) (hts : ∀ w ∈ wT, w.before args s = true) (hK : va_K g.1 vwCl (tysX g) s) (hR : Rel g b M H) (hS : va_S (AA b s.heap.size) s.heap H locs) {y : MethodName} {bytes : ByteArray} {maxL : Nat} {ret : Option FieldType} {rm : Room} {As : List Value} {K9 r : Nat} {M' : Mm} {index : Nat} (hM : Ct l y bytes maxL ret rm g b As M (qR g b K9 r M')) (w1 : Cond.methodLink own index y ∈ wT) (w2 : Cond.static y ∈ wT) (w4 : Cond.initialized y.cls ∈ wT) (w5 : Cond.code y bytes maxL ret ∈ wT) (hy : y.cls ≠ "java/lang/invoke/MethodHandle" ∧ y.cls ≠ "java/lang/invoke/VarHandle" ∧ (parseMethodDescriptor y.desc).map (fun d => d.parameters.length) = some As.length) (hrm : rm.cells = 0 ∧ rm.slots = 0) (hroom : rm.frames + 1 ≤ R.frames ∧ 8 + (maxL + 11) + rm.locals ≤ R.locals) (hsz : ls.size = nL) (hst : (rest.map fun v => v.category).sum ≤ 8) (hdg : decode cc pc = .ok (.invokestatic index, 3)) (hcs : cells ≤ R.cells ∧ slots ≤ R.slots) {st : List Value} (hst0 : st = As.reverse ++ rest)
    (kk : okK K9 r → ∀ (H1 : Heap) (locs1 : List Loc), Rel g b M' H1 → va_S (AA b s.heap.size) s.heap H1 locs1 → W p l e R s m args below meth c H1 locs1 cells slots Q (F0 m (pc + 3) ls (.ref (adr b K9 r) :: rest))) : W p l e R s m args below meth c H locs cells slots Q (F0 m pc ls st) := by
  subst hst0
  refine va_callr (va_runS (As := As) (rest := rest) ⟨hexec, hb, hml, hown, hts⟩ (hM H.size) (va_cwS As.length hts (gS w1 w2 w4 w5) rfl hrm.1 hrm.2 hy hroom) ⟨ct_blind, fun U hU hW => ⟨rfl, by rw [hU], by rw [hU]; exact hR, va_K.moved hW.alike hK⟩⟩ rfl rfl hsz rfl (lv_room hst) hdg ⟨hcs.1, hcs.2⟩) hS (fun q _ h => AA_mono hS.1 q h) (fun q h => AA_mono hS.1 q h) (fun u ra t H1 locs1 ht hvm hw hB hz1 hk1 hS1 => ?_)
  obtain ⟨rfl, hB⟩ := hB
  exact kk hw H1 locs1 (by rw [← ht]; exact hB.1) hS1
theorem x_iret (hexec : p.tables.exec = Jvm.exec) (hb : c.code = cc) (hlocks : meth.locks = false) (hK : va_K g.1 vwCl (tysX g) s) (hR : Rel g b M H) (hS : va_S (AA b s.heap.size) s.heap H locs) (hr : meth.sig.returnType = some .int) {r : Int} (hrg : rg r) (hdg : decode cc pc = .ok (.ireturn, 1)) : W p l e R s m args below meth c H locs cells slots (MQ below (qI g b r M s.heap.size) args s cells slots (AA b s.heap.size)) (F0 m pc ls [.int (jI r)]) :=
  W.iret hexec hb hr (fun t ht hW => ⟨⟨jI r, (), rfl, ⟨rfl, hrg⟩, by rw [ht]; exact hR, va_K.moved hW.alike hK⟩, hS.F ht⟩) hS.2.2 hdg hlocks
theorem narrow_z {r : Int} (h : r = 0 ∨ r = 1) : narrow .boolean (.int (jI r)) = .int (jI r) := by
  rcases h with rfl | rfl <;> decide +kernel
theorem x_zret (hexec : p.tables.exec = Jvm.exec) (hb : c.code = cc) (hlocks : meth.locks = false) (hK : va_K g.1 vwCl (tysX g) s) (hR : Rel g b M H) (hS : va_S (AA b s.heap.size) s.heap H locs) (hr : meth.sig.returnType = some .boolean) {r : Int} (h01 : r = 0 ∨ r = 1) (hdg : decode cc pc = .ok (.ireturn, 1)) : W p l e R s m args below meth c H locs cells slots (MQ below (qI g b r M s.heap.size) args s cells slots (AA b s.heap.size)) (F0 m pc ls [.int (jI r)]) :=
  W.zret hexec hb hr (narrow_z h01) (fun t ht hW => ⟨⟨jI r, (), rfl, ⟨rfl, by rcases h01 with rfl | rfl <;> decide⟩, by rw [ht]; exact hR, va_K.moved hW.alike hK⟩, hS.F ht⟩) hS.2.2 hdg hlocks
theorem x_lret (hexec : p.tables.exec = Jvm.exec) (hb : c.code = cc) (hlocks : meth.locks = false) (hK : va_K g.1 vwCl (tysX g) s) (hR : Rel g b M H) (hS : va_S (AA b s.heap.size) s.heap H locs) (hr : meth.sig.returnType = some .long) {r : Int64} (hdg : decode cc pc = .ok (.lreturn, 1)) : W p l e R s m args below meth c H locs cells slots (MQ below (qL g b r M s.heap.size) args s cells slots (AA b s.heap.size)) (F0 m pc ls [.long r]) :=
  W.lret hexec hb hr (fun t ht hW => ⟨⟨r, (), rfl, rfl, by rw [ht]; exact hR, va_K.moved hW.alike hK⟩, hS.F ht⟩) hS.2.2 hdg hlocks
theorem x_vret (hexec : p.tables.exec = Jvm.exec) (hb : c.code = cc) (hlocks : meth.locks = false) (hK : va_K g.1 vwCl (tysX g) s) (hR : Rel g b M H) (hS : va_S (AA b s.heap.size) s.heap H locs) (hr : meth.sig.returnType = none) (hdg : decode cc pc = .ok (.return_, 1)) : W p l e R s m args below meth c H locs cells slots (MQ below (qV g b M s.heap.size) args s cells slots (AA b s.heap.size)) (F0 m pc ls []) :=
  W.vret hexec hb hr (fun t ht hW => ⟨⟨(), rfl, trivial, by rw [ht]; exact hR, va_K.moved hW.alike hK⟩, hS.F ht⟩) hS.2.2 hdg hlocks
theorem x_aret (hexec : p.tables.exec = Jvm.exec) (hb : c.code = cc) (hlocks : meth.locks = false) (hK : va_K g.1 vwCl (tysX g) s) (hR : Rel g b M H) (hS : va_S (AA b s.heap.size) s.heap H locs) {C : String} (hr : meth.sig.returnType = some (.object C)) {K i : Nat} (ok : okK K i) (hdg : decode cc pc = .ok (.areturn, 1)) : W p l e R s m args below meth c H locs cells slots (MQ below (qR g b K i M s.heap.size) args s cells slots (AA b s.heap.size)) (F0 m pc ls [.ref (adr b K i)]) :=
  W.aret hexec hb hr (Or.inl ⟨_, rfl⟩) (Or.inr ⟨_, rfl⟩) (fun t ht hW => ⟨⟨(), adr b K i, rfl, ok, rfl, by rw [ht]; exact hR, va_K.moved hW.alike hK⟩, hS.F ht⟩) hS.2.2 hdg hlocks
end XC
/-- what holds at a method's entry, and all through its body -/
def XA (p : Program) (s : State) (m : MethodId) (meth : Method) (c : Code) (args : Array Value) (cls : String) (bytes : ByteArray) (maxL : Nat) (ret : Option FieldType) (g : Gx) : Prop :=
  p.tables.exec = Jvm.exec ∧ c.code = bytes ∧ meth.sig.returnType = ret ∧ meth.locks = false ∧ c.maxLocals = maxL ∧ s.vm.findClass cls = some m.cls ∧ (∀ w ∈ wT, w.before args s = true) ∧ va_K g.1 vwCl (tysX g) s
theorem ct_of {l : Launch} {y : MethodName} {bytes : ByteArray} {maxL : Nat} {ret : Option FieldType} {rm : Room} {g : Gx} {b : Nat} {av : List Value} {M : Mm} {Qf : Nat → Array Value → State → Outcome → State → Prop}
    (hy : plainName y.cls = true) (hlen : (lg_sl av).length ≤ maxL)
    (h : ∀ (p : Program) (e : Env) (s : State) (m : MethodId) (args : Array Value) (below : List Frame) (meth : Method) (c : Code), XA p s m meth c args y.cls bytes maxL ret g → Rel g b M s.heap → ∀ ls : Array Slot, lv_has ls maxL (lv_args 0 av) → W p l e rm s m args below meth c s.heap [] 0 0 (MQ below (Qf s.heap.size) args s 0 0 (AA b s.heap.size)) (F0 m 0 ls [])) :
    Ct l y bytes maxL ret rm g b av M Qf := by
  intro sz
  refine Met.ofW (cc := bytes) (maxL := maxL) (ret := ret) hy rfl ?_
  intro p e s m args below meth c s₁ B hml hv
  obtain ⟨rfl, hsz, hR, hK⟩ := hv
  subst hsz
  have hts := atoms_spec (ws := Cond.code y bytes maxL ret :: wT) B.pre
  rw [lg_entry_eq]
  exact h p e s m _ below meth c ⟨B.exec, B.bytes, B.returns, B.notSynchronized, hml, findClass_of_methodNamed B.named, fun w hw => hts w (List.mem_cons_of_mem _ hw), hK⟩ hR _ (lv_entry av hlen)
