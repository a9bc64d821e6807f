section XR
variable {p : Program} {l : Launch} {e : Env} {R : Room} {s : State} {m : MethodId} {args : Array Value} {below : List Frame} {meth : Method} {c : Code} {H : Heap} {locs : List Loc} {cells slots : Nat} {Q : State → Prop}
variable {cc : ByteArray} {pc : Nat} {ls : Array Slot} {rest : List Value} {g : Gx} {b : Nat} {M : Mm}
/-! numbers -/
theorem x_iconst (hexec : p.tables.exec = Jvm.exec) (hb : c.code = cc) {n : Int} (hdg : decode cc pc = .ok (.iconst n, 1)) (k : W p l e R s m args below meth c H locs cells slots Q (F0 m (pc + 1) ls (.int (jI n) :: rest))) : W p l e R s m args below meth c H locs cells slots Q (F0 m pc ls rest) := lv_iconst hexec hb hdg rfl k
theorem x_bipush (hexec : p.tables.exec = Jvm.exec) (hb : c.code = cc) {n : Int} (hv : (Int8.ofInt n).toInt32 = jI n) (hdg : decode cc pc = .ok (.bipush n, 2)) (k : W p l e R s m args below meth c H locs cells slots Q (F0 m (pc + 2) ls (.int (jI n) :: rest))) : W p l e R s m args below meth c H locs cells slots Q (F0 m pc ls rest) := lv_bipush hexec hb hdg hv k
theorem x_sipush (hexec : p.tables.exec = Jvm.exec) (hb : c.code = cc) {n : Int} (hv : (Int16.ofInt n).toInt32 = jI n) (hdg : decode cc pc = .ok (.sipush n, 3)) (k : W p l e R s m args below meth c H locs cells slots Q (F0 m (pc + 3) ls (.int (jI n) :: rest))) : W p l e R s m args below meth c H locs cells slots Q (F0 m pc ls rest) := lv_sipush hexec hb hdg hv k
theorem x_iadd (hexec : p.tables.exec = Jvm.exec) (hb : c.code = cc) {x y : Int} (hdg : decode cc pc = .ok (.iadd, 1)) (k : W p l e R s m args below meth c H locs cells slots Q (F0 m (pc + 1) ls (.int (jI (x + y)) :: rest))) : W p l e R s m args below meth c H locs cells slots Q (F0 m pc ls (.int (jI y) :: .int (jI x) :: rest)) := lv_iadd hexec hb hdg (by rw [jI_add]; exact k)
theorem x_isub (hexec : p.tables.exec = Jvm.exec) (hb : c.code = cc) {x y : Int} (hdg : decode cc pc = .ok (.isub, 1)) (k : W p l e R s m args below meth c H locs cells slots Q (F0 m (pc + 1) ls (.int (jI (x - y)) :: rest))) : W p l e R s m args below meth c H locs cells slots Q (F0 m pc ls (.int (jI y) :: .int (jI x) :: rest)) := lv_isub hexec hb hdg (by rw [jI_sub]; exact k)
theorem x_imul (hexec : p.tables.exec = Jvm.exec) (hb : c.code = cc) {x y : Int} (hdg : decode cc pc = .ok (.imul, 1)) (k : W p l e R s m args below meth c H locs cells slots Q (F0 m (pc + 1) ls (.int (jI (x * y)) :: rest))) : W p l e R s m args below meth c H locs cells slots Q (F0 m pc ls (.int (jI y) :: .int (jI x) :: rest)) := lv_imul hexec hb hdg (by rw [jI_mul]; exact k)
theorem x_idiv (hexec : p.tables.exec = Jvm.exec) (hb : c.code = cc) {x y : Int} (hx : rg x) (hy : rg y) (h0 : ¬ y = 0) (hdg : decode cc pc = .ok (.idiv, 1)) (k : W p l e R s m args below meth c H locs cells slots Q (F0 m (pc + 1) ls (.int (jI (x.tdiv y)) :: rest))) : W p l e R s m args below meth c H locs cells slots Q (F0 m pc ls (.int (jI y) :: .int (jI x) :: rest)) := lv_idiv hexec hb hdg (by rw [← jI_0, jI_eq hy rg_0]; exact h0) (by rw [jI_div hx hy]; exact k)
theorem x_irem (hexec : p.tables.exec = Jvm.exec) (hb : c.code = cc) {x y : Int} (hx : rg x) (hy : rg y) (h0 : ¬ y = 0) (hdg : decode cc pc = .ok (.irem, 1)) (k : W p l e R s m args below meth c H locs cells slots Q (F0 m (pc + 1) ls (.int (jI (x.tmod y)) :: rest))) : W p l e R s m args below meth c H locs cells slots Q (F0 m pc ls (.int (jI y) :: .int (jI x) :: rest)) := lv_irem hexec hb hdg (by rw [← jI_0, jI_eq hy rg_0]; exact h0) (by rw [jI_rem hx hy]; exact k)
theorem x_iinc (hexec : p.tables.exec = Jvm.exec) (hb : c.code = cc) {i nL k : Nat} {n : Int} {x : Int} {lv lv' : List (Nat × Value)} (hdg : decode cc pc = .ok (.iinc i n, 3)) (h : lv_has ls nL lv) (hk : lv[k]? = some (i, .int (jI x))) (hn : i < nL) (hl : (i, Value.int (jI (x + n))) :: lv.filter (fun q => !(q.1 == i) && !(q.1 + 1 == i && q.2.category == 2)) = lv')
    (kk : ∀ ls' : Array Slot, lv_has ls' nL lv' → W p l e R s m args below meth c H locs cells slots Q (F0 m (pc + 3) ls' rest)) : W p l e R s m args below meth c H locs cells slots Q (F0 m pc ls rest) := lv_iinc hexec hb hdg h hk (show jI x + Int32.ofInt n = jI (x + n) from jI_add x n) hn hl kk
theorem x_if_eq (hexec : p.tables.exec = Jvm.exec) (hb : c.code = cc) {x : Int} (hx : rg x) {off : Int} {tgt : Nat} (hdg : decode cc pc = .ok (.ifCond .eq off, 3)) (ht : (pc : Int) + off = (tgt : Int)) (kt : x = 0 → W p l e R s m args below meth c H locs cells slots Q (F0 m tgt ls rest)) (kf : ¬ x = 0 → W p l e R s m args below meth c H locs cells slots Q (F0 m (pc + 3) ls rest)) : W p l e R s m args below meth c H locs cells slots Q (F0 m pc ls (.int (jI x) :: rest)) :=
  lv_if_eq hexec hb hdg ht (fun q => kt ((jI_eq hx rg_0).mp (by rw [jI_0]; exact q))) (fun q => kf (fun z => q (by rw [← jI_0]; exact (jI_eq hx rg_0).mpr z)))
theorem x_if_ne (hexec : p.tables.exec = Jvm.exec) (hb : c.code = cc) {x : Int} (hx : rg x) {off : Int} {tgt : Nat} (hdg : decode cc pc = .ok (.ifCond .ne off, 3)) (ht : (pc : Int) + off = (tgt : Int)) (kt : ¬ x = 0 → W p l e R s m args below meth c H locs cells slots Q (F0 m tgt ls rest)) (kf : x = 0 → W p l e R s m args below meth c H locs cells slots Q (F0 m (pc + 3) ls rest)) : W p l e R s m args below meth c H locs cells slots Q (F0 m pc ls (.int (jI x) :: rest)) :=
  lv_if_ne hexec hb hdg ht (fun q => kt (fun z => q (by rw [← jI_0]; exact (jI_eq hx rg_0).mpr z))) (fun q => kf ((jI_eq hx rg_0).mp (by rw [jI_0]; first | exact q | exact Classical.not_not.mp q)))
theorem x_if_lt (hexec : p.tables.exec = Jvm.exec) (hb : c.code = cc) {x : Int} (hx : rg x) {off : Int} {tgt : Nat} (hdg : decode cc pc = .ok (.ifCond .lt off, 3)) (ht : (pc : Int) + off = (tgt : Int)) (kt : x < 0 → W p l e R s m args below meth c H locs cells slots Q (F0 m tgt ls rest)) (kf : ¬ x < 0 → W p l e R s m args below meth c H locs cells slots Q (F0 m (pc + 3) ls rest)) : W p l e R s m args below meth c H locs cells slots Q (F0 m pc ls (.int (jI x) :: rest)) :=
  lv_if_lt hexec hb hdg ht (fun q => kt ((jI_lt hx rg_0).mp (by rw [jI_0]; exact q))) (fun q => kf (fun z => q (by rw [← jI_0]; exact (jI_lt hx rg_0).mpr z)))
theorem x_if_ge (hexec : p.tables.exec = Jvm.exec) (hb : c.code = cc) {x : Int} (hx : rg x) {off : Int} {tgt : Nat} (hdg : decode cc pc = .ok (.ifCond .ge off, 3)) (ht : (pc : Int) + off = (tgt : Int)) (kt : 0 ≤ x → W p l e R s m args below meth c H locs cells slots Q (F0 m tgt ls rest)) (kf : ¬ 0 ≤ x → W p l e R s m args below meth c H locs cells slots Q (F0 m (pc + 3) ls rest)) : W p l e R s m args below meth c H locs cells slots Q (F0 m pc ls (.int (jI x) :: rest)) :=
  lv_if_ge hexec hb hdg ht (fun q => kt ((jI_le rg_0 hx).mp (by rw [jI_0]; exact q))) (fun q => kf (fun z => q (by rw [← jI_0]; exact (jI_le rg_0 hx).mpr z)))
theorem x_if_gt (hexec : p.tables.exec = Jvm.exec) (hb : c.code = cc) {x : Int} (hx : rg x) {off : Int} {tgt : Nat} (hdg : decode cc pc = .ok (.ifCond .gt off, 3)) (ht : (pc : Int) + off = (tgt : Int)) (kt : 0 < x → W p l e R s m args below meth c H locs cells slots Q (F0 m tgt ls rest)) (kf : ¬ 0 < x → W p l e R s m args below meth c H locs cells slots Q (F0 m (pc + 3) ls rest)) : W p l e R s m args below meth c H locs cells slots Q (F0 m pc ls (.int (jI x) :: rest)) :=
  lv_if_gt hexec hb hdg ht (fun q => kt ((jI_lt rg_0 hx).mp (by rw [jI_0]; exact q))) (fun q => kf (fun z => q (by rw [← jI_0]; exact (jI_lt rg_0 hx).mpr z)))
theorem x_if_le (hexec : p.tables.exec = Jvm.exec) (hb : c.code = cc) {x : Int} (hx : rg x) {off : Int} {tgt : Nat} (hdg : decode cc pc = .ok (.ifCond .le off, 3)) (ht : (pc : Int) + off = (tgt : Int)) (kt : x ≤ 0 → W p l e R s m args below meth c H locs cells slots Q (F0 m tgt ls rest)) (kf : ¬ x ≤ 0 → W p l e R s m args below meth c H locs cells slots Q (F0 m (pc + 3) ls rest)) : W p l e R s m args below meth c H locs cells slots Q (F0 m pc ls (.int (jI x) :: rest)) :=
  lv_if_le hexec hb hdg ht (fun q => kt ((jI_le hx rg_0).mp (by rw [jI_0]; exact q))) (fun q => kf (fun z => q (by rw [← jI_0]; exact (jI_le hx rg_0).mpr z)))
theorem x_icmp_eq (hexec : p.tables.exec = Jvm.exec) (hb : c.code = cc) {x y : Int} (hx : rg x) (hy : rg y) {off : Int} {tgt : Nat} (hdg : decode cc pc = .ok (.if_icmp .eq off, 3)) (ht : (pc : Int) + off = (tgt : Int)) (kt : x = y → W p l e R s m args below meth c H locs cells slots Q (F0 m tgt ls rest)) (kf : ¬ x = y → W p l e R s m args below meth c H locs cells slots Q (F0 m (pc + 3) ls rest)) : W p l e R s m args below meth c H locs cells slots Q (F0 m pc ls (.int (jI y) :: .int (jI x) :: rest)) :=
  lv_icmp_eq hexec hb hdg ht (fun q => kt ((jI_eq hx hy).mp q)) (fun q => kf (fun z => q ((jI_eq hx hy).mpr z)))
theorem x_icmp_ne (hexec : p.tables.exec = Jvm.exec) (hb : c.code = cc) {x y : Int} (hx : rg x) (hy : rg y) {off : Int} {tgt : Nat} (hdg : decode cc pc = .ok (.if_icmp .ne off, 3)) (ht : (pc : Int) + off = (tgt : Int)) (kt : ¬ x = y → W p l e R s m args below meth c H locs cells slots Q (F0 m tgt ls rest)) (kf : x = y → W p l e R s m args below meth c H locs cells slots Q (F0 m (pc + 3) ls rest)) : W p l e R s m args below meth c H locs cells slots Q (F0 m pc ls (.int (jI y) :: .int (jI x) :: rest)) :=
  lv_icmp_ne hexec hb hdg ht (fun q => kt (fun z => q ((jI_eq hx hy).mpr z))) (fun q => kf ((jI_eq hx hy).mp (by first | exact q | exact Classical.not_not.mp q)))
theorem x_icmp_lt (hexec : p.tables.exec = Jvm.exec) (hb : c.code = cc) {x y : Int} (hx : rg x) (hy : rg y) {off : Int} {tgt : Nat} (hdg : decode cc pc = .ok (.if_icmp .lt off, 3)) (ht : (pc : Int) + off = (tgt : Int)) (kt : x < y → W p l e R s m args below meth c H locs cells slots Q (F0 m tgt ls rest)) (kf : ¬ x < y → W p l e R s m args below meth c H locs cells slots Q (F0 m (pc + 3) ls rest)) : W p l e R s m args below meth c H locs cells slots Q (F0 m pc ls (.int (jI y) :: .int (jI x) :: rest)) :=
  lv_icmp_lt hexec hb hdg ht (fun q => kt ((jI_lt hx hy).mp q)) (fun q => kf (fun z => q ((jI_lt hx hy).mpr z)))
theorem x_icmp_ge (hexec : p.tables.exec = Jvm.exec) (hb : c.code = cc) {x y : Int} (hx : rg x) (hy : rg y) {off : Int} {tgt : Nat} (hdg : decode cc pc = .ok (.if_icmp .ge off, 3)) (ht : (pc : Int) + off = (tgt : Int)) (kt : y ≤ x → W p l e R s m args below meth c H locs cells slots Q (F0 m tgt ls rest)) (kf : ¬ y ≤ x → W p l e R s m args below meth c H locs cells slots Q (F0 m (pc + 3) ls rest)) : W p l e R s m args below meth c H locs cells slots Q (F0 m pc ls (.int (jI y) :: .int (jI x) :: rest)) :=
  lv_icmp_ge hexec hb hdg ht (fun q => kt ((jI_le hy hx).mp q)) (fun q => kf (fun z => q ((jI_le hy hx).mpr z)))
theorem x_icmp_gt (hexec : p.tables.exec = Jvm.exec) (hb : c.code = cc) {x y : Int} (hx : rg x) (hy : rg y) {off : Int} {tgt : Nat} (hdg : decode cc pc = .ok (.if_icmp .gt off, 3)) (ht : (pc : Int) + off = (tgt : Int)) (kt : y < x → W p l e R s m args below meth c H locs cells slots Q (F0 m tgt ls rest)) (kf : ¬ y < x → W p l e R s m args below meth c H locs cells slots Q (F0 m (pc + 3) ls rest)) : W p l e R s m args below meth c H locs cells slots Q (F0 m pc ls (.int (jI y) :: .int (jI x) :: rest)) :=
  lv_icmp_gt hexec hb hdg ht (fun q => kt ((jI_lt hy hx).mp q)) (fun q => kf (fun z => q ((jI_lt hy hx).mpr z)))
theorem x_icmp_le (hexec : p.tables.exec = Jvm.exec) (hb : c.code = cc) {x y : Int} (hx : rg x) (hy : rg y) {off : Int} {tgt : Nat} (hdg : decode cc pc = .ok (.if_icmp .le off, 3)) (ht : (pc : Int) + off = (tgt : Int)) (kt : x ≤ y → W p l e R s m args below meth c H locs cells slots Q (F0 m tgt ls rest)) (kf : ¬ x ≤ y → W p l e R s m args below meth c H locs cells slots Q (F0 m (pc + 3) ls rest)) : W p l e R s m args below meth c H locs cells slots Q (F0 m pc ls (.int (jI y) :: .int (jI x) :: rest)) :=
  lv_icmp_le hexec hb hdg ht (fun q => kt ((jI_le hx hy).mp q)) (fun q => kf (fun z => q ((jI_le hx hy).mpr z)))
/-! fields -/
theorem x_get (hexec : p.tables.exec = Jvm.exec) (hb : c.code = cc) {own ref C : String} {T : u_T} {N ci index : Nat} (hts : ∀ w ∈ wT, w.before args s = true) (hin : ∀ w ∈ u_ws C T N, w ∈ wT) (hown : s.vm.findClass own = some m.cls) (hK : va_K g.1 vwCl (tysX g) s) (hR : Rel g b M H) {K i : Nat} (ok : okK K i) {fs : List Value} (hcell : cellE g b M K i = .inr (ci, fs)) (hc : vwCl[ci]? = some (C, T, N)) (k : Nat) (hk : k < N) (hlink : Cond.fieldLink own index ref (T k).2.1 (T k).2.2.1 ∈ wT) (hsame : ∀ x, s.fieldFound? (T k).1 (T k).2.1 (T k).2.2.1 = some x → s.fieldFound? ref (T k).2.1 (T k).2.2.1 = some x) {v : Value} (hv : fs[k]? = some v) (hdg : decode cc pc = .ok (.getfield index, 3))
    (kk : W p l e R s m args below meth c H locs cells slots Q (F0 m (pc + 3) ls (v :: rest))) : W p l e R s m args below meth c H locs cells slots Q (F0 m pc ls (.ref (adr b K i) :: rest)) :=
  va_get (ws := [(adr b K i, cellE g b M K i)]) hexec hb hts hin hown hK (hR.P1 ok) 0 (by rw [hcell]; rfl) hc k hk (hts _ hlink) hsame hv hdg kk
theorem x_put (hexec : p.tables.exec = Jvm.exec) (hb : c.code = cc) {own ref C : String} {T : u_T} {N ci index : Nat} (hts : ∀ w ∈ wT, w.before args s = true) (hin : ∀ w ∈ u_ws C T N, w ∈ wT) (ty0 : Nat → FieldType) (hty : ∀ k, k < N → parseFieldDescriptor (T k).2.2.1 = some (ty0 k)) (hnm : ∀ a, a < N → ∀ b, b < N → a ≠ b → (T a).2.1 ≠ (T b).2.1) (hown : s.vm.findClass own = some m.cls) (hK : va_K g.1 vwCl (tysX g) s) (hR : Rel g b M H) {sz : Nat} (hS : va_S (AA b sz) s.heap H locs) {K i : Nat} (ok : okK K i) {fs : List Value} (hcell : cellE g b M K i = .inr (ci, fs)) (hc : vwCl[ci]? = some (C, T, N)) (k : Nat) (hk : k < N) (hlink : Cond.fieldLink own index ref (T k).2.1 (T k).2.2.1 ∈ wT) (hsame : ∀ x, s.fieldFound? (T k).1 (T k).2.1 (T k).2.2.1 = some x → s.fieldFound? ref (T k).2.1 (T k).2.2.1 = some x) (hfin : (T k).2.2.2 = false) {ty : FieldType} {v : Value} (hd : parseFieldDescriptor (T k).2.2.1 = some ty) (hn : narrow ty v = v) (hfit : fits ty v = true) (hl : k < fs.length)
    {M' : Mm} (hnew : cellE g b M' K i = .inr (ci, fs.set k v)) (hM : ∀ K' i' k', ¬ (K' = K ∧ i' = i) → M' K' i' k' = M K' i' k') (hrg : RG M') (hdg : decode cc pc = .ok (.putfield index, 3))
    (kk : ∀ (H1 : Heap) (locs1 : List Loc), Rel g b M' H1 → va_S (AA b sz) s.heap H1 locs1 → W p l e R s m args below meth c H1 locs1 cells slots Q (F0 m (pc + 3) ls rest)) : W p l e R s m args below meth c H locs cells slots Q (F0 m pc ls (v :: .ref (adr b K i) :: rest)) := by
  have hlk := hts _ hlink
  have hap := va_apart (own := own) hts hin ty0 hty hnm hK hc
  have h0 := hR.1 K i ok
  rw [hcell] at h0
  obtain ⟨r, h1, cell, q1, q2, q3, q4⟩ := h0
  have hr : r = (C, T, N) := Option.some.inj (h1.symm.trans hc)
  subst hr
  obtain ⟨hSl, hfc, kC, hkC, hkind⟩ := hK.1 ci _ hc
  obtain ⟨cf, kf, fi, f, hi, hsl⟩ := hSl k hk
  have hlay := hts _ (hin _ (u_in_lay hk))
  unfold u_lay at hlay
  rw [if_neg (by rw [hfin]; decide)] at hlay
  have hst := (u_facts hfc hkC (u_lays hts hin hk) hi).1
  have h6 := u_store hfc hkC hkind hlay hi hd hn hfit
  refine W.putK hexec hb (f := f) ⟨hown, hlk, ⟨_, _, _, hsame _ hi⟩, hst⟩ (by rw [q2]; exact h6) q1 q3 (by rw [hsl]; exact k2_hasslot (q4 k hk)) rfl rfl hdg fun H' e1 e2 e3 => ?_
  rw [hsl] at e1 ⊢
  refine kk H' _ (hR.set ok ?_ e3 hM hrg) (hS.put e2 e3 (AA_ok ok))
  rw [hnew]
  exact ⟨_, hc, t_OB.to (V := updV (vp_V fs) k v) ⟨_, e1, q2, q3, t_set q4 hap hk v⟩ (fun j _ => vp_updV_set hl v j)⟩
/-! arrays of ints -/
theorem cellE_arr {g : Gx} {b : Nat} {M : Mm} {K i : Nat} (h : lenK K ≠ 0) : cellE g b M K i = .inl ((g.2 0), lenK K, .inl (fun k => jI (M K i k))) := by
  unfold cellE
  split <;> first | rfl | exact absurd rfl h
theorem x_iald (hexec : p.tables.exec = Jvm.exec) (hb : c.code = cc) (hK : va_K g.1 vwCl (tysX g) s) (hR : Rel g b M H) {K i : Nat} (ok : okK K i) (hl : lenK K ≠ 0) {x : Int} (hx : rg x) (hin : 0 ≤ x ∧ x < ((lenK K : Nat) : Int)) (hdg : decode cc pc = .ok (.iaload, 1))
    (kk : W p l e R s m args below meth c H locs cells slots Q (F0 m (pc + 1) ls (.int (jI (M K i x.toNat)) :: rest))) : W p l e R s m args below meth c H locs cells slots Q (F0 m pc ls (.int (jI x) :: .ref (adr b K i) :: rest)) := by
  have hP := hR.P1 ok
  rw [cellE_arr hl] at hP
  exact va_iald hexec hb hK hP 0 0 rfl rfl (jI_in hx hin) hdg (by rw [jI_cl hx]; exact kk)
theorem x_iast (hexec : p.tables.exec = Jvm.exec) (hb : c.code = cc) (hK : va_K g.1 vwCl (tysX g) s) (hR : Rel g b M H) {sz : Nat} (hS : va_S (AA b sz) s.heap H locs) {K i : Nat} (ok : okK K i) (hl : lenK K ≠ 0) {x v : Int} (hx : rg x) (hv : rg v) (hin : 0 ≤ x ∧ x < ((lenK K : Nat) : Int)) (hdg : decode cc pc = .ok (.iastore, 1))
    (kk : ∀ (H1 : Heap) (locs1 : List Loc), Rel g b (mup M K i x.toNat v) H1 → va_S (AA b sz) s.heap H1 locs1 → W p l e R s m args below meth c H1 locs1 cells slots Q (F0 m (pc + 1) ls rest)) : W p l e R s m args below meth c H locs cells slots Q (F0 m pc ls (.int (jI v) :: .int (jI x) :: .ref (adr b K i) :: rest)) := by
  have h0 := hR.1 K i ok
  rw [cellE_arr hl] at h0
  refine W.iast hexec hb h0 ((hK.2 0 _ rfl).1 (lenK K) (fun j => .int (jI (M K i j)))) (fun q => by cases q) (by show ¬ (jI x < 0 ∨ (arrV _ _ _).slots.size ≤ _); rw [arrV_size]; exact jI_in hx hin) rfl rfl hdg fun H1 e z oq => ?_
  refine kk H1 _ (hR.set ok ?_ oq mup_ne (mup_rg hR.2 hv)) (hS.put z oq (AA_ok ok))
  rw [cellE_arr hl]
  show H1[adr b K i]? = some (vp_cell _ _)
  rw [e]
  rw [vp_cell_i, vp_cell_i, arrV_store]
  congr 2
  funext q
  rw [jI_cl hx]
  by_cases hq : q = x.toNat
  · subst hq
    simp [updV, mup]
  · simp [updV, mup, hq]
theorem x_alen (hexec : p.tables.exec = Jvm.exec) (hb : c.code = cc) (hK : va_K g.1 vwCl (tysX g) s) (hR : Rel g b M H) {K i : Nat} (ok : okK K i) (hl : lenK K ≠ 0) {n : Int} (hn : Int32.ofNat (lenK K) = jI n) (hdg : decode cc pc = .ok (.arraylength, 1))
    (kk : W p l e R s m args below meth c H locs cells slots Q (F0 m (pc + 1) ls (.int (jI n) :: rest))) : W p l e R s m args below meth c H locs cells slots Q (F0 m pc ls (.ref (adr b K i) :: rest)) := by
  have hP := hR.P1 ok
  rw [cellE_arr hl] at hP
  exact va_alen hexec hb hK hP 0 0 rfl rfl hn hdg kk
/-! the words: longs -/
theorem i64_toInt (v : Int64) : Int64.ofInt v.toInt = v := Int64.ofInt_toInt v
theorem x_lald (hexec : p.tables.exec = Jvm.exec) (hb : c.code = cc) (hK : va_K g.1 vwCl (tysX g) s) (hR : Rel g b M H) {i : Nat} (ok : okK 7 i) {x : Int} (hx : rg x) (hin : 0 ≤ x ∧ x < 256) (hdg : decode cc pc = .ok (.laload, 1))
    (kk : W p l e R s m args below meth c H locs cells slots Q (F0 m (pc + 1) ls (.long (Int64.ofInt (M 7 i x.toNat)) :: rest))) : W p l e R s m args below meth c H locs cells slots Q (F0 m pc ls (.int (jI x) :: .ref (adr b 7 i) :: rest)) :=
  va_lald hexec hb hK (hR.P1 ok) 0 4 rfl rfl (jI_in hx hin) hdg (by rw [jI_cl hx]; exact kk)
theorem x_last (hexec : p.tables.exec = Jvm.exec) (hb : c.code = cc) (hK : va_K g.1 vwCl (tysX g) s) (hR : Rel g b M H) {sz : Nat} (hS : va_S (AA b sz) s.heap H locs) {i : Nat} (ok : okK 7 i) {x : Int} {v : Int64} (hx : rg x) (hin : 0 ≤ x ∧ x < 256) (hdg : decode cc pc = .ok (.lastore, 1))
    (kk : ∀ (H1 : Heap) (locs1 : List Loc), Rel g b (mup M 7 i x.toNat v.toInt) H1 → va_S (AA b sz) s.heap H1 locs1 → W p l e R s m args below meth c H1 locs1 cells slots Q (F0 m (pc + 1) ls rest)) : W p l e R s m args below meth c H locs cells slots Q (F0 m pc ls (.long v :: .int (jI x) :: .ref (adr b 7 i) :: rest)) := by
  obtain ⟨N, hN⟩ : ∃ N : Nat, N = 256 := ⟨_, rfl⟩
  have h0 : H[adr b 7 i]? = some (vp_cell (g.2 4) (256, .inr (.inl (fun k => Int64.ofInt (M 7 i k))))) := hR.1 7 i ok
  rw [← hN] at h0
  have hin : vp_in (jI x) N := jI_in hx ⟨hin.1, by omega⟩
  refine W.last hexec hb h0 ((hK.2 4 _ rfl).1 N (fun j => .long (Int64.ofInt (M 7 i j)))) (fun q => by cases q) (by show ¬ (jI x < 0 ∨ (arrV _ _ _).slots.size ≤ _); rw [arrV_size]; exact hin) rfl rfl hdg fun H1 e z oq => ?_
  refine kk H1 _ (hR.set ok ?_ oq mup_ne (mup_rg7 hR.2)) (hS.put z oq (AA_ok ok))
  have h1 : H1[adr b 7 i]? = some (vp_cell (g.2 4) (N, .inr (.inl (fun k => Int64.ofInt (mup M 7 i x.toNat v.toInt 7 i k))))) := by
    rw [e]
    rw [vp_cell_l, vp_cell_l, arrV_store]
    congr 2
    funext q
    rw [jI_cl hx]
    by_cases hq : q = x.toNat
    · subst hq
      simp [updV, mup, i64_toInt]
    · simp [updV, mup, hq]
  rw [hN] at h1
  exact h1
theorem x_alen7 (hexec : p.tables.exec = Jvm.exec) (hb : c.code = cc) (hK : va_K g.1 vwCl (tysX g) s) (hR : Rel g b M H) {i : Nat} (ok : okK 7 i) (hdg : decode cc pc = .ok (.arraylength, 1))
    (kk : W p l e R s m args below meth c H locs cells slots Q (F0 m (pc + 1) ls (.int (jI 256) :: rest))) : W p l e R s m args below meth c H locs cells slots Q (F0 m pc ls (.ref (adr b 7 i) :: rest)) :=
  va_alen hexec hb hK (hR.P1 ok) 0 4 rfl rfl (show Int32.ofNat 256 = jI 256 by decide +kernel) hdg kk
theorem l2i_rg (v : Int64) : rg v.toInt32.toInt := ⟨Int32.le_toInt _, by have := Int32.toInt_lt v.toInt32; omega⟩
theorem x_l2i (hexec : p.tables.exec = Jvm.exec) (hb : c.code = cc) {x : Int64} (hdg : decode cc pc = .ok (.l2i, 1))
    (k : W p l e R s m args below meth c H locs cells slots Q (F0 m (pc + 1) ls (.int (jI x.toInt32.toInt) :: rest))) : W p l e R s m args below meth c H locs cells slots Q (F0 m pc ls (.long x :: rest)) := lv_l2i hexec hb hdg (Int32.ofInt_toInt _).symm k
/-! rows of nodes and of handles -/
theorem x_aldN (hexec : p.tables.exec = Jvm.exec) (hb : c.code = cc) (hK : va_K g.1 vwCl (tysX g) s) (hR : Rel g b M H) {t : Nat} (ht : t < 3) {x : Int} (hx : rg x) (hin : 0 ≤ x ∧ x < 32) (hdg : decode cc pc = .ok (.aaload, 1))
    (kk : W p l e R s m args below meth c H locs cells slots Q (F0 m (pc + 1) ls (.ref (adr b 2 (33 * t + x.toNat)) :: rest))) : W p l e R s m args below meth c H locs cells slots Q (F0 m pc ls (.int (jI x) :: .ref (adr b 13 t) :: rest)) :=
  va_aldq hexec hb hK (hR.P1 (ok13 ht)) 0 1 rfl rfl (jI_in hx hin) hdg (by rw [jI_cl hx]; exact kk)
theorem x_aldH (hexec : p.tables.exec = Jvm.exec) (hb : c.code = cc) (hK : va_K g.1 vwCl (tysX g) s) (hR : Rel g b M H) {x : Int} (hx : rg x) (hin : 0 ≤ x ∧ x < 6) (hdg : decode cc pc = .ok (.aaload, 1))
    (kk : W p l e R s m args below meth c H locs cells slots Q (F0 m (pc + 1) ls (.ref (adr b 11 x.toNat) :: rest))) : W p l e R s m args below meth c H locs cells slots Q (F0 m pc ls (.int (jI x) :: .ref (adr b 14 0) :: rest)) :=
  va_aldq hexec hb hK (hR.P1 ok14) 0 2 rfl rfl (jI_in hx hin) hdg (by rw [jI_cl hx]; exact kk)
theorem x_alenN (hexec : p.tables.exec = Jvm.exec) (hb : c.code = cc) (hK : va_K g.1 vwCl (tysX g) s) (hR : Rel g b M H) {t : Nat} (ht : t < 3) (hdg : decode cc pc = .ok (.arraylength, 1))
    (kk : W p l e R s m args below meth c H locs cells slots Q (F0 m (pc + 1) ls (.int (jI 32) :: rest))) : W p l e R s m args below meth c H locs cells slots Q (F0 m pc ls (.ref (adr b 13 t) :: rest)) :=
  va_alen hexec hb hK (hR.P1 (ok13 ht)) 0 1 rfl rfl (show Int32.ofNat 32 = jI 32 by decide +kernel) hdg kk
theorem x_alenH (hexec : p.tables.exec = Jvm.exec) (hb : c.code = cc) (hK : va_K g.1 vwCl (tysX g) s) (hR : Rel g b M H) (hdg : decode cc pc = .ok (.arraylength, 1))
    (kk : W p l e R s m args below meth c H locs cells slots Q (F0 m (pc + 1) ls (.int (jI 6) :: rest))) : W p l e R s m args below meth c H locs cells slots Q (F0 m pc ls (.ref (adr b 14 0) :: rest)) :=
  va_alen hexec hb hK (hR.P1 ok14) 0 2 rfl rfl (show Int32.ofNat 6 = jI 6 by decide +kernel) hdg kk
end XR
