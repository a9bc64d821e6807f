/-! THE LAW'S METHODS: the class's memory beside rows that the law makes -/
abbrev dyE : Type := Nat × (Nat × (Nat × (Nat → Int)))
def dyc (g : Gx) (q : dyE) : Cell := vp_cell (g.2 q.2.1) (q.2.2.1, .inl (fun k => jI (q.2.2.2 k)))
def DYN (g : Gx) (b : Nat) (ws : List dyE) (H : Heap) : Prop := (∀ (k : Nat) (q : dyE), ws[k]? = some q → b ≤ q.1 ∧ H[q.1]? = some (dyc g q) ∧ ∀ k, rg (q.2.2.2 k)) ∧ ∀ (i j : Nat) (p q : dyE), ws[i]? = some p → ws[j]? = some q → p.1 = q.1 → i = j
theorem DYN.nil {g : Gx} {b : Nat} {H : Heap} : DYN g b [] H := ⟨fun k q h => by simp at h, fun i j p q h => by simp at h⟩
theorem DYN.kept {g : Gx} {b : Nat} {ws : List dyE} {H H1 : Heap} (h : DYN g b ws H) (hq : ∀ (k : Nat) (q : dyE), ws[k]? = some q → H1[q.1]? = H[q.1]?) : DYN g b ws H1 := ⟨fun k q hk => ⟨(h.1 k q hk).1, (hq k q hk).trans (h.1 k q hk).2.1, (h.1 k q hk).2.2⟩, h.2⟩
theorem DYN.lt {g : Gx} {b : Nat} {ws : List dyE} {H : Heap} (h : DYN g b ws H) {k : Nat} {q : dyE} (hk : ws[k]? = some q) : q.1 < H.size := (Array.getElem?_eq_some_iff.mp (h.1 k q hk).2.1).1
theorem DYN.set {g : Gx} {b : Nat} {ws : List dyE} {H H1 : Heap} (h : DYN g b ws H) {p : Nat} {q e : dyE} (hp : ws[p]? = some q) (he : e.1 = q.1) (hc : H1[q.1]? = some (dyc g e)) (hr : ∀ k, rg (e.2.2.2 k)) (oq : ∀ a : Nat, a ≠ q.1 → H1[a]? = H[a]?) : DYN g b (ws.set p e) H1 := by
  have hl := (List.getElem?_eq_some_iff.mp hp).1
  have key : ∀ (k : Nat) (x : dyE), (ws.set p e)[k]? = some x → ∃ x0, ws[k]? = some x0 ∧ x0.1 = x.1 := by
    intro k x hk
    by_cases hkp : k = p
    · subst hkp
      rw [List.getElem?_set_self hl] at hk
      cases hk
      exact ⟨_, hp, he.symm⟩
    · rw [List.getElem?_set_ne (Ne.symm hkp)] at hk
      exact ⟨x, hk, rfl⟩
  refine ⟨fun k x hk => ?_, fun i j x y hi hj hxy => ?_⟩
  · by_cases hkp : k = p
    · subst hkp
      rw [List.getElem?_set_self hl] at hk
      cases hk
      exact ⟨by rw [he]; exact (h.1 k q hp).1, by rw [he]; exact hc, hr⟩
    · rw [List.getElem?_set_ne (Ne.symm hkp)] at hk
      obtain ⟨h1, h2, h3⟩ := h.1 k x hk
      exact ⟨h1, (oq x.1 (fun z => hkp (h.2 k p x q hk hp z))).trans h2, h3⟩
  · obtain ⟨x0, h1, h2⟩ := key i x hi
    obtain ⟨y0, h3, h4⟩ := key j y hj
    exact h.2 i j x0 y0 h1 h3 (h2.trans (hxy.trans h4.symm))
theorem DYN.push {g : Gx} {b : Nat} {ws : List dyE} {H H1 : Heap} (h : DYN g b ws H) {e : dyE} (he : e.1 = H.size) (hb : b ≤ H.size) (hc : H1[H.size]? = some (dyc g e)) (hr : ∀ k, rg (e.2.2.2 k)) (oq : ∀ a : Nat, a < H.size → H1[a]? = H[a]?) : DYN g b (ws ++ [e]) H1 := by
  have key : ∀ (k : Nat) (x : dyE), (ws ++ [e])[k]? = some x → (ws[k]? = some x ∧ x.1 < H.size) ∨ (k = ws.length ∧ x = e) := by
    intro k x hk
    by_cases hl : k < ws.length
    · rw [List.getElem?_append_left hl] at hk
      exact Or.inl ⟨hk, h.lt hk⟩
    · rw [List.getElem?_append_right (by omega)] at hk
      have hz : k - ws.length < 1 := (List.getElem?_eq_some_iff.mp hk).1
      have hk0 : k = ws.length := by omega
      subst hk0
      rw [Nat.sub_self] at hk
      cases hk
      exact Or.inr ⟨rfl, rfl⟩
  refine ⟨fun k x hk => ?_, fun i j x y hi hj hxy => ?_⟩
  · rcases key k x hk with ⟨h1, l1⟩ | ⟨-, rfl⟩
    · obtain ⟨a1, a2, a3⟩ := h.1 k x h1
      exact ⟨a1, (oq _ l1).trans a2, a3⟩
    · exact ⟨by rw [he]; exact hb, by rw [he]; exact hc, hr⟩
  · rcases key i x hi with ⟨h1, l1⟩ | ⟨h1, rfl⟩ <;> rcases key j y hj with ⟨h2, l2⟩ | ⟨h2, rfl⟩
    · exact h.2 i j x y h1 h2 hxy
    · omega
    · omega
    · omega
def RD (g : Gx) (b : Nat) (M : Mm) (ws : List dyE) (H : Heap) : Prop := Rel g b M H ∧ DYN g (b + 431) ws H
theorem Rel.ltD {g : Gx} {b : Nat} {M : Mm} {H : Heap} (h : Rel g b M H) : b + 431 ≤ H.size := by
  have h0 := h.P1 (K := 12) (i := 5) (ok12 (by decide))
  have h1 := (h.1 12 5 (ok12 (by decide))).lt
  have e : adr b 12 5 = b + 430 := by simp only [adr]
  rw [e] at h1
  exact h1
theorem rel_kept {g : Gx} {b : Nat} {M : Mm} {H H1 : Heap} (h : Rel g b M H) (hq : ∀ q : Nat, b ≤ q → q < b + 431 → H1[q]? = H[q]?) : Rel g b M H1 := ⟨fun K i ok => (h.1 K i ok).kept (hq _ (adr_bd ok).1 (adr_bd ok).2), h.2⟩
/-- which cells of before a call of the law's may write: the class's, and its row's -/
def AF (b qa sz : Nat) : Nat → Prop := fun q => AA b sz q ∨ q = qa
theorem AF_mono {b qa sz sz' : Nat} (h : sz ≤ sz') : ∀ q, AF b qa sz' q → AF b qa sz q := fun q hq => hq.elim (fun z => Or.inl (AA_mono h q z)) Or.inr
theorem RD.none {g : Gx} {b : Nat} {M : Mm} {ws : List dyE} {H : Heap} (h : RD g b M ws H) : RD g b M [] H := ⟨h.1, DYN.nil⟩
theorem DYN.pick {g : Gx} {b : Nat} {ws ws' : List dyE} {H : Heap} (h : DYN g b ws H) (ks : List Nat) (hn : ks.Nodup) (e : ks.map (fun k => ws[k]?) = ws'.map some) : DYN g b ws' H := by
  have key : ∀ (i : Nat) (q : dyE), ws'[i]? = some q → ∃ k, ks[i]? = some k ∧ ws[k]? = some q := by
    intro i q hq
    have h1 : (ws'.map some)[i]? = some (some q) := by rw [List.getElem?_map, hq]; rfl
    rw [← e, List.getElem?_map] at h1
    cases h2 : ks[i]? with
    | none => rw [h2] at h1; cases h1
    | some k =>
      rw [h2] at h1
      exact ⟨k, rfl, Option.some.inj h1⟩
  refine ⟨fun i q hq => ?_, fun i j p q hi hj hpq => ?_⟩
  · obtain ⟨k, -, h2⟩ := key i q hq
    exact h.1 k q h2
  · obtain ⟨k, h1, h2⟩ := key i p hi
    obtain ⟨k', h3, h4⟩ := key j q hj
    have ek := h.2 k k' p q h2 h4 hpq
    subst ek
    obtain ⟨l1, e1⟩ := List.getElem?_eq_some_iff.mp h1
    exact (List.getElem?_inj l1 hn).mp (h1.trans h3.symm)
theorem RD.pick {g : Gx} {b : Nat} {M : Mm} {ws ws' : List dyE} {H : Heap} (h : RD g b M ws H) (ks : List Nat) (hn : ks.Nodup) (e : ks.map (fun k => ws[k]?) = ws'.map some) : RD g b M ws' H := ⟨h.1, h.2.pick ks hn e⟩
/-- behind a call of the class -/
theorem RD.back {g : Gx} {b : Nat} {M M' : Mm} {ws : List dyE} {H H1 : Heap} (h : RD g b M ws H) (h1 : Rel g b M' H1) (hk : ∀ q : Nat, q < H.size → ¬ AA b H.size q → H1[q]? = H[q]?) : RD g b M' ws H1 := by
  refine ⟨h1, h.2.kept fun k q hq => ?_⟩
  have hl := h.2.lt hq
  refine hk q.1 hl (fun z => ?_)
  have := (h.2.1 k q hq).1
  unfold AA at z
  omega
/-- behind a call of the law's own that has no row -/
theorem RD.back0 {g : Gx} {b : Nat} {M M' : Mm} {ws wc : List dyE} {H H1 : Heap} (h : RD g b M ws H) (h1 : RD g b M' wc H1) (hk : ∀ q : Nat, q < H.size → ¬ AF b b H.size q → H1[q]? = H[q]?) : RD g b M' ws H1 :=
  h.back h1.1 (fun q hq hn => hk q hq (fun z => z.elim hn (fun z => hn (Or.inl ⟨by omega, by omega⟩))))
/-- behind a call of the law's own that has one row, the i-th: it holds f1 now -/
theorem RD.back1 {g : Gx} {b : Nat} {M M' : Mm} {ws : List dyE} {H H1 : Heap} {i q kd n : Nat} {f f1 : Nat → Int} (h : RD g b M ws H) (hi : ws[i]? = some (q, kd, n, f)) (h1 : RD g b M' [(q, kd, n, f1)] H1) (hk : ∀ a : Nat, a < H.size → ¬ AF b q H.size a → H1[a]? = H[a]?) : RD g b M' (ws.set i (q, kd, n, f1)) H1 := by
  have hl := (List.getElem?_eq_some_iff.mp hi).1
  obtain ⟨d1, d2, d3⟩ := h1.2.1 0 _ rfl
  refine ⟨h1.1, fun k x hx => ?_, fun a j x y ha hj hxy => ?_⟩
  · by_cases hki : k = i
    · subst hki
      rw [List.getElem?_set_self hl] at hx
      cases hx
      exact ⟨d1, d2, d3⟩
    · rw [List.getElem?_set_ne (Ne.symm hki)] at hx
      obtain ⟨z1, z2, z3⟩ := h.2.1 k x hx
      refine ⟨z1, (hk x.1 (h.2.lt hx) (fun z => ?_)).trans z2, z3⟩
      have hlt := h.2.lt hx
      rcases z with z | z
      · unfold AA at z
        omega
      · exact hki (h.2.2 k i x _ hx hi z)
  · have key : ∀ (k : Nat) (x : dyE), (ws.set i (q, kd, n, f1))[k]? = some x → ∃ x0, ws[k]? = some x0 ∧ x0.1 = x.1 := by
      intro k x hk9
      by_cases hki : k = i
      · subst hki
        rw [List.getElem?_set_self hl] at hk9
        cases hk9
        exact ⟨_, hi, rfl⟩
      · rw [List.getElem?_set_ne (Ne.symm hki)] at hk9
        exact ⟨x, hk9, rfl⟩
    obtain ⟨x0, g1, g2⟩ := key a x ha
    obtain ⟨y0, g3, g4⟩ := key j y hj
    exact h.2.2 a j x0 y0 g1 g3 (g2.trans (hxy.trans g4.symm))
abbrev rI (g : Gx) (b : Nat) (r : Int) (M : Mm) (qa : Nat) (ws : List dyE) (sz : Nat) : Array Value → State → Outcome → State → Prop := va_Qi (fun (x : Int32) (_ : Unit) => x = jI r ∧ rg r) (fun _ t => RD g b M ws t.heap ∧ va_K g.1 vwCl (tysX g) t) (AF b qa sz)
def Cl (l : Launch) (y : MethodName) (bytes : ByteArray) (maxL : Nat) (ret : Option FieldType) (rm : Room) (g : Gx) (b qa : Nat) (av : List Value) (M : Mm) (ws : List dyE) (mc ms : Nat) (Qf : Nat → Array Value → State → Outcome → State → Prop) : Prop :=
  ∀ sz : Nat, Met l y (Cond.code y bytes maxL ret :: wT) rm (va_Pc av (fun U => U.heap.size = sz ∧ RD g b M ws U.heap ∧ va_K g.1 vwCl (tysX g) U)) (Qf sz) mc ms (AF b qa sz)
theorem cl_blind {g : Gx} {b : Nat} {M : Mm} {ws : List dyE} {av : List Value} {sz : Nat} : FrameBlind (va_Pc av (fun U => U.heap.size = sz ∧ RD g b M ws U.heap ∧ va_K g.1 vwCl (tysX g) U)) :=
  fun a U fr mk q => by obtain ⟨q0, q1, q2, q3⟩ := q; exact ⟨q0, q1, q2, va_K.moved (u := U) (U := U.calling fr mk a) (Vm.Alike.refl U.vm) q3⟩
theorem cl_of {l : Launch} {y : MethodName} {bytes : ByteArray} {maxL : Nat} {ret : Option FieldType} {rm : Room} {g : Gx} {b qa : Nat} {av : List Value} {M : Mm} {ws : List dyE} {mc ms : Nat} {Qf : Nat → Array Value → State → Outcome → State → Prop}
    (hy : plainName y.cls = true) (hlen : (lg_sl av).length ≤ maxL)
    (h : ∀ (p : Program) (e : Env) (s : State) (m : MethodId) (args : Array Value) (below : List Frame) (meth : Method) (c : Code), XA p s m meth c args y.cls bytes maxL ret g → RD g b M ws s.heap → ∀ ls : Array Slot, lv_has ls maxL (lv_args 0 av) → W p l e rm s m args below meth c s.heap [] 0 0 (MQ below (Qf s.heap.size) args s mc ms (AF b qa s.heap.size)) (F0 m 0 ls [])) :
    Cl l y bytes maxL ret rm g b qa av M ws mc ms Qf := by
  intro sz
  refine Met.ofW (cc := bytes) (maxL := maxL) (ret := ret) hy rfl ?_
  intro p e s m args below meth c s₁ B hml hv
  obtain ⟨rfl, hsz, hR, hK⟩ := hv
  subst hsz
  have hts := atoms_spec (ws := Cond.code y bytes maxL ret :: wT) B.pre
  rw [lg_entry_eq]
  exact h p e s m _ below meth c ⟨B.exec, B.bytes, B.returns, B.notSynchronized, hml, findClass_of_methodNamed B.named, fun w hw => hts w (List.mem_cons_of_mem _ hw), hK⟩ hR _ (lv_entry av hlen)
/-! bits -/
def andI (x y : Int) : Int := (jI x &&& jI y).toInt
def shrI (x y : Int) : Int := (jI x >>> (jI y &&& 31)).toInt
def mulI (x y : Int) : Int := (jI x * jI y).toInt
theorem jI_ofD (x : Int32) : jI x.toInt = x := Int32.ofInt_toInt x
theorem rg_ofD (x : Int32) : rg x.toInt := by
  have h1 := Int32.le_toInt x
  have h2 := Int32.toInt_lt x
  have h3 : (-2 ^ 31 : Int) = -2147483648 := by decide
  have h4 : (2 ^ 31 : Int) = 2147483648 := by decide
  rw [h3] at h1
  rw [h4] at h2
  exact ⟨h1, by omega⟩
theorem andI_rg (x y : Int) : rg (andI x y) := rg_ofD _
theorem shrI_rg (x y : Int) : rg (shrI x y) := rg_ofD _
theorem mulI_rg (x y : Int) : rg (mulI x y) := rg_ofD _
section LB
variable {p : Program} {l : Launch} {e : Env} {R : Room} {s : State} {m : MethodId} {args : Array Value} {below : List Frame} {meth : Method} {c : Code} {H : Heap} {locs : List Loc} {cells slots : Nat} {Q : State → Prop}
variable {cc : ByteArray} {pc : Nat} {ls : Array Slot} {rest : List Value} {g : Gx} {b : Nat} {M : Mm} {ws : List dyE} {A : Nat → Prop}
theorem x_iand (hexec : p.tables.exec = Jvm.exec) (hb : c.code = cc) {x y : Int} (hdg : decode cc pc = .ok (.iand, 1)) (k : W p l e R s m args below meth c H locs cells slots Q (F0 m (pc + 1) ls (.int (jI (andI x y)) :: rest))) : W p l e R s m args below meth c H locs cells slots Q (F0 m pc ls (.int (jI y) :: .int (jI x) :: rest)) := by
  unfold andI at k
  rw [jI_ofD] at k
  exact lv_iand hexec hb hdg k
theorem x_ishr (hexec : p.tables.exec = Jvm.exec) (hb : c.code = cc) {x y : Int} (hdg : decode cc pc = .ok (.ishr, 1)) (k : W p l e R s m args below meth c H locs cells slots Q (F0 m (pc + 1) ls (.int (jI (shrI x y)) :: rest))) : W p l e R s m args below meth c H locs cells slots Q (F0 m pc ls (.int (jI y) :: .int (jI x) :: rest)) := by
  unfold shrI at k
  rw [jI_ofD] at k
  exact lv_ishr hexec hb hdg k
theorem x_imulW (hexec : p.tables.exec = Jvm.exec) (hb : c.code = cc) {x y : Int} (hdg : decode cc pc = .ok (.imul, 1)) (k : W p l e R s m args below meth c H locs cells slots Q (F0 m (pc + 1) ls (.int (jI (mulI x y)) :: rest))) : W p l e R s m args below meth c H locs cells slots Q (F0 m pc ls (.int (jI y) :: .int (jI x) :: rest)) := by
  unfold mulI at k
  rw [jI_ofD] at k
  exact lv_imul hexec hb hdg k
/-! rows of the law's own -/
theorem e_new (hexec : p.tables.exec = Jvm.exec) (hb : c.code = cc) {atype : ArrayType} {kd : Nat} {ty : FieldType} (hts : ∀ w ∈ wT, w.before args s = true) (harr : Cond.arrayClass (newarray.typeOf atype) ∈ wT) (hty : newarray.typeOf atype = ty) (hdv : defaultValue ty = .int 0) (hsm : ∀ cA : ClassId, s.vm.findClass ("[" ++ ty.toString) = some cA → cA = g.2 kd) (hR : RD g b M ws H) (hS : va_S A s.heap H locs)
    {n : Int} (hn : rg n) {N : Nat} (hN : n = (N : Int)) (hbytes : N * componentBytes ty ≤ 536870912) (hcells : cells + 1 ≤ R.cells) (hslots : slots + N ≤ R.slots) (hdg : decode cc pc = .ok (.newarray atype, 2))
    (kk : ∀ (q : Nat) (H1 : Heap), s.heap.size ≤ q → RD g b M (ws ++ [(q, kd, N, fun _ => 0)]) H1 → va_S A s.heap H1 locs → W p l e R s m args below meth c H1 locs (cells + 1) (slots + N) Q (F0 m (pc + 2) ls (.ref q :: rest))) : W p l e R s m args below meth c H locs cells slots Q (F0 m pc ls (.int (jI n) :: rest)) := by
  subst hty
  subst hN
  refine va_newaK hexec hb (hts _ harr) rfl hdg rfl (by rw [← jI_0, jI_lt hn rg_0]; omega) (by rw [jI_cl hn]; rfl) hbytes hcells hslots rfl fun H1 cA e1 z1 o1 hAr hNm => ?_
  have hc := hsm cA hNm
  subst hc
  refine kk H.size H1 hS.1 ⟨rel_kept hR.1 (fun q h1 h2 => o1 q (by have := hR.1.ltD; omega)), hR.2.push rfl hR.1.ltD ?_ (fun _ => rg_0) o1⟩ ⟨Nat.le_trans hS.1 (by omega), fun x h1 h2 => (o1 x (Nat.lt_of_lt_of_le h1 hS.1)).trans (hS.2.1 x h1 h2), hS.2.2⟩
  rw [e1, hdv]
  unfold dyc
  rw [vp_cell_i]
  simp only [jI_0]
theorem e_ld {bl : Bool} (hexec : p.tables.exec = Jvm.exec) (hb : c.code = cc) (hK : va_K g.1 vwCl (tysX g) s) (hR : RD g b M ws H) (i : Nat) {q kd n : Nat} {f : Nat → Int} (hi : ws[i]? = some (q, kd, n, f)) (hkd : kd = if bl then 3 else 0) {x : Int} (hx : rg x) (hin : 0 ≤ x ∧ x < (n : Int)) (hdg : decode cc pc = .ok ((if bl then .baload else .iaload), 1))
    (kk : W p l e R s m args below meth c H locs cells slots Q (F0 m (pc + 1) ls (.int (jI (f x.toNat)) :: rest))) : W p l e R s m args below meth c H locs cells slots Q (F0 m pc ls (.int (jI x) :: .ref q :: rest)) := by
  have hP : va_P g.1 vwCl [(q, .inl (g.2 kd, n, .inl (fun k => jI (f k))))] H := by
    intro k z hz
    match k, hz with
    | 0, hz => cases hz; exact (hR.2.1 i _ hi).2.1
    | k + 1, hz => simp at hz
  cases bl with
  | true =>
    subst hkd
    exact va_zald hexec hb hK hP 0 3 rfl rfl (jI_in hx hin) hdg (by rw [jI_cl hx]; exact kk)
  | false =>
    subst hkd
    exact va_iald hexec hb hK hP 0 0 rfl rfl (jI_in hx hin) hdg (by rw [jI_cl hx]; exact kk)
theorem e_st {bl : Bool} (hexec : p.tables.exec = Jvm.exec) (hb : c.code = cc) (hK : va_K g.1 vwCl (tysX g) s) (hR : RD g b M ws H) (hS : va_S A s.heap H locs) (i : Nat) {q kd n : Nat} {f : Nat → Int} (hi : ws[i]? = some (q, kd, n, f)) (hkd : kd = if bl then 3 else 0) (hq : A q) {x v : Int} (hx : rg x) (hv : rg v) (h01 : bl = true → v = 0 ∨ v = 1) (hin : 0 ≤ x ∧ x < (n : Int)) (hdg : decode cc pc = .ok ((if bl then .bastore else .iastore), 1))
    (kk : ∀ (H1 : Heap) (locs1 : List Loc), RD g b M (ws.set i (q, kd, n, fun k => if k = x.toNat then v else f k)) H1 → va_S A s.heap H1 locs1 → W p l e R s m args below meth c H1 locs1 cells slots Q (F0 m (pc + 1) ls rest)) : W p l e R s m args below meth c H locs cells slots Q (F0 m pc ls (.int (jI v) :: .int (jI x) :: .ref q :: rest)) := by
  obtain ⟨hbq, hc0, hr0⟩ := hR.2.1 i _ hi
  have fin : ∀ (H1 : Heap) (z : H1.size = H.size) (oq : ∀ a : Nat, a ≠ q → H1[a]? = H[a]?), H1[q]? = some (arrV (g.2 kd) n (updV (fun j => .int (jI (f j))) (jI x).toNatClampNeg (.int (jI v)))) → W p l e R s m args below meth c H1 (locs ++ [⟨q, (jI x).toNatClampNeg⟩]) cells slots Q (F0 m (pc + 1) ls rest) := by
    intro H1 z oq e1
    refine kk H1 _ ⟨rel_kept hR.1 (fun a h1 h2 => oq a (by have : b + 431 ≤ q := hbq; omega)), hR.2.set hi rfl ?_ (fun k => ?_) oq⟩ (hS.put z oq hq)
    · rw [show ((q, kd, n, f) : dyE).1 = q from rfl, e1]
      unfold dyc
      rw [vp_cell_i]
      congr 2
      funext k
      rw [jI_cl hx]
      by_cases hk : k = x.toNat
      · subst hk
        simp [updV]
      · simp [updV, hk]
    · show rg (if k = x.toNat then v else f k)
      split
      · exact hv
      · exact hr0 k
  cases bl with
  | true =>
    subst hkd
    refine W.zast hexec hb hc0 ((hK.2 3 _ rfl).1 n (fun j => .int (jI (f j)))) (fun q => by cases q) (by show ¬ (jI x < 0 ∨ (arrV _ _ _).slots.size ≤ _); rw [arrV_size]; exact jI_in hx hin) rfl rfl hdg fun H1 e1 z oq => fin H1 z oq ?_
    rw [e1, narrow_z (h01 rfl)]
    show some ((arrV _ _ _).setSlot _ _) = _
    rw [arrV_store]
  | false =>
    subst hkd
    refine W.iast hexec hb hc0 ((hK.2 0 _ rfl).1 n (fun j => .int (jI (f j)))) (fun q => by cases q) (by show ¬ (jI x < 0 ∨ (arrV _ _ _).slots.size ≤ _); rw [arrV_size]; exact jI_in hx hin) rfl rfl hdg fun H1 e1 z oq => fin H1 z oq ?_
    rw [e1]
    show some ((arrV _ _ _).setSlot _ _) = _
    rw [arrV_store]
/-! calls of the class -/
end LB
def cellF3 (b : Nat) (M : Mm) : List Value := [.ref (adr b 1 (M 0 0 0).toNat), .ref (adr b 1 (M 0 0 1).toNat), .ref (adr b 1 2), .ref (adr b 14 0), .int (jI (M 0 0 4)), .int (jI (M 0 0 5)), .int (jI (M 0 0 6)), .int (jI (M 0 0 7)), .int (jI (M 0 0 8))]
theorem cellF3_eq {g : Gx} {b : Nat} {M : Mm} : cellE g b M 0 0 = .inr (3, cellF3 b M) := rfl
section LB
variable {p : Program} {l : Launch} {e : Env} {R : Room} {s : State} {m : MethodId} {args : Array Value} {below : List Frame} {meth : Method} {c : Code} {H : Heap} {locs : List Loc} {cells slots : Nat} {Q : State → Prop}
variable {cc : ByteArray} {pc : Nat} {ls : Array Slot} {rest : List Value} {g : Gx} {b : Nat} {M : Mm} {ws : List dyE} {A : Nat → Prop}
theorem l_cVi (hexec : p.tables.exec = Jvm.exec) (hb : c.code = cc) {nL : Nat} (hml : c.maxLocals = nL) {own : String} (hown : s.vm.findClass own = some m.cls) (hts : ∀ w ∈ wT, w.before args s = true) (hK : va_K g.1 vwCl (tysX g) s) (hR : RD g b M ws H) (hS : va_S A s.heap H locs) (hA : ∀ q, AA b s.heap.size q → A q) {y : MethodName} {bytes : ByteArray} {maxL : Nat} {ret : Option FieldType} {rm : Room} {As : List Value} {r : Int} {M' : Mm} {index : Nat} (hM : Ct l y bytes maxL ret rm g b (.ref (adr b 0 0) :: As) M (qI g b r M')) (w1 : Cond.methodLink own index y ∈ wT) (w2 : Cond.instanceMethod y ∈ wT) (w3 : Cond.selects RX3 y y ∈ wT) (w4 : Cond.initialized RX3 ∈ wT) (w5 : Cond.code y bytes maxL ret ∈ wT) (hy : y.cls = RX3 ∧ y.cls ≠ "java/lang/invoke/MethodHandle" ∧ y.cls ≠ "java/lang/invoke/VarHandle" ∧ (parseMethodDescriptor y.desc).map (fun d => d.parameters.length) = some As.length) (hrm : rm.cells = 0 ∧ rm.slots = 0) (hroom : rm.frames + 1 ≤ R.frames ∧ 8 + (maxL + 11) + rm.locals ≤ R.locals) (hsz : ls.size = nL) (hst : (rest.map fun v => v.category).sum ≤ 8) (hdg : decode cc pc = .ok (.invokevirtual index, 3)) (hcs : cells ≤ R.cells ∧ slots ≤ R.slots) {st : List Value} (hst0 : st = As.reverse ++ .ref (adr b 0 0) :: rest)
    (kk : rg r → ∀ (H1 : Heap) (locs1 : List Loc), RD g b M' ws H1 → va_S A s.heap H1 locs1 → W p l e R s m args below meth c H1 locs1 cells slots Q (F0 m (pc + 3) ls (.int (jI r) :: rest))) : W p l e R s m args below meth c H locs cells slots Q (F0 m pc ls st) := by
  subst hst0
  refine va_calli (va_runV (As := As) (rest := rest) ⟨hexec, hb, hml, hown, hts⟩ (hM H.size) (cwV As.length hts (gV w1 w2 w3 w4 w5) rfl hrm.1 hrm.2 hy hroom) ⟨ct_blind, va_recv (q0 := 0) (ci := 3) (q := (RX3, TX3, 9)) (fs := cellF3 b M) hK (hR.1.P1 (K := 0) (i := 0) ok0) rfl (by rw [cellF3_eq (g := g)]; rfl), fun U hU hW => ⟨rfl, by rw [hU], by rw [hU]; exact hR.1, va_K.moved hW.alike hK⟩⟩ rfl rfl hsz rfl (lv_room hst) hdg ⟨hcs.1, hcs.2⟩) hS (fun q _ h => hA q (AA_mono hS.1 q h)) (fun q h => hA q (AA_mono hS.1 q h)) (fun r0 u t H1 locs1 ht hvm hw hB hz1 hk1 hS1 => ?_)
  obtain ⟨rfl, hrg⟩ := hw
  exact kk hrg H1 locs1 (hR.back (by rw [← ht]; exact hB.1) hk1) hS1
theorem l_cVl (hexec : p.tables.exec = Jvm.exec) (hb : c.code = cc) {nL : Nat} (hml : c.maxLocals = nL) {own : String} (hown : s.vm.findClass own = some m.cls) (hts : ∀ w ∈ wT, w.before args s = true) (hK : va_K g.1 vwCl (tysX g) s) (hR : RD g b M ws H) (hS : va_S A s.heap H locs) (hA : ∀ q, AA b s.heap.size q → A q) {y : MethodName} {bytes : ByteArray} {maxL : Nat} {ret : Option FieldType} {rm : Room} {As : List Value} {r : Int64} {M' : Mm} {index : Nat} (hM : Ct l y bytes maxL ret rm g b (.ref (adr b 0 0) :: As) M (qL g b r M')) (w1 : Cond.methodLink own index y ∈ wT) (w2 : Cond.instanceMethod y ∈ wT) (w3 : Cond.selects RX3 y y ∈ wT) (w4 : Cond.initialized RX3 ∈ wT) (w5 : Cond.code y bytes maxL ret ∈ wT) (hy : y.cls = RX3 ∧ y.cls ≠ "java/lang/invoke/MethodHandle" ∧ y.cls ≠ "java/lang/invoke/VarHandle" ∧ (parseMethodDescriptor y.desc).map (fun d => d.parameters.length) = some As.length) (hrm : rm.cells = 0 ∧ rm.slots = 0) (hroom : rm.frames + 1 ≤ R.frames ∧ 8 + (maxL + 11) + rm.locals ≤ R.locals) (hsz : ls.size = nL) (hst : (rest.map fun v => v.category).sum ≤ 8) (hdg : decode cc pc = .ok (.invokevirtual index, 3)) (hcs : cells ≤ R.cells ∧ slots ≤ R.slots) {st : List Value} (hst0 : st = As.reverse ++ .ref (adr b 0 0) :: rest)
    (kk : ∀ (H1 : Heap) (locs1 : List Loc), RD g b M' ws H1 → va_S A s.heap H1 locs1 → W p l e R s m args below meth c H1 locs1 cells slots Q (F0 m (pc + 3) ls (.long r :: rest))) : W p l e R s m args below meth c H locs cells slots Q (F0 m pc ls st) := by
  subst hst0
  refine va_calll (va_runV (As := As) (rest := rest) ⟨hexec, hb, hml, hown, hts⟩ (hM H.size) (cwV As.length hts (gV w1 w2 w3 w4 w5) rfl hrm.1 hrm.2 hy hroom) ⟨ct_blind, va_recv (q0 := 0) (ci := 3) (q := (RX3, TX3, 9)) (fs := cellF3 b M) hK (hR.1.P1 (K := 0) (i := 0) ok0) rfl (by rw [cellF3_eq (g := g)]; rfl), fun U hU hW => ⟨rfl, by rw [hU], by rw [hU]; exact hR.1, va_K.moved hW.alike hK⟩⟩ rfl rfl hsz rfl (lv_room hst) hdg ⟨hcs.1, hcs.2⟩) hS (fun q _ h => hA q (AA_mono hS.1 q h)) (fun q h => hA q (AA_mono hS.1 q h)) (fun r0 u t H1 locs1 ht hvm hw hB hz1 hk1 hS1 => ?_)
  obtain rfl := hw
  exact kk H1 locs1 (hR.back (by rw [← ht]; exact hB.1) hk1) hS1
theorem l_cVv (hexec : p.tables.exec = Jvm.exec) (hb : c.code = cc) {nL : Nat} (hml : c.maxLocals = nL) {own : String} (hown : s.vm.findClass own = some m.cls) (hts : ∀ w ∈ wT, w.before args s = true) (hK : va_K g.1 vwCl (tysX g) s) (hR : RD g b M ws H) (hS : va_S A s.heap H locs) (hA : ∀ q, AA b s.heap.size q → A q) {y : MethodName} {bytes : ByteArray} {maxL : Nat} {ret : Option FieldType} {rm : Room} {As : List Value} {M' : Mm} {index : Nat} (hM : Ct l y bytes maxL ret rm g b (.ref (adr b 0 0) :: As) M (qV g b M')) (w1 : Cond.methodLink own index y ∈ wT) (w2 : Cond.instanceMethod y ∈ wT) (w3 : Cond.selects RX3 y y ∈ wT) (w4 : Cond.initialized RX3 ∈ wT) (w5 : Cond.code y bytes maxL ret ∈ wT) (hy : y.cls = RX3 ∧ y.cls ≠ "java/lang/invoke/MethodHandle" ∧ y.cls ≠ "java/lang/invoke/VarHandle" ∧ (parseMethodDescriptor y.desc).map (fun d => d.parameters.length) = some As.length) (hrm : rm.cells = 0 ∧ rm.slots = 0) (hroom : rm.frames + 1 ≤ R.frames ∧ 8 + (maxL + 11) + rm.locals ≤ R.locals) (hsz : ls.size = nL) (hst : (rest.map fun v => v.category).sum ≤ 8) (hdg : decode cc pc = .ok (.invokevirtual index, 3)) (hcs : cells ≤ R.cells ∧ slots ≤ R.slots) {st : List Value} (hst0 : st = As.reverse ++ .ref (adr b 0 0) :: rest)
    (kk : ∀ (H1 : Heap) (locs1 : List Loc), RD g b M' ws H1 → va_S A s.heap H1 locs1 → W p l e R s m args below meth c H1 locs1 cells slots Q (F0 m (pc + 3) ls (rest))) : W p l e R s m args below meth c H locs cells slots Q (F0 m pc ls st) := by
  subst hst0
  refine va_callv (va_runV (As := As) (rest := rest) ⟨hexec, hb, hml, hown, hts⟩ (hM H.size) (cwV As.length hts (gV w1 w2 w3 w4 w5) rfl hrm.1 hrm.2 hy hroom) ⟨ct_blind, va_recv (q0 := 0) (ci := 3) (q := (RX3, TX3, 9)) (fs := cellF3 b M) hK (hR.1.P1 (K := 0) (i := 0) ok0) rfl (by rw [cellF3_eq (g := g)]; rfl), fun U hU hW => ⟨rfl, by rw [hU], by rw [hU]; exact hR.1, va_K.moved hW.alike hK⟩⟩ rfl rfl hsz rfl (lv_room hst) hdg ⟨hcs.1, hcs.2⟩) hS (fun q _ h => hA q (AA_mono hS.1 q h)) (fun q h => hA q (AA_mono hS.1 q h)) (fun u t H1 locs1 ht hvm hw hB hz1 hk1 hS1 => ?_)
  exact kk H1 locs1 (hR.back (by rw [← ht]; exact hB.1) hk1) hS1
/-! calls of the law's own methods -/
theorem l_cS0 (hexec : p.tables.exec = Jvm.exec) (hb : c.code = cc) {nL : Nat} (hml : c.maxLocals = nL) {own : String} (hown : s.vm.findClass own = some m.cls) (hts : ∀ w ∈ wT, w.before args s = true) (hK : va_K g.1 vwCl (tysX g) s) (hR : RD g b M ws H) (hS : va_S A s.heap H locs) (hA : ∀ q, AA b s.heap.size q → A q) {y : MethodName} {bytes : ByteArray} {maxL : Nat} {ret : Option FieldType} {rm : Room} {As : List Value} {r : Int} {M' : Mm} {index mc ms : Nat} (hM : Cl l y bytes maxL ret rm g b b As M [] mc ms (rI g b r M' b [])) (w1 : Cond.methodLink own index y ∈ wT) (w2 : Cond.static y ∈ wT) (w4 : Cond.initialized y.cls ∈ wT) (w5 : Cond.code y bytes maxL ret ∈ wT) (hy : y.cls ≠ "java/lang/invoke/MethodHandle" ∧ y.cls ≠ "java/lang/invoke/VarHandle" ∧ (parseMethodDescriptor y.desc).map (fun d => d.parameters.length) = some As.length) (hrm : rm.cells = mc ∧ rm.slots = ms) (hroom : rm.frames + 1 ≤ R.frames ∧ 8 + (maxL + 11) + rm.locals ≤ R.locals) (hsz : ls.size = nL) (hst : (rest.map fun v => v.category).sum ≤ 8) (hdg : decode cc pc = .ok (.invokestatic index, 3)) (hcs : cells + mc ≤ R.cells ∧ slots + ms ≤ R.slots) {st : List Value} (hst0 : st = As.reverse ++ rest)
    (kk : rg r → ∀ (H1 : Heap) (locs1 : List Loc), RD g b M' ws H1 → va_S A s.heap H1 locs1 → W p l e R s m args below meth c H1 locs1 (cells + mc) (slots + ms) Q (F0 m (pc + 3) ls (.int (jI r) :: rest))) : W p l e R s m args below meth c H locs cells slots Q (F0 m pc ls st) := by
  subst hst0
  have hAF : ∀ q9, AF b b H.size q9 → A q9 := fun q9 h => h.elim (fun z => hA q9 (AA_mono hS.1 q9 z)) (fun z => hA q9 (Or.inl ⟨by omega, by omega⟩))
  refine va_calli (va_runS (As := As) (rest := rest) ⟨hexec, hb, hml, hown, hts⟩ (hM H.size) (va_cwS As.length hts (gS w1 w2 w4 w5) rfl hrm.1 hrm.2 hy hroom) ⟨cl_blind, fun U hU hW => ⟨rfl, by rw [hU], by rw [hU]; exact hR.none, va_K.moved hW.alike hK⟩⟩ rfl rfl hsz rfl (lv_room hst) hdg ⟨hcs.1, hcs.2⟩) hS (fun q _ h => hAF q h) (fun q h => hAF q h) (fun r0 u t H1 locs1 ht hvm hw hB hz1 hk1 hS1 => ?_)
  obtain ⟨rfl, hrg⟩ := hw
  exact kk hrg H1 locs1 (hR.back0 (by rw [← ht]; exact hB.1) hk1) hS1
theorem l_cS1 (hexec : p.tables.exec = Jvm.exec) (hb : c.code = cc) {nL : Nat} (hml : c.maxLocals = nL) {own : String} (hown : s.vm.findClass own = some m.cls) (hts : ∀ w ∈ wT, w.before args s = true) (hK : va_K g.1 vwCl (tysX g) s) (hR : RD g b M ws H) (hS : va_S A s.heap H locs) (hA : ∀ q, AA b s.heap.size q → A q) {i q kd n : Nat} {f f1 : Nat → Int} (hi : ws[i]? = some (q, kd, n, f)) (hq : A q) {y : MethodName} {bytes : ByteArray} {maxL : Nat} {ret : Option FieldType} {rm : Room} {As : List Value} {r : Int} {M' : Mm} {index mc ms : Nat} (hM : Cl l y bytes maxL ret rm g b q As M [(q, kd, n, f)] mc ms (rI g b r M' q [(q, kd, n, f1)])) (w1 : Cond.methodLink own index y ∈ wT) (w2 : Cond.static y ∈ wT) (w4 : Cond.initialized y.cls ∈ wT) (w5 : Cond.code y bytes maxL ret ∈ wT) (hy : y.cls ≠ "java/lang/invoke/MethodHandle" ∧ y.cls ≠ "java/lang/invoke/VarHandle" ∧ (parseMethodDescriptor y.desc).map (fun d => d.parameters.length) = some As.length) (hrm : rm.cells = mc ∧ rm.slots = ms) (hroom : rm.frames + 1 ≤ R.frames ∧ 8 + (maxL + 11) + rm.locals ≤ R.locals) (hsz : ls.size = nL) (hst : (rest.map fun v => v.category).sum ≤ 8) (hdg : decode cc pc = .ok (.invokestatic index, 3)) (hcs : cells + mc ≤ R.cells ∧ slots + ms ≤ R.slots) {st : List Value} (hst0 : st = As.reverse ++ rest)
    (kk : rg r → ∀ (H1 : Heap) (locs1 : List Loc), RD g b M' (ws.set i (q, kd, n, f1)) H1 → va_S A s.heap H1 locs1 → W p l e R s m args below meth c H1 locs1 (cells + mc) (slots + ms) Q (F0 m (pc + 3) ls (.int (jI r) :: rest))) : W p l e R s m args below meth c H locs cells slots Q (F0 m pc ls st) := by
  subst hst0
  have hAF : ∀ q9, AF b q H.size q9 → A q9 := fun q9 h => h.elim (fun z => hA q9 (AA_mono hS.1 q9 z)) (fun z => by rw [z]; exact hq)
  refine va_calli (va_runS (As := As) (rest := rest) ⟨hexec, hb, hml, hown, hts⟩ (hM H.size) (va_cwS As.length hts (gS w1 w2 w4 w5) rfl hrm.1 hrm.2 hy hroom) ⟨cl_blind, fun U hU hW => ⟨rfl, by rw [hU], by rw [hU]; exact hR.pick [i] (by simp) (by simp only [List.map_cons, List.map_nil, hi]), va_K.moved hW.alike hK⟩⟩ rfl rfl hsz rfl (lv_room hst) hdg ⟨hcs.1, hcs.2⟩) hS (fun q _ h => hAF q h) (fun q h => hAF q h) (fun r0 u t H1 locs1 ht hvm hw hB hz1 hk1 hS1 => ?_)
  obtain ⟨rfl, hrg⟩ := hw
  exact kk hrg H1 locs1 (hR.back1 hi (by rw [← ht]; exact hB.1) hk1) hS1
theorem l_iret (hexec : p.tables.exec = Jvm.exec) (hb : c.code = cc) (hlocks : meth.locks = false) (hK : va_K g.1 vwCl (tysX g) s) (hR : RD g b M ws H) {qa : Nat} (hS : va_S (AF b qa s.heap.size) s.heap H locs) {mc ms : Nat} (hc1 : cells ≤ mc) (hc2 : slots ≤ ms) {r : Int} (hrg : rg r) (ks : List Nat) (hn : ks.Nodup) {ws' : List dyE} (e9 : ks.map (fun k => ws[k]?) = ws'.map some) (hr : meth.sig.returnType = some .int) (hdg : decode cc pc = .ok (.ireturn, 1)) : W p l e R s m args below meth c H locs cells slots (MQ below (rI g b r M qa ws' s.heap.size) args s mc ms (AF b qa s.heap.size)) (F0 m pc ls [.int (jI r)]) :=
  W.widen hc1 hc2 (W.iret hexec hb hr (fun t ht hW => ⟨⟨jI r, (), rfl, ⟨rfl, hrg⟩, by rw [ht]; exact hR.pick ks hn e9, va_K.moved hW.alike hK⟩, hS.F ht⟩) hS.2.2 hdg hlocks)
theorem l_zret (hexec : p.tables.exec = Jvm.exec) (hb : c.code = cc) (hlocks : meth.locks = false) (hK : va_K g.1 vwCl (tysX g) s) (hR : RD g b M ws H) {qa : Nat} (hS : va_S (AF b qa s.heap.size) s.heap H locs) {mc ms : Nat} (hc1 : cells ≤ mc) (hc2 : slots ≤ ms) {r : Int} (h01 : r = 0 ∨ r = 1) (ks : List Nat) (hn : ks.Nodup) {ws' : List dyE} (e9 : ks.map (fun k => ws[k]?) = ws'.map some) (hr : meth.sig.returnType = some .boolean) (hdg : decode cc pc = .ok (.ireturn, 1)) : W p l e R s m args below meth c H locs cells slots (MQ below (rI g b r M qa ws' s.heap.size) args s mc ms (AF b qa s.heap.size)) (F0 m pc ls [.int (jI r)]) :=
  W.widen hc1 hc2 (W.zret hexec hb hr (narrow_z h01) (fun t ht hW => ⟨⟨jI r, (), rfl, ⟨rfl, by rcases h01 with rfl | rfl <;> decide⟩, by rw [ht]; exact hR.pick ks hn e9, va_K.moved hW.alike hK⟩, hS.F ht⟩) hS.2.2 hdg hlocks)
end LB
def xb3 {α β γ δ : Type} (x : Option (α × β × γ)) (f : α → β → γ → Option δ) : Option δ := x.bind fun y => f y.1 y.2.1 y.2.2
theorem xb3_some {α β γ δ : Type} {x : Option (α × β × γ)} {f : α → β → γ → Option δ} {o : δ} (h : xb3 x f = some o) : ∃ a b c, x = some (a, b, c) ∧ f a b c = some o := by
  obtain ⟨y, h1, h2⟩ := xb_some h
  exact ⟨y.1, y.2.1, y.2.2, h1, h2⟩
