/-! CONSTRUCTORS: the heap as a function of the address, what is being made at its end -/
def fup (f : Nat → Option va_E) (a : Nat) (e : va_E) : Nat → Option va_E := fun q => if q = a then some e else f q
def CW (g : Gx) (f : Nat → Option va_E) (h : Nat) (H : Heap) : Prop := H.size = h ∧ ∀ a e, f a = some e → va_at g.1 vwCl (a, e) H
theorem CW.set {g : Gx} {f : Nat → Option va_E} {h a : Nat} {e : va_E} {H H1 : Heap} (hc : CW g f h H) (hat : va_at g.1 vwCl (a, e) H1) (z : H1.size = H.size) (oq : ∀ q : Nat, q ≠ a → H1[q]? = H[q]?) : CW g (fup f a e) h H1 := by
  refine ⟨z.trans hc.1, fun q e' hq => ?_⟩
  unfold fup at hq
  split at hq
  · rename_i h1
    cases hq
    rw [h1]
    exact hat
  · rename_i h1
    exact (hc.2 q e' hq).kept (oq q h1)
theorem CW.push {g : Gx} {f : Nat → Option va_E} {h : Nat} {e : va_E} {H H1 : Heap} (hc : CW g f h H) (hat : va_at g.1 vwCl (h, e) H1) (z : H1.size = h + 1) (o1 : ∀ q : Nat, q < h → H1[q]? = H[q]?) : CW g (fup f h e) (h + 1) H1 := by
  refine ⟨z, fun q e' hq => ?_⟩
  unfold fup at hq
  split at hq
  · rename_i h1
    cases hq
    rw [h1]
    exact hat
  · have h2 := (hc.2 q e' hq).lt
    rw [hc.1] at h2
    exact (hc.2 q e' hq).kept (o1 q h2)
theorem CW.P1 {g : Gx} {f : Nat → Option va_E} {h a : Nat} {e : va_E} {H : Heap} (hc : CW g f h H) (ha : f a = some e) : va_P g.1 vwCl [(a, e)] H := by
  intro k q hq
  match k, hq with
  | 0, hq => cases hq; exact hc.2 a e ha
  | k + 1, hq => simp at hq
theorem CW.to {g : Gx} {f f' : Nat → Option va_E} {h : Nat} {H : Heap} (hc : CW g f h H) (hf : ∀ a e, f' a = some e → f a = some e) : CW g f' h H := ⟨hc.1, fun a e ha => hc.2 a e (hf a e ha)⟩
/-- a constructor's contract: the object q, just made, and what it makes behind it -/
def IC (l : Launch) (y : MethodName) (bytes : ByteArray) (maxL : Nat) (rm : Room) (g : Gx) (q : Nat) (e : va_E) (NW : State → Prop) (n : Nat) (f1 : Nat → Option va_E) (mc ms : Nat) : Prop :=
  Met l y (Cond.code y bytes maxL none :: wT) rm (va_Pc [.ref q] (fun U => U.heap.size = q + 1 ∧ va_at g.1 vwCl (q, e) U.heap ∧ va_K g.1 vwCl (tysX g) U ∧ NW U)) (va_Qv (fun (_ : Unit) => True) (fun _ t => CW g f1 (q + n) t.heap) (fun a => q ≤ a)) mc ms (fun a => q ≤ a)
theorem ic_of {l : Launch} {y : MethodName} {bytes : ByteArray} {maxL : Nat} {rm : Room} {g : Gx} {q : Nat} {e : va_E} {NW : State → Prop} {n : Nat} {f1 : Nat → Option va_E} {mc ms : Nat}
    (hy : plainName y.cls = true) (hlen : 1 ≤ maxL)
    (h : ∀ (p : Program) (e' : Env) (s : State) (m : MethodId) (args : Array Value) (below : List Frame) (meth : Method) (c : Code), XA p s m meth c args y.cls bytes maxL none g → meth.name = y.name → NW s → CW g (fup (fun _ => none) q e) (q + 1) s.heap → ∀ ls : Array Slot, lv_has ls maxL [(0, .ref q)] → W p l e' rm s m args below meth c s.heap [] 0 0 (MQ below (va_Qv (fun (_ : Unit) => True) (fun _ t => CW g f1 (q + n) t.heap) (fun a => q ≤ a)) args s mc ms (fun a => q ≤ a)) (F0 m 0 ls [])) :
    IC l y bytes maxL rm g q e NW n f1 mc ms := by
  refine Met.ofW (cc := bytes) (maxL := maxL) (ret := none) hy rfl ?_
  intro p e' s m args below meth c s₁ B hml hv
  obtain ⟨rfl, hsz, hat, hK, hNW⟩ := hv
  have hts := atoms_spec (ws := Cond.code y bytes maxL none :: wT) B.pre
  rw [lg_entry_eq]
  refine h p e' s m _ below meth c ⟨B.exec, B.bytes, B.returns, B.notSynchronized, hml, findClass_of_methodNamed B.named, fun w hw => hts w (List.mem_cons_of_mem _ hw), hK⟩ (name_of_methodNamed B.named B.method).1 hNW ⟨hsz, fun a e9 ha => ?_⟩ _ (lv_entry [.ref q] hlen)
  unfold fup at ha
  split at ha
  · rename_i h1
    cases ha
    rw [h1]
    exact hat
  · cases ha
section IR
variable {p : Program} {l : Launch} {e : Env} {R : Room} {s : State} {m : MethodId} {args : Array Value} {below : List Frame} {meth : Method} {c : Code} {H : Heap} {locs : List Loc} {cells slots : Nat} {Q : State → Prop}
variable {cc : ByteArray} {pc : Nat} {ls : Array Slot} {rest : List Value} {g : Gx} {f : Nat → Option va_E} {h lo : Nat}
theorem i_new (hexec : p.tables.exec = Jvm.exec) (hb : c.code = cc) {own C : String} {T : u_T} {N ci index : Nat} (hts : ∀ w ∈ wT, w.before args s = true) (hin : ∀ w ∈ u_ws C T N, w ∈ wT) (ty : Nat → FieldType) (hty : ∀ k, k < N → parseFieldDescriptor (T k).2.2.1 = some (ty k)) (hown : s.vm.findClass own = some m.cls) (hcl : Cond.classLink own index C ∈ wT) (hinst : Cond.instantiable C N ∈ wT) (hini : Cond.initialized C ∈ wT)
    (hK : va_K g.1 vwCl (tysX g) s) (hC : CW g f h H) (hS : va_S (fun a => lo ≤ a) s.heap H locs) (hc : vwCl[ci]? = some (C, T, N)) {fs : List Value} (hfs : ∀ j, j < N → defaultValue (ty j) = vp_V fs j) (hcells : cells + 1 ≤ R.cells) (hslots : slots + N ≤ R.slots) (hdg : decode cc pc = .ok (.new index, 3))
    (kk : ∀ (H1 : Heap), CW g (fup f h (.inr (ci, fs))) (h + 1) H1 → va_S (fun a => lo ≤ a) s.heap H1 locs →
      W p l e R s m args below meth c H1 locs (cells + 1) (slots + N) Q (F0 m (pc + 3) ls (.ref h :: rest))) : W p l e R s m args below meth c H locs cells slots Q (F0 m pc ls rest) := by
  have hKn := hK.1 ci _ hc
  refine W.newcK hexec hb hown (hts _ hcl) (hts _ hinst) (hts _ hini) rfl hdg hcells hslots hKn.2.1 hC.1 fun H1 kC hkC e1 z1 o1 => ?_
  refine kk H1 (hC.push ⟨_, hc, (u_born ty hts hin hKn hkC e1 hty).to hfs⟩ z1 o1) ⟨Nat.le_trans hS.1 (by rw [z1, ← hC.1]; omega), fun x h1 h2 => (o1 x (by have := hS.1; have := hC.1; omega)).trans (hS.2.1 x h1 h2), hS.2.2⟩
theorem i_newa (hexec : p.tables.exec = Jvm.exec) (hb : c.code = cc) (hts : ∀ w ∈ wT, w.before args s = true) (harr : Cond.arrayClass .int ∈ wT) (hK : va_K g.1 vwCl (tysX g) s) (hC : CW g f h H) (hS : va_S (fun a => lo ≤ a) s.heap H locs)
    {n : Int} (hn : rg n) {N : Nat} (hN : n = (N : Int)) (hbytes : N * 4 ≤ 536870912) (hcells : cells + 1 ≤ R.cells) (hslots : slots + N ≤ R.slots) (hdg : decode cc pc = .ok (.newarray .int, 2))
    (kk : ∀ (H1 : Heap), CW g (fup f h (.inl (g.2 0, N, .inl (fun _ => jI 0)))) (h + 1) H1 → va_S (fun a => lo ≤ a) s.heap H1 locs → W p l e R s m args below meth c H1 locs (cells + 1) (slots + N) Q (F0 m (pc + 2) ls (.ref h :: rest))) : W p l e R s m args below meth c H locs cells slots Q (F0 m pc ls (.int (jI n) :: rest)) := by
  subst hN
  refine va_newaK (atype := .int) hexec hb (hts _ harr) rfl hdg rfl (by rw [← jI_0, jI_lt hn rg_0]; omega) (by rw [jI_cl hn]; rfl) hbytes hcells hslots hC.1 fun H1 cA e1 z1 o1 hAr hNm => ?_
  have hc : cA = g.2 0 := Option.some.inj (hNm.symm.trans (hK.2 0 (g.2 0, .int) rfl).2)
  subst hc
  refine kk H1 (hC.push ?_ z1 o1) ⟨Nat.le_trans hS.1 (by rw [z1, ← hC.1]; omega), fun x h1 h2 => (o1 x (by have := hS.1; have := hC.1; omega)).trans (hS.2.1 x h1 h2), hS.2.2⟩
  show H1[h]? = some (vp_cell _ _)
  rw [e1, vp_cell_i, jI_0]
  rfl
theorem i_newl (hexec : p.tables.exec = Jvm.exec) (hb : c.code = cc) (hts : ∀ w ∈ wT, w.before args s = true) (harr : Cond.arrayClass .long ∈ wT) (hK : va_K g.1 vwCl (tysX g) s) (hC : CW g f h H) (hS : va_S (fun a => lo ≤ a) s.heap H locs)
    {n : Int} (hn : rg n) {N : Nat} (hN : n = (N : Int)) (hbytes : N * 8 ≤ 536870912) (hcells : cells + 1 ≤ R.cells) (hslots : slots + N ≤ R.slots) (hdg : decode cc pc = .ok (.newarray .long, 2))
    (kk : ∀ (H1 : Heap), CW g (fup f h (.inl (g.2 4, N, .inr (.inl (fun _ => 0))))) (h + 1) H1 → va_S (fun a => lo ≤ a) s.heap H1 locs → W p l e R s m args below meth c H1 locs (cells + 1) (slots + N) Q (F0 m (pc + 2) ls (.ref h :: rest))) : W p l e R s m args below meth c H locs cells slots Q (F0 m pc ls (.int (jI n) :: rest)) := by
  subst hN
  refine va_newaK (atype := .long) hexec hb (hts _ harr) rfl hdg rfl (by rw [← jI_0, jI_lt hn rg_0]; omega) (by rw [jI_cl hn]; rfl) hbytes hcells hslots hC.1 fun H1 cA e1 z1 o1 hAr hNm => ?_
  have hc : cA = g.2 4 := Option.some.inj (hNm.symm.trans (hK.2 4 (g.2 4, .long) rfl).2)
  subst hc
  refine kk H1 (hC.push ?_ z1 o1) ⟨Nat.le_trans hS.1 (by rw [z1, ← hC.1]; omega), fun x h1 h2 => (o1 x (by have := hS.1; have := hC.1; omega)).trans (hS.2.1 x h1 h2), hS.2.2⟩
  show H1[h]? = some (vp_cell _ _)
  rw [e1, vp_cell_l]
  rfl
theorem i_newq (hexec : p.tables.exec = Jvm.exec) (hb : c.code = cc) {own C : String} {index t0 : Nat} (hts : ∀ w ∈ wT, w.before args s = true) (hown : s.vm.findClass own = some m.cls) (hcl : Cond.classLink own index C ∈ wT) (hover : va_AO C s) (hK : va_K g.1 vwCl (tysX g) s) {cA0 : ClassId} (ht0 : (tysX g)[t0]? = some (cA0, .object C)) (hC : CW g f h H) (hS : va_S (fun a => lo ≤ a) s.heap H locs)
    {n : Int} (hn : rg n) {N : Nat} (hN : n = (N : Int)) (hbytes : N * 4 ≤ 536870912) (hcells : cells + 1 ≤ R.cells) (hslots : slots + N ≤ R.slots) (hdg : decode cc pc = .ok (.anewarray index, 3))
    (kk : ∀ (H1 : Heap), CW g (fup f h (.inl (cA0, N, .inr (.inr (.inr (.inr (fun _ => none))))))) (h + 1) H1 → va_S (fun a => lo ≤ a) s.heap H1 locs → W p l e R s m args below meth c H1 locs (cells + 1) (slots + N) Q (F0 m (pc + 3) ls (.ref h :: rest))) : W p l e R s m args below meth c H locs cells slots Q (F0 m pc ls (.int (jI n) :: rest)) := by
  subst hN
  have e0 : (jI (N : Int)).toNatClampNeg = N := by rw [jI_cl hn]; rfl
  refine W.anew hexec hb hown (hts _ hcl) (va_AO.use hover) rfl hdg rfl (by rw [← jI_0, jI_lt hn rg_0]; omega) (by rw [e0]; exact hbytes) hcells (by rw [e0]; exact hslots) fun cA kA comp f1 f2 f3 f4 => ?_
  obtain ⟨kA9, comp9, -, -, -, k4⟩ := (hK.2 t0 _ ht0).2
  have hc : cA = cA0 := Option.some.inj (f1.symm.trans k4)
  subst hc
  rw [e0, hC.1]
  refine kk _ (hC.push ?_ (by simp [hC.1]) (fun q hq => ?_)) ⟨Nat.le_trans hS.1 (by simp), fun x h1 h2 => ?_, hS.2.2⟩
  · show (H.push _)[h]? = some (vp_cell _ _)
    rw [vp_cell_q, ← hC.1, Array.getElem?_push_size]
    congr 1
    unfold arrV
    congr 1
    apply Array.ext
    · simp
    · intro i h1 h2
      simp [va_rf]
  · rw [Array.getElem?_push, if_neg (by have := hC.1; omega)]
  · rw [Array.getElem?_push, if_neg (by have := hS.1; omega)]
    exact hS.2.1 x h1 h2
theorem i_get (hexec : p.tables.exec = Jvm.exec) (hb : c.code = cc) {own ref C : String} {T : u_T} {N ci index a : Nat} (hts : ∀ w ∈ wT, w.before args s = true) (hin : ∀ w ∈ u_ws C T N, w ∈ wT) (hown : s.vm.findClass own = some m.cls) (hK : va_K g.1 vwCl (tysX g) s) (hC : CW g f h H) {fs : List Value} (ha : f a = some (.inr (ci, fs))) (hc : vwCl[ci]? = some (C, T, N)) (k : Nat) (hk : k < N) (hlink : Cond.fieldLink own index ref (T k).2.1 (T k).2.2.1 ∈ wT) (hsame : ∀ x, s.fieldFound? (T k).1 (T k).2.1 (T k).2.2.1 = some x → s.fieldFound? ref (T k).2.1 (T k).2.2.1 = some x) {v : Value} (hv : fs[k]? = some v) (hdg : decode cc pc = .ok (.getfield index, 3))
    (kk : W p l e R s m args below meth c H locs cells slots Q (F0 m (pc + 3) ls (v :: rest))) : W p l e R s m args below meth c H locs cells slots Q (F0 m pc ls (.ref a :: rest)) :=
  va_get (ws := [(a, .inr (ci, fs))]) hexec hb hts hin hown hK (hC.P1 ha) 0 rfl hc k hk (hts _ hlink) hsame hv hdg kk
theorem i_put (hexec : p.tables.exec = Jvm.exec) (hb : c.code = cc) {own ref C : String} {T : u_T} {N ci index a : Nat} (hts : ∀ w ∈ wT, w.before args s = true) (hin : ∀ w ∈ u_ws C T N, w ∈ wT) (ty0 : Nat → FieldType) (hty : ∀ k, k < N → parseFieldDescriptor (T k).2.2.1 = some (ty0 k)) (hnm : ∀ a, a < N → ∀ b, b < N → a ≠ b → (T a).2.1 ≠ (T b).2.1) (hown : s.vm.findClass own = some m.cls) (hname : meth.name = "<init>") (hK : va_K g.1 vwCl (tysX g) s) (hC : CW g f h H) (hS : va_S (fun a => lo ≤ a) s.heap H locs) (hlo : lo ≤ a) {fs : List Value} (ha : f a = some (.inr (ci, fs))) (hc : vwCl[ci]? = some (C, T, N)) (k : Nat) (hk : k < N) (hlink : Cond.fieldLink own index ref (T k).2.1 (T k).2.2.1 ∈ wT) (hsame : ∀ x, s.fieldFound? (T k).1 (T k).2.1 (T k).2.2.1 = some x → s.fieldFound? ref (T k).2.1 (T k).2.2.1 = some x) (hdecl : (T k).2.2.2 = true → (T k).1 = own) {ty : FieldType} {v : Value} (hd : parseFieldDescriptor (T k).2.2.1 = some ty) (hn : narrow ty v = v) (hfit : fits ty v = true) (hl : k < fs.length) (hdg : decode cc pc = .ok (.putfield index, 3))
    (kk : ∀ (H1 : Heap) (locs1 : List Loc), CW g (fup f a (.inr (ci, fs.set k v))) h H1 → va_S (fun a => lo ≤ a) s.heap H1 locs1 → W p l e R s m args below meth c H1 locs1 cells slots Q (F0 m (pc + 3) ls rest)) : W p l e R s m args below meth c H locs cells slots Q (F0 m pc ls (v :: .ref a :: rest)) := by
  have hlk := hts _ hlink
  have hap := va_apart (own := own) hts hin ty0 hty hnm hK hc
  obtain ⟨r, h1, cell, q1, q2, q3, q4⟩ := hC.2 a _ ha
  have hr : r = (C, T, N) := Option.some.inj (h1.symm.trans hc)
  subst hr
  obtain ⟨hSl, hfc, kC, hkC, hkind⟩ := hK.1 ci _ hc
  obtain ⟨cf, kf, fi, fd, hi, hsl⟩ := hSl k hk
  have hlay := hts _ (hin _ (u_in_lay hk))
  have hst := (u_facts hfc hkC (u_lays hts hin hk) hi).1
  have fin : ∀ H' : Heap, H'[a]? = some (cell.setSlot fd.slot v) → H'.size = H.size → (∀ q, q ≠ a → H'[q]? = H[q]?) → W p l e R s m args below meth c H' (locs ++ [⟨a, fd.slot⟩]) cells slots Q (F0 m (pc + 3) ls rest) := by
    intro H' e1 e2 e3
    rw [hsl] at e1 ⊢
    exact kk H' _ (hC.set ⟨_, hc, t_OB.to (V := updV (vp_V fs) k v) ⟨_, e1, q2, q3, t_set q4 hap hk v⟩ (fun j _ => vp_updV_set hl v j)⟩ e2 e3) (hS.put e2 e3 hlo)
  cases hfin : (T k).2.2.2 with
  | false =>
    unfold u_lay at hlay
    rw [if_neg (by rw [hfin]; decide)] at hlay
    have h6 := u_store hfc hkC hkind hlay hi hd hn hfit
    exact W.putK hexec hb (f := fd) ⟨hown, hlk, ⟨_, _, _, hsame _ hi⟩, hst⟩ (by rw [q2]; exact h6) q1 q3 (by rw [hsl]; exact k2_hasslot (q4 k hk)) rfl rfl hdg fin
  | true =>
    unfold u_lay at hlay
    rw [if_pos hfin] at hlay
    have hcf : m.cls = cf := by
      obtain ⟨_, _, c', _, _, _, -, -, hf', -, -, -, hown2, -⟩ := Cond.laysFinal_spec hlay
      have e1 : c' = cf := by have := hi.symm.trans hf'; simp at this; exact this.1.symm
      rw [hdecl hfin] at hown2
      rw [← e1]; exact Option.some.inj (hown.symm.trans hown2)
    have h6 := u_fits hfc hkC hkind (Or.inr hlay) hi hd hn hfit
    exact W.putFinK hexec hb hown hlk (hsame _ hi) hst hcf hname (by rw [q2]; exact h6) q1 q3 (by rw [hsl]; exact k2_hasslot (q4 k hk)) rfl rfl hdg fin
theorem i_iast (hexec : p.tables.exec = Jvm.exec) (hb : c.code = cc) (hK : va_K g.1 vwCl (tysX g) s) (hC : CW g f h H) (hS : va_S (fun a => lo ≤ a) s.heap H locs) {a N : Nat} (hlo : lo ≤ a) {F : Nat → Int} (ha : f a = some (.inl (g.2 0, N, .inl (fun k => jI (F k))))) {x v : Int} (hx : rg x) (hin : 0 ≤ x ∧ x < (N : Int)) (hdg : decode cc pc = .ok (.iastore, 1))
    (kk : ∀ (H1 : Heap) (locs1 : List Loc), CW g (fup f a (.inl (g.2 0, N, .inl (fun k => jI (if k = x.toNat then v else F k))))) h H1 → va_S (fun a => lo ≤ a) s.heap H1 locs1 → W p l e R s m args below meth c H1 locs1 cells slots Q (F0 m (pc + 1) ls rest)) : W p l e R s m args below meth c H locs cells slots Q (F0 m pc ls (.int (jI v) :: .int (jI x) :: .ref a :: rest)) := by
  refine W.iast hexec hb (hC.2 a _ ha) ((hK.2 0 _ rfl).1 N (fun j => .int (jI (F j)))) (fun q => by cases q) (by show ¬ (jI x < 0 ∨ (arrV _ _ _).slots.size ≤ _); rw [arrV_size]; exact jI_in hx hin) rfl rfl hdg fun H1 e z oq => ?_
  refine kk H1 _ (hC.set ?_ z oq) (hS.put z oq hlo)
  show H1[a]? = some (vp_cell _ _)
  rw [e]
  rw [vp_cell_i, vp_cell_i, arrV_store]
  congr 2
  funext q
  rw [jI_cl hx]
  by_cases hq : q = x.toNat
  · subst hq
    simp [updV]
  · simp [updV, hq]
theorem i_aast (hexec : p.tables.exec = Jvm.exec) (hb : c.code = cc) (hK : va_K g.1 vwCl (tysX g) s) (hC : CW g f h H) (hS : va_S (fun a => lo ≤ a) s.heap H locs) {a N t0 ci v : Nat} (hlo : lo ≤ a) {cA : ClassId} {r : vw_C} {vs : List Value} {F : Nat → Option Nat} (ha : f a = some (.inl (cA, N, .inr (.inr (.inr (.inr F)))))) (ht : (tysX g)[t0]? = some (cA, .object r.1)) (hv : f v = some (.inr (ci, vs))) (hc : vwCl[ci]? = some r) {x : Int} (hx : rg x) (hin : 0 ≤ x ∧ x < (N : Int)) (hdg : decode cc pc = .ok (.aastore, 1))
    (kk : ∀ (H1 : Heap) (locs1 : List Loc), CW g (fup f a (.inl (cA, N, .inr (.inr (.inr (.inr (fun k => if k = x.toNat then some v else F k))))))) h H1 → va_S (fun a => lo ≤ a) s.heap H1 locs1 → W p l e R s m args below meth c H1 locs1 cells slots Q (F0 m (pc + 1) ls rest)) : W p l e R s m args below meth c H locs cells slots Q (F0 m pc ls (.ref v :: .int (jI x) :: .ref a :: rest)) := by
  obtain ⟨r', hr', cellV, g1, g2, g3, -⟩ := hC.2 v _ hv
  have hcls := (hK.1 ci r hc).2
  obtain ⟨kA, comp, k1, k2, k3, -⟩ := (hK.2 t0 _ ht).2
  have hcomp : comp = g.1.1 ci := Option.some.inj (k3.symm.trans hcls.1)
  subst hcomp
  obtain ⟨kC, hkC, -⟩ := hcls.2
  have hj := jI_in hx hin
  refine W.aast hexec hb (hC.2 a _ ha) (fun q h => by cases h) (fun h => by cases h) k1 k2 rfl hkC ⟨fun q => hj (Or.inl q), by show _ < (arrV _ _ _).slots.size; rw [arrV_size]; exact Nat.not_le.mp fun q => hj (Or.inr q)⟩ g1 (fun q h => by rw [g3] at h; cases h) (by rw [g2]; exact hkC) (by rw [g2]; exact va_assign hcls) rfl rfl hdg fun H1 e z oq => ?_
  refine kk H1 _ (hC.set ?_ z oq) (hS.put z oq hlo)
  show H1[a]? = some (vp_cell _ _)
  rw [e]
  rw [vp_cell_q, vp_cell_q, arrV_store]
  congr 2
  funext q
  rw [jI_cl hx]
  by_cases hq : q = x.toNat
  · subst hq
    simp [updV, va_rf]
  · simp [updV, hq]
theorem i_aldq (hexec : p.tables.exec = Jvm.exec) (hb : c.code = cc) (hK : va_K g.1 vwCl (tysX g) s) (hC : CW g f h H) {a N t0 v : Nat} {cA : ClassId} {C : String} {F : Nat → Option Nat} (ha : f a = some (.inl (cA, N, .inr (.inr (.inr (.inr F)))))) (ht : (tysX g)[t0]? = some (cA, .object C)) {x : Int} (hx : rg x) (hin : 0 ≤ x ∧ x < (N : Int)) (hv : F x.toNat = some v) (hdg : decode cc pc = .ok (.aaload, 1))
    (kk : W p l e R s m args below meth c H locs cells slots Q (F0 m (pc + 1) ls (.ref v :: rest))) : W p l e R s m args below meth c H locs cells slots Q (F0 m pc ls (.int (jI x) :: .ref a :: rest)) :=
  va_aldq hexec hb hK (hC.P1 ha) 0 t0 rfl ht (jI_in hx hin) hdg (by rw [jI_cl hx, hv]; exact kk)
theorem i_alen (hexec : p.tables.exec = Jvm.exec) (hb : c.code = cc) (hK : va_K g.1 vwCl (tysX g) s) (hC : CW g f h H) {a t0 : Nat} {cA : ClassId} {x : vp_A} (ha : f a = some (.inl (cA, x))) {ty : FieldType} (ht : (tysX g)[t0]? = some (cA, ty)) {n : Int} (hn : Int32.ofNat x.1 = jI n) (hdg : decode cc pc = .ok (.arraylength, 1))
    (kk : W p l e R s m args below meth c H locs cells slots Q (F0 m (pc + 1) ls (.int (jI n) :: rest))) : W p l e R s m args below meth c H locs cells slots Q (F0 m pc ls (.ref a :: rest)) :=
  va_alen hexec hb hK (hC.P1 ha) 0 t0 rfl ht hn hdg kk
theorem i_end (hexec : p.tables.exec = Jvm.exec) (hb : c.code = cc) (hlocks : meth.locks = false) {f1 : Nat → Option va_E} {n : Nat} (hC : CW g f h H) (hf : ∀ a e, f1 a = some e → f a = some e) (hh : h = lo + n) (hS : va_S (fun a => lo ≤ a) s.heap H locs) {mc ms : Nat} (hc1 : cells ≤ mc) (hc2 : slots ≤ ms) (hr : meth.sig.returnType = none) (hdg : decode cc pc = .ok (.return_, 1)) : W p l e R s m args below meth c H locs cells slots (MQ below (va_Qv (fun (_ : Unit) => True) (fun _ t => CW g f1 (lo + n) t.heap) (fun a => lo ≤ a)) args s mc ms (fun a => lo ≤ a)) (F0 m pc ls []) :=
  W.widen hc1 hc2 (W.vret hexec hb hr (fun t ht hW => ⟨⟨(), rfl, trivial, by show CW g f1 (lo + n) t.heap; rw [ht, ← hh]; exact hC.to hf⟩, hS.F ht⟩) hS.2.2 hdg hlocks)
/-- what stands once a constructor has run at the end of the heap -/
theorem CW.made {f1 : Nat → Option va_E} {q n : Nat} {H H1 : Heap} (hC : CW g f (q + 1) H) (h1 : CW g f1 (q + n) H1) (hk : ∀ a : Nat, a < H.size → ¬ q ≤ a → H1[a]? = H[a]?) : CW g (fun a => if q ≤ a then f1 a else f a) (q + n) H1 := by
  refine ⟨h1.1, fun a e ha => ?_⟩
  have ha : (if q ≤ a then f1 a else f a) = some e := ha
  split at ha
  · exact h1.2 a e ha
  · rename_i h2
    exact (hC.2 a e ha).kept (hk a (hC.2 a e ha).lt h2)
theorem i_init (hexec : p.tables.exec = Jvm.exec) (hb : c.code = cc) {nL : Nat} (hml : c.maxLocals = nL) {own : String} (hown : s.vm.findClass own = some m.cls) (hts : ∀ w ∈ wT, w.before args s = true) (hK : va_K g.1 vwCl (tysX g) s) {q : Nat} (hC : CW g f (q + 1) H) (hS : va_S (fun a => lo ≤ a) s.heap H locs) (hlo : lo ≤ q)
    {y : MethodName} {bytes : ByteArray} {maxL : Nat} {rm : Room} {e0 : va_E} {NW : State → Prop} {n : Nat} {f1 : Nat → Option va_E} {mc ms index : Nat} (hM : IC l y bytes maxL rm g q e0 NW n f1 mc ms) (hq : f q = some e0) (hNW : ∀ U : State, s.WarmedH U.vm → NW U) (hNB : ∀ (U : State) (fr : JFrame) (mk : MethodId) (a : Array Value), NW U → NW (U.calling fr mk a))
    (w1 : Cond.methodLink own index y ∈ wT ∨ ∃ host : String, va_Nw (.methodLinkNest own index y host) s) (w2 : Cond.instanceMethod y ∈ wT) (w4 : Cond.initialized y.cls ∈ wT) (w5 : Cond.code y bytes maxL none ∈ wT) (hy1 : y.name = "<init>") (hy : y.cls ≠ "java/lang/invoke/MethodHandle" ∧ y.cls ≠ "java/lang/invoke/VarHandle" ∧ (parseMethodDescriptor y.desc).map (fun d => d.parameters.length) = some 0)
    (hrm : rm.cells = mc ∧ rm.slots = ms) (hroom : rm.frames + 1 ≤ R.frames ∧ 8 + (maxL + 11) + rm.locals ≤ R.locals) (hsz : ls.size = nL) (hst : (rest.map fun v => v.category).sum ≤ 8) (hdg : decode cc pc = .ok (.invokespecial index, 3)) (hcs : cells + mc ≤ R.cells ∧ slots + ms ≤ R.slots)
    (kk : ∀ (H1 : Heap) (locs1 : List Loc), CW g (fun a => if q ≤ a then f1 a else f a) (q + n) H1 → va_S (fun a => lo ≤ a) s.heap H1 locs1 → W p l e R s m args below meth c H1 locs1 (cells + mc) (slots + ms) Q (F0 m (pc + 3) ls rest)) : W p l e R s m args below meth c H locs cells slots Q (F0 m pc ls (.ref q :: rest)) := by
  have hG : GoodIn wT (Cond.code y bytes maxL none :: wT) := fun w hw => (List.mem_cons.mp hw).elim (fun e => by rw [e]; exact ⟨w5, wT_good w5⟩) (fun h => ⟨h, wT_good h⟩)
  have hpre : PreS s H (va_Pc [.ref q] (fun U => U.heap.size = q + 1 ∧ va_at g.1 vwCl (q, e0) U.heap ∧ va_K g.1 vwCl (tysX g) U ∧ NW U)) (.ref q :: []) := by
    refine ⟨fun a U fr mk z => ?_, fun U hU hW => ⟨rfl, by rw [hU]; exact hC.1, by rw [hU]; exact hC.2 q e0 hq, va_K.moved hW.alike hK, hNW U hW⟩⟩
    obtain ⟨z0, z1, z2, z3, z4⟩ := z
    exact ⟨z0, z1, z2, va_K.moved (u := U) (U := U.calling fr mk a) (Vm.Alike.refl U.vm) z3, hNB _ _ _ _ z4⟩
  have hrun : va_Run p l e R s m args below meth c H locs cells slots mc ms (F0 m pc ls (.ref q :: rest)) rest (va_Qv (fun (_ : Unit) => True) (fun _ t => CW g f1 (q + n) t.heap) (fun a => q ≤ a) (Value.ref q :: []).toArray) (fun a => q ≤ a) := by
    rcases w1 with w1 | ⟨host, w1⟩
    · exact va_runI (As := []) (rest := rest) ⟨hexec, hb, hml, hown, hts⟩ hM (cwI 0 hts hG rfl hrm.1 hrm.2 (hts _ w4) (hts _ w1) (hts _ w2) hy1 hy hroom) hpre rfl rfl hsz rfl (lv_room hst) hdg hcs
    · exact va_runIN (As := []) (rest := rest) ⟨hexec, hb, hml, hown, hts⟩ hM ⟨va_cnB 0 hts hG rfl hrm.1 hrm.2 w1 (hts _ w4) hy hroom, hy1, hts _ w2⟩ hpre rfl rfl hsz rfl (lv_room hst) hdg hcs
  refine va_callv hrun hS (fun a _ h => Nat.le_trans hlo h) (fun a h => Nat.le_trans hlo h) (fun u t H1 locs1 ht hvm hw hB hz1 hk1 hS1 => ?_)
  exact kk H1 locs1 (hC.made (by rw [← ht]; exact hB) hk1) hS1
end IR
