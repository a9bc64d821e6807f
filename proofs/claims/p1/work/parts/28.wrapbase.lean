/-! THE LAW'S METHODS: each calls one method of the class, and answers 0, or which exception came; what the class answered lies in the row `out` -/
def OL (g : Gx) (o : Nat) (x : Int64) (H : Heap) : Prop := ∃ f : Nat → Int64, H[o]? = some (vp_cell (g.2 4) (1, .inr (.inl f))) ∧ f 0 = x
def OD (g : Gx) (o : Nat) (x : UInt64) (H : Heap) : Prop := ∃ f : Nat → UInt64, H[o]? = some (vp_cell (g.2 5) (1, .inr (.inr (.inr (.inl f))))) ∧ f 0 = x
def OLp (g : Gx) (b o : Nat) (H : Heap) : Prop := (∃ x, OL g o x H) ∧ ¬ AA b H.size o
def ODp (g : Gx) (b o : Nat) (H : Heap) : Prop := (∃ x, OD g o x H) ∧ ¬ AA b H.size o
theorem OL.kept {g : Gx} {o : Nat} {x : Int64} {H H1 : Heap} (h : OL g o x H) (e : H1[o]? = H[o]?) : OL g o x H1 := by
  obtain ⟨f, h1, h2⟩ := h
  exact ⟨f, e.trans h1, h2⟩
theorem OD.kept {g : Gx} {o : Nat} {x : UInt64} {H H1 : Heap} (h : OD g o x H) (e : H1[o]? = H[o]?) : OD g o x H1 := by
  obtain ⟨f, h1, h2⟩ := h
  exact ⟨f, e.trans h1, h2⟩
def AO (b o sz : Nat) : Nat → Prop := fun q => AA b sz q ∨ q = o
theorem AO_S {b o sz : Nat} {H0 H : Heap} {locs : List Loc} (h : va_S (AA b sz) H0 H locs) : va_S (AO b o sz) H0 H locs :=
  ⟨h.1, fun q h1 h2 => h.2.1 q h1 (fun z => h2 (Or.inl z)), fun l hl => Or.inl (h.2.2 l hl)⟩
/-- what passes a handler by -/
def NP (U : State) : Prop := va_Nc (exN 2) (exN 1) U ∧ va_Nc (exN 3) (exN 1) U ∧ va_Nc (exN 3) (exN 2) U
theorem NP.moved {u U : State} (hvm : u.vm.Alike U.vm) (h : NP u) : NP U := ⟨h.1.moved hvm, h.2.1.moved hvm, h.2.2.moved hvm⟩
abbrev wqI (g : Gx) (b : Nat) (k : Int) (M' : Mm) (Post : Heap → Prop) (o sz : Nat) : Array Value → State → Outcome → State → Prop := va_Qi (fun (x : Int32) (_ : Unit) => x = jI k) (fun _ t => Wd g b M' t ∧ Post t.heap) (AO b o sz)
abbrev noX : String → State → State → Prop := vx_X (fun (_ : Unit) => False) (fun _ _ _ => False) (fun _ => False)
/-- a contract of the law's: method y answers k; M' is then the class's memory; 1 cell at most is new -/
def Lt (l : Launch) (y : MethodName) (bytes : ByteArray) (maxL : Nat) (hh : List (Nat × Nat × Nat × Nat)) (rm : Room) (g : Gx) (b o : Nat) (av : List Value) (M : Mm) (Pre : Heap → Prop) (k : Int) (M' : Mm) (Post : Heap → Prop) : Prop :=
  ∀ sz : Nat, vx_Met l y (Cond.codeWith y bytes maxL (some .int) hh :: wT) rm (va_Pc av (fun U => U.heap.size = sz ∧ Wd g b M U ∧ TH b U ∧ NP U ∧ Pre U.heap)) (wqI g b k M' Post o sz) noX 1 6 (AO b o sz)
theorem lt_blind {g : Gx} {b : Nat} {M : Mm} {av : List Value} {sz : Nat} {Pre : Heap → Prop} : FrameBlind (va_Pc av (fun U => U.heap.size = sz ∧ Wd g b M U ∧ TH b U ∧ NP U ∧ Pre U.heap)) :=
  fun a U fr mk q => by obtain ⟨q0, q1, q2, q3, q4, q5⟩ := q; exact ⟨q0, q1, Wd.moved (U := U) (V := U.calling fr mk a) rfl (Vm.Alike.refl U.vm) q2, q3.same rfl rfl, q4.moved (u := U) (Vm.Alike.refl U.vm), q5⟩
theorem lt_of {l : Launch} {y : MethodName} {bytes : ByteArray} {maxL : Nat} {hh : List (Nat × Nat × Nat × Nat)} {rm : Room} {g : Gx} {b o : Nat} {av : List Value} {M : Mm} {Pre : Heap → Prop} {k : Int} {M' : Mm} {Post : Heap → Prop}
    (hy : plainName y.cls = true) (hlen : (lg_sl av).length ≤ maxL)
    (h : ∀ (p : Program) (e : Env) (s : State) (m : MethodId) (args : Array Value) (below : List Frame) (meth : Method) (c : Code), XA p s m meth c args y.cls bytes maxL (some .int) g → TH b s → NP s → Pre s.heap → c.exceptionTable.toList = tableOf hh → Rel g b M s.heap → ∀ ls : Array Slot, lv_has ls maxL (lv_args 0 av) → W p l e rm s m args below meth c s.heap [] 0 0 (vx_MQ below (wqI g b k M' Post o s.heap.size) noX args s 1 6 (AO b o s.heap.size)) (F0 m 0 ls [])) :
    Lt l y bytes maxL hh rm g b o av M Pre k M' Post := by
  intro sz
  refine vx_ofWH (cc := bytes) (maxL := maxL) (ret := some .int) (hh := hh) hy rfl ?_
  intro p e s m args below meth c s₁ B hml hv
  obtain ⟨rfl, hsz, ⟨hR, hK⟩, hTH, hNP, hPre⟩ := hv
  subst hsz
  have hts := atoms_spec (ws := Cond.codeWith y bytes maxL (some .int) hh :: wT) B.pre
  rw [lg_entry_eq]
  exact h p e s m _ below meth c ⟨B.exec, B.bytes, B.returns, B.notSynchronized, hml, findClass_of_methodNamed B.named, fun w hw => hts w (List.mem_cons_of_mem _ hw), hK⟩ hTH hNP hPre (vx_table (x := y) B (hts _ List.mem_cons_self)) hR _ (lv_entry av hlen)
section WR
variable {p : Program} {l : Launch} {e : Env} {R : Room} {s : State} {m : MethodId} {args : Array Value} {below : List Frame} {meth : Method} {c : Code} {H : Heap} {locs : List Loc} {cells slots : Nat} {Q : State → Prop}
variable {cc : ByteArray} {pc : Nat} {ls : Array Slot} {rest : List Value} {g : Gx} {b o : Nat} {M : Mm}
theorem x_wend (hexec : p.tables.exec = Jvm.exec) (hb : c.code = cc) (hlocks : meth.locks = false) (hK : va_K g.1 vwCl (tysX g) s) (hR : Rel g b M H) {Post : Heap → Prop} (hP : Post H) (hS : va_S (AO b o s.heap.size) s.heap H locs) (hr : meth.sig.returnType = some .int) (hc : cells ≤ 1) (hs : slots ≤ 6) {k : Int} (hdg : decode cc pc = .ok (.ireturn, 1)) : W p l e R s m args below meth c H locs cells slots (vx_MQ below (wqI g b k M Post o s.heap.size) noX args s 1 6 (AO b o s.heap.size)) (F0 m pc ls [.int (jI k)]) :=
  W.widen hc hs (vx_ret (W.iret (v := jI k) hexec hb hr (fun t ht hW => ⟨⟨jI k, (), rfl, rfl, ⟨by rw [ht]; exact hR, va_K.moved hW.alike hK⟩, by rw [ht]; exact hP⟩, hS.F ht⟩) hS.2.2 hdg hlocks))
theorem x_wst (hexec : p.tables.exec = Jvm.exec) (hb : c.code = cc) (hK : va_K g.1 vwCl (tysX g) s) (hR : Rel g b M H) (hO : ∃ x, OL g o x H) (hA : ¬ AA b s.heap.size o) (hS : va_S (AO b o s.heap.size) s.heap H locs) {x : Int64} (hdg : decode cc pc = .ok (.lastore, 1))
    (kk : ∀ (H1 : Heap) (locs1 : List Loc), Rel g b M H1 → OL g o x H1 → va_S (AO b o s.heap.size) s.heap H1 locs1 → W p l e R s m args below meth c H1 locs1 cells slots Q (F0 m (pc + 1) ls rest)) : W p l e R s m args below meth c H locs cells slots Q (F0 m pc ls (.long x :: .int (jI 0) :: .ref o :: rest)) := by
  obtain ⟨x0, f, hf, -⟩ := hO
  have hin : vp_in (jI 0) 1 := jI_in rg_0 (by decide)
  refine W.last hexec hb hf ((hK.2 4 (g.2 4, .long) rfl).1 1 (fun j => .long (f j))) (fun q => by cases q) (by show ¬ (jI 0 < 0 ∨ (arrV _ _ _).slots.size ≤ _); rw [arrV_size]; exact hin) rfl rfl hdg fun H1 e z oq => ?_
  refine kk H1 _ ⟨fun K i ok => (hR.1 K i ok).kept (oq _ (fun q => hA (by rw [← q]; exact AA_ok ok))), hR.2⟩ ⟨vp_updL f (jI 0).toNatClampNeg x, ?_, ?_⟩ (hS.put z oq (Or.inr rfl))
  · rw [e]
    rw [vp_cell_l, vp_cell_l, arrV_store]
    congr 2
    funext q
    by_cases hq : q = (jI 0).toNatClampNeg
    · subst hq
      simp [updV, vp_updL]
    · simp [updV, vp_updL, hq]
  · show vp_updL f (jI 0).toNatClampNeg x 0 = x
    rw [show (jI 0).toNatClampNeg = 0 from by decide +kernel]
    simp [vp_updL]
theorem x_wsd (hexec : p.tables.exec = Jvm.exec) (hb : c.code = cc) (hK : va_K g.1 vwCl (tysX g) s) (hR : Rel g b M H) (hO : ∃ x, OD g o x H) (hA : ¬ AA b s.heap.size o) (hS : va_S (AO b o s.heap.size) s.heap H locs) {x : UInt64} (hdg : decode cc pc = .ok (.dastore, 1))
    (kk : ∀ (H1 : Heap) (locs1 : List Loc), Rel g b M H1 → OD g o x H1 → va_S (AO b o s.heap.size) s.heap H1 locs1 → W p l e R s m args below meth c H1 locs1 cells slots Q (F0 m (pc + 1) ls rest)) : W p l e R s m args below meth c H locs cells slots Q (F0 m pc ls (.double x :: .int (jI 0) :: .ref o :: rest)) := by
  obtain ⟨x0, f, hf, -⟩ := hO
  have hin : vp_in (jI 0) 1 := jI_in rg_0 (by decide)
  refine W.dast hexec hb hf ((hK.2 5 (g.2 5, .double) rfl).1 1 (fun j => .double (f j))) (fun q => by cases q) (by show ¬ (jI 0 < 0 ∨ (arrV _ _ _).slots.size ≤ _); rw [arrV_size]; exact hin) rfl rfl hdg fun H1 e z oq => ?_
  refine kk H1 _ ⟨fun K i ok => (hR.1 K i ok).kept (oq _ (fun q => hA (by rw [← q]; exact AA_ok ok))), hR.2⟩ ⟨vf_upd f (jI 0).toNatClampNeg x, ?_, ?_⟩ (hS.put z oq (Or.inr rfl))
  · rw [e]
    rw [vp_cell_d, vp_cell_d, arrV_store]
    congr 2
    funext q
    by_cases hq : q = (jI 0).toNatClampNeg
    · subst hq
      simp [updV, vf_upd]
    · simp [updV, vf_upd, hq]
  · show vf_upd f (jI 0).toNatClampNeg x 0 = x
    rw [show (jI 0).toNatClampNeg = 0 from by decide +kernel]
    simp [vf_upd]
/-- a callee that throws: behind it the throwable lies over the frame -/
theorem x_tC (hexec : p.tables.exec = Jvm.exec) (hb : c.code = cc) {nL : Nat} (hml : c.maxLocals = nL) {own : String} (hown : s.vm.findClass own = some m.cls) (hts : ∀ w ∈ wT, w.before args s = true) (hK : va_K g.1 vwCl (tysX g) s) (hTH : TH b s) (hR : Rel g b M H) (hS : va_S (AA b s.heap.size) s.heap H locs)
    {y : MethodName} {bytes : ByteArray} {maxL : Nat} {ret : Option FieldType} {rm : Room} {As : List Value} {E index : Nat} (hM : Tt l y bytes maxL ret rm g b (.ref (adr b 0 0) :: As) M E)
    (w1 : Cond.methodLink own index y ∈ wT) (w2 : Cond.instanceMethod y ∈ wT) (w3 : Cond.selects RX3 y y ∈ wT) (w4 : Cond.initialized RX3 ∈ wT) (w5 : Cond.code y bytes maxL ret ∈ wT) (hy : y.cls = RX3 ∧ y.cls ≠ "java/lang/invoke/MethodHandle" ∧ y.cls ≠ "java/lang/invoke/VarHandle" ∧ (parseMethodDescriptor y.desc).map (fun d => d.parameters.length) = some As.length)
    (hrm : rm.cells = 1 ∧ rm.slots = 6) (hroom : rm.frames + 1 ≤ R.frames ∧ 8 + (maxL + 11) + rm.locals ≤ R.locals) (hsz : ls.size = nL) (hst : (rest.map fun v => v.category).sum ≤ 8) (hdg : decode cc pc = .ok (.invokevirtual index, 3)) (hcs : 1 ≤ R.cells ∧ 6 ≤ R.slots) {st : List Value} (hst0 : st = As.reverse ++ .ref (adr b 0 0) :: rest)
    (kk : ∀ (H1 : Heap) (locs1 : List Loc) (q : Addr) (ce : Cell), Rel g b M H1 → va_S (AA b s.heap.size) s.heap H1 locs1 → H1[q]? = some ce → ce.vm = .none → s.vm.findClass (exN E) = some ce.cls → vx_W p l e R s m args below meth c H1 locs1 1 6 Q (F0 m pc ls rest) q) :
    W p l e R s m args below meth c H locs 0 0 Q (F0 m pc ls st) := by
  subst hst0
  have hrun := vx_runV (As := As) (rest := rest) (g := F0 m pc ls (As.reverse ++ .ref (adr b 0 0) :: rest)) (locs := locs) (cells := 0) (slots := 0) (below := below) (e := e) (meth := meth) ⟨hexec, hb, hml, hown, hts⟩ (hM H.size) (cwV As.length hts (gV w1 w2 w3 w4 w5) rfl hrm.1 hrm.2 hy hroom) ⟨tt_blind, va_recv (q0 := 0) (ci := 3) (q := (RX3, TX3, 9)) hK (hR.P1 ok0) rfl rfl, fun U hU hW => ⟨rfl, by rw [hU], ⟨by rw [hU]; exact hR, va_K.moved hW.alike hK⟩, hTH.go (by rw [hU]; exact hS) hW⟩⟩ rfl rfl hsz rfl (lv_room hst) hdg ⟨by simpa using hcs.1, by simpa using hcs.2⟩
  intro T hT X
  rcases hrun T hT X with ⟨v, st₀, t, T', L, h0, X', hL, e1, e2, hq, st⟩ | ⟨q, st₀, t, T', L, E9, ce, h0, X', hL, e1, e2, ⟨u, hp, ⟨hE, hW⟩, hF⟩, hce, hcv, hcl, st⟩
  · exact hq.elim
  · obtain ⟨k1, k2, k3⟩ := vx_keep h0 e1 hS (fun q _ h => AA_mono hS.1 q h) (fun q h => AA_mono hS.1 q h) hL hF
    subst hE
    obtain ⟨t2, a1, b1⟩ := kk T'.heap (locs ++ L) q ce (by rw [e1]; exact hW.1) k3 (by rw [e1]; exact hce) hcv hcl T' rfl X'
    exact ⟨t2, st.trans a1, b1⟩
end WR
