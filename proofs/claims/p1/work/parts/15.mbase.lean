/-! THE REFERENCE'S MEMORY: the object (kind 0) and its six rows (1 now, 2 kept, 3 made, 4 node, 5 position, 6 lock), one behind another; beside it the rows that a call makes for itself -/
def jL (x : Int) : Int64 := Int64.ofInt x
def lenM (K : Nat) : Nat := match K with
  | 0 => 0
  | 1 => 4805
  | 2 => 4805
  | 3 => 4805
  | 4 => 6
  | 5 => 6
  | _ => 1920
def celM (g : Gx) (b : Nat) (M : Mm) (K : Nat) : va_E := match K with
  | 0 => .inr (4, [.ref (b + 1), .ref (b + 2), .ref (b + 3), .ref (b + 4), .ref (b + 5), .ref (b + 6), .int (jI (M 0 0 6)), .int (jI (M 0 0 7)), .int (jI (M 0 0 8)), .int (jI (M 0 0 9)), .int (jI (M 0 0 10)), .int (jI (M 0 0 11)), .int (jI (M 0 0 12)), .long (jL (M 0 0 13))])
  | K + 1 => .inl (g.2 0, lenM (K + 1), .inl (fun k => jI (M (K + 1) 0 k)))
theorem celM_arr {g : Gx} {b : Nat} {M : Mm} {K : Nat} (h : 1 ≤ K) : celM g b M K = .inl (g.2 0, lenM K, .inl (fun k => jI (M K 0 k))) := by
  match K, h with
  | K + 1, _ => rfl
theorem celM_congr {g : Gx} {b : Nat} {M M' : Mm} {K : Nat} (h : ∀ k, M' K 0 k = M K 0 k) : celM g b M' K = celM g b M K := by
  match K, h with
  | 0, h => simp only [celM, h]
  | K + 1, h => simp only [celM, h]
abbrev dyE : Type := Nat × (Nat × (Nat × (Nat → Int)))
def dyc (g : Gx) (q : dyE) : Cell := vp_cell (g.2 q.2.1) (q.2.2.1, .inl (fun k => jI (q.2.2.2 k)))
def DYN (g : Gx) (b : Nat) (ws : List dyE) (H : Heap) : Prop := (∀ (k : Nat) (q : dyE), ws[k]? = some q → b ≤ q.1 ∧ H[q.1]? = some (dyc g q) ∧ ∀ k, rg (q.2.2.2 k)) ∧ ∀ (i j : Nat) (p q : dyE), ws[i]? = some p → ws[j]? = some q → p.1 = q.1 → i = j
def Rem (g : Gx) (b : Nat) (M : Mm) (ws : List dyE) (H : Heap) : Prop := (∀ K, K < 7 → va_at g.1 vwCl (b + K, celM g b M K) H) ∧ (∀ K k, (1 ≤ K ∨ k ≠ 13) → rg (M K 0 k)) ∧ DYN g (b + 7) ws H
theorem DYN.nil {g : Gx} {b : Nat} {H : Heap} : DYN g b [] H := ⟨fun k q h => by simp at h, fun i j p q h => by simp at h⟩
theorem DYN.kept {g : Gx} {b : Nat} {ws : List dyE} {H H1 : Heap} (h : DYN g b ws H) (hq : ∀ (k : Nat) (q : dyE), ws[k]? = some q → H1[q.1]? = H[q.1]?) : DYN g b ws H1 := ⟨fun k q hk => ⟨(h.1 k q hk).1, (hq k q hk).trans (h.1 k q hk).2.1, (h.1 k q hk).2.2⟩, h.2⟩
theorem DYN.lt {g : Gx} {b : Nat} {ws : List dyE} {H : Heap} (h : DYN g b ws H) {k : Nat} {q : dyE} (hk : ws[k]? = some q) : q.1 < H.size := (Array.getElem?_eq_some_iff.mp (h.1 k q hk).2.1).1
theorem DYN.set {g : Gx} {b : Nat} {ws : List dyE} {H H1 : Heap} (h : DYN g b ws H) {p : Nat} {q e : dyE} (hp : ws[p]? = some q) (he : e.1 = q.1) (hc : H1[q.1]? = some (dyc g e)) (hr : ∀ k, rg (e.2.2.2 k)) (oq : ∀ a : Nat, a ≠ q.1 → H1[a]? = H[a]?) : DYN g b (ws.set p e) H1 := by
  have hl := (List.getElem?_eq_some_iff.mp hp).1
  have key : ∀ (k : Nat) (x : dyE), (ws.set p e)[k]? = some x → ∃ x0, ws[k]? = some x0 ∧ x0.1 = x.1 := by
    intro k x hk
    by_cases hkp : k = p
    · subst hkp
      rw [List.getElem?_set_self hl] at hk
      cases hk
      exact ⟨_, hp, he.symm⟩
    · rw [List.getElem?_set_ne (Ne.symm hkp)] at hk
      exact ⟨x, hk, rfl⟩
  refine ⟨fun k x hk => ?_, fun i j x y hi hj hxy => ?_⟩
  · by_cases hkp : k = p
    · subst hkp
      rw [List.getElem?_set_self hl] at hk
      cases hk
      exact ⟨by rw [he]; exact (h.1 k q hp).1, by rw [he]; exact hc, hr⟩
    · rw [List.getElem?_set_ne (Ne.symm hkp)] at hk
      obtain ⟨h1, h2, h3⟩ := h.1 k x hk
      exact ⟨h1, (oq x.1 (fun z => hkp (h.2 k p x q hk hp z))).trans h2, h3⟩
  · obtain ⟨x0, h1, h2⟩ := key i x hi
    obtain ⟨y0, h3, h4⟩ := key j y hj
    exact h.2 i j x0 y0 h1 h3 (h2.trans (hxy.trans h4.symm))
theorem DYN.push {g : Gx} {b : Nat} {ws : List dyE} {H H1 : Heap} (h : DYN g b ws H) {e : dyE} (he : e.1 = H.size) (hb : b ≤ H.size) (hc : H1[H.size]? = some (dyc g e)) (hr : ∀ k, rg (e.2.2.2 k)) (oq : ∀ a : Nat, a < H.size → H1[a]? = H[a]?) : DYN g b (ws ++ [e]) H1 := by
  have key : ∀ (k : Nat) (x : dyE), (ws ++ [e])[k]? = some x → (ws[k]? = some x ∧ x.1 < H.size) ∨ (k = ws.length ∧ x = e) := by
    intro k x hk
    by_cases hl : k < ws.length
    · rw [List.getElem?_append_left hl] at hk
      exact Or.inl ⟨hk, h.lt hk⟩
    · rw [List.getElem?_append_right (by omega)] at hk
      have hz : k - ws.length < 1 := (List.getElem?_eq_some_iff.mp hk).1
      have hk0 : k = ws.length := by omega
      subst hk0
      rw [Nat.sub_self] at hk
      cases hk
      exact Or.inr ⟨rfl, rfl⟩
  refine ⟨fun k x hk => ?_, fun i j x y hi hj hxy => ?_⟩
  · rcases key k x hk with ⟨h1, l1⟩ | ⟨-, rfl⟩
    · obtain ⟨a1, a2, a3⟩ := h.1 k x h1
      exact ⟨a1, (oq _ l1).trans a2, a3⟩
    · exact ⟨by rw [he]; exact hb, by rw [he]; exact hc, hr⟩
  · rcases key i x hi with ⟨h1, l1⟩ | ⟨h1, rfl⟩ <;> rcases key j y hj with ⟨h2, l2⟩ | ⟨h2, rfl⟩
    · exact h.2 i j x y h1 h2 hxy
    · omega
    · omega
    · omega
theorem Rem.P1 {g : Gx} {b : Nat} {M : Mm} {ws : List dyE} {H : Heap} (h : Rem g b M ws H) {K : Nat} (ok : K < 7) : va_P g.1 vwCl [(b + K, celM g b M K)] H := by
  intro k q hq
  match k, hq with
  | 0, hq => cases hq; exact h.1 K ok
  | k + 1, hq => simp at hq
theorem Rem.lt {g : Gx} {b : Nat} {M : Mm} {ws : List dyE} {H : Heap} (h : Rem g b M ws H) : b + 7 ≤ H.size := by
  have := (h.1 6 (by decide)).lt
  exact this
theorem Rem.set {g : Gx} {b : Nat} {M M' : Mm} {ws : List dyE} {H H1 : Heap} {K : Nat} (h : Rem g b M ws H) (ok : K < 7) (hat : va_at g.1 vwCl (b + K, celM g b M' K) H1) (oq : ∀ q : Nat, q ≠ b + K → H1[q]? = H[q]?) (hM : ∀ K' k', ¬ K' = K → M' K' 0 k' = M K' 0 k') (hr : ∀ K k, (1 ≤ K ∨ k ≠ 13) → rg (M' K 0 k)) : Rem g b M' ws H1 := by
  refine ⟨fun K' ok' => ?_, hr, h.2.2.kept fun k q hk => oq q.1 (by have := (h.2.2.1 k q hk).1; omega)⟩
  by_cases hq : K' = K
  · subst hq
    exact hat
  · rw [celM_congr (fun k => hM K' k hq)]
    exact (h.1 K' ok').kept (oq _ (by omega))
theorem Rem.none {g : Gx} {b : Nat} {M : Mm} {ws : List dyE} {H : Heap} (h : Rem g b M ws H) : Rem g b M [] H := ⟨h.1, h.2.1, DYN.nil⟩
theorem mupM_ne {M : Mm} {K k : Nat} {v : Int} : ∀ K' k', ¬ K' = K → mup M K 0 k v K' 0 k' = M K' 0 k' := by
  intro K' k' h
  unfold mup
  rw [if_neg (fun q => h q.1)]
theorem mupM_rg {M : Mm} {K k : Nat} {v : Int} (h : ∀ K k, (1 ≤ K ∨ k ≠ 13) → rg (M K 0 k)) (hv : rg v) : ∀ K' k', (1 ≤ K' ∨ k' ≠ 13) → rg (mup M K 0 k v K' 0 k') := by
  intro K' k' q
  unfold mup
  split
  · exact hv
  · exact h _ _ q
theorem mupM_rgd {M : Mm} {v : Int} (h : ∀ K k, (1 ≤ K ∨ k ≠ 13) → rg (M K 0 k)) : ∀ K' k', (1 ≤ K' ∨ k' ≠ 13) → rg (mup M 0 0 13 v K' 0 k') := by
  intro K' k' q
  unfold mup
  rw [if_neg (by omega)]
  exact h _ _ q
theorem mcpM_ne {M : Mm} {K sp K2 dp n : Nat} : ∀ K' k', ¬ K' = K2 → mcp M K 0 sp K2 0 dp n K' 0 k' = M K' 0 k' := by
  intro K' k' h
  unfold mcp
  rw [if_neg (fun q => h q.1)]
theorem mcpM_rg {M : Mm} {K sp K2 dp n : Nat} (hK : 1 ≤ K) (h : ∀ K k, (1 ≤ K ∨ k ≠ 13) → rg (M K 0 k)) : ∀ K' k', (1 ≤ K' ∨ k' ≠ 13) → rg (mcp M K 0 sp K2 0 dp n K' 0 k') := by
  intro K' k' q
  unfold mcp
  split
  · exact h _ _ (Or.inl hK)
  · exact h _ _ q
def AM (b sz : Nat) : Nat → Prop := fun q => (b ≤ q ∧ q < b + 7) ∨ sz ≤ q
theorem AM_ok {b sz K : Nat} (h : K < 7) : AM b sz (b + K) := Or.inl ⟨by omega, by omega⟩
theorem AM_mono {b sz sz' : Nat} (h : sz ≤ sz') : ∀ q, AM b sz' q → AM b sz q := fun q hq => hq.elim Or.inl (fun z => Or.inr (Nat.le_trans h z))
def Wm (g : Gx) (b : Nat) (M : Mm) (U : State) : Prop := Rem g b M [] U.heap ∧ va_K g.1 vwCl (tysX g) U
abbrev pI (g : Gx) (b : Nat) (r : Int) (M : Mm) (sz : Nat) : Array Value → State → Outcome → State → Prop := va_Qi (fun (x : Int32) (_ : Unit) => x = jI r ∧ rg r) (fun _ t => Wm g b M t) (AM b sz)
abbrev pL (g : Gx) (b : Nat) (r : Int64) (M : Mm) (sz : Nat) : Array Value → State → Outcome → State → Prop := va_Ql (fun (x : Int64) (_ : Unit) => x = r) (fun _ t => Wm g b M t) (AM b sz)
abbrev pV (g : Gx) (b : Nat) (M : Mm) (sz : Nat) : Array Value → State → Outcome → State → Prop := va_Qv (fun (_ : Unit) => True) (fun _ t => Wm g b M t) (AM b sz)
/-- a row of its own comes back: n places of the array class kd, holding f -/
abbrev pY (g : Gx) (b kd n : Nat) (f : Nat → Int) (M : Mm) (sz : Nat) : Array Value → State → Outcome → State → Prop := va_Qr (fun (_ : Unit) => True) (fun _ a t => sz ≤ a ∧ Rem g b M [(a, kd, n, f)] t.heap ∧ va_K g.1 vwCl (tysX g) t) (AM b sz)
def Cm (l : Launch) (y : MethodName) (bytes : ByteArray) (maxL : Nat) (ret : Option FieldType) (rm : Room) (g : Gx) (b : Nat) (av : List Value) (M : Mm) (ws : List dyE) (mc ms : Nat) (Qf : Nat → Array Value → State → Outcome → State → Prop) : Prop :=
  ∀ sz : Nat, Met l y (Cond.code y bytes maxL ret :: wT) rm (va_Pc av (fun U => U.heap.size = sz ∧ Rem g b M ws U.heap ∧ va_K g.1 vwCl (tysX g) U)) (Qf sz) mc ms (AM b sz)
theorem cm_blind {g : Gx} {b : Nat} {M : Mm} {ws : List dyE} {av : List Value} {sz : Nat} : FrameBlind (va_Pc av (fun U => U.heap.size = sz ∧ Rem g b M ws U.heap ∧ va_K g.1 vwCl (tysX g) U)) :=
  fun a U fr mk q => by obtain ⟨q0, q1, q2, q3⟩ := q; exact ⟨q0, q1, q2, va_K.moved (u := U) (U := U.calling fr mk a) (Vm.Alike.refl U.vm) q3⟩
/-- behind a call: the caller's own rows are as they were -/
theorem Rem.back {g : Gx} {b : Nat} {M M' : Mm} {ws wc : List dyE} {H H1 : Heap} (h : Rem g b M ws H) (h1 : Rem g b M' wc H1) (hk : ∀ q : Nat, q < H.size → ¬ AM b H.size q → H1[q]? = H[q]?) : Rem g b M' ws H1 := by
  refine ⟨h1.1, h1.2.1, h.2.2.kept fun k q hq => ?_⟩
  have hl := h.2.2.lt hq
  refine hk q.1 hl (fun z => ?_)
  have := (h.2.2.1 k q hq).1
  rcases z with z | z <;> omega
section YR
variable {p : Program} {l : Launch} {e : Env} {R : Room} {s : State} {m : MethodId} {args : Array Value} {below : List Frame} {meth : Method} {c : Code} {H : Heap} {locs : List Loc} {cells slots : Nat} {Q : State → Prop}
variable {cc : ByteArray} {pc : Nat} {ls : Array Slot} {rest : List Value} {g : Gx} {b : Nat} {M : Mm} {ws : List dyE}
theorem y_get (hexec : p.tables.exec = Jvm.exec) (hb : c.code = cc) {own : String} {index : Nat} (hts : ∀ w ∈ wT, w.before args s = true) (hown : s.vm.findClass own = some m.cls) (hK : va_K g.1 vwCl (tysX g) s) (hR : Rem g b M ws H) {fs : List Value} (hcell : celM g b M 0 = .inr (4, fs)) (k : Nat) (hk : k < 14) (hlink : Cond.fieldLink own index "JournalDiskModel" (TX4 k).2.1 (TX4 k).2.2.1 ∈ wT) (hsame : ∀ x, s.fieldFound? (TX4 k).1 (TX4 k).2.1 (TX4 k).2.2.1 = some x → s.fieldFound? "JournalDiskModel" (TX4 k).2.1 (TX4 k).2.2.1 = some x) {v : Value} (hv : fs[k]? = some v) (hdg : decode cc pc = .ok (.getfield index, 3))
    (kk : W p l e R s m args below meth c H locs cells slots Q (F0 m (pc + 3) ls (v :: rest))) : W p l e R s m args below meth c H locs cells slots Q (F0 m pc ls (.ref (b + 0) :: rest)) :=
  va_get (ws := [(b + 0, celM g b M 0)]) (ci := 4) (C := RX4) (T := TX4) (N := 14) hexec hb hts inX4 hown hK (hR.P1 (K := 0) (by decide)) 0 (by rw [hcell]; rfl) rfl k hk (hts _ hlink) hsame hv hdg kk
theorem y_put (hexec : p.tables.exec = Jvm.exec) (hb : c.code = cc) {own : String} {index : Nat} (hts : ∀ w ∈ wT, w.before args s = true) (hown : s.vm.findClass own = some m.cls) (hK : va_K g.1 vwCl (tysX g) s) (hR : Rem g b M ws H) {sz : Nat} (hS : va_S (AM b sz) s.heap H locs) {fs : List Value} (hcell : celM g b M 0 = .inr (4, fs)) (k : Nat) (hk : k < 14) (hlink : Cond.fieldLink own index "JournalDiskModel" (TX4 k).2.1 (TX4 k).2.2.1 ∈ wT) (hsame : ∀ x, s.fieldFound? (TX4 k).1 (TX4 k).2.1 (TX4 k).2.2.1 = some x → s.fieldFound? "JournalDiskModel" (TX4 k).2.1 (TX4 k).2.2.1 = some x) (hfin : (TX4 k).2.2.2 = false) {ty : FieldType} {v : Value} (hd : parseFieldDescriptor (TX4 k).2.2.1 = some ty) (hn : narrow ty v = v) (hfit : fits ty v = true) (hl : k < fs.length)
    {M' : Mm} (hnew : celM g b M' 0 = .inr (4, fs.set k v)) (hM : ∀ K' k', ¬ K' = 0 → M' K' 0 k' = M K' 0 k') (hrg : ∀ K k, (1 ≤ K ∨ k ≠ 13) → rg (M' K 0 k)) (hdg : decode cc pc = .ok (.putfield index, 3))
    (kk : ∀ (H1 : Heap) (locs1 : List Loc), Rem g b M' ws H1 → va_S (AM b sz) s.heap H1 locs1 → W p l e R s m args below meth c H1 locs1 cells slots Q (F0 m (pc + 3) ls rest)) : W p l e R s m args below meth c H locs cells slots Q (F0 m pc ls (v :: .ref (b + 0) :: rest)) := by
  have hlk := hts _ hlink
  have hap := va_apart (own := own) (ci := 4) (C := RX4) (T := TX4) (N := 14) hts inX4 tyX4 tyX4_ok nmX4 hK rfl
  have h0 := hR.1 0 (by decide)
  rw [hcell] at h0
  obtain ⟨r, h1, cell, q1, q2, q3, q4⟩ := h0
  have hr : r = (RX4, TX4, 14) := Option.some.inj (h1.symm.trans rfl)
  subst hr
  obtain ⟨hSl, hfc, kC, hkC, hkind⟩ := hK.1 4 (RX4, TX4, 14) rfl
  obtain ⟨cf, kf, fi, f, hi, hsl⟩ := hSl k hk
  have hlay := hts _ (inX4 _ (u_in_lay hk))
  unfold u_lay at hlay
  rw [if_neg (by rw [hfin]; decide)] at hlay
  have hst := (u_facts hfc hkC (u_lays hts inX4 hk) hi).1
  have h6 := u_store hfc hkC hkind hlay hi hd hn hfit
  refine W.putK hexec hb (f := f) ⟨hown, hlk, ⟨_, _, _, hsame _ hi⟩, hst⟩ (by rw [q2]; exact h6) q1 q3 (by rw [hsl]; exact k2_hasslot (q4 k hk)) rfl rfl hdg fun H' e1 e2 e3 => ?_
  rw [hsl] at e1 ⊢
  refine kk H' _ (hR.set (by decide) ?_ e3 hM hrg) (hS.put e2 e3 (AM_ok (by decide)))
  rw [hnew]
  exact ⟨_, rfl, t_OB.to (V := updV (vp_V fs) k v) ⟨_, e1, q2, q3, t_set q4 hap hk v⟩ (fun j _ => vp_updV_set hl v j)⟩
theorem y_iald (hexec : p.tables.exec = Jvm.exec) (hb : c.code = cc) (hK : va_K g.1 vwCl (tysX g) s) (hR : Rem g b M ws H) {K : Nat} (ok : 1 ≤ K ∧ K < 7) {x : Int} (hx : rg x) (hin : 0 ≤ x ∧ x < ((lenM K : Nat) : Int)) (hdg : decode cc pc = .ok (.iaload, 1))
    (kk : W p l e R s m args below meth c H locs cells slots Q (F0 m (pc + 1) ls (.int (jI (M K 0 x.toNat)) :: rest))) : W p l e R s m args below meth c H locs cells slots Q (F0 m pc ls (.int (jI x) :: .ref (b + K) :: rest)) := by
  have hP := hR.P1 ok.2
  rw [celM_arr ok.1] at hP
  exact va_iald hexec hb hK hP 0 0 rfl rfl (jI_in hx hin) hdg (by rw [jI_cl hx]; exact kk)
theorem y_iast (hexec : p.tables.exec = Jvm.exec) (hb : c.code = cc) (hK : va_K g.1 vwCl (tysX g) s) (hR : Rem g b M ws H) {sz : Nat} (hS : va_S (AM b sz) s.heap H locs) {K : Nat} (ok : 1 ≤ K ∧ K < 7) {x v : Int} (hx : rg x) (hv : rg v) (hin : 0 ≤ x ∧ x < ((lenM K : Nat) : Int)) (hdg : decode cc pc = .ok (.iastore, 1))
    (kk : ∀ (H1 : Heap) (locs1 : List Loc), Rem g b (mup M K 0 x.toNat v) ws H1 → va_S (AM b sz) s.heap H1 locs1 → W p l e R s m args below meth c H1 locs1 cells slots Q (F0 m (pc + 1) ls rest)) : W p l e R s m args below meth c H locs cells slots Q (F0 m pc ls (.int (jI v) :: .int (jI x) :: .ref (b + K) :: rest)) := by
  have h0 := hR.1 K ok.2
  rw [celM_arr ok.1] at h0
  refine W.iast hexec hb h0 ((hK.2 0 _ rfl).1 (lenM K) (fun j => .int (jI (M K 0 j)))) (fun q => by cases q) (by show ¬ (jI x < 0 ∨ (arrV _ _ _).slots.size ≤ _); rw [arrV_size]; exact jI_in hx hin) rfl rfl hdg fun H1 e z oq => ?_
  refine kk H1 _ (hR.set ok.2 ?_ oq mupM_ne (mupM_rg hR.2.1 hv)) (hS.put z oq (AM_ok ok.2))
  rw [celM_arr ok.1]
  show H1[b + K]? = some (vp_cell _ _)
  rw [e]
  rw [vp_cell_i, vp_cell_i, arrV_store]
  congr 2
  funext q
  rw [jI_cl hx]
  by_cases hq : q = x.toNat
  · subst hq
    simp [updV, mup]
  · simp [updV, mup, hq]
theorem y_alen (hexec : p.tables.exec = Jvm.exec) (hb : c.code = cc) (hK : va_K g.1 vwCl (tysX g) s) (hR : Rem g b M ws H) {K : Nat} (ok : 1 ≤ K ∧ K < 7) {n : Int} (hn : Int32.ofNat (lenM K) = jI n) (hdg : decode cc pc = .ok (.arraylength, 1))
    (kk : W p l e R s m args below meth c H locs cells slots Q (F0 m (pc + 1) ls (.int (jI n) :: rest))) : W p l e R s m args below meth c H locs cells slots Q (F0 m pc ls (.ref (b + K) :: rest)) := by
  have hP := hR.P1 ok.2
  rw [celM_arr ok.1] at hP
  exact va_alen hexec hb hK hP 0 0 rfl rfl hn hdg kk
/-! rows of a call's own -/
theorem d_new (hexec : p.tables.exec = Jvm.exec) (hb : c.code = cc) {atype : ArrayType} {kd : Nat} {ty : FieldType} (hts : ∀ w ∈ wT, w.before args s = true) (harr : Cond.arrayClass (newarray.typeOf atype) ∈ wT) (hty : newarray.typeOf atype = ty) (hdv : defaultValue ty = .int 0) (hsm : ∀ cA : ClassId, s.vm.findClass ("[" ++ ty.toString) = some cA → cA = g.2 kd) (hR : Rem g b M ws H) {sz : Nat} (hsz : sz ≤ s.heap.size) (hS : va_S (AM b sz) s.heap H locs)
    {n : Int} (hn : rg n) {N : Nat} (hN : n = (N : Int)) (hbytes : N * componentBytes ty ≤ 536870912) (hcells : cells + 1 ≤ R.cells) (hslots : slots + N ≤ R.slots) (hdg : decode cc pc = .ok (.newarray atype, 2))
    (kk : ∀ (q : Nat) (H1 : Heap), s.heap.size ≤ q → Rem g b M (ws ++ [(q, kd, N, fun _ => 0)]) H1 → va_S (AM b sz) s.heap H1 locs → W p l e R s m args below meth c H1 locs (cells + 1) (slots + N) Q (F0 m (pc + 2) ls (.ref q :: rest))) : W p l e R s m args below meth c H locs cells slots Q (F0 m pc ls (.int (jI n) :: rest)) := by
  subst hty
  subst hN
  refine va_newaK hexec hb (hts _ harr) rfl hdg rfl (by rw [← jI_0, jI_lt hn rg_0]; omega) (by rw [jI_cl hn]; rfl) hbytes hcells hslots rfl fun H1 cA e1 z1 o1 hAr hNm => ?_
  have hc := hsm cA hNm
  subst hc
  refine kk H.size H1 hS.1 ⟨fun K ok => (hR.1 K ok).kept (o1 _ (hR.1 K ok).lt), hR.2.1, hR.2.2.push rfl hR.lt ?_ (fun _ => rg_0) o1⟩ ⟨Nat.le_trans hS.1 (by omega), fun x h1 h2 => (o1 x (Nat.lt_of_lt_of_le h1 hS.1)).trans (hS.2.1 x h1 h2), hS.2.2⟩
  rw [e1, hdv]
  unfold dyc
  rw [vp_cell_i]
  simp only [jI_0]
theorem d_ld {bl : Bool} (hexec : p.tables.exec = Jvm.exec) (hb : c.code = cc) (hK : va_K g.1 vwCl (tysX g) s) (hR : Rem g b M ws H) (i : Nat) {q kd n : Nat} {f : Nat → Int} (hi : ws[i]? = some (q, kd, n, f)) (hkd : kd = if bl then 3 else 0) {x : Int} (hx : rg x) (hin : 0 ≤ x ∧ x < (n : Int)) (hdg : decode cc pc = .ok ((if bl then .baload else .iaload), 1))
    (kk : W p l e R s m args below meth c H locs cells slots Q (F0 m (pc + 1) ls (.int (jI (f x.toNat)) :: rest))) : W p l e R s m args below meth c H locs cells slots Q (F0 m pc ls (.int (jI x) :: .ref q :: rest)) := by
  have hP : va_P g.1 vwCl [(q, .inl (g.2 kd, n, .inl (fun k => jI (f k))))] H := by
    intro k z hz
    match k, hz with
    | 0, hz => cases hz; exact (hR.2.2.1 i _ hi).2.1
    | k + 1, hz => simp at hz
  cases bl with
  | true =>
    subst hkd
    exact va_zald hexec hb hK hP 0 3 rfl rfl (jI_in hx hin) hdg (by rw [jI_cl hx]; exact kk)
  | false =>
    subst hkd
    exact va_iald hexec hb hK hP 0 0 rfl rfl (jI_in hx hin) hdg (by rw [jI_cl hx]; exact kk)
end YR
