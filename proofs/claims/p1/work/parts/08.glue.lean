abbrev FU : Nat := 5000
def xl {α β : Type} (a : α) (f : α → Option β) : Option β := f a
theorem xl_some {α β : Type} {a : α} {f : α → Option β} {o : β} (h : xl a f = some o) : ∃ z, a = z ∧ f z = some o := ⟨a, rfl, h⟩
def xb1 {α β : Type} (x : Option α) (f : α → Option β) : Option β := x.bind f
theorem xb1_some {α β : Type} {x : Option α} {f : α → Option β} {o : β} (h : xb1 x f = some o) : ∃ a, x = some a ∧ f a = some o := xb_some h
def xb2 {α γ β : Type} (x : Option (α × γ)) (f : α → γ → Option β) : Option β := x.bind fun q => f q.1 q.2
theorem xb2_some {α γ β : Type} {x : Option (α × γ)} {f : α → γ → Option β} {o : β} (h : xb2 x f = some o) : ∃ a c, x = some (a, c) ∧ f a c = some o := by
  obtain ⟨⟨a, c⟩, h1, h2⟩ := xb_some h
  exact ⟨a, c, h1, h2⟩
theorem lt1 {i : Nat} (h : okK 1 i) : i < 3 := by unfold okK at h; omega
theorem lt2 {i : Nat} (h : okK 2 i) : i < 99 := by unfold okK at h; omega
theorem lt11 {i : Nat} (h : okK 11 i) : i < 6 := by unfold okK at h; omega
section XG
variable {p : Program} {l : Launch} {e : Env} {R : Room} {s : State} {m : MethodId} {args : Array Value} {below : List Frame} {meth : Method} {c : Code} {H : Heap} {locs : List Loc} {cells slots : Nat} {Q : State → Prop}
variable {cc : ByteArray} {pc : Nat} {ls : Array Slot} {rest : List Value}
theorem x_ldc (hexec : p.tables.exec = Jvm.exec) (hb : c.code = cc) {own : String} {index : Nat} {v : Int32} {n : Int} (hown : s.vm.findClass own = some m.cls) (hconst : (Jvm.Cond.constant own index v).before args s = true) (hv : v = jI n) (hdg : decode cc pc = .ok (.ldc index, 2)) (k : W p l e R s m args below meth c H locs cells slots Q (F0 m (pc + 2) ls (.int (jI n) :: rest))) : W p l e R s m args below meth c H locs cells slots Q (F0 m pc ls rest) := lv_ldc hexec hb hown hconst hdg (by rw [hv]; exact k)
theorem x_ldc_w (hexec : p.tables.exec = Jvm.exec) (hb : c.code = cc) {own : String} {index : Nat} {v : Int32} {n : Int} (hown : s.vm.findClass own = some m.cls) (hconst : (Jvm.Cond.constant own index v).before args s = true) (hv : v = jI n) (hdg : decode cc pc = .ok (.ldc_w index, 3)) (k : W p l e R s m args below meth c H locs cells slots Q (F0 m (pc + 3) ls (.int (jI n) :: rest))) : W p l e R s m args below meth c H locs cells slots Q (F0 m pc ls rest) := lv_ldcw hexec hb hown hconst hdg (by rw [hv]; exact k)
end XG
