/-! THE LAW'S START: the classes' numbers, the two objects, the two rows -/
theorem rowK {s : State} {ty : FieldType} (hT : ∀ C, ty ≠ .object C) (h : ∃ (c : ClassId) (k : Class) (comp : ClassId), s.vm.findClass ("[" ++ ty.toString) = some c ∧ s.vm.classes[c]? = some k ∧ k.kind = .array comp ty) : ∃ c : ClassId, ArrOfT s c ty ∧ va_RA s c ty := by
  obtain ⟨c, k, comp, h1, h2, h3⟩ := h
  refine ⟨c, fun n z => ⟨(fun k h => by cases h), k, h2, comp, h3⟩, ?_⟩
  cases ty <;> first | exact h1 | exact absurd rfl (hT _)
theorem rowQ {s : State} {C : String} (h : va_AO C s) : ∃ c : ClassId, ArrOfT s c (.object C) ∧ va_RA s c (.object C) := by
  obtain ⟨comp, c, k, h1, -, h2, h3, h4⟩ := Cond.arrayOver_spec h
  exact ⟨c, fun n z => ⟨(fun k h => by cases h), k, h2, comp, h3⟩, k, comp, h2, h3, h1, h4⟩
set_option maxRecDepth 100000 in
theorem law_g {s : State} {args : Array Value} (hts : ∀ w ∈ lw_tbl, w.before args s = true) (hN : va_AO "JournalDisk$Node" s) (hH : va_AO "JournalDisk$Handle" s) : ∃ g : Gx, va_K g.1 vwCl (tysX g) s := by
  have ht : ∀ w ∈ wT, w.before args s = true := fun w h => hts w (wT_in w h)
  obtain ⟨c0, i0, k0⟩ := u_known (n := 4) ht inX0 (ht _ wd118)
  obtain ⟨c1, i1, k1⟩ := u_known (n := 12) ht inX1 (ht _ wd30)
  obtain ⟨c2, i2, k2⟩ := u_known (n := 8) ht inX2 (ht _ wd23)
  obtain ⟨c3, i3, k3⟩ := u_known (n := 9) ht inX3 (ht _ wd15)
  obtain ⟨c4, i4, k4⟩ := u_known (n := 14) ht inX4 (ht _ wd1107)
  obtain ⟨a0, r0⟩ := rowK (ty := .int) (fun C q => by cases q) (Cond.arrayClass_spec (ht _ wd88))
  obtain ⟨a3, r3⟩ := rowK (ty := .boolean) (fun C q => by cases q) (Cond.arrayClass_spec (ht _ wd1267))
  obtain ⟨a4, r4⟩ := rowK (ty := .long) (fun C q => by cases q) (Cond.arrayClass_spec (ht _ wd115))
  obtain ⟨a5, r5⟩ := rowK (ty := .double) (fun C q => by cases q) (Cond.arrayClass_spec (ht _ wd1666))
  obtain ⟨a1, r1⟩ := rowQ hN
  obtain ⟨a2, r2⟩ := rowQ hH
  refine ⟨((fun k => match k with | 0 => c0 | 1 => c1 | 2 => c2 | 3 => c3 | _ => c4, fun k => match k with | 0 => i0 | 1 => i1 | 2 => i2 | 3 => i3 | _ => i4), fun k => match k with | 0 => a0 | 1 => a1 | 2 => a2 | 3 => a3 | 4 => a4 | _ => a5), ?_, ?_⟩
  · intro k q hq
    match k, hq with
    | 0, hq => cases hq; exact k0
    | 1, hq => cases hq; exact k1
    | 2, hq => cases hq; exact k2
    | 3, hq => cases hq; exact k3
    | 4, hq => cases hq; exact k4
    | k + 5, hq => simp [vwCl] at hq
  · intro k q hq
    match k, hq with
    | 0, hq => cases hq; exact r0
    | 1, hq => cases hq; exact r1
    | 2, hq => cases hq; exact r2
    | 3, hq => cases hq; exact r3
    | 4, hq => cases hq; exact r4
    | 5, hq => cases hq; exact r5
    | k + 6, hq => simp [tysX, tysE] at hq
