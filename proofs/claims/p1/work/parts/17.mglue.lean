def orI (x y : Int) : Int := if x = 0 ∧ y = 0 then 0 else 1
theorem orI_rg (x y : Int) : rg (orI x y) := by unfold orI; split <;> decide
theorem lenM3 {K : Nat} (h : 1 ≤ K ∧ K ≤ 3) : lenM K = 4805 := by
  rcases (show K = 1 ∨ K = 2 ∨ K = 3 by omega) with rfl | rfl | rfl <;> rfl
section ZO
variable {p : Program} {l : Launch} {e : Env} {R : Room} {s : State} {m : MethodId} {args : Array Value} {below : List Frame} {meth : Method} {c : Code} {H : Heap} {locs : List Loc} {cells slots : Nat} {Q : State → Prop}
variable {cc : ByteArray} {pc : Nat} {ls : Array Slot} {rest : List Value}
theorem x_ior (hexec : p.tables.exec = Jvm.exec) (hb : c.code = cc) {x y : Int} (h : (x = 0 ∨ x = 1) ∧ (y = 0 ∨ y = 1)) (hdg : decode cc pc = .ok (.ior, 1)) (k : W p l e R s m args below meth c H locs cells slots Q (F0 m (pc + 1) ls (.int (jI (orI x y)) :: rest))) : W p l e R s m args below meth c H locs cells slots Q (F0 m pc ls (.int (jI y) :: .int (jI x) :: rest)) :=
  lv_ior hexec hb hdg (by
    have e1 : jI x ||| jI y = jI (orI x y) := by
      rcases h with ⟨rfl | rfl, rfl | rfl⟩ <;> decide +kernel
    rw [e1]
    exact k)
end ZO
