/-! EACH CASE, CLOSED -/
theorem lw_pre {g : Gx} {Z q o d : Nat} {M Mr : Mm} {H : Heap} (h : LW g Z q o d M Mr H) : OLp g Z o H := ⟨h.2.2.1, by
  obtain ⟨-, -, -, -, k1, k2, k3, k4⟩ := h
  unfold AA
  omega⟩
theorem lw_preD {g : Gx} {Z q o d : Nat} {M Mr : Mm} {H : Heap} (h : LW g Z q o d M Mr H) : ODp g Z d H := ⟨h.2.2.2.1, by
  obtain ⟨-, -, -, -, k1, k2, k3, k4⟩ := h
  unfold AA
  omega⟩
theorem q_makeFile {p : Program} {l : Launch} (hst : l.stackTraces = false) {e : Env} {S : State} {m : MethodId} {below : List Frame} {meth : Method} {c : Code} {H : Heap} {locs : List Loc} {Q : State → Prop} {ls : Array Slot} {g : Gx} {b L : Nat} {xs : Nat → Int32} (A0 : LA p S m c b L xs g) {q o d : Nat} (hLW : LW g S.heap.size q o d M0 MR H) (hS : va_S (fun a => S.heap.size ≤ a) S.heap H locs) (hl : lv_has ls 9 [(5, .int (jI 0)), (4, .ref d), (3, .ref o), (2, .ref q), (1, .ref S.heap.size), (0, .ref b)]) (hL : 6 ≤ L)
    (kk : ∀ (H1 : Heap) (locs1 : List Loc) (ls1 : Array Slot), va_S (fun a => S.heap.size ≤ a) S.heap H1 locs1 → lv_has ls1 9 [(5, .int (jI 0)), (0, .ref b)] → W p l e room_1 S m #[.ref b] below meth c H1 locs1 (440 + 1 + 2) (25558 + 6 + 233) Q (F0 m 4280 ls1 [])) : W p l e room_1 S m #[.ref b] below meth c H locs 440 25558 Q (F0 m 316 ls []) := by
  rcases p_makeFile ((xs 1).toInt) ((xs 2).toInt) with ⟨r, M', Mr', h1, h2, h3⟩ | ⟨E, r, Mr', h1, h2, h3, h5⟩
  · exact k_makeFile A0 hLW hS hl hL (k := 0) rg_0 (lw_pre hLW) (fun _ _ e h => OL.kept h e) (nL_makeFile (c_X3_makeFile (rg_of _) (rg_of _) h1)) (c_X4_makeFile (rg_of _) (rg_of _) h2) h3 (fun _ _ h => h) kk
  · by_cases e1 : E = 1
    · subst e1
      exact k_makeFile A0 hLW hS hl hL (k := 1) (by decide) (lw_pre hLW) (fun _ _ e h => h.elim fun x h => ⟨x, OL.kept h e⟩) (tL_makeFile_1 (t_X3_makeFile hst (rg_of _) (rg_of _) h1)) (c_X4_makeFile (rg_of _) (rg_of _) h2) h3 (fun h => absurd h (by decide)) kk
    · by_cases e2 : E = 2
      · subst e2
        exact k_makeFile A0 hLW hS hl hL (k := 2) (by decide) (lw_pre hLW) (fun _ _ e h => h.elim fun x h => ⟨x, OL.kept h e⟩) (tL_makeFile_2 (t_X3_makeFile hst (rg_of _) (rg_of _) h1)) (c_X4_makeFile (rg_of _) (rg_of _) h2) h3 (fun h => absurd h (by decide)) kk
      · by_cases e3 : E = 3
        · subst e3
          exact k_makeFile A0 hLW hS hl hL (k := 3) (by decide) (lw_pre hLW) (fun _ _ e h => h.elim fun x h => ⟨x, OL.kept h e⟩) (tL_makeFile_3 (t_X3_makeFile hst (rg_of _) (rg_of _) h1)) (c_X4_makeFile (rg_of _) (rg_of _) h2) h3 (fun h => absurd h (by decide)) kk
        · exact absurd (show (if E = 1 then (1 : Int) else if E = 2 then (2 : Int) else if E = 3 then (3 : Int) else 0) = 0 from by simp only [e1, e2, e3, if_false]) h5
theorem q_makeFolder {p : Program} {l : Launch} (hst : l.stackTraces = false) {e : Env} {S : State} {m : MethodId} {below : List Frame} {meth : Method} {c : Code} {H : Heap} {locs : List Loc} {Q : State → Prop} {ls : Array Slot} {g : Gx} {b L : Nat} {xs : Nat → Int32} (A0 : LA p S m c b L xs g) {q o d : Nat} (hLW : LW g S.heap.size q o d M0 MR H) (hS : va_S (fun a => S.heap.size ≤ a) S.heap H locs) (hl : lv_has ls 9 [(5, .int (jI 0)), (4, .ref d), (3, .ref o), (2, .ref q), (1, .ref S.heap.size), (0, .ref b)]) (hL : 6 ≤ L)
    (kk : ∀ (H1 : Heap) (locs1 : List Loc) (ls1 : Array Slot), va_S (fun a => S.heap.size ≤ a) S.heap H1 locs1 → lv_has ls1 9 [(5, .int (jI 0)), (0, .ref b)] → W p l e room_1 S m #[.ref b] below meth c H1 locs1 (440 + 1 + 2) (25558 + 6 + 233) Q (F0 m 4280 ls1 [])) : W p l e room_1 S m #[.ref b] below meth c H locs 440 25558 Q (F0 m 384 ls []) := by
  rcases p_makeFolder ((xs 1).toInt) ((xs 2).toInt) with ⟨r, M', Mr', h1, h2, h3⟩ | ⟨E, r, Mr', h1, h2, h3, h5⟩
  · exact k_makeFolder A0 hLW hS hl hL (k := 0) rg_0 (lw_pre hLW) (fun _ _ e h => OL.kept h e) (nL_makeFolder (c_X3_makeFolder (rg_of _) (rg_of _) h1)) (c_X4_makeFolder (rg_of _) (rg_of _) h2) h3 (fun _ _ h => h) kk
  · by_cases e1 : E = 1
    · subst e1
      exact k_makeFolder A0 hLW hS hl hL (k := 1) (by decide) (lw_pre hLW) (fun _ _ e h => h.elim fun x h => ⟨x, OL.kept h e⟩) (tL_makeFolder_1 (t_X3_makeFolder hst (rg_of _) (rg_of _) h1)) (c_X4_makeFolder (rg_of _) (rg_of _) h2) h3 (fun h => absurd h (by decide)) kk
    · by_cases e2 : E = 2
      · subst e2
        exact k_makeFolder A0 hLW hS hl hL (k := 2) (by decide) (lw_pre hLW) (fun _ _ e h => h.elim fun x h => ⟨x, OL.kept h e⟩) (tL_makeFolder_2 (t_X3_makeFolder hst (rg_of _) (rg_of _) h1)) (c_X4_makeFolder (rg_of _) (rg_of _) h2) h3 (fun h => absurd h (by decide)) kk
      · by_cases e3 : E = 3
        · subst e3
          exact k_makeFolder A0 hLW hS hl hL (k := 3) (by decide) (lw_pre hLW) (fun _ _ e h => h.elim fun x h => ⟨x, OL.kept h e⟩) (tL_makeFolder_3 (t_X3_makeFolder hst (rg_of _) (rg_of _) h1)) (c_X4_makeFolder (rg_of _) (rg_of _) h2) h3 (fun h => absurd h (by decide)) kk
        · exact absurd (show (if E = 1 then (1 : Int) else if E = 2 then (2 : Int) else if E = 3 then (3 : Int) else 0) = 0 from by simp only [e1, e2, e3, if_false]) h5
theorem q_makeLink {p : Program} {l : Launch} (hst : l.stackTraces = false) {e : Env} {S : State} {m : MethodId} {below : List Frame} {meth : Method} {c : Code} {H : Heap} {locs : List Loc} {Q : State → Prop} {ls : Array Slot} {g : Gx} {b L : Nat} {xs : Nat → Int32} (A0 : LA p S m c b L xs g) {q o d : Nat} (hLW : LW g S.heap.size q o d M0 MR H) (hS : va_S (fun a => S.heap.size ≤ a) S.heap H locs) (hl : lv_has ls 9 [(5, .int (jI 0)), (4, .ref d), (3, .ref o), (2, .ref q), (1, .ref S.heap.size), (0, .ref b)]) (hL : 6 ≤ L)
    (kk : ∀ (H1 : Heap) (locs1 : List Loc) (ls1 : Array Slot), va_S (fun a => S.heap.size ≤ a) S.heap H1 locs1 → lv_has ls1 9 [(5, .int (jI 0)), (0, .ref b)] → W p l e room_1 S m #[.ref b] below meth c H1 locs1 (440 + 1 + 2) (25558 + 6 + 233) Q (F0 m 4280 ls1 [])) : W p l e room_1 S m #[.ref b] below meth c H locs 440 25558 Q (F0 m 452 ls []) := by
  rcases p_makeLink ((xs 1).toInt) ((xs 2).toInt) ((xs 3).toInt) ((xs 4).toInt) ((xs 5).toInt) with ⟨r, M', Mr', h1, h2, h3⟩ | ⟨E, r, Mr', h1, h2, h3, h5⟩
  · exact k_makeLink A0 hLW hS hl hL (k := 0) rg_0 (lw_pre hLW) (fun _ _ e h => OL.kept h e) (nL_makeLink (c_X3_makeLink (rg_of _) (rg_of _) (rg_of _) (rg_of _) (rg_of _) h1)) (c_X4_makeLink (rg_of _) (rg_of _) (rg_of _) (rg_of _) (rg_of _) h2) h3 (fun _ _ h => h) kk
  · by_cases e1 : E = 1
    · subst e1
      exact k_makeLink A0 hLW hS hl hL (k := 1) (by decide) (lw_pre hLW) (fun _ _ e h => h.elim fun x h => ⟨x, OL.kept h e⟩) (tL_makeLink_1 (t_X3_makeLink hst (rg_of _) (rg_of _) (rg_of _) (rg_of _) (rg_of _) h1)) (c_X4_makeLink (rg_of _) (rg_of _) (rg_of _) (rg_of _) (rg_of _) h2) h3 (fun h => absurd h (by decide)) kk
    · by_cases e2 : E = 2
      · subst e2
        exact k_makeLink A0 hLW hS hl hL (k := 2) (by decide) (lw_pre hLW) (fun _ _ e h => h.elim fun x h => ⟨x, OL.kept h e⟩) (tL_makeLink_2 (t_X3_makeLink hst (rg_of _) (rg_of _) (rg_of _) (rg_of _) (rg_of _) h1)) (c_X4_makeLink (rg_of _) (rg_of _) (rg_of _) (rg_of _) (rg_of _) h2) h3 (fun h => absurd h (by decide)) kk
      · by_cases e3 : E = 3
        · subst e3
          exact k_makeLink A0 hLW hS hl hL (k := 3) (by decide) (lw_pre hLW) (fun _ _ e h => h.elim fun x h => ⟨x, OL.kept h e⟩) (tL_makeLink_3 (t_X3_makeLink hst (rg_of _) (rg_of _) (rg_of _) (rg_of _) (rg_of _) h1)) (c_X4_makeLink (rg_of _) (rg_of _) (rg_of _) (rg_of _) (rg_of _) h2) h3 (fun h => absurd h (by decide)) kk
        · exact absurd (show (if E = 1 then (1 : Int) else if E = 2 then (2 : Int) else if E = 3 then (3 : Int) else 0) = 0 from by simp only [e1, e2, e3, if_false]) h5
theorem q_cloneFile {p : Program} {l : Launch} (hst : l.stackTraces = false) {e : Env} {S : State} {m : MethodId} {below : List Frame} {meth : Method} {c : Code} {H : Heap} {locs : List Loc} {Q : State → Prop} {ls : Array Slot} {g : Gx} {b L : Nat} {xs : Nat → Int32} (A0 : LA p S m c b L xs g) {q o d : Nat} (hLW : LW g S.heap.size q o d M0 MR H) (hS : va_S (fun a => S.heap.size ≤ a) S.heap H locs) (hl : lv_has ls 9 [(5, .int (jI 0)), (4, .ref d), (3, .ref o), (2, .ref q), (1, .ref S.heap.size), (0, .ref b)]) (hL : 6 ≤ L)
    (kk : ∀ (H1 : Heap) (locs1 : List Loc) (ls1 : Array Slot), va_S (fun a => S.heap.size ≤ a) S.heap H1 locs1 → lv_has ls1 9 [(5, .int (jI 0)), (0, .ref b)] → W p l e room_1 S m #[.ref b] below meth c H1 locs1 (440 + 1 + 2) (25558 + 6 + 233) Q (F0 m 4280 ls1 [])) : W p l e room_1 S m #[.ref b] below meth c H locs 440 25558 Q (F0 m 556 ls []) := by
  rcases p_cloneFile ((xs 1).toInt) ((xs 2).toInt) ((xs 3).toInt) with ⟨r, M', Mr', h1, h2, h3⟩ | ⟨E, r, Mr', h1, h2, h3, h5⟩
  · exact k_cloneFile A0 hLW hS hl hL (k := 0) rg_0 (lw_pre hLW) (fun _ _ e h => OL.kept h e) (nL_cloneFile (c_X3_cloneFile (rg_of _) (rg_of _) (rg_of _) h1)) (c_X4_cloneFile (rg_of _) (rg_of _) (rg_of _) h2) h3 (fun _ _ h => h) kk
  · by_cases e1 : E = 1
    · subst e1
      exact k_cloneFile A0 hLW hS hl hL (k := 1) (by decide) (lw_pre hLW) (fun _ _ e h => h.elim fun x h => ⟨x, OL.kept h e⟩) (tL_cloneFile_1 (t_X3_cloneFile hst (rg_of _) (rg_of _) (rg_of _) h1)) (c_X4_cloneFile (rg_of _) (rg_of _) (rg_of _) h2) h3 (fun h => absurd h (by decide)) kk
    · by_cases e2 : E = 2
      · subst e2
        exact k_cloneFile A0 hLW hS hl hL (k := 2) (by decide) (lw_pre hLW) (fun _ _ e h => h.elim fun x h => ⟨x, OL.kept h e⟩) (tL_cloneFile_2 (t_X3_cloneFile hst (rg_of _) (rg_of _) (rg_of _) h1)) (c_X4_cloneFile (rg_of _) (rg_of _) (rg_of _) h2) h3 (fun h => absurd h (by decide)) kk
      · by_cases e3 : E = 3
        · subst e3
          exact k_cloneFile A0 hLW hS hl hL (k := 3) (by decide) (lw_pre hLW) (fun _ _ e h => h.elim fun x h => ⟨x, OL.kept h e⟩) (tL_cloneFile_3 (t_X3_cloneFile hst (rg_of _) (rg_of _) (rg_of _) h1)) (c_X4_cloneFile (rg_of _) (rg_of _) (rg_of _) h2) h3 (fun h => absurd h (by decide)) kk
        · exact absurd (show (if E = 1 then (1 : Int) else if E = 2 then (2 : Int) else if E = 3 then (3 : Int) else 0) = 0 from by simp only [e1, e2, e3, if_false]) h5
theorem q_addName {p : Program} {l : Launch} (hst : l.stackTraces = false) {e : Env} {S : State} {m : MethodId} {below : List Frame} {meth : Method} {c : Code} {H : Heap} {locs : List Loc} {Q : State → Prop} {ls : Array Slot} {g : Gx} {b L : Nat} {xs : Nat → Int32} (A0 : LA p S m c b L xs g) {q o d : Nat} (hLW : LW g S.heap.size q o d M0 MR H) (hS : va_S (fun a => S.heap.size ≤ a) S.heap H locs) (hl : lv_has ls 9 [(5, .int (jI 0)), (4, .ref d), (3, .ref o), (2, .ref q), (1, .ref S.heap.size), (0, .ref b)]) (hL : 6 ≤ L)
    (kk : ∀ (H1 : Heap) (locs1 : List Loc) (ls1 : Array Slot), va_S (fun a => S.heap.size ≤ a) S.heap H1 locs1 → lv_has ls1 9 [(5, .int (jI 0)), (0, .ref b)] → W p l e room_1 S m #[.ref b] below meth c H1 locs1 (440 + 1 + 2) (25558 + 6 + 233) Q (F0 m 4280 ls1 [])) : W p l e room_1 S m #[.ref b] below meth c H locs 440 25558 Q (F0 m 636 ls []) := by
  rcases p_addName ((xs 1).toInt) ((xs 2).toInt) ((xs 3).toInt) with ⟨r, M', Mr', h1, h2, h3⟩ | ⟨E, r, Mr', h1, h2, h3, h5⟩
  · exact k_addName A0 hLW hS hl hL (k := 0) rg_0 (lw_pre hLW) (fun _ _ e h => OL.kept h e) (nL_addName (c_X3_addName (rg_of _) (rg_of _) (rg_of _) h1)) (c_X4_addName (rg_of _) (rg_of _) (rg_of _) h2) h3 (fun _ _ h => h) kk
  · by_cases e1 : E = 1
    · subst e1
      exact k_addName A0 hLW hS hl hL (k := 1) (by decide) (lw_pre hLW) (fun _ _ e h => h.elim fun x h => ⟨x, OL.kept h e⟩) (tL_addName_1 (t_X3_addName hst (rg_of _) (rg_of _) (rg_of _) h1)) (c_X4_addName (rg_of _) (rg_of _) (rg_of _) h2) h3 (fun h => absurd h (by decide)) kk
    · by_cases e2 : E = 2
      · subst e2
        exact k_addName A0 hLW hS hl hL (k := 2) (by decide) (lw_pre hLW) (fun _ _ e h => h.elim fun x h => ⟨x, OL.kept h e⟩) (tL_addName_2 (t_X3_addName hst (rg_of _) (rg_of _) (rg_of _) h1)) (c_X4_addName (rg_of _) (rg_of _) (rg_of _) h2) h3 (fun h => absurd h (by decide)) kk
      · by_cases e3 : E = 3
        · subst e3
          exact k_addName A0 hLW hS hl hL (k := 3) (by decide) (lw_pre hLW) (fun _ _ e h => h.elim fun x h => ⟨x, OL.kept h e⟩) (tL_addName_3 (t_X3_addName hst (rg_of _) (rg_of _) (rg_of _) h1)) (c_X4_addName (rg_of _) (rg_of _) (rg_of _) h2) h3 (fun h => absurd h (by decide)) kk
        · exact absurd (show (if E = 1 then (1 : Int) else if E = 2 then (2 : Int) else if E = 3 then (3 : Int) else 0) = 0 from by simp only [e1, e2, e3, if_false]) h5
theorem q_unlink {p : Program} {l : Launch} (hst : l.stackTraces = false) {e : Env} {S : State} {m : MethodId} {below : List Frame} {meth : Method} {c : Code} {H : Heap} {locs : List Loc} {Q : State → Prop} {ls : Array Slot} {g : Gx} {b L : Nat} {xs : Nat → Int32} (A0 : LA p S m c b L xs g) {q o d : Nat} (hLW : LW g S.heap.size q o d M0 MR H) (hS : va_S (fun a => S.heap.size ≤ a) S.heap H locs) (hl : lv_has ls 9 [(5, .int (jI 0)), (4, .ref d), (3, .ref o), (2, .ref q), (1, .ref S.heap.size), (0, .ref b)]) (hL : 6 ≤ L)
    (kk : ∀ (H1 : Heap) (locs1 : List Loc) (ls1 : Array Slot), va_S (fun a => S.heap.size ≤ a) S.heap H1 locs1 → lv_has ls1 9 [(5, .int (jI 0)), (0, .ref b)] → W p l e room_1 S m #[.ref b] below meth c H1 locs1 (440 + 1 + 0) (25558 + 6 + 0) Q (F0 m 4280 ls1 [])) : W p l e room_1 S m #[.ref b] below meth c H locs 440 25558 Q (F0 m 716 ls []) := by
  rcases p_unlink ((xs 1).toInt) ((xs 2).toInt) with ⟨r, M', Mr', h1, h2, h3⟩ | ⟨E, r, Mr', h1, h2, h3, h5⟩
  · exact k_unlink A0 hLW hS hl hL (k := 0) rg_0 (lw_pre hLW) (fun _ _ e h => OL.kept h e) (nL_unlink (c_X3_unlink (rg_of _) (rg_of _) h1)) (c_X4_unlink (rg_of _) (rg_of _) h2) h3 (fun _ _ h => h) kk
  · by_cases e1 : E = 1
    · subst e1
      exact k_unlink A0 hLW hS hl hL (k := 1) (by decide) (lw_pre hLW) (fun _ _ e h => h.elim fun x h => ⟨x, OL.kept h e⟩) (tL_unlink_1 (t_X3_unlink hst (rg_of _) (rg_of _) h1)) (c_X4_unlink (rg_of _) (rg_of _) h2) h3 (fun h => absurd h (by decide)) kk
    · by_cases e2 : E = 2
      · subst e2
        exact k_unlink A0 hLW hS hl hL (k := 2) (by decide) (lw_pre hLW) (fun _ _ e h => h.elim fun x h => ⟨x, OL.kept h e⟩) (tL_unlink_2 (t_X3_unlink hst (rg_of _) (rg_of _) h1)) (c_X4_unlink (rg_of _) (rg_of _) h2) h3 (fun h => absurd h (by decide)) kk
      · by_cases e3 : E = 3
        · subst e3
          exact k_unlink A0 hLW hS hl hL (k := 3) (by decide) (lw_pre hLW) (fun _ _ e h => h.elim fun x h => ⟨x, OL.kept h e⟩) (tL_unlink_3 (t_X3_unlink hst (rg_of _) (rg_of _) h1)) (c_X4_unlink (rg_of _) (rg_of _) h2) h3 (fun h => absurd h (by decide)) kk
        · exact absurd (show (if E = 1 then (1 : Int) else if E = 2 then (2 : Int) else if E = 3 then (3 : Int) else 0) = 0 from by simp only [e1, e2, e3, if_false]) h5
theorem q_removeFolder {p : Program} {l : Launch} (hst : l.stackTraces = false) {e : Env} {S : State} {m : MethodId} {below : List Frame} {meth : Method} {c : Code} {H : Heap} {locs : List Loc} {Q : State → Prop} {ls : Array Slot} {g : Gx} {b L : Nat} {xs : Nat → Int32} (A0 : LA p S m c b L xs g) {q o d : Nat} (hLW : LW g S.heap.size q o d M0 MR H) (hS : va_S (fun a => S.heap.size ≤ a) S.heap H locs) (hl : lv_has ls 9 [(5, .int (jI 0)), (4, .ref d), (3, .ref o), (2, .ref q), (1, .ref S.heap.size), (0, .ref b)]) (hL : 6 ≤ L)
    (kk : ∀ (H1 : Heap) (locs1 : List Loc) (ls1 : Array Slot), va_S (fun a => S.heap.size ≤ a) S.heap H1 locs1 → lv_has ls1 9 [(5, .int (jI 0)), (0, .ref b)] → W p l e room_1 S m #[.ref b] below meth c H1 locs1 (440 + 1 + 0) (25558 + 6 + 0) Q (F0 m 4280 ls1 [])) : W p l e room_1 S m #[.ref b] below meth c H locs 440 25558 Q (F0 m 784 ls []) := by
  rcases p_removeFolder ((xs 1).toInt) ((xs 2).toInt) with ⟨r, M', Mr', h1, h2, h3⟩ | ⟨E, r, Mr', h1, h2, h3, h5⟩
  · exact k_removeFolder A0 hLW hS hl hL (k := 0) rg_0 (lw_pre hLW) (fun _ _ e h => OL.kept h e) (nL_removeFolder (c_X3_removeFolder (rg_of _) (rg_of _) h1)) (c_X4_removeFolder (rg_of _) (rg_of _) h2) h3 (fun _ _ h => h) kk
  · by_cases e1 : E = 1
    · subst e1
      exact k_removeFolder A0 hLW hS hl hL (k := 1) (by decide) (lw_pre hLW) (fun _ _ e h => h.elim fun x h => ⟨x, OL.kept h e⟩) (tL_removeFolder_1 (t_X3_removeFolder hst (rg_of _) (rg_of _) h1)) (c_X4_removeFolder (rg_of _) (rg_of _) h2) h3 (fun h => absurd h (by decide)) kk
    · by_cases e2 : E = 2
      · subst e2
        exact k_removeFolder A0 hLW hS hl hL (k := 2) (by decide) (lw_pre hLW) (fun _ _ e h => h.elim fun x h => ⟨x, OL.kept h e⟩) (tL_removeFolder_2 (t_X3_removeFolder hst (rg_of _) (rg_of _) h1)) (c_X4_removeFolder (rg_of _) (rg_of _) h2) h3 (fun h => absurd h (by decide)) kk
      · by_cases e3 : E = 3
        · subst e3
          exact k_removeFolder A0 hLW hS hl hL (k := 3) (by decide) (lw_pre hLW) (fun _ _ e h => h.elim fun x h => ⟨x, OL.kept h e⟩) (tL_removeFolder_3 (t_X3_removeFolder hst (rg_of _) (rg_of _) h1)) (c_X4_removeFolder (rg_of _) (rg_of _) h2) h3 (fun h => absurd h (by decide)) kk
        · exact absurd (show (if E = 1 then (1 : Int) else if E = 2 then (2 : Int) else if E = 3 then (3 : Int) else 0) = 0 from by simp only [e1, e2, e3, if_false]) h5
theorem q_rename {p : Program} {l : Launch} (hst : l.stackTraces = false) {e : Env} {S : State} {m : MethodId} {below : List Frame} {meth : Method} {c : Code} {H : Heap} {locs : List Loc} {Q : State → Prop} {ls : Array Slot} {g : Gx} {b L : Nat} {xs : Nat → Int32} (A0 : LA p S m c b L xs g) {q o d : Nat} (hLW : LW g S.heap.size q o d M0 MR H) (hS : va_S (fun a => S.heap.size ≤ a) S.heap H locs) (hl : lv_has ls 9 [(5, .int (jI 0)), (4, .ref d), (3, .ref o), (2, .ref q), (1, .ref S.heap.size), (0, .ref b)]) (hL : 6 ≤ L)
    (kk : ∀ (H1 : Heap) (locs1 : List Loc) (ls1 : Array Slot), va_S (fun a => S.heap.size ≤ a) S.heap H1 locs1 → lv_has ls1 9 [(5, .int (jI 0)), (0, .ref b)] → W p l e room_1 S m #[.ref b] below meth c H1 locs1 (440 + 1 + 2) (25558 + 6 + 233) Q (F0 m 4280 ls1 [])) : W p l e room_1 S m #[.ref b] below meth c H locs 440 25558 Q (F0 m 852 ls []) := by
  rcases p_rename ((xs 1).toInt) ((xs 2).toInt) ((xs 3).toInt) ((xs 4).toInt) with ⟨r, M', Mr', h1, h2, h3⟩ | ⟨E, r, Mr', h1, h2, h3, h5⟩
  · exact k_rename A0 hLW hS hl hL (k := 0) rg_0 (lw_pre hLW) (fun _ _ e h => OL.kept h e) (nL_rename (c_X3_rename (rg_of _) (rg_of _) (rg_of _) (rg_of _) h1)) (c_X4_rename (rg_of _) (rg_of _) (rg_of _) (rg_of _) h2) h3 (fun _ _ h => h) kk
  · by_cases e1 : E = 1
    · subst e1
      exact k_rename A0 hLW hS hl hL (k := 1) (by decide) (lw_pre hLW) (fun _ _ e h => h.elim fun x h => ⟨x, OL.kept h e⟩) (tL_rename_1 (t_X3_rename hst (rg_of _) (rg_of _) (rg_of _) (rg_of _) h1)) (c_X4_rename (rg_of _) (rg_of _) (rg_of _) (rg_of _) h2) h3 (fun h => absurd h (by decide)) kk
    · by_cases e2 : E = 2
      · subst e2
        exact k_rename A0 hLW hS hl hL (k := 2) (by decide) (lw_pre hLW) (fun _ _ e h => h.elim fun x h => ⟨x, OL.kept h e⟩) (tL_rename_2 (t_X3_rename hst (rg_of _) (rg_of _) (rg_of _) (rg_of _) h1)) (c_X4_rename (rg_of _) (rg_of _) (rg_of _) (rg_of _) h2) h3 (fun h => absurd h (by decide)) kk
      · by_cases e3 : E = 3
        · subst e3
          exact k_rename A0 hLW hS hl hL (k := 3) (by decide) (lw_pre hLW) (fun _ _ e h => h.elim fun x h => ⟨x, OL.kept h e⟩) (tL_rename_3 (t_X3_rename hst (rg_of _) (rg_of _) (rg_of _) (rg_of _) h1)) (c_X4_rename (rg_of _) (rg_of _) (rg_of _) (rg_of _) h2) h3 (fun h => absurd h (by decide)) kk
        · exact absurd (show (if E = 1 then (1 : Int) else if E = 2 then (2 : Int) else if E = 3 then (3 : Int) else 0) = 0 from by simp only [e1, e2, e3, if_false]) h5
theorem q_exchange {p : Program} {l : Launch} (hst : l.stackTraces = false) {e : Env} {S : State} {m : MethodId} {below : List Frame} {meth : Method} {c : Code} {H : Heap} {locs : List Loc} {Q : State → Prop} {ls : Array Slot} {g : Gx} {b L : Nat} {xs : Nat → Int32} (A0 : LA p S m c b L xs g) {q o d : Nat} (hLW : LW g S.heap.size q o d M0 MR H) (hS : va_S (fun a => S.heap.size ≤ a) S.heap H locs) (hl : lv_has ls 9 [(5, .int (jI 0)), (4, .ref d), (3, .ref o), (2, .ref q), (1, .ref S.heap.size), (0, .ref b)]) (hL : 6 ≤ L)
    (kk : ∀ (H1 : Heap) (locs1 : List Loc) (ls1 : Array Slot), va_S (fun a => S.heap.size ≤ a) S.heap H1 locs1 → lv_has ls1 9 [(5, .int (jI 0)), (0, .ref b)] → W p l e room_1 S m #[.ref b] below meth c H1 locs1 (440 + 1 + 0) (25558 + 6 + 0) Q (F0 m 4280 ls1 [])) : W p l e room_1 S m #[.ref b] below meth c H locs 440 25558 Q (F0 m 944 ls []) := by
  rcases p_exchange ((xs 1).toInt) ((xs 2).toInt) ((xs 3).toInt) ((xs 4).toInt) with ⟨r, M', Mr', h1, h2, h3⟩ | ⟨E, r, Mr', h1, h2, h3, h5⟩
  · exact k_exchange A0 hLW hS hl hL (k := 0) rg_0 (lw_pre hLW) (fun _ _ e h => OL.kept h e) (nL_exchange (c_X3_exchange (rg_of _) (rg_of _) (rg_of _) (rg_of _) h1)) (c_X4_exchange (rg_of _) (rg_of _) (rg_of _) (rg_of _) h2) h3 (fun _ _ h => h) kk
  · by_cases e1 : E = 1
    · subst e1
      exact k_exchange A0 hLW hS hl hL (k := 1) (by decide) (lw_pre hLW) (fun _ _ e h => h.elim fun x h => ⟨x, OL.kept h e⟩) (tL_exchange_1 (t_X3_exchange hst (rg_of _) (rg_of _) (rg_of _) (rg_of _) h1)) (c_X4_exchange (rg_of _) (rg_of _) (rg_of _) (rg_of _) h2) h3 (fun h => absurd h (by decide)) kk
    · by_cases e2 : E = 2
      · subst e2
        exact k_exchange A0 hLW hS hl hL (k := 2) (by decide) (lw_pre hLW) (fun _ _ e h => h.elim fun x h => ⟨x, OL.kept h e⟩) (tL_exchange_2 (t_X3_exchange hst (rg_of _) (rg_of _) (rg_of _) (rg_of _) h1)) (c_X4_exchange (rg_of _) (rg_of _) (rg_of _) (rg_of _) h2) h3 (fun h => absurd h (by decide)) kk
      · by_cases e3 : E = 3
        · subst e3
          exact k_exchange A0 hLW hS hl hL (k := 3) (by decide) (lw_pre hLW) (fun _ _ e h => h.elim fun x h => ⟨x, OL.kept h e⟩) (tL_exchange_3 (t_X3_exchange hst (rg_of _) (rg_of _) (rg_of _) (rg_of _) h1)) (c_X4_exchange (rg_of _) (rg_of _) (rg_of _) (rg_of _) h2) h3 (fun h => absurd h (by decide)) kk
        · exact absurd (show (if E = 1 then (1 : Int) else if E = 2 then (2 : Int) else if E = 3 then (3 : Int) else 0) = 0 from by simp only [e1, e2, e3, if_false]) h5
theorem q_write {p : Program} {l : Launch} (hst : l.stackTraces = false) {e : Env} {S : State} {m : MethodId} {below : List Frame} {meth : Method} {c : Code} {H : Heap} {locs : List Loc} {Q : State → Prop} {ls : Array Slot} {g : Gx} {b L : Nat} {xs : Nat → Int32} (A0 : LA p S m c b L xs g) {q o d : Nat} (hLW : LW g S.heap.size q o d M0 MR H) (hS : va_S (fun a => S.heap.size ≤ a) S.heap H locs) (hl : lv_has ls 9 [(5, .int (jI 0)), (4, .ref d), (3, .ref o), (2, .ref q), (1, .ref S.heap.size), (0, .ref b)]) (hL : 6 ≤ L)
    (kk : ∀ (H1 : Heap) (locs1 : List Loc) (ls1 : Array Slot), va_S (fun a => S.heap.size ≤ a) S.heap H1 locs1 → lv_has ls1 9 [(5, .int (jI 0)), (0, .ref b)] → W p l e room_1 S m #[.ref b] below meth c H1 locs1 (440 + 1 + 2) (25558 + 6 + 233) Q (F0 m 4280 ls1 [])) : W p l e room_1 S m #[.ref b] below meth c H locs 440 25558 Q (F0 m 1036 ls []) := by
  rcases p_write ((xs 1).toInt) ((xs 2).toInt) ((xs 3).toInt) with ⟨r, M', Mr', h1, h2, h3⟩ | ⟨E, r, Mr', h1, h2, h3, h5⟩
  · exact k_write A0 hLW hS hl hL (k := 0) rg_0 (lw_pre hLW) (fun _ _ e h => OL.kept h e) (nL_write (c_X3_write (rg_of _) (rg_of _) (rg_of _) h1)) (c_X4_write (rg_of _) (rg_of _) (rg_of _) h2) h3 (fun _ _ h => h) kk
  · by_cases e1 : E = 1
    · subst e1
      exact k_write A0 hLW hS hl hL (k := 1) (by decide) (lw_pre hLW) (fun _ _ e h => h.elim fun x h => ⟨x, OL.kept h e⟩) (tL_write_1 (t_X3_write hst (rg_of _) (rg_of _) (rg_of _) h1)) (c_X4_write (rg_of _) (rg_of _) (rg_of _) h2) h3 (fun h => absurd h (by decide)) kk
    · by_cases e2 : E = 2
      · subst e2
        exact k_write A0 hLW hS hl hL (k := 2) (by decide) (lw_pre hLW) (fun _ _ e h => h.elim fun x h => ⟨x, OL.kept h e⟩) (tL_write_2 (t_X3_write hst (rg_of _) (rg_of _) (rg_of _) h1)) (c_X4_write (rg_of _) (rg_of _) (rg_of _) h2) h3 (fun h => absurd h (by decide)) kk
      · by_cases e3 : E = 3
        · subst e3
          exact k_write A0 hLW hS hl hL (k := 3) (by decide) (lw_pre hLW) (fun _ _ e h => h.elim fun x h => ⟨x, OL.kept h e⟩) (tL_write_3 (t_X3_write hst (rg_of _) (rg_of _) (rg_of _) h1)) (c_X4_write (rg_of _) (rg_of _) (rg_of _) h2) h3 (fun h => absurd h (by decide)) kk
        · exact absurd (show (if E = 1 then (1 : Int) else if E = 2 then (2 : Int) else if E = 3 then (3 : Int) else 0) = 0 from by simp only [e1, e2, e3, if_false]) h5
theorem q_truncate {p : Program} {l : Launch} (hst : l.stackTraces = false) {e : Env} {S : State} {m : MethodId} {below : List Frame} {meth : Method} {c : Code} {H : Heap} {locs : List Loc} {Q : State → Prop} {ls : Array Slot} {g : Gx} {b L : Nat} {xs : Nat → Int32} (A0 : LA p S m c b L xs g) {q o d : Nat} (hLW : LW g S.heap.size q o d M0 MR H) (hS : va_S (fun a => S.heap.size ≤ a) S.heap H locs) (hl : lv_has ls 9 [(5, .int (jI 0)), (4, .ref d), (3, .ref o), (2, .ref q), (1, .ref S.heap.size), (0, .ref b)]) (hL : 6 ≤ L)
    (kk : ∀ (H1 : Heap) (locs1 : List Loc) (ls1 : Array Slot), va_S (fun a => S.heap.size ≤ a) S.heap H1 locs1 → lv_has ls1 9 [(5, .int (jI 0)), (0, .ref b)] → W p l e room_1 S m #[.ref b] below meth c H1 locs1 (440 + 1 + 2) (25558 + 6 + 233) Q (F0 m 4280 ls1 [])) : W p l e room_1 S m #[.ref b] below meth c H locs 440 25558 Q (F0 m 1116 ls []) := by
  rcases p_truncate ((xs 1).toInt) ((xs 2).toInt) with ⟨r, M', Mr', h1, h2, h3⟩ | ⟨E, r, Mr', h1, h2, h3, h5⟩
  · exact k_truncate A0 hLW hS hl hL (k := 0) rg_0 (lw_pre hLW) (fun _ _ e h => OL.kept h e) (nL_truncate (c_X3_truncate (rg_of _) (rg_of _) h1)) (c_X4_truncate (rg_of _) (rg_of _) h2) h3 (fun _ _ h => h) kk
  · by_cases e1 : E = 1
    · subst e1
      exact k_truncate A0 hLW hS hl hL (k := 1) (by decide) (lw_pre hLW) (fun _ _ e h => h.elim fun x h => ⟨x, OL.kept h e⟩) (tL_truncate_1 (t_X3_truncate hst (rg_of _) (rg_of _) h1)) (c_X4_truncate (rg_of _) (rg_of _) h2) h3 (fun h => absurd h (by decide)) kk
    · by_cases e2 : E = 2
      · subst e2
        exact k_truncate A0 hLW hS hl hL (k := 2) (by decide) (lw_pre hLW) (fun _ _ e h => h.elim fun x h => ⟨x, OL.kept h e⟩) (tL_truncate_2 (t_X3_truncate hst (rg_of _) (rg_of _) h1)) (c_X4_truncate (rg_of _) (rg_of _) h2) h3 (fun h => absurd h (by decide)) kk
      · by_cases e3 : E = 3
        · subst e3
          exact k_truncate A0 hLW hS hl hL (k := 3) (by decide) (lw_pre hLW) (fun _ _ e h => h.elim fun x h => ⟨x, OL.kept h e⟩) (tL_truncate_3 (t_X3_truncate hst (rg_of _) (rg_of _) h1)) (c_X4_truncate (rg_of _) (rg_of _) h2) h3 (fun h => absurd h (by decide)) kk
        · exact absurd (show (if E = 1 then (1 : Int) else if E = 2 then (2 : Int) else if E = 3 then (3 : Int) else 0) = 0 from by simp only [e1, e2, e3, if_false]) h5
theorem q_punch {p : Program} {l : Launch} (hst : l.stackTraces = false) {e : Env} {S : State} {m : MethodId} {below : List Frame} {meth : Method} {c : Code} {H : Heap} {locs : List Loc} {Q : State → Prop} {ls : Array Slot} {g : Gx} {b L : Nat} {xs : Nat → Int32} (A0 : LA p S m c b L xs g) {q o d : Nat} (hLW : LW g S.heap.size q o d M0 MR H) (hS : va_S (fun a => S.heap.size ≤ a) S.heap H locs) (hl : lv_has ls 9 [(5, .int (jI 0)), (4, .ref d), (3, .ref o), (2, .ref q), (1, .ref S.heap.size), (0, .ref b)]) (hL : 6 ≤ L)
    (kk : ∀ (H1 : Heap) (locs1 : List Loc) (ls1 : Array Slot), va_S (fun a => S.heap.size ≤ a) S.heap H1 locs1 → lv_has ls1 9 [(5, .int (jI 0)), (0, .ref b)] → W p l e room_1 S m #[.ref b] below meth c H1 locs1 (440 + 1 + 0) (25558 + 6 + 0) Q (F0 m 4280 ls1 [])) : W p l e room_1 S m #[.ref b] below meth c H locs 440 25558 Q (F0 m 1184 ls []) := by
  rcases p_punch ((xs 1).toInt) ((xs 2).toInt) with ⟨r, M', Mr', h1, h2, h3⟩ | ⟨E, r, Mr', h1, h2, h3, h5⟩
  · exact k_punch A0 hLW hS hl hL (k := 0) rg_0 (lw_pre hLW) (fun _ _ e h => OL.kept h e) (nL_punch (c_X3_punch (rg_of _) (rg_of _) h1)) (c_X4_punch (rg_of _) (rg_of _) h2) h3 (fun _ _ h => h) kk
  · by_cases e1 : E = 1
    · subst e1
      exact k_punch A0 hLW hS hl hL (k := 1) (by decide) (lw_pre hLW) (fun _ _ e h => h.elim fun x h => ⟨x, OL.kept h e⟩) (tL_punch_1 (t_X3_punch hst (rg_of _) (rg_of _) h1)) (c_X4_punch (rg_of _) (rg_of _) h2) h3 (fun h => absurd h (by decide)) kk
    · by_cases e2 : E = 2
      · subst e2
        exact k_punch A0 hLW hS hl hL (k := 2) (by decide) (lw_pre hLW) (fun _ _ e h => h.elim fun x h => ⟨x, OL.kept h e⟩) (tL_punch_2 (t_X3_punch hst (rg_of _) (rg_of _) h1)) (c_X4_punch (rg_of _) (rg_of _) h2) h3 (fun h => absurd h (by decide)) kk
      · by_cases e3 : E = 3
        · subst e3
          exact k_punch A0 hLW hS hl hL (k := 3) (by decide) (lw_pre hLW) (fun _ _ e h => h.elim fun x h => ⟨x, OL.kept h e⟩) (tL_punch_3 (t_X3_punch hst (rg_of _) (rg_of _) h1)) (c_X4_punch (rg_of _) (rg_of _) h2) h3 (fun h => absurd h (by decide)) kk
        · exact absurd (show (if E = 1 then (1 : Int) else if E = 2 then (2 : Int) else if E = 3 then (3 : Int) else 0) = 0 from by simp only [e1, e2, e3, if_false]) h5
theorem q_share {p : Program} {l : Launch} (hst : l.stackTraces = false) {e : Env} {S : State} {m : MethodId} {below : List Frame} {meth : Method} {c : Code} {H : Heap} {locs : List Loc} {Q : State → Prop} {ls : Array Slot} {g : Gx} {b L : Nat} {xs : Nat → Int32} (A0 : LA p S m c b L xs g) {q o d : Nat} (hLW : LW g S.heap.size q o d M0 MR H) (hS : va_S (fun a => S.heap.size ≤ a) S.heap H locs) (hl : lv_has ls 9 [(5, .int (jI 0)), (4, .ref d), (3, .ref o), (2, .ref q), (1, .ref S.heap.size), (0, .ref b)]) (hL : 6 ≤ L)
    (kk : ∀ (H1 : Heap) (locs1 : List Loc) (ls1 : Array Slot), va_S (fun a => S.heap.size ≤ a) S.heap H1 locs1 → lv_has ls1 9 [(5, .int (jI 0)), (0, .ref b)] → W p l e room_1 S m #[.ref b] below meth c H1 locs1 (440 + 1 + 2) (25558 + 6 + 233) Q (F0 m 4280 ls1 [])) : W p l e room_1 S m #[.ref b] below meth c H locs 440 25558 Q (F0 m 1252 ls []) := by
  rcases p_share ((xs 1).toInt) ((xs 2).toInt) ((xs 3).toInt) ((xs 4).toInt) with ⟨r, M', Mr', h1, h2, h3⟩ | ⟨E, r, Mr', h1, h2, h3, h5⟩
  · exact k_share A0 hLW hS hl hL (k := 0) rg_0 (lw_pre hLW) (fun _ _ e h => OL.kept h e) (nL_share (c_X3_share (rg_of _) (rg_of _) (rg_of _) (rg_of _) h1)) (c_X4_share (rg_of _) (rg_of _) (rg_of _) (rg_of _) h2) h3 (fun _ _ h => h) kk
  · by_cases e1 : E = 1
    · subst e1
      exact k_share A0 hLW hS hl hL (k := 1) (by decide) (lw_pre hLW) (fun _ _ e h => h.elim fun x h => ⟨x, OL.kept h e⟩) (tL_share_1 (t_X3_share hst (rg_of _) (rg_of _) (rg_of _) (rg_of _) h1)) (c_X4_share (rg_of _) (rg_of _) (rg_of _) (rg_of _) h2) h3 (fun h => absurd h (by decide)) kk
    · by_cases e2 : E = 2
      · subst e2
        exact k_share A0 hLW hS hl hL (k := 2) (by decide) (lw_pre hLW) (fun _ _ e h => h.elim fun x h => ⟨x, OL.kept h e⟩) (tL_share_2 (t_X3_share hst (rg_of _) (rg_of _) (rg_of _) (rg_of _) h1)) (c_X4_share (rg_of _) (rg_of _) (rg_of _) (rg_of _) h2) h3 (fun h => absurd h (by decide)) kk
      · by_cases e3 : E = 3
        · subst e3
          exact k_share A0 hLW hS hl hL (k := 3) (by decide) (lw_pre hLW) (fun _ _ e h => h.elim fun x h => ⟨x, OL.kept h e⟩) (tL_share_3 (t_X3_share hst (rg_of _) (rg_of _) (rg_of _) (rg_of _) h1)) (c_X4_share (rg_of _) (rg_of _) (rg_of _) (rg_of _) h2) h3 (fun h => absurd h (by decide)) kk
        · exact absurd (show (if E = 1 then (1 : Int) else if E = 2 then (2 : Int) else if E = 3 then (3 : Int) else 0) = 0 from by simp only [e1, e2, e3, if_false]) h5
theorem q_setOwner {p : Program} {l : Launch} (hst : l.stackTraces = false) {e : Env} {S : State} {m : MethodId} {below : List Frame} {meth : Method} {c : Code} {H : Heap} {locs : List Loc} {Q : State → Prop} {ls : Array Slot} {g : Gx} {b L : Nat} {xs : Nat → Int32} (A0 : LA p S m c b L xs g) {q o d : Nat} (hLW : LW g S.heap.size q o d M0 MR H) (hS : va_S (fun a => S.heap.size ≤ a) S.heap H locs) (hl : lv_has ls 9 [(5, .int (jI 0)), (4, .ref d), (3, .ref o), (2, .ref q), (1, .ref S.heap.size), (0, .ref b)]) (hL : 6 ≤ L)
    (kk : ∀ (H1 : Heap) (locs1 : List Loc) (ls1 : Array Slot), va_S (fun a => S.heap.size ≤ a) S.heap H1 locs1 → lv_has ls1 9 [(5, .int (jI 0)), (0, .ref b)] → W p l e room_1 S m #[.ref b] below meth c H1 locs1 (440 + 1 + 2) (25558 + 6 + 233) Q (F0 m 4280 ls1 [])) : W p l e room_1 S m #[.ref b] below meth c H locs 440 25558 Q (F0 m 1344 ls []) := by
  rcases p_setOwner ((xs 1).toInt) ((xs 2).toInt) with ⟨r, M', Mr', h1, h2, h3⟩ | ⟨E, r, Mr', h1, h2, h3, h5⟩
  · exact k_setOwner A0 hLW hS hl hL (k := 0) rg_0 (lw_pre hLW) (fun _ _ e h => OL.kept h e) (nL_setOwner (c_X3_setOwner (rg_of _) (rg_of _) h1)) (c_X4_setOwner (rg_of _) (rg_of _) h2) h3 (fun _ _ h => h) kk
  · by_cases e1 : E = 1
    · subst e1
      exact k_setOwner A0 hLW hS hl hL (k := 1) (by decide) (lw_pre hLW) (fun _ _ e h => h.elim fun x h => ⟨x, OL.kept h e⟩) (tL_setOwner_1 (t_X3_setOwner hst (rg_of _) (rg_of _) h1)) (c_X4_setOwner (rg_of _) (rg_of _) h2) h3 (fun h => absurd h (by decide)) kk
    · by_cases e2 : E = 2
      · subst e2
        exact k_setOwner A0 hLW hS hl hL (k := 2) (by decide) (lw_pre hLW) (fun _ _ e h => h.elim fun x h => ⟨x, OL.kept h e⟩) (tL_setOwner_2 (t_X3_setOwner hst (rg_of _) (rg_of _) h1)) (c_X4_setOwner (rg_of _) (rg_of _) h2) h3 (fun h => absurd h (by decide)) kk
      · by_cases e3 : E = 3
        · subst e3
          exact k_setOwner A0 hLW hS hl hL (k := 3) (by decide) (lw_pre hLW) (fun _ _ e h => h.elim fun x h => ⟨x, OL.kept h e⟩) (tL_setOwner_3 (t_X3_setOwner hst (rg_of _) (rg_of _) h1)) (c_X4_setOwner (rg_of _) (rg_of _) h2) h3 (fun h => absurd h (by decide)) kk
        · exact absurd (show (if E = 1 then (1 : Int) else if E = 2 then (2 : Int) else if E = 3 then (3 : Int) else 0) = 0 from by simp only [e1, e2, e3, if_false]) h5
theorem q_setQuota {p : Program} {l : Launch} (hst : l.stackTraces = false) {e : Env} {S : State} {m : MethodId} {below : List Frame} {meth : Method} {c : Code} {H : Heap} {locs : List Loc} {Q : State → Prop} {ls : Array Slot} {g : Gx} {b L : Nat} {xs : Nat → Int32} (A0 : LA p S m c b L xs g) {q o d : Nat} (hLW : LW g S.heap.size q o d M0 MR H) (hS : va_S (fun a => S.heap.size ≤ a) S.heap H locs) (hl : lv_has ls 9 [(5, .int (jI 0)), (4, .ref d), (3, .ref o), (2, .ref q), (1, .ref S.heap.size), (0, .ref b)]) (hL : 6 ≤ L)
    (kk : ∀ (H1 : Heap) (locs1 : List Loc) (ls1 : Array Slot), va_S (fun a => S.heap.size ≤ a) S.heap H1 locs1 → lv_has ls1 9 [(5, .int (jI 0)), (0, .ref b)] → W p l e room_1 S m #[.ref b] below meth c H1 locs1 (440 + 1 + 0) (25558 + 6 + 0) Q (F0 m 4280 ls1 [])) : W p l e room_1 S m #[.ref b] below meth c H locs 440 25558 Q (F0 m 1412 ls []) := by
  rcases p_setQuota ((xs 1).toInt) ((xs 2).toInt) with ⟨r, M', Mr', h1, h2, h3⟩ | ⟨E, r, Mr', h1, h2, h3, h5⟩
  · exact k_setQuota A0 hLW hS hl hL (k := 0) rg_0 (lw_pre hLW) (fun _ _ e h => OL.kept h e) (nL_setQuota (c_X3_setQuota (rg_of _) (rg_of _) h1)) (c_X4_setQuota (rg_of _) (rg_of _) h2) h3 (fun _ _ h => h) kk
  · by_cases e1 : E = 1
    · subst e1
      exact k_setQuota A0 hLW hS hl hL (k := 1) (by decide) (lw_pre hLW) (fun _ _ e h => h.elim fun x h => ⟨x, OL.kept h e⟩) (tL_setQuota_1 (t_X3_setQuota hst (rg_of _) (rg_of _) h1)) (c_X4_setQuota (rg_of _) (rg_of _) h2) h3 (fun h => absurd h (by decide)) kk
    · by_cases e3 : E = 3
      · subst e3
        exact k_setQuota A0 hLW hS hl hL (k := 2) (by decide) (lw_pre hLW) (fun _ _ e h => h.elim fun x h => ⟨x, OL.kept h e⟩) (tL_setQuota_3 (t_X3_setQuota hst (rg_of _) (rg_of _) h1)) (c_X4_setQuota (rg_of _) (rg_of _) h2) h3 (fun h => absurd h (by decide)) kk
      · exact absurd (show (if E = 1 then (1 : Int) else if E = 3 then (2 : Int) else 0) = 0 from by simp only [e1, e3, if_false]) h5
theorem q_open {p : Program} {l : Launch} (hst : l.stackTraces = false) {e : Env} {S : State} {m : MethodId} {below : List Frame} {meth : Method} {c : Code} {H : Heap} {locs : List Loc} {Q : State → Prop} {ls : Array Slot} {g : Gx} {b L : Nat} {xs : Nat → Int32} (A0 : LA p S m c b L xs g) {q o d : Nat} (hLW : LW g S.heap.size q o d M0 MR H) (hS : va_S (fun a => S.heap.size ≤ a) S.heap H locs) (hl : lv_has ls 9 [(5, .int (jI 0)), (4, .ref d), (3, .ref o), (2, .ref q), (1, .ref S.heap.size), (0, .ref b)]) (hL : 6 ≤ L)
    (kk : ∀ (H1 : Heap) (locs1 : List Loc) (ls1 : Array Slot), va_S (fun a => S.heap.size ≤ a) S.heap H1 locs1 → lv_has ls1 9 [(5, .int (jI 0)), (0, .ref b)] → W p l e room_1 S m #[.ref b] below meth c H1 locs1 (440 + 1 + 0) (25558 + 6 + 0) Q (F0 m 4280 ls1 [])) : W p l e room_1 S m #[.ref b] below meth c H locs 440 25558 Q (F0 m 1480 ls []) := by
  rcases p_open ((xs 1).toInt) with ⟨r, M', Mr', h1, h2, h3⟩ | ⟨E, r, Mr', h1, h2, h3, h5⟩
  · exact k_open A0 hLW hS hl hL (k := 0) rg_0 (lw_pre hLW) (fun _ _ e h => OL.kept h e) (nL_open (c_X3_open (rg_of _) h1)) (c_X4_open (rg_of _) h2) h3 (fun _ _ h => h) kk
  · by_cases e1 : E = 1
    · subst e1
      exact k_open A0 hLW hS hl hL (k := 1) (by decide) (lw_pre hLW) (fun _ _ e h => h.elim fun x h => ⟨x, OL.kept h e⟩) (tL_open_1 (t_X3_open hst (rg_of _) h1)) (c_X4_open (rg_of _) h2) h3 (fun h => absurd h (by decide)) kk
    · by_cases e2 : E = 2
      · subst e2
        exact k_open A0 hLW hS hl hL (k := 2) (by decide) (lw_pre hLW) (fun _ _ e h => h.elim fun x h => ⟨x, OL.kept h e⟩) (tL_open_2 (t_X3_open hst (rg_of _) h1)) (c_X4_open (rg_of _) h2) h3 (fun h => absurd h (by decide)) kk
      · exact absurd (show (if E = 1 then (1 : Int) else if E = 2 then (2 : Int) else 0) = 0 from by simp only [e1, e2, if_false]) h5
theorem q_close {p : Program} {l : Launch} (hst : l.stackTraces = false) {e : Env} {S : State} {m : MethodId} {below : List Frame} {meth : Method} {c : Code} {H : Heap} {locs : List Loc} {Q : State → Prop} {ls : Array Slot} {g : Gx} {b L : Nat} {xs : Nat → Int32} (A0 : LA p S m c b L xs g) {q o d : Nat} (hLW : LW g S.heap.size q o d M0 MR H) (hS : va_S (fun a => S.heap.size ≤ a) S.heap H locs) (hl : lv_has ls 9 [(5, .int (jI 0)), (4, .ref d), (3, .ref o), (2, .ref q), (1, .ref S.heap.size), (0, .ref b)]) (hL : 6 ≤ L)
    (kk : ∀ (H1 : Heap) (locs1 : List Loc) (ls1 : Array Slot), va_S (fun a => S.heap.size ≤ a) S.heap H1 locs1 → lv_has ls1 9 [(5, .int (jI 0)), (0, .ref b)] → W p l e room_1 S m #[.ref b] below meth c H1 locs1 (440 + 1 + 0) (25558 + 6 + 0) Q (F0 m 4280 ls1 [])) : W p l e room_1 S m #[.ref b] below meth c H locs 440 25558 Q (F0 m 1536 ls []) := by
  rcases p_close ((xs 1).toInt) with ⟨r, M', Mr', h1, h2, h3⟩ | ⟨E, r, Mr', h1, h2, h3, h5⟩
  · exact k_close A0 hLW hS hl hL (k := 0) rg_0 (lw_pre hLW) (fun _ _ e h => OL.kept h e) (nL_close (c_X3_close (rg_of _) h1)) (c_X4_close (rg_of _) h2) h3 (fun _ _ h => h) kk
  · by_cases e1 : E = 1
    · subst e1
      exact k_close A0 hLW hS hl hL (k := 1) (by decide) (lw_pre hLW) (fun _ _ e h => h.elim fun x h => ⟨x, OL.kept h e⟩) (tL_close_1 (t_X3_close hst (rg_of _) h1)) (c_X4_close (rg_of _) h2) h3 (fun h => absurd h (by decide)) kk
    · by_cases e2 : E = 2
      · subst e2
        exact k_close A0 hLW hS hl hL (k := 2) (by decide) (lw_pre hLW) (fun _ _ e h => h.elim fun x h => ⟨x, OL.kept h e⟩) (tL_close_2 (t_X3_close hst (rg_of _) h1)) (c_X4_close (rg_of _) h2) h3 (fun h => absurd h (by decide)) kk
      · exact absurd (show (if E = 1 then (1 : Int) else if E = 2 then (2 : Int) else 0) = 0 from by simp only [e1, e2, if_false]) h5
theorem q_seek {p : Program} {l : Launch} (hst : l.stackTraces = false) {e : Env} {S : State} {m : MethodId} {below : List Frame} {meth : Method} {c : Code} {H : Heap} {locs : List Loc} {Q : State → Prop} {ls : Array Slot} {g : Gx} {b L : Nat} {xs : Nat → Int32} (A0 : LA p S m c b L xs g) {q o d : Nat} (hLW : LW g S.heap.size q o d M0 MR H) (hS : va_S (fun a => S.heap.size ≤ a) S.heap H locs) (hl : lv_has ls 9 [(5, .int (jI 0)), (4, .ref d), (3, .ref o), (2, .ref q), (1, .ref S.heap.size), (0, .ref b)]) (hL : 6 ≤ L)
    (kk : ∀ (H1 : Heap) (locs1 : List Loc) (ls1 : Array Slot), va_S (fun a => S.heap.size ≤ a) S.heap H1 locs1 → lv_has ls1 9 [(5, .int (jI 0)), (0, .ref b)] → W p l e room_1 S m #[.ref b] below meth c H1 locs1 (440 + 1 + 0) (25558 + 6 + 0) Q (F0 m 4280 ls1 [])) : W p l e room_1 S m #[.ref b] below meth c H locs 440 25558 Q (F0 m 1592 ls []) := by
  rcases p_seek ((xs 1).toInt) ((xs 2).toInt) with ⟨r, M', Mr', h1, h2, h3⟩ | ⟨E, r, Mr', h1, h2, h3, h5⟩
  · exact k_seek A0 hLW hS hl hL (k := 0) rg_0 (lw_pre hLW) (fun _ _ e h => OL.kept h e) (nL_seek (c_X3_seek (rg_of _) (rg_of _) h1)) (c_X4_seek (rg_of _) (rg_of _) h2) h3 (fun _ _ h => h) kk
  · by_cases e1 : E = 1
    · subst e1
      exact k_seek A0 hLW hS hl hL (k := 1) (by decide) (lw_pre hLW) (fun _ _ e h => h.elim fun x h => ⟨x, OL.kept h e⟩) (tL_seek_1 (t_X3_seek hst (rg_of _) (rg_of _) h1)) (c_X4_seek (rg_of _) (rg_of _) h2) h3 (fun h => absurd h (by decide)) kk
    · by_cases e2 : E = 2
      · subst e2
        exact k_seek A0 hLW hS hl hL (k := 2) (by decide) (lw_pre hLW) (fun _ _ e h => h.elim fun x h => ⟨x, OL.kept h e⟩) (tL_seek_2 (t_X3_seek hst (rg_of _) (rg_of _) h1)) (c_X4_seek (rg_of _) (rg_of _) h2) h3 (fun h => absurd h (by decide)) kk
      · by_cases e3 : E = 3
        · subst e3
          exact k_seek A0 hLW hS hl hL (k := 3) (by decide) (lw_pre hLW) (fun _ _ e h => h.elim fun x h => ⟨x, OL.kept h e⟩) (tL_seek_3 (t_X3_seek hst (rg_of _) (rg_of _) h1)) (c_X4_seek (rg_of _) (rg_of _) h2) h3 (fun h => absurd h (by decide)) kk
        · exact absurd (show (if E = 1 then (1 : Int) else if E = 2 then (2 : Int) else if E = 3 then (3 : Int) else 0) = 0 from by simp only [e1, e2, e3, if_false]) h5
theorem q_read {p : Program} {l : Launch} (hst : l.stackTraces = false) {e : Env} {S : State} {m : MethodId} {below : List Frame} {meth : Method} {c : Code} {H : Heap} {locs : List Loc} {Q : State → Prop} {ls : Array Slot} {g : Gx} {b L : Nat} {xs : Nat → Int32} (A0 : LA p S m c b L xs g) {q o d : Nat} (hLW : LW g S.heap.size q o d M0 MR H) (hS : va_S (fun a => S.heap.size ≤ a) S.heap H locs) (hl : lv_has ls 9 [(5, .int (jI 0)), (4, .ref d), (3, .ref o), (2, .ref q), (1, .ref S.heap.size), (0, .ref b)]) (hL : 6 ≤ L)
    (kk : ∀ (H1 : Heap) (locs1 : List Loc) (ls1 : Array Slot), va_S (fun a => S.heap.size ≤ a) S.heap H1 locs1 → lv_has ls1 9 [(5, .int (jI 0)), (0, .ref b)] → W p l e room_1 S m #[.ref b] below meth c H1 locs1 (440 + 1 + 0) (25558 + 6 + 0) Q (F0 m 4280 ls1 [])) : W p l e room_1 S m #[.ref b] below meth c H locs 440 25558 Q (F0 m 1660 ls []) := by
  rcases p_read ((xs 1).toInt) ((xs 2).toInt) with ⟨r, M', Mr', h1, h2, h3⟩ | ⟨E, r, Mr', h1, h2, h3, h5⟩
  · exact k_read A0 hLW hS hl hL (k := 0) rg_0 (lw_pre hLW) (fun _ _ e h => OL.kept h e) (nL_read (c_X3_read (rg_of _) (rg_of _) h1)) (c_X4_read (rg_of _) (rg_of _) h2) h3 (fun _ _ h => h) kk
  · by_cases e1 : E = 1
    · subst e1
      exact k_read A0 hLW hS hl hL (k := 1) (by decide) (lw_pre hLW) (fun _ _ e h => h.elim fun x h => ⟨x, OL.kept h e⟩) (tL_read_1 (t_X3_read hst (rg_of _) (rg_of _) h1)) (c_X4_read (rg_of _) (rg_of _) h2) h3 (fun h => absurd h (by decide)) kk
    · by_cases e2 : E = 2
      · subst e2
        exact k_read A0 hLW hS hl hL (k := 2) (by decide) (lw_pre hLW) (fun _ _ e h => h.elim fun x h => ⟨x, OL.kept h e⟩) (tL_read_2 (t_X3_read hst (rg_of _) (rg_of _) h1)) (c_X4_read (rg_of _) (rg_of _) h2) h3 (fun h => absurd h (by decide)) kk
      · by_cases e3 : E = 3
        · subst e3
          exact k_read A0 hLW hS hl hL (k := 3) (by decide) (lw_pre hLW) (fun _ _ e h => h.elim fun x h => ⟨x, OL.kept h e⟩) (tL_read_3 (t_X3_read hst (rg_of _) (rg_of _) h1)) (c_X4_read (rg_of _) (rg_of _) h2) h3 (fun h => absurd h (by decide)) kk
        · exact absurd (show (if E = 1 then (1 : Int) else if E = 2 then (2 : Int) else if E = 3 then (3 : Int) else 0) = 0 from by simp only [e1, e2, e3, if_false]) h5
theorem q_lock {p : Program} {l : Launch} (hst : l.stackTraces = false) {e : Env} {S : State} {m : MethodId} {below : List Frame} {meth : Method} {c : Code} {H : Heap} {locs : List Loc} {Q : State → Prop} {ls : Array Slot} {g : Gx} {b L : Nat} {xs : Nat → Int32} (A0 : LA p S m c b L xs g) {q o d : Nat} (hLW : LW g S.heap.size q o d M0 MR H) (hS : va_S (fun a => S.heap.size ≤ a) S.heap H locs) (hl : lv_has ls 9 [(5, .int (jI 0)), (4, .ref d), (3, .ref o), (2, .ref q), (1, .ref S.heap.size), (0, .ref b)]) (hL : 6 ≤ L)
    (kk : ∀ (H1 : Heap) (locs1 : List Loc) (ls1 : Array Slot), va_S (fun a => S.heap.size ≤ a) S.heap H1 locs1 → lv_has ls1 9 [(5, .int (jI 0)), (0, .ref b)] → W p l e room_1 S m #[.ref b] below meth c H1 locs1 (440 + 1 + 0) (25558 + 6 + 0) Q (F0 m 4280 ls1 [])) : W p l e room_1 S m #[.ref b] below meth c H locs 440 25558 Q (F0 m 1728 ls []) := by
  rcases p_lock ((xs 1).toInt) ((xs 2).toInt) ((xs 3).toInt) (bz (xs 4).toInt) with ⟨r, M', Mr', h1, h2, h3⟩ | ⟨E, r, Mr', h1, h2, h3, h5⟩
  · exact k_lock A0 hLW hS hl hL (k := 0) rg_0 (lw_pre hLW) (fun _ _ e h => OL.kept h e) (nL_lock (c_X3_lock (rg_of _) (rg_of _) (rg_of _) (bz_rg _) h1)) (c_X4_lock (rg_of _) (rg_of _) (rg_of _) (bz_rg _) h2) h3 (fun _ _ h => h) kk
  · by_cases e1 : E = 1
    · subst e1
      exact k_lock A0 hLW hS hl hL (k := 1) (by decide) (lw_pre hLW) (fun _ _ e h => h.elim fun x h => ⟨x, OL.kept h e⟩) (tL_lock_1 (t_X3_lock hst (rg_of _) (rg_of _) (rg_of _) (bz_rg _) h1)) (c_X4_lock (rg_of _) (rg_of _) (rg_of _) (bz_rg _) h2) h3 (fun h => absurd h (by decide)) kk
    · by_cases e2 : E = 2
      · subst e2
        exact k_lock A0 hLW hS hl hL (k := 2) (by decide) (lw_pre hLW) (fun _ _ e h => h.elim fun x h => ⟨x, OL.kept h e⟩) (tL_lock_2 (t_X3_lock hst (rg_of _) (rg_of _) (rg_of _) (bz_rg _) h1)) (c_X4_lock (rg_of _) (rg_of _) (rg_of _) (bz_rg _) h2) h3 (fun h => absurd h (by decide)) kk
      · by_cases e3 : E = 3
        · subst e3
          exact k_lock A0 hLW hS hl hL (k := 3) (by decide) (lw_pre hLW) (fun _ _ e h => h.elim fun x h => ⟨x, OL.kept h e⟩) (tL_lock_3 (t_X3_lock hst (rg_of _) (rg_of _) (rg_of _) (bz_rg _) h1)) (c_X4_lock (rg_of _) (rg_of _) (rg_of _) (bz_rg _) h2) h3 (fun h => absurd h (by decide)) kk
        · exact absurd (show (if E = 1 then (1 : Int) else if E = 2 then (2 : Int) else if E = 3 then (3 : Int) else 0) = 0 from by simp only [e1, e2, e3, if_false]) h5
theorem q_unlock {p : Program} {l : Launch} (hst : l.stackTraces = false) {e : Env} {S : State} {m : MethodId} {below : List Frame} {meth : Method} {c : Code} {H : Heap} {locs : List Loc} {Q : State → Prop} {ls : Array Slot} {g : Gx} {b L : Nat} {xs : Nat → Int32} (A0 : LA p S m c b L xs g) {q o d : Nat} (hLW : LW g S.heap.size q o d M0 MR H) (hS : va_S (fun a => S.heap.size ≤ a) S.heap H locs) (hl : lv_has ls 9 [(5, .int (jI 0)), (4, .ref d), (3, .ref o), (2, .ref q), (1, .ref S.heap.size), (0, .ref b)]) (hL : 6 ≤ L)
    (kk : ∀ (H1 : Heap) (locs1 : List Loc) (ls1 : Array Slot), va_S (fun a => S.heap.size ≤ a) S.heap H1 locs1 → lv_has ls1 9 [(5, .int (jI 0)), (0, .ref b)] → W p l e room_1 S m #[.ref b] below meth c H1 locs1 (440 + 1 + 0) (25558 + 6 + 0) Q (F0 m 4280 ls1 [])) : W p l e room_1 S m #[.ref b] below meth c H locs 440 25558 Q (F0 m 1843 ls []) := by
  rcases p_unlock ((xs 1).toInt) ((xs 2).toInt) ((xs 3).toInt) with ⟨r, M', Mr', h1, h2, h3⟩ | ⟨E, r, Mr', h1, h2, h3, h5⟩
  · exact k_unlock A0 hLW hS hl hL (k := 0) rg_0 (lw_pre hLW) (fun _ _ e h => OL.kept h e) (nL_unlock (c_X3_unlock (rg_of _) (rg_of _) (rg_of _) h1)) (c_X4_unlock (rg_of _) (rg_of _) (rg_of _) h2) h3 (fun _ _ h => h) kk
  · by_cases e1 : E = 1
    · subst e1
      exact k_unlock A0 hLW hS hl hL (k := 1) (by decide) (lw_pre hLW) (fun _ _ e h => h.elim fun x h => ⟨x, OL.kept h e⟩) (tL_unlock_1 (t_X3_unlock hst (rg_of _) (rg_of _) (rg_of _) h1)) (c_X4_unlock (rg_of _) (rg_of _) (rg_of _) h2) h3 (fun h => absurd h (by decide)) kk
    · by_cases e2 : E = 2
      · subst e2
        exact k_unlock A0 hLW hS hl hL (k := 2) (by decide) (lw_pre hLW) (fun _ _ e h => h.elim fun x h => ⟨x, OL.kept h e⟩) (tL_unlock_2 (t_X3_unlock hst (rg_of _) (rg_of _) (rg_of _) h1)) (c_X4_unlock (rg_of _) (rg_of _) (rg_of _) h2) h3 (fun h => absurd h (by decide)) kk
      · by_cases e3 : E = 3
        · subst e3
          exact k_unlock A0 hLW hS hl hL (k := 3) (by decide) (lw_pre hLW) (fun _ _ e h => h.elim fun x h => ⟨x, OL.kept h e⟩) (tL_unlock_3 (t_X3_unlock hst (rg_of _) (rg_of _) (rg_of _) h1)) (c_X4_unlock (rg_of _) (rg_of _) (rg_of _) h2) h3 (fun h => absurd h (by decide)) kk
        · exact absurd (show (if E = 1 then (1 : Int) else if E = 2 then (2 : Int) else if E = 3 then (3 : Int) else 0) = 0 from by simp only [e1, e2, e3, if_false]) h5
theorem q_whoHinders {p : Program} {l : Launch} (hst : l.stackTraces = false) {e : Env} {S : State} {m : MethodId} {below : List Frame} {meth : Method} {c : Code} {H : Heap} {locs : List Loc} {Q : State → Prop} {ls : Array Slot} {g : Gx} {b L : Nat} {xs : Nat → Int32} (A0 : LA p S m c b L xs g) {q o d : Nat} (hLW : LW g S.heap.size q o d M0 MR H) (hS : va_S (fun a => S.heap.size ≤ a) S.heap H locs) (hl : lv_has ls 9 [(5, .int (jI 0)), (4, .ref d), (3, .ref o), (2, .ref q), (1, .ref S.heap.size), (0, .ref b)]) (hL : 6 ≤ L)
    (kk : ∀ (H1 : Heap) (locs1 : List Loc) (ls1 : Array Slot), va_S (fun a => S.heap.size ≤ a) S.heap H1 locs1 → lv_has ls1 9 [(5, .int (jI 0)), (0, .ref b)] → W p l e room_1 S m #[.ref b] below meth c H1 locs1 (440 + 1 + 0) (25558 + 6 + 0) Q (F0 m 4280 ls1 [])) : W p l e room_1 S m #[.ref b] below meth c H locs 440 25558 Q (F0 m 1923 ls []) := by
  rcases p_whoHinders ((xs 1).toInt) ((xs 2).toInt) ((xs 3).toInt) (bz (xs 4).toInt) with ⟨r, Mr', h1, h2, h3⟩ | ⟨E, r, Mr', h1, h2, h3, h5⟩
  · exact k_whoHinders A0 hLW hS hl hL (k := 0) rg_0 (lw_pre hLW) (fun _ _ e h => OL.kept h e) (nL_whoHinders (c_X3_whoHinders (rg_of _) (rg_of _) (rg_of _) (bz_rg _) h1)) (c_X4_whoHinders (rg_of _) (rg_of _) (rg_of _) (bz_rg _) h2) h3 (fun _ _ h => h) kk
  · by_cases e1 : E = 1
    · subst e1
      exact k_whoHinders A0 hLW hS hl hL (k := 1) (by decide) (lw_pre hLW) (fun _ _ e h => h.elim fun x h => ⟨x, OL.kept h e⟩) (tL_whoHinders_1 (t_X3_whoHinders hst (rg_of _) (rg_of _) (rg_of _) (bz_rg _) h1)) (c_X4_whoHinders (rg_of _) (rg_of _) (rg_of _) (bz_rg _) h2) h3 (fun h => absurd h (by decide)) kk
    · by_cases e2 : E = 2
      · subst e2
        exact k_whoHinders A0 hLW hS hl hL (k := 2) (by decide) (lw_pre hLW) (fun _ _ e h => h.elim fun x h => ⟨x, OL.kept h e⟩) (tL_whoHinders_2 (t_X3_whoHinders hst (rg_of _) (rg_of _) (rg_of _) (bz_rg _) h1)) (c_X4_whoHinders (rg_of _) (rg_of _) (rg_of _) (bz_rg _) h2) h3 (fun h => absurd h (by decide)) kk
      · by_cases e3 : E = 3
        · subst e3
          exact k_whoHinders A0 hLW hS hl hL (k := 3) (by decide) (lw_pre hLW) (fun _ _ e h => h.elim fun x h => ⟨x, OL.kept h e⟩) (tL_whoHinders_3 (t_X3_whoHinders hst (rg_of _) (rg_of _) (rg_of _) (bz_rg _) h1)) (c_X4_whoHinders (rg_of _) (rg_of _) (rg_of _) (bz_rg _) h2) h3 (fun h => absurd h (by decide)) kk
        · exact absurd (show (if E = 1 then (1 : Int) else if E = 2 then (2 : Int) else if E = 3 then (3 : Int) else 0) = 0 from by simp only [e1, e2, e3, if_false]) h5
theorem q_lockRows {p : Program} {l : Launch} (hst : l.stackTraces = false) {e : Env} {S : State} {m : MethodId} {below : List Frame} {meth : Method} {c : Code} {H : Heap} {locs : List Loc} {Q : State → Prop} {ls : Array Slot} {g : Gx} {b L : Nat} {xs : Nat → Int32} (A0 : LA p S m c b L xs g) {q o d : Nat} (hLW : LW g S.heap.size q o d M0 MR H) (hS : va_S (fun a => S.heap.size ≤ a) S.heap H locs) (hl : lv_has ls 9 [(5, .int (jI 0)), (4, .ref d), (3, .ref o), (2, .ref q), (1, .ref S.heap.size), (0, .ref b)]) (hL : 6 ≤ L)
    (kk : ∀ (H1 : Heap) (locs1 : List Loc) (ls1 : Array Slot), va_S (fun a => S.heap.size ≤ a) S.heap H1 locs1 → lv_has ls1 9 [(5, .int (jI 0)), (0, .ref b)] → W p l e room_1 S m #[.ref b] below meth c H1 locs1 (440 + 1 + 0) (25558 + 6 + 0) Q (F0 m 4280 ls1 [])) : W p l e room_1 S m #[.ref b] below meth c H locs 440 25558 Q (F0 m 2031 ls []) := by
  rcases p_lockRows ((xs 1).toInt) with ⟨r, Mr', h1, h2, h3⟩ | ⟨E, r, Mr', h1, h2, h3, h5⟩
  · exact k_lockRows A0 hLW hS hl hL (k := 0) rg_0 (lw_pre hLW) (fun _ _ e h => OL.kept h e) (nL_lockRows (c_X3_lockRows (rg_of _) h1)) (c_X4_lockRows (rg_of _) h2) h3 (fun _ _ h => h) kk
  · by_cases e1 : E = 1
    · subst e1
      exact k_lockRows A0 hLW hS hl hL (k := 1) (by decide) (lw_pre hLW) (fun _ _ e h => h.elim fun x h => ⟨x, OL.kept h e⟩) (tL_lockRows_1 (t_X3_lockRows hst (rg_of _) h1)) (c_X4_lockRows (rg_of _) h2) h3 (fun h => absurd h (by decide)) kk
    · by_cases e2 : E = 2
      · subst e2
        exact k_lockRows A0 hLW hS hl hL (k := 2) (by decide) (lw_pre hLW) (fun _ _ e h => h.elim fun x h => ⟨x, OL.kept h e⟩) (tL_lockRows_2 (t_X3_lockRows hst (rg_of _) h1)) (c_X4_lockRows (rg_of _) h2) h3 (fun h => absurd h (by decide)) kk
      · exact absurd (show (if E = 1 then (1 : Int) else if E = 2 then (2 : Int) else 0) = 0 from by simp only [e1, e2, if_false]) h5
theorem q_lockAt {p : Program} {l : Launch} (hst : l.stackTraces = false) {e : Env} {S : State} {m : MethodId} {below : List Frame} {meth : Method} {c : Code} {H : Heap} {locs : List Loc} {Q : State → Prop} {ls : Array Slot} {g : Gx} {b L : Nat} {xs : Nat → Int32} (A0 : LA p S m c b L xs g) {q o d : Nat} (hLW : LW g S.heap.size q o d M0 MR H) (hS : va_S (fun a => S.heap.size ≤ a) S.heap H locs) (hl : lv_has ls 9 [(5, .int (jI 0)), (4, .ref d), (3, .ref o), (2, .ref q), (1, .ref S.heap.size), (0, .ref b)]) (hL : 6 ≤ L)
    (kk : ∀ (H1 : Heap) (locs1 : List Loc) (ls1 : Array Slot), va_S (fun a => S.heap.size ≤ a) S.heap H1 locs1 → lv_has ls1 9 [(5, .int (jI 0)), (0, .ref b)] → W p l e room_1 S m #[.ref b] below meth c H1 locs1 (440 + 1 + 0) (25558 + 6 + 0) Q (F0 m 4280 ls1 [])) : W p l e room_1 S m #[.ref b] below meth c H locs 440 25558 Q (F0 m 2087 ls []) := by
  rcases p_lockAt ((xs 1).toInt) ((xs 2).toInt) with ⟨r, Mr', h1, h2, h3⟩ | ⟨E, r, Mr', h1, h2, h3, h5⟩
  · exact k_lockAt A0 hLW hS hl hL (k := 0) rg_0 (lw_pre hLW) (fun _ _ e h => OL.kept h e) (nL_lockAt (c_X3_lockAt (rg_of _) (rg_of _) h1)) (c_X4_lockAt (rg_of _) (rg_of _) h2) h3 (fun _ _ h => h) kk
  · by_cases e1 : E = 1
    · subst e1
      exact k_lockAt A0 hLW hS hl hL (k := 1) (by decide) (lw_pre hLW) (fun _ _ e h => h.elim fun x h => ⟨x, OL.kept h e⟩) (tL_lockAt_1 (t_X3_lockAt hst (rg_of _) (rg_of _) h1)) (c_X4_lockAt (rg_of _) (rg_of _) h2) h3 (fun h => absurd h (by decide)) kk
    · by_cases e2 : E = 2
      · subst e2
        exact k_lockAt A0 hLW hS hl hL (k := 2) (by decide) (lw_pre hLW) (fun _ _ e h => h.elim fun x h => ⟨x, OL.kept h e⟩) (tL_lockAt_2 (t_X3_lockAt hst (rg_of _) (rg_of _) h1)) (c_X4_lockAt (rg_of _) (rg_of _) h2) h3 (fun h => absurd h (by decide)) kk
      · by_cases e3 : E = 3
        · subst e3
          exact k_lockAt A0 hLW hS hl hL (k := 3) (by decide) (lw_pre hLW) (fun _ _ e h => h.elim fun x h => ⟨x, OL.kept h e⟩) (tL_lockAt_3 (t_X3_lockAt hst (rg_of _) (rg_of _) h1)) (c_X4_lockAt (rg_of _) (rg_of _) h2) h3 (fun h => absurd h (by decide)) kk
        · exact absurd (show (if E = 1 then (1 : Int) else if E = 2 then (2 : Int) else if E = 3 then (3 : Int) else 0) = 0 from by simp only [e1, e2, e3, if_false]) h5
theorem q_nodeOf {p : Program} {l : Launch} (hst : l.stackTraces = false) {e : Env} {S : State} {m : MethodId} {below : List Frame} {meth : Method} {c : Code} {H : Heap} {locs : List Loc} {Q : State → Prop} {ls : Array Slot} {g : Gx} {b L : Nat} {xs : Nat → Int32} (A0 : LA p S m c b L xs g) {q o d : Nat} (hLW : LW g S.heap.size q o d M0 MR H) (hS : va_S (fun a => S.heap.size ≤ a) S.heap H locs) (hl : lv_has ls 9 [(5, .int (jI 0)), (4, .ref d), (3, .ref o), (2, .ref q), (1, .ref S.heap.size), (0, .ref b)]) (hL : 6 ≤ L)
    (kk : ∀ (H1 : Heap) (locs1 : List Loc) (ls1 : Array Slot), va_S (fun a => S.heap.size ≤ a) S.heap H1 locs1 → lv_has ls1 9 [(5, .int (jI 0)), (0, .ref b)] → W p l e room_1 S m #[.ref b] below meth c H1 locs1 (440 + 1 + 0) (25558 + 6 + 0) Q (F0 m 4280 ls1 [])) : W p l e room_1 S m #[.ref b] below meth c H locs 440 25558 Q (F0 m 2155 ls []) := by
  rcases p_nodeOf ((xs 1).toInt) with ⟨r, Mr', h1, h2, h3⟩ | ⟨E, r, Mr', h1, h2, h3, h5⟩
  · exact k_nodeOf A0 hLW hS hl hL (k := 0) rg_0 (lw_pre hLW) (fun _ _ e h => OL.kept h e) (nL_nodeOf (c_X3_nodeOf (rg_of _) h1)) (c_X4_nodeOf (rg_of _) h2) h3 (fun _ _ h => h) kk
  · by_cases e1 : E = 1
    · subst e1
      exact k_nodeOf A0 hLW hS hl hL (k := 1) (by decide) (lw_pre hLW) (fun _ _ e h => h.elim fun x h => ⟨x, OL.kept h e⟩) (tL_nodeOf_1 (t_X3_nodeOf hst (rg_of _) h1)) (c_X4_nodeOf (rg_of _) h2) h3 (fun h => absurd h (by decide)) kk
    · by_cases e2 : E = 2
      · subst e2
        exact k_nodeOf A0 hLW hS hl hL (k := 2) (by decide) (lw_pre hLW) (fun _ _ e h => h.elim fun x h => ⟨x, OL.kept h e⟩) (tL_nodeOf_2 (t_X3_nodeOf hst (rg_of _) h1)) (c_X4_nodeOf (rg_of _) h2) h3 (fun h => absurd h (by decide)) kk
      · exact absurd (show (if E = 1 then (1 : Int) else if E = 2 then (2 : Int) else 0) = 0 from by simp only [e1, e2, if_false]) h5
theorem q_positionOf {p : Program} {l : Launch} (hst : l.stackTraces = false) {e : Env} {S : State} {m : MethodId} {below : List Frame} {meth : Method} {c : Code} {H : Heap} {locs : List Loc} {Q : State → Prop} {ls : Array Slot} {g : Gx} {b L : Nat} {xs : Nat → Int32} (A0 : LA p S m c b L xs g) {q o d : Nat} (hLW : LW g S.heap.size q o d M0 MR H) (hS : va_S (fun a => S.heap.size ≤ a) S.heap H locs) (hl : lv_has ls 9 [(5, .int (jI 0)), (4, .ref d), (3, .ref o), (2, .ref q), (1, .ref S.heap.size), (0, .ref b)]) (hL : 6 ≤ L)
    (kk : ∀ (H1 : Heap) (locs1 : List Loc) (ls1 : Array Slot), va_S (fun a => S.heap.size ≤ a) S.heap H1 locs1 → lv_has ls1 9 [(5, .int (jI 0)), (0, .ref b)] → W p l e room_1 S m #[.ref b] below meth c H1 locs1 (440 + 1 + 0) (25558 + 6 + 0) Q (F0 m 4280 ls1 [])) : W p l e room_1 S m #[.ref b] below meth c H locs 440 25558 Q (F0 m 2211 ls []) := by
  rcases p_positionOf ((xs 1).toInt) with ⟨r, Mr', h1, h2, h3⟩ | ⟨E, r, Mr', h1, h2, h3, h5⟩
  · exact k_positionOf A0 hLW hS hl hL (k := 0) rg_0 (lw_pre hLW) (fun _ _ e h => OL.kept h e) (nL_positionOf (c_X3_positionOf (rg_of _) h1)) (c_X4_positionOf (rg_of _) h2) h3 (fun _ _ h => h) kk
  · by_cases e1 : E = 1
    · subst e1
      exact k_positionOf A0 hLW hS hl hL (k := 1) (by decide) (lw_pre hLW) (fun _ _ e h => h.elim fun x h => ⟨x, OL.kept h e⟩) (tL_positionOf_1 (t_X3_positionOf hst (rg_of _) h1)) (c_X4_positionOf (rg_of _) h2) h3 (fun h => absurd h (by decide)) kk
    · by_cases e2 : E = 2
      · subst e2
        exact k_positionOf A0 hLW hS hl hL (k := 2) (by decide) (lw_pre hLW) (fun _ _ e h => h.elim fun x h => ⟨x, OL.kept h e⟩) (tL_positionOf_2 (t_X3_positionOf hst (rg_of _) h1)) (c_X4_positionOf (rg_of _) h2) h3 (fun h => absurd h (by decide)) kk
      · exact absurd (show (if E = 1 then (1 : Int) else if E = 2 then (2 : Int) else 0) = 0 from by simp only [e1, e2, if_false]) h5
theorem q_handles {p : Program} {l : Launch} (hst : l.stackTraces = false) {e : Env} {S : State} {m : MethodId} {below : List Frame} {meth : Method} {c : Code} {H : Heap} {locs : List Loc} {Q : State → Prop} {ls : Array Slot} {g : Gx} {b L : Nat} {xs : Nat → Int32} (A0 : LA p S m c b L xs g) {q o d : Nat} (hLW : LW g S.heap.size q o d M0 MR H) (hS : va_S (fun a => S.heap.size ≤ a) S.heap H locs) (hl : lv_has ls 9 [(5, .int (jI 0)), (4, .ref d), (3, .ref o), (2, .ref q), (1, .ref S.heap.size), (0, .ref b)]) (hL : 6 ≤ L)
    (kk : ∀ (H1 : Heap) (locs1 : List Loc) (ls1 : Array Slot), va_S (fun a => S.heap.size ≤ a) S.heap H1 locs1 → lv_has ls1 9 [(5, .int (jI 0)), (0, .ref b)] → W p l e room_1 S m #[.ref b] below meth c H1 locs1 (440 + 1 + 0) (25558 + 6 + 0) Q (F0 m 4280 ls1 [])) : W p l e room_1 S m #[.ref b] below meth c H locs 440 25558 Q (F0 m 2267 ls []) := by
  rcases p_handles  with ⟨r, Mr', h1, h2, h3⟩ | ⟨E, r, Mr', h1, h2, h3, h5⟩
  · exact k_handles A0 hLW hS hl hL (k := 0) rg_0 (lw_pre hLW) (fun _ _ e h => OL.kept h e) (nL_handles (c_X3_handles h1)) (c_X4_handles h2) h3 (fun _ _ h => h) kk
  · by_cases e1 : E = 1
    · subst e1
      exact k_handles A0 hLW hS hl hL (k := 1) (by decide) (lw_pre hLW) (fun _ _ e h => h.elim fun x h => ⟨x, OL.kept h e⟩) (tL_handles_1 (t_X3_handles hst h1)) (c_X4_handles h2) h3 (fun h => absurd h (by decide)) kk
    · exact absurd (show (if E = 1 then (1 : Int) else 0) = 0 from by simp only [e1, if_false]) h5
theorem q_sync {p : Program} {l : Launch} (hst : l.stackTraces = false) {e : Env} {S : State} {m : MethodId} {below : List Frame} {meth : Method} {c : Code} {H : Heap} {locs : List Loc} {Q : State → Prop} {ls : Array Slot} {g : Gx} {b L : Nat} {xs : Nat → Int32} (A0 : LA p S m c b L xs g) {q o d : Nat} (hLW : LW g S.heap.size q o d M0 MR H) (hS : va_S (fun a => S.heap.size ≤ a) S.heap H locs) (hl : lv_has ls 9 [(5, .int (jI 0)), (4, .ref d), (3, .ref o), (2, .ref q), (1, .ref S.heap.size), (0, .ref b)]) (hL : 6 ≤ L)
    (kk : ∀ (H1 : Heap) (locs1 : List Loc) (ls1 : Array Slot), va_S (fun a => S.heap.size ≤ a) S.heap H1 locs1 → lv_has ls1 9 [(5, .int (jI 0)), (0, .ref b)] → W p l e room_1 S m #[.ref b] below meth c H1 locs1 (440 + 1 + 0) (25558 + 6 + 0) Q (F0 m 4280 ls1 [])) : W p l e room_1 S m #[.ref b] below meth c H locs 440 25558 Q (F0 m 2311 ls []) := by
  rcases p_sync  with ⟨r, M', Mr', h1, h2, h3⟩ | ⟨E, r, Mr', h1, h2, h3, h5⟩
  · exact k_sync A0 hLW hS hl hL (k := 0) rg_0 (lw_pre hLW) (fun _ _ e h => OL.kept h e) (nL_sync (c_X3_sync h1)) (c_X4_sync h2) h3 (fun _ _ h => h) kk
  · by_cases e1 : E = 1
    · subst e1
      exact k_sync A0 hLW hS hl hL (k := 1) (by decide) (lw_pre hLW) (fun _ _ e h => h.elim fun x h => ⟨x, OL.kept h e⟩) (tL_sync_1 (t_X3_sync hst h1)) (c_X4_sync h2) h3 (fun h => absurd h (by decide)) kk
    · exact absurd (show (if E = 1 then (1 : Int) else 0) = 0 from by simp only [e1, if_false]) h5
theorem q_flush {p : Program} {l : Launch} (hst : l.stackTraces = false) {e : Env} {S : State} {m : MethodId} {below : List Frame} {meth : Method} {c : Code} {H : Heap} {locs : List Loc} {Q : State → Prop} {ls : Array Slot} {g : Gx} {b L : Nat} {xs : Nat → Int32} (A0 : LA p S m c b L xs g) {q o d : Nat} (hLW : LW g S.heap.size q o d M0 MR H) (hS : va_S (fun a => S.heap.size ≤ a) S.heap H locs) (hl : lv_has ls 9 [(5, .int (jI 0)), (4, .ref d), (3, .ref o), (2, .ref q), (1, .ref S.heap.size), (0, .ref b)]) (hL : 6 ≤ L)
    (kk : ∀ (H1 : Heap) (locs1 : List Loc) (ls1 : Array Slot), va_S (fun a => S.heap.size ≤ a) S.heap H1 locs1 → lv_has ls1 9 [(5, .int (jI 0)), (0, .ref b)] → W p l e room_1 S m #[.ref b] below meth c H1 locs1 (440 + 1 + 0) (25558 + 6 + 0) Q (F0 m 4280 ls1 [])) : W p l e room_1 S m #[.ref b] below meth c H locs 440 25558 Q (F0 m 2362 ls []) := by
  rcases p_flush  with ⟨r, M', Mr', h1, h2, h3⟩ | ⟨E, r, Mr', h1, h2, h3, h5⟩
  · exact k_flush A0 hLW hS hl hL (k := 0) rg_0 (lw_pre hLW) (fun _ _ e h => OL.kept h e) (nL_flush (c_X3_flush h1)) (c_X4_flush h2) h3 (fun _ _ h => h) kk
  · by_cases e1 : E = 1
    · subst e1
      exact k_flush A0 hLW hS hl hL (k := 1) (by decide) (lw_pre hLW) (fun _ _ e h => h.elim fun x h => ⟨x, OL.kept h e⟩) (tL_flush_1 (t_X3_flush hst h1)) (c_X4_flush h2) h3 (fun h => absurd h (by decide)) kk
    · exact absurd (show (if E = 1 then (1 : Int) else 0) = 0 from by simp only [e1, if_false]) h5
theorem q_writeBack {p : Program} {l : Launch} (hst : l.stackTraces = false) {e : Env} {S : State} {m : MethodId} {below : List Frame} {meth : Method} {c : Code} {H : Heap} {locs : List Loc} {Q : State → Prop} {ls : Array Slot} {g : Gx} {b L : Nat} {xs : Nat → Int32} (A0 : LA p S m c b L xs g) {q o d : Nat} (hLW : LW g S.heap.size q o d M0 MR H) (hS : va_S (fun a => S.heap.size ≤ a) S.heap H locs) (hl : lv_has ls 9 [(5, .int (jI 0)), (4, .ref d), (3, .ref o), (2, .ref q), (1, .ref S.heap.size), (0, .ref b)]) (hL : 6 ≤ L)
    (kk : ∀ (H1 : Heap) (locs1 : List Loc) (ls1 : Array Slot), va_S (fun a => S.heap.size ≤ a) S.heap H1 locs1 → lv_has ls1 9 [(5, .int (jI 0)), (0, .ref b)] → W p l e room_1 S m #[.ref b] below meth c H1 locs1 (440 + 1 + 0) (25558 + 6 + 0) Q (F0 m 4280 ls1 [])) : W p l e room_1 S m #[.ref b] below meth c H locs 440 25558 Q (F0 m 2413 ls []) := by
  rcases p_writeBack ((xs 1).toInt) ((xs 2).toInt) with ⟨Mr', h1, h2, h3⟩ | ⟨E, Mr', h1, h2, h3, h5⟩
  · exact k_writeBack A0 hLW hS hl hL (k := 0) rg_0 trivial (fun _ _ _ h => h) (nL_writeBack (c_X3_writeBack (rg_of _) (rg_of _) h1)) (c_X4_writeBack (rg_of _) (rg_of _) h2) h3 kk
  · by_cases e1 : E = 1
    · subst e1
      exact k_writeBack A0 hLW hS hl hL (k := 1) (by decide) trivial (fun _ _ _ h => h) (tL_writeBack_1 (t_X3_writeBack hst (rg_of _) (rg_of _) h1)) (c_X4_writeBack (rg_of _) (rg_of _) h2) h3 kk
    · by_cases e3 : E = 3
      · subst e3
        exact k_writeBack A0 hLW hS hl hL (k := 2) (by decide) trivial (fun _ _ _ h => h) (tL_writeBack_3 (t_X3_writeBack hst (rg_of _) (rg_of _) h1)) (c_X4_writeBack (rg_of _) (rg_of _) h2) h3 kk
      · exact absurd (show (if E = 1 then (1 : Int) else if E = 3 then (2 : Int) else 0) = 0 from by simp only [e1, e3, if_false]) h5
theorem q_cut {p : Program} {l : Launch} (hst : l.stackTraces = false) {e : Env} {S : State} {m : MethodId} {below : List Frame} {meth : Method} {c : Code} {H : Heap} {locs : List Loc} {Q : State → Prop} {ls : Array Slot} {g : Gx} {b L : Nat} {xs : Nat → Int32} (A0 : LA p S m c b L xs g) {q o d : Nat} (hLW : LW g S.heap.size q o d M0 MR H) (hS : va_S (fun a => S.heap.size ≤ a) S.heap H locs) (hl : lv_has ls 9 [(5, .int (jI 0)), (4, .ref d), (3, .ref o), (2, .ref q), (1, .ref S.heap.size), (0, .ref b)]) (hL : 6 ≤ L)
    (kk : ∀ (H1 : Heap) (locs1 : List Loc) (ls1 : Array Slot), va_S (fun a => S.heap.size ≤ a) S.heap H1 locs1 → lv_has ls1 9 [(5, .int (jI 0)), (0, .ref b)] → W p l e room_1 S m #[.ref b] below meth c H1 locs1 (440 + 1 + 0) (25558 + 6 + 0) Q (F0 m 4280 ls1 [])) : W p l e room_1 S m #[.ref b] below meth c H locs 440 25558 Q (F0 m 2461 ls []) := by
  rcases p_cut  with ⟨M', Mr', h1, h2, h3⟩ | ⟨E, Mr', h1, h2, h3, h5⟩
  · exact k_cut A0 hLW hS hl hL (k := 0) rg_0 trivial (fun _ _ _ h => h) (nL_cut (c_X3_cut h1)) (c_X4_cut h2) h3 kk
  · by_cases e1 : E = 1
    · subst e1
      exact k_cut A0 hLW hS hl hL (k := 1) (by decide) trivial (fun _ _ _ h => h) (tL_cut_1 (t_X3_cut hst h1)) (c_X4_cut h2) h3 kk
    · exact absurd (show (if E = 1 then (1 : Int) else 0) = 0 from by simp only [e1, if_false]) h5
theorem q_fail {p : Program} {l : Launch} (hst : l.stackTraces = false) {e : Env} {S : State} {m : MethodId} {below : List Frame} {meth : Method} {c : Code} {H : Heap} {locs : List Loc} {Q : State → Prop} {ls : Array Slot} {g : Gx} {b L : Nat} {xs : Nat → Int32} (A0 : LA p S m c b L xs g) {q o d : Nat} (hLW : LW g S.heap.size q o d M0 MR H) (hS : va_S (fun a => S.heap.size ≤ a) S.heap H locs) (hl : lv_has ls 9 [(5, .int (jI 0)), (4, .ref d), (3, .ref o), (2, .ref q), (1, .ref S.heap.size), (0, .ref b)]) (hL : 6 ≤ L)
    (kk : ∀ (H1 : Heap) (locs1 : List Loc) (ls1 : Array Slot), va_S (fun a => S.heap.size ≤ a) S.heap H1 locs1 → lv_has ls1 9 [(5, .int (jI 0)), (0, .ref b)] → W p l e room_1 S m #[.ref b] below meth c H1 locs1 (440 + 1 + 0) (25558 + 6 + 0) Q (F0 m 4280 ls1 [])) : W p l e room_1 S m #[.ref b] below meth c H locs 440 25558 Q (F0 m 2485 ls []) := by
  rcases p_fail ((xs 1).toInt) ((xs 2).toInt) ((xs 3).toInt) with ⟨M', Mr', h1, h2, h3⟩ | ⟨E, Mr', h1, h2, h3, h5⟩
  · exact k_fail A0 hLW hS hl hL (k := 0) rg_0 trivial (fun _ _ _ h => h) (nL_fail (c_X3_fail (rg_of _) (rg_of _) (rg_of _) h1)) (c_X4_fail (rg_of _) (rg_of _) (rg_of _) h2) h3 kk
  · by_cases e3 : E = 3
    · subst e3
      exact k_fail A0 hLW hS hl hL (k := 1) (by decide) trivial (fun _ _ _ h => h) (tL_fail_3 (t_X3_fail hst (rg_of _) (rg_of _) (rg_of _) h1)) (c_X4_fail (rg_of _) (rg_of _) (rg_of _) h2) h3 kk
    · exact absurd (show (if E = 3 then (1 : Int) else 0) = 0 from by simp only [e3, if_false]) h5
theorem q_mount {p : Program} {l : Launch} (hst : l.stackTraces = false) {e : Env} {S : State} {m : MethodId} {below : List Frame} {meth : Method} {c : Code} {H : Heap} {locs : List Loc} {Q : State → Prop} {ls : Array Slot} {g : Gx} {b L : Nat} {xs : Nat → Int32} (A0 : LA p S m c b L xs g) {q o d : Nat} (hLW : LW g S.heap.size q o d M0 MR H) (hS : va_S (fun a => S.heap.size ≤ a) S.heap H locs) (hl : lv_has ls 9 [(5, .int (jI 0)), (4, .ref d), (3, .ref o), (2, .ref q), (1, .ref S.heap.size), (0, .ref b)]) (hL : 6 ≤ L)
    (kk : ∀ (H1 : Heap) (locs1 : List Loc) (ls1 : Array Slot), va_S (fun a => S.heap.size ≤ a) S.heap H1 locs1 → lv_has ls1 9 [(5, .int (jI 0)), (0, .ref b)] → W p l e room_1 S m #[.ref b] below meth c H1 locs1 (440 + 1 + 0) (25558 + 6 + 0) Q (F0 m 4280 ls1 [])) : W p l e room_1 S m #[.ref b] below meth c H locs 440 25558 Q (F0 m 2545 ls []) := by
  rcases p_mount  with ⟨r, M', Mr', h1, h2, h3⟩ | ⟨E, r, Mr', h1, h2, h3, h5⟩
  · exact k_mount A0 hLW hS hl hL (k := 0) rg_0 (lw_pre hLW) (fun _ _ e h => OL.kept h e) (nL_mount (c_X3_mount h1)) (c_X4_mount h2) h3 (fun _ _ h => h) kk
  · by_cases e1 : E = 1
    · subst e1
      exact k_mount A0 hLW hS hl hL (k := 1) (by decide) (lw_pre hLW) (fun _ _ e h => h.elim fun x h => ⟨x, OL.kept h e⟩) (tL_mount_1 (t_X3_mount hst h1)) (c_X4_mount h2) h3 (fun h => absurd h (by decide)) kk
    · exact absurd (show (if E = 1 then (1 : Int) else 0) = 0 from by simp only [e1, if_false]) h5
theorem q_waiting {p : Program} {l : Launch} (hst : l.stackTraces = false) {e : Env} {S : State} {m : MethodId} {below : List Frame} {meth : Method} {c : Code} {H : Heap} {locs : List Loc} {Q : State → Prop} {ls : Array Slot} {g : Gx} {b L : Nat} {xs : Nat → Int32} (A0 : LA p S m c b L xs g) {q o d : Nat} (hLW : LW g S.heap.size q o d M0 MR H) (hS : va_S (fun a => S.heap.size ≤ a) S.heap H locs) (hl : lv_has ls 9 [(5, .int (jI 0)), (4, .ref d), (3, .ref o), (2, .ref q), (1, .ref S.heap.size), (0, .ref b)]) (hL : 6 ≤ L)
    (kk : ∀ (H1 : Heap) (locs1 : List Loc) (ls1 : Array Slot), va_S (fun a => S.heap.size ≤ a) S.heap H1 locs1 → lv_has ls1 9 [(5, .int (jI 0)), (0, .ref b)] → W p l e room_1 S m #[.ref b] below meth c H1 locs1 (440 + 1 + 0) (25558 + 6 + 0) Q (F0 m 4280 ls1 [])) : W p l e room_1 S m #[.ref b] below meth c H locs 440 25558 Q (F0 m 2615 ls []) := by
  rcases p_waiting  with ⟨r, Mr', h1, h2, h3⟩ | ⟨E, r, Mr', h1, h2, h3, h5⟩
  · exact k_waiting A0 hLW hS hl hL (k := 0) rg_0 (lw_pre hLW) (fun _ _ e h => OL.kept h e) (nL_waiting (c_X3_waiting h1)) (c_X4_waiting h2) h3 (fun _ _ h => h) kk
  · by_cases e1 : E = 1
    · subst e1
      exact k_waiting A0 hLW hS hl hL (k := 1) (by decide) (lw_pre hLW) (fun _ _ e h => h.elim fun x h => ⟨x, OL.kept h e⟩) (tL_waiting_1 (t_X3_waiting hst h1)) (c_X4_waiting h2) h3 (fun h => absurd h (by decide)) kk
    · exact absurd (show (if E = 1 then (1 : Int) else 0) = 0 from by simp only [e1, if_false]) h5
theorem q_changes {p : Program} {l : Launch} (hst : l.stackTraces = false) {e : Env} {S : State} {m : MethodId} {below : List Frame} {meth : Method} {c : Code} {H : Heap} {locs : List Loc} {Q : State → Prop} {ls : Array Slot} {g : Gx} {b L : Nat} {xs : Nat → Int32} (A0 : LA p S m c b L xs g) {q o d : Nat} (hLW : LW g S.heap.size q o d M0 MR H) (hS : va_S (fun a => S.heap.size ≤ a) S.heap H locs) (hl : lv_has ls 9 [(5, .int (jI 0)), (4, .ref d), (3, .ref o), (2, .ref q), (1, .ref S.heap.size), (0, .ref b)]) (hL : 6 ≤ L)
    (kk : ∀ (H1 : Heap) (locs1 : List Loc) (ls1 : Array Slot), va_S (fun a => S.heap.size ≤ a) S.heap H1 locs1 → lv_has ls1 9 [(5, .int (jI 0)), (0, .ref b)] → W p l e room_1 S m #[.ref b] below meth c H1 locs1 (440 + 1 + 0) (25558 + 6 + 0) Q (F0 m 4280 ls1 [])) : W p l e room_1 S m #[.ref b] below meth c H locs 440 25558 Q (F0 m 2659 ls []) := by
  rcases p_changes  with ⟨r, Mr', h1, h2, h3⟩ | ⟨E, r, Mr', h1, h2, h3, h5⟩
  · exact k_changes A0 hLW hS hl hL (k := 0) rg_0 (lw_pre hLW) (fun _ _ e h => OL.kept h e) (nL_changes (c_X3_changes h1)) (c_X4_changes h2) h3 (fun _ _ h => h) kk
  · by_cases e1 : E = 1
    · subst e1
      exact k_changes A0 hLW hS hl hL (k := 1) (by decide) (lw_pre hLW) (fun _ _ e h => h.elim fun x h => ⟨x, OL.kept h e⟩) (tL_changes_1 (t_X3_changes hst h1)) (c_X4_changes h2) h3 (fun h => absurd h (by decide)) kk
    · exact absurd (show (if E = 1 then (1 : Int) else 0) = 0 from by simp only [e1, if_false]) h5
theorem q_nodes {p : Program} {l : Launch} (hst : l.stackTraces = false) {e : Env} {S : State} {m : MethodId} {below : List Frame} {meth : Method} {c : Code} {H : Heap} {locs : List Loc} {Q : State → Prop} {ls : Array Slot} {g : Gx} {b L : Nat} {xs : Nat → Int32} (A0 : LA p S m c b L xs g) {q o d : Nat} (hLW : LW g S.heap.size q o d M0 MR H) (hS : va_S (fun a => S.heap.size ≤ a) S.heap H locs) (hl : lv_has ls 9 [(5, .int (jI 0)), (4, .ref d), (3, .ref o), (2, .ref q), (1, .ref S.heap.size), (0, .ref b)]) (hL : 6 ≤ L)
    (kk : ∀ (H1 : Heap) (locs1 : List Loc) (ls1 : Array Slot), va_S (fun a => S.heap.size ≤ a) S.heap H1 locs1 → lv_has ls1 9 [(5, .int (jI 0)), (0, .ref b)] → W p l e room_1 S m #[.ref b] below meth c H1 locs1 (440 + 1 + 0) (25558 + 6 + 0) Q (F0 m 4280 ls1 [])) : W p l e room_1 S m #[.ref b] below meth c H locs 440 25558 Q (F0 m 2703 ls []) := by
  rcases p_nodes  with ⟨r, Mr', h1, h2, h3⟩ | ⟨E, r, Mr', h1, h2, h3, h5⟩
  · exact k_nodes A0 hLW hS hl hL (k := 0) rg_0 (lw_pre hLW) (fun _ _ e h => OL.kept h e) (nL_nodes (c_X3_nodes h1)) (c_X4_nodes h2) h3 (fun _ _ h => h) kk
  · by_cases e1 : E = 1
    · subst e1
      exact k_nodes A0 hLW hS hl hL (k := 1) (by decide) (lw_pre hLW) (fun _ _ e h => h.elim fun x h => ⟨x, OL.kept h e⟩) (tL_nodes_1 (t_X3_nodes hst h1)) (c_X4_nodes h2) h3 (fun h => absurd h (by decide)) kk
    · exact absurd (show (if E = 1 then (1 : Int) else 0) = 0 from by simp only [e1, if_false]) h5
theorem q_typeOf {p : Program} {l : Launch} (hst : l.stackTraces = false) {e : Env} {S : State} {m : MethodId} {below : List Frame} {meth : Method} {c : Code} {H : Heap} {locs : List Loc} {Q : State → Prop} {ls : Array Slot} {g : Gx} {b L : Nat} {xs : Nat → Int32} (A0 : LA p S m c b L xs g) {q o d : Nat} (hLW : LW g S.heap.size q o d M0 MR H) (hS : va_S (fun a => S.heap.size ≤ a) S.heap H locs) (hl : lv_has ls 9 [(5, .int (jI 0)), (4, .ref d), (3, .ref o), (2, .ref q), (1, .ref S.heap.size), (0, .ref b)]) (hL : 6 ≤ L)
    (kk : ∀ (H1 : Heap) (locs1 : List Loc) (ls1 : Array Slot), va_S (fun a => S.heap.size ≤ a) S.heap H1 locs1 → lv_has ls1 9 [(5, .int (jI 0)), (0, .ref b)] → W p l e room_1 S m #[.ref b] below meth c H1 locs1 (440 + 1 + 0) (25558 + 6 + 0) Q (F0 m 4280 ls1 [])) : W p l e room_1 S m #[.ref b] below meth c H locs 440 25558 Q (F0 m 2747 ls []) := by
  rcases p_typeOf ((xs 1).toInt) with ⟨r, Mr', h1, h2, h3⟩ | ⟨E, r, Mr', h1, h2, h3, h5⟩
  · exact k_typeOf A0 hLW hS hl hL (k := 0) rg_0 (lw_pre hLW) (fun _ _ e h => OL.kept h e) (nL_typeOf (c_X3_typeOf (rg_of _) h1)) (c_X4_typeOf (rg_of _) h2) h3 (fun _ _ h => h) kk
  · by_cases e1 : E = 1
    · subst e1
      exact k_typeOf A0 hLW hS hl hL (k := 1) (by decide) (lw_pre hLW) (fun _ _ e h => h.elim fun x h => ⟨x, OL.kept h e⟩) (tL_typeOf_1 (t_X3_typeOf hst (rg_of _) h1)) (c_X4_typeOf (rg_of _) h2) h3 (fun h => absurd h (by decide)) kk
    · exact absurd (show (if E = 1 then (1 : Int) else 0) = 0 from by simp only [e1, if_false]) h5
theorem q_linksOf {p : Program} {l : Launch} (hst : l.stackTraces = false) {e : Env} {S : State} {m : MethodId} {below : List Frame} {meth : Method} {c : Code} {H : Heap} {locs : List Loc} {Q : State → Prop} {ls : Array Slot} {g : Gx} {b L : Nat} {xs : Nat → Int32} (A0 : LA p S m c b L xs g) {q o d : Nat} (hLW : LW g S.heap.size q o d M0 MR H) (hS : va_S (fun a => S.heap.size ≤ a) S.heap H locs) (hl : lv_has ls 9 [(5, .int (jI 0)), (4, .ref d), (3, .ref o), (2, .ref q), (1, .ref S.heap.size), (0, .ref b)]) (hL : 6 ≤ L)
    (kk : ∀ (H1 : Heap) (locs1 : List Loc) (ls1 : Array Slot), va_S (fun a => S.heap.size ≤ a) S.heap H1 locs1 → lv_has ls1 9 [(5, .int (jI 0)), (0, .ref b)] → W p l e room_1 S m #[.ref b] below meth c H1 locs1 (440 + 1 + 0) (25558 + 6 + 0) Q (F0 m 4280 ls1 [])) : W p l e room_1 S m #[.ref b] below meth c H locs 440 25558 Q (F0 m 2803 ls []) := by
  rcases p_linksOf ((xs 1).toInt) with ⟨r, Mr', h1, h2, h3⟩ | ⟨E, r, Mr', h1, h2, h3, h5⟩
  · exact k_linksOf A0 hLW hS hl hL (k := 0) rg_0 (lw_pre hLW) (fun _ _ e h => OL.kept h e) (nL_linksOf (c_X3_linksOf (rg_of _) h1)) (c_X4_linksOf (rg_of _) h2) h3 (fun _ _ h => h) kk
  · by_cases e1 : E = 1
    · subst e1
      exact k_linksOf A0 hLW hS hl hL (k := 1) (by decide) (lw_pre hLW) (fun _ _ e h => h.elim fun x h => ⟨x, OL.kept h e⟩) (tL_linksOf_1 (t_X3_linksOf hst (rg_of _) h1)) (c_X4_linksOf (rg_of _) h2) h3 (fun h => absurd h (by decide)) kk
    · by_cases e2 : E = 2
      · subst e2
        exact k_linksOf A0 hLW hS hl hL (k := 2) (by decide) (lw_pre hLW) (fun _ _ e h => h.elim fun x h => ⟨x, OL.kept h e⟩) (tL_linksOf_2 (t_X3_linksOf hst (rg_of _) h1)) (c_X4_linksOf (rg_of _) h2) h3 (fun h => absurd h (by decide)) kk
      · exact absurd (show (if E = 1 then (1 : Int) else if E = 2 then (2 : Int) else 0) = 0 from by simp only [e1, e2, if_false]) h5
theorem q_ownerOf {p : Program} {l : Launch} (hst : l.stackTraces = false) {e : Env} {S : State} {m : MethodId} {below : List Frame} {meth : Method} {c : Code} {H : Heap} {locs : List Loc} {Q : State → Prop} {ls : Array Slot} {g : Gx} {b L : Nat} {xs : Nat → Int32} (A0 : LA p S m c b L xs g) {q o d : Nat} (hLW : LW g S.heap.size q o d M0 MR H) (hS : va_S (fun a => S.heap.size ≤ a) S.heap H locs) (hl : lv_has ls 9 [(5, .int (jI 0)), (4, .ref d), (3, .ref o), (2, .ref q), (1, .ref S.heap.size), (0, .ref b)]) (hL : 6 ≤ L)
    (kk : ∀ (H1 : Heap) (locs1 : List Loc) (ls1 : Array Slot), va_S (fun a => S.heap.size ≤ a) S.heap H1 locs1 → lv_has ls1 9 [(5, .int (jI 0)), (0, .ref b)] → W p l e room_1 S m #[.ref b] below meth c H1 locs1 (440 + 1 + 0) (25558 + 6 + 0) Q (F0 m 4280 ls1 [])) : W p l e room_1 S m #[.ref b] below meth c H locs 440 25558 Q (F0 m 2859 ls []) := by
  rcases p_ownerOf ((xs 1).toInt) with ⟨r, Mr', h1, h2, h3⟩ | ⟨E, r, Mr', h1, h2, h3, h5⟩
  · exact k_ownerOf A0 hLW hS hl hL (k := 0) rg_0 (lw_pre hLW) (fun _ _ e h => OL.kept h e) (nL_ownerOf (c_X3_ownerOf (rg_of _) h1)) (c_X4_ownerOf (rg_of _) h2) h3 (fun _ _ h => h) kk
  · by_cases e1 : E = 1
    · subst e1
      exact k_ownerOf A0 hLW hS hl hL (k := 1) (by decide) (lw_pre hLW) (fun _ _ e h => h.elim fun x h => ⟨x, OL.kept h e⟩) (tL_ownerOf_1 (t_X3_ownerOf hst (rg_of _) h1)) (c_X4_ownerOf (rg_of _) h2) h3 (fun h => absurd h (by decide)) kk
    · by_cases e2 : E = 2
      · subst e2
        exact k_ownerOf A0 hLW hS hl hL (k := 2) (by decide) (lw_pre hLW) (fun _ _ e h => h.elim fun x h => ⟨x, OL.kept h e⟩) (tL_ownerOf_2 (t_X3_ownerOf hst (rg_of _) h1)) (c_X4_ownerOf (rg_of _) h2) h3 (fun h => absurd h (by decide)) kk
      · exact absurd (show (if E = 1 then (1 : Int) else if E = 2 then (2 : Int) else 0) = 0 from by simp only [e1, e2, if_false]) h5
theorem q_sizeOf {p : Program} {l : Launch} (hst : l.stackTraces = false) {e : Env} {S : State} {m : MethodId} {below : List Frame} {meth : Method} {c : Code} {H : Heap} {locs : List Loc} {Q : State → Prop} {ls : Array Slot} {g : Gx} {b L : Nat} {xs : Nat → Int32} (A0 : LA p S m c b L xs g) {q o d : Nat} (hLW : LW g S.heap.size q o d M0 MR H) (hS : va_S (fun a => S.heap.size ≤ a) S.heap H locs) (hl : lv_has ls 9 [(5, .int (jI 0)), (4, .ref d), (3, .ref o), (2, .ref q), (1, .ref S.heap.size), (0, .ref b)]) (hL : 6 ≤ L)
    (kk : ∀ (H1 : Heap) (locs1 : List Loc) (ls1 : Array Slot), va_S (fun a => S.heap.size ≤ a) S.heap H1 locs1 → lv_has ls1 9 [(5, .int (jI 0)), (0, .ref b)] → W p l e room_1 S m #[.ref b] below meth c H1 locs1 (440 + 1 + 0) (25558 + 6 + 0) Q (F0 m 4280 ls1 [])) : W p l e room_1 S m #[.ref b] below meth c H locs 440 25558 Q (F0 m 2915 ls []) := by
  rcases p_sizeOf ((xs 1).toInt) with ⟨r, Mr', h1, h2, h3⟩ | ⟨E, r, Mr', h1, h2, h3, h5⟩
  · exact k_sizeOf A0 hLW hS hl hL (k := 0) rg_0 (lw_pre hLW) (fun _ _ e h => OL.kept h e) (nL_sizeOf (c_X3_sizeOf (rg_of _) h1)) (c_X4_sizeOf (rg_of _) h2) h3 (fun _ _ h => h) kk
  · by_cases e1 : E = 1
    · subst e1
      exact k_sizeOf A0 hLW hS hl hL (k := 1) (by decide) (lw_pre hLW) (fun _ _ e h => h.elim fun x h => ⟨x, OL.kept h e⟩) (tL_sizeOf_1 (t_X3_sizeOf hst (rg_of _) h1)) (c_X4_sizeOf (rg_of _) h2) h3 (fun h => absurd h (by decide)) kk
    · by_cases e2 : E = 2
      · subst e2
        exact k_sizeOf A0 hLW hS hl hL (k := 2) (by decide) (lw_pre hLW) (fun _ _ e h => h.elim fun x h => ⟨x, OL.kept h e⟩) (tL_sizeOf_2 (t_X3_sizeOf hst (rg_of _) h1)) (c_X4_sizeOf (rg_of _) h2) h3 (fun h => absurd h (by decide)) kk
      · exact absurd (show (if E = 1 then (1 : Int) else if E = 2 then (2 : Int) else 0) = 0 from by simp only [e1, e2, if_false]) h5
theorem q_blocksOf {p : Program} {l : Launch} (hst : l.stackTraces = false) {e : Env} {S : State} {m : MethodId} {below : List Frame} {meth : Method} {c : Code} {H : Heap} {locs : List Loc} {Q : State → Prop} {ls : Array Slot} {g : Gx} {b L : Nat} {xs : Nat → Int32} (A0 : LA p S m c b L xs g) {q o d : Nat} (hLW : LW g S.heap.size q o d M0 MR H) (hS : va_S (fun a => S.heap.size ≤ a) S.heap H locs) (hl : lv_has ls 9 [(5, .int (jI 0)), (4, .ref d), (3, .ref o), (2, .ref q), (1, .ref S.heap.size), (0, .ref b)]) (hL : 6 ≤ L)
    (kk : ∀ (H1 : Heap) (locs1 : List Loc) (ls1 : Array Slot), va_S (fun a => S.heap.size ≤ a) S.heap H1 locs1 → lv_has ls1 9 [(5, .int (jI 0)), (0, .ref b)] → W p l e room_1 S m #[.ref b] below meth c H1 locs1 (440 + 1 + 0) (25558 + 6 + 0) Q (F0 m 4280 ls1 [])) : W p l e room_1 S m #[.ref b] below meth c H locs 440 25558 Q (F0 m 2971 ls []) := by
  rcases p_blocksOf ((xs 1).toInt) with ⟨r, Mr', h1, h2, h3⟩ | ⟨E, r, Mr', h1, h2, h3, h5⟩
  · exact k_blocksOf A0 hLW hS hl hL (k := 0) rg_0 (lw_pre hLW) (fun _ _ e h => OL.kept h e) (nL_blocksOf (c_X3_blocksOf (rg_of _) h1)) (c_X4_blocksOf (rg_of _) h2) h3 (fun _ _ h => h) kk
  · by_cases e1 : E = 1
    · subst e1
      exact k_blocksOf A0 hLW hS hl hL (k := 1) (by decide) (lw_pre hLW) (fun _ _ e h => h.elim fun x h => ⟨x, OL.kept h e⟩) (tL_blocksOf_1 (t_X3_blocksOf hst (rg_of _) h1)) (c_X4_blocksOf (rg_of _) h2) h3 (fun h => absurd h (by decide)) kk
    · by_cases e2 : E = 2
      · subst e2
        exact k_blocksOf A0 hLW hS hl hL (k := 2) (by decide) (lw_pre hLW) (fun _ _ e h => h.elim fun x h => ⟨x, OL.kept h e⟩) (tL_blocksOf_2 (t_X3_blocksOf hst (rg_of _) h1)) (c_X4_blocksOf (rg_of _) h2) h3 (fun h => absurd h (by decide)) kk
      · exact absurd (show (if E = 1 then (1 : Int) else if E = 2 then (2 : Int) else 0) = 0 from by simp only [e1, e2, if_false]) h5
theorem q_sharedOf {p : Program} {l : Launch} (hst : l.stackTraces = false) {e : Env} {S : State} {m : MethodId} {below : List Frame} {meth : Method} {c : Code} {H : Heap} {locs : List Loc} {Q : State → Prop} {ls : Array Slot} {g : Gx} {b L : Nat} {xs : Nat → Int32} (A0 : LA p S m c b L xs g) {q o d : Nat} (hLW : LW g S.heap.size q o d M0 MR H) (hS : va_S (fun a => S.heap.size ≤ a) S.heap H locs) (hl : lv_has ls 9 [(5, .int (jI 0)), (4, .ref d), (3, .ref o), (2, .ref q), (1, .ref S.heap.size), (0, .ref b)]) (hL : 6 ≤ L)
    (kk : ∀ (H1 : Heap) (locs1 : List Loc) (ls1 : Array Slot), va_S (fun a => S.heap.size ≤ a) S.heap H1 locs1 → lv_has ls1 9 [(5, .int (jI 0)), (0, .ref b)] → W p l e room_1 S m #[.ref b] below meth c H1 locs1 (440 + 1 + 0) (25558 + 6 + 0) Q (F0 m 4280 ls1 [])) : W p l e room_1 S m #[.ref b] below meth c H locs 440 25558 Q (F0 m 3027 ls []) := by
  rcases p_sharedOf ((xs 1).toInt) with ⟨r, Mr', h1, h2, h3⟩ | ⟨E, r, Mr', h1, h2, h3, h5⟩
  · exact k_sharedOf A0 hLW hS hl hL (k := 0) rg_0 (lw_pre hLW) (fun _ _ e h => OL.kept h e) (nL_sharedOf (c_X3_sharedOf (rg_of _) h1)) (c_X4_sharedOf (rg_of _) h2) h3 (fun _ _ h => h) kk
  · by_cases e1 : E = 1
    · subst e1
      exact k_sharedOf A0 hLW hS hl hL (k := 1) (by decide) (lw_pre hLW) (fun _ _ e h => h.elim fun x h => ⟨x, OL.kept h e⟩) (tL_sharedOf_1 (t_X3_sharedOf hst (rg_of _) h1)) (c_X4_sharedOf (rg_of _) h2) h3 (fun h => absurd h (by decide)) kk
    · by_cases e2 : E = 2
      · subst e2
        exact k_sharedOf A0 hLW hS hl hL (k := 2) (by decide) (lw_pre hLW) (fun _ _ e h => h.elim fun x h => ⟨x, OL.kept h e⟩) (tL_sharedOf_2 (t_X3_sharedOf hst (rg_of _) h1)) (c_X4_sharedOf (rg_of _) h2) h3 (fun h => absurd h (by decide)) kk
      · exact absurd (show (if E = 1 then (1 : Int) else if E = 2 then (2 : Int) else 0) = 0 from by simp only [e1, e2, if_false]) h5
theorem q_byteAt {p : Program} {l : Launch} (hst : l.stackTraces = false) {e : Env} {S : State} {m : MethodId} {below : List Frame} {meth : Method} {c : Code} {H : Heap} {locs : List Loc} {Q : State → Prop} {ls : Array Slot} {g : Gx} {b L : Nat} {xs : Nat → Int32} (A0 : LA p S m c b L xs g) {q o d : Nat} (hLW : LW g S.heap.size q o d M0 MR H) (hS : va_S (fun a => S.heap.size ≤ a) S.heap H locs) (hl : lv_has ls 9 [(5, .int (jI 0)), (4, .ref d), (3, .ref o), (2, .ref q), (1, .ref S.heap.size), (0, .ref b)]) (hL : 6 ≤ L)
    (kk : ∀ (H1 : Heap) (locs1 : List Loc) (ls1 : Array Slot), va_S (fun a => S.heap.size ≤ a) S.heap H1 locs1 → lv_has ls1 9 [(5, .int (jI 0)), (0, .ref b)] → W p l e room_1 S m #[.ref b] below meth c H1 locs1 (440 + 1 + 0) (25558 + 6 + 0) Q (F0 m 4280 ls1 [])) : W p l e room_1 S m #[.ref b] below meth c H locs 440 25558 Q (F0 m 3083 ls []) := by
  rcases p_byteAt ((xs 1).toInt) ((xs 2).toInt) with ⟨r, Mr', h1, h2, h3⟩ | ⟨E, r, Mr', h1, h2, h3, h5⟩
  · exact k_byteAt A0 hLW hS hl hL (k := 0) rg_0 (lw_pre hLW) (fun _ _ e h => OL.kept h e) (nL_byteAt (c_X3_byteAt (rg_of _) (rg_of _) h1)) (c_X4_byteAt (rg_of _) (rg_of _) h2) h3 (fun _ _ h => h) kk
  · by_cases e1 : E = 1
    · subst e1
      exact k_byteAt A0 hLW hS hl hL (k := 1) (by decide) (lw_pre hLW) (fun _ _ e h => h.elim fun x h => ⟨x, OL.kept h e⟩) (tL_byteAt_1 (t_X3_byteAt hst (rg_of _) (rg_of _) h1)) (c_X4_byteAt (rg_of _) (rg_of _) h2) h3 (fun h => absurd h (by decide)) kk
    · by_cases e2 : E = 2
      · subst e2
        exact k_byteAt A0 hLW hS hl hL (k := 2) (by decide) (lw_pre hLW) (fun _ _ e h => h.elim fun x h => ⟨x, OL.kept h e⟩) (tL_byteAt_2 (t_X3_byteAt hst (rg_of _) (rg_of _) h1)) (c_X4_byteAt (rg_of _) (rg_of _) h2) h3 (fun h => absurd h (by decide)) kk
      · by_cases e3 : E = 3
        · subst e3
          exact k_byteAt A0 hLW hS hl hL (k := 3) (by decide) (lw_pre hLW) (fun _ _ e h => h.elim fun x h => ⟨x, OL.kept h e⟩) (tL_byteAt_3 (t_X3_byteAt hst (rg_of _) (rg_of _) h1)) (c_X4_byteAt (rg_of _) (rg_of _) h2) h3 (fun h => absurd h (by decide)) kk
        · exact absurd (show (if E = 1 then (1 : Int) else if E = 2 then (2 : Int) else if E = 3 then (3 : Int) else 0) = 0 from by simp only [e1, e2, e3, if_false]) h5
theorem q_isHole {p : Program} {l : Launch} (hst : l.stackTraces = false) {e : Env} {S : State} {m : MethodId} {below : List Frame} {meth : Method} {c : Code} {H : Heap} {locs : List Loc} {Q : State → Prop} {ls : Array Slot} {g : Gx} {b L : Nat} {xs : Nat → Int32} (A0 : LA p S m c b L xs g) {q o d : Nat} (hLW : LW g S.heap.size q o d M0 MR H) (hS : va_S (fun a => S.heap.size ≤ a) S.heap H locs) (hl : lv_has ls 9 [(5, .int (jI 0)), (4, .ref d), (3, .ref o), (2, .ref q), (1, .ref S.heap.size), (0, .ref b)]) (hL : 6 ≤ L)
    (kk : ∀ (H1 : Heap) (locs1 : List Loc) (ls1 : Array Slot), va_S (fun a => S.heap.size ≤ a) S.heap H1 locs1 → lv_has ls1 9 [(5, .int (jI 0)), (0, .ref b)] → W p l e room_1 S m #[.ref b] below meth c H1 locs1 (440 + 1 + 0) (25558 + 6 + 0) Q (F0 m 4280 ls1 [])) : W p l e room_1 S m #[.ref b] below meth c H locs 440 25558 Q (F0 m 3151 ls []) := by
  rcases p_isHole ((xs 1).toInt) ((xs 2).toInt) with ⟨r, Mr', h1, h2, h3⟩ | ⟨E, r, Mr', h1, h2, h3, h5⟩
  · exact k_isHole A0 hLW hS hl hL (k := 0) rg_0 (lw_pre hLW) (fun _ _ e h => OL.kept h e) (nL_isHole (c_X3_isHole (rg_of _) (rg_of _) h1)) (c_X4_isHole (rg_of _) (rg_of _) h2) h3 (fun _ _ h => h) kk
  · by_cases e1 : E = 1
    · subst e1
      exact k_isHole A0 hLW hS hl hL (k := 1) (by decide) (lw_pre hLW) (fun _ _ e h => h.elim fun x h => ⟨x, OL.kept h e⟩) (tL_isHole_1 (t_X3_isHole hst (rg_of _) (rg_of _) h1)) (c_X4_isHole (rg_of _) (rg_of _) h2) h3 (fun h => absurd h (by decide)) kk
    · by_cases e2 : E = 2
      · subst e2
        exact k_isHole A0 hLW hS hl hL (k := 2) (by decide) (lw_pre hLW) (fun _ _ e h => h.elim fun x h => ⟨x, OL.kept h e⟩) (tL_isHole_2 (t_X3_isHole hst (rg_of _) (rg_of _) h1)) (c_X4_isHole (rg_of _) (rg_of _) h2) h3 (fun h => absurd h (by decide)) kk
      · by_cases e3 : E = 3
        · subst e3
          exact k_isHole A0 hLW hS hl hL (k := 3) (by decide) (lw_pre hLW) (fun _ _ e h => h.elim fun x h => ⟨x, OL.kept h e⟩) (tL_isHole_3 (t_X3_isHole hst (rg_of _) (rg_of _) h1)) (c_X4_isHole (rg_of _) (rg_of _) h2) h3 (fun h => absurd h (by decide)) kk
        · exact absurd (show (if E = 1 then (1 : Int) else if E = 2 then (2 : Int) else if E = 3 then (3 : Int) else 0) = 0 from by simp only [e1, e2, e3, if_false]) h5
theorem q_nextData {p : Program} {l : Launch} (hst : l.stackTraces = false) {e : Env} {S : State} {m : MethodId} {below : List Frame} {meth : Method} {c : Code} {H : Heap} {locs : List Loc} {Q : State → Prop} {ls : Array Slot} {g : Gx} {b L : Nat} {xs : Nat → Int32} (A0 : LA p S m c b L xs g) {q o d : Nat} (hLW : LW g S.heap.size q o d M0 MR H) (hS : va_S (fun a => S.heap.size ≤ a) S.heap H locs) (hl : lv_has ls 9 [(5, .int (jI 0)), (4, .ref d), (3, .ref o), (2, .ref q), (1, .ref S.heap.size), (0, .ref b)]) (hL : 6 ≤ L)
    (kk : ∀ (H1 : Heap) (locs1 : List Loc) (ls1 : Array Slot), va_S (fun a => S.heap.size ≤ a) S.heap H1 locs1 → lv_has ls1 9 [(5, .int (jI 0)), (0, .ref b)] → W p l e room_1 S m #[.ref b] below meth c H1 locs1 (440 + 1 + 0) (25558 + 6 + 0) Q (F0 m 4280 ls1 [])) : W p l e room_1 S m #[.ref b] below meth c H locs 440 25558 Q (F0 m 3226 ls []) := by
  rcases p_nextData ((xs 1).toInt) ((xs 2).toInt) with ⟨r, Mr', h1, h2, h3⟩ | ⟨E, r, Mr', h1, h2, h3, h5⟩
  · exact k_nextData A0 hLW hS hl hL (k := 0) rg_0 (lw_pre hLW) (fun _ _ e h => OL.kept h e) (nL_nextData (c_X3_nextData (rg_of _) (rg_of _) h1)) (c_X4_nextData (rg_of _) (rg_of _) h2) h3 (fun _ _ h => h) kk
  · by_cases e1 : E = 1
    · subst e1
      exact k_nextData A0 hLW hS hl hL (k := 1) (by decide) (lw_pre hLW) (fun _ _ e h => h.elim fun x h => ⟨x, OL.kept h e⟩) (tL_nextData_1 (t_X3_nextData hst (rg_of _) (rg_of _) h1)) (c_X4_nextData (rg_of _) (rg_of _) h2) h3 (fun h => absurd h (by decide)) kk
    · by_cases e2 : E = 2
      · subst e2
        exact k_nextData A0 hLW hS hl hL (k := 2) (by decide) (lw_pre hLW) (fun _ _ e h => h.elim fun x h => ⟨x, OL.kept h e⟩) (tL_nextData_2 (t_X3_nextData hst (rg_of _) (rg_of _) h1)) (c_X4_nextData (rg_of _) (rg_of _) h2) h3 (fun h => absurd h (by decide)) kk
      · by_cases e3 : E = 3
        · subst e3
          exact k_nextData A0 hLW hS hl hL (k := 3) (by decide) (lw_pre hLW) (fun _ _ e h => h.elim fun x h => ⟨x, OL.kept h e⟩) (tL_nextData_3 (t_X3_nextData hst (rg_of _) (rg_of _) h1)) (c_X4_nextData (rg_of _) (rg_of _) h2) h3 (fun h => absurd h (by decide)) kk
        · exact absurd (show (if E = 1 then (1 : Int) else if E = 2 then (2 : Int) else if E = 3 then (3 : Int) else 0) = 0 from by simp only [e1, e2, e3, if_false]) h5
theorem q_nextHole {p : Program} {l : Launch} (hst : l.stackTraces = false) {e : Env} {S : State} {m : MethodId} {below : List Frame} {meth : Method} {c : Code} {H : Heap} {locs : List Loc} {Q : State → Prop} {ls : Array Slot} {g : Gx} {b L : Nat} {xs : Nat → Int32} (A0 : LA p S m c b L xs g) {q o d : Nat} (hLW : LW g S.heap.size q o d M0 MR H) (hS : va_S (fun a => S.heap.size ≤ a) S.heap H locs) (hl : lv_has ls 9 [(5, .int (jI 0)), (4, .ref d), (3, .ref o), (2, .ref q), (1, .ref S.heap.size), (0, .ref b)]) (hL : 6 ≤ L)
    (kk : ∀ (H1 : Heap) (locs1 : List Loc) (ls1 : Array Slot), va_S (fun a => S.heap.size ≤ a) S.heap H1 locs1 → lv_has ls1 9 [(5, .int (jI 0)), (0, .ref b)] → W p l e room_1 S m #[.ref b] below meth c H1 locs1 (440 + 1 + 0) (25558 + 6 + 0) Q (F0 m 4280 ls1 [])) : W p l e room_1 S m #[.ref b] below meth c H locs 440 25558 Q (F0 m 3294 ls []) := by
  rcases p_nextHole ((xs 1).toInt) ((xs 2).toInt) with ⟨r, Mr', h1, h2, h3⟩ | ⟨E, r, Mr', h1, h2, h3, h5⟩
  · exact k_nextHole A0 hLW hS hl hL (k := 0) rg_0 (lw_pre hLW) (fun _ _ e h => OL.kept h e) (nL_nextHole (c_X3_nextHole (rg_of _) (rg_of _) h1)) (c_X4_nextHole (rg_of _) (rg_of _) h2) h3 (fun _ _ h => h) kk
  · by_cases e1 : E = 1
    · subst e1
      exact k_nextHole A0 hLW hS hl hL (k := 1) (by decide) (lw_pre hLW) (fun _ _ e h => h.elim fun x h => ⟨x, OL.kept h e⟩) (tL_nextHole_1 (t_X3_nextHole hst (rg_of _) (rg_of _) h1)) (c_X4_nextHole (rg_of _) (rg_of _) h2) h3 (fun h => absurd h (by decide)) kk
    · by_cases e2 : E = 2
      · subst e2
        exact k_nextHole A0 hLW hS hl hL (k := 2) (by decide) (lw_pre hLW) (fun _ _ e h => h.elim fun x h => ⟨x, OL.kept h e⟩) (tL_nextHole_2 (t_X3_nextHole hst (rg_of _) (rg_of _) h1)) (c_X4_nextHole (rg_of _) (rg_of _) h2) h3 (fun h => absurd h (by decide)) kk
      · by_cases e3 : E = 3
        · subst e3
          exact k_nextHole A0 hLW hS hl hL (k := 3) (by decide) (lw_pre hLW) (fun _ _ e h => h.elim fun x h => ⟨x, OL.kept h e⟩) (tL_nextHole_3 (t_X3_nextHole hst (rg_of _) (rg_of _) h1)) (c_X4_nextHole (rg_of _) (rg_of _) h2) h3 (fun h => absurd h (by decide)) kk
        · exact absurd (show (if E = 1 then (1 : Int) else if E = 2 then (2 : Int) else if E = 3 then (3 : Int) else 0) = 0 from by simp only [e1, e2, e3, if_false]) h5
theorem q_sameBytes {p : Program} {l : Launch} (hst : l.stackTraces = false) {e : Env} {S : State} {m : MethodId} {below : List Frame} {meth : Method} {c : Code} {H : Heap} {locs : List Loc} {Q : State → Prop} {ls : Array Slot} {g : Gx} {b L : Nat} {xs : Nat → Int32} (A0 : LA p S m c b L xs g) {q o d : Nat} (hLW : LW g S.heap.size q o d M0 MR H) (hS : va_S (fun a => S.heap.size ≤ a) S.heap H locs) (hl : lv_has ls 9 [(5, .int (jI 0)), (4, .ref d), (3, .ref o), (2, .ref q), (1, .ref S.heap.size), (0, .ref b)]) (hL : 6 ≤ L)
    (kk : ∀ (H1 : Heap) (locs1 : List Loc) (ls1 : Array Slot), va_S (fun a => S.heap.size ≤ a) S.heap H1 locs1 → lv_has ls1 9 [(5, .int (jI 0)), (0, .ref b)] → W p l e room_1 S m #[.ref b] below meth c H1 locs1 (440 + 1 + 0) (25558 + 6 + 0) Q (F0 m 4280 ls1 [])) : W p l e room_1 S m #[.ref b] below meth c H locs 440 25558 Q (F0 m 3362 ls []) := by
  rcases p_sameBytes ((xs 1).toInt) ((xs 2).toInt) with ⟨r, Mr', h1, h2, h3⟩ | ⟨E, r, Mr', h1, h2, h3, h5⟩
  · exact k_sameBytes A0 hLW hS hl hL (k := 0) rg_0 (lw_pre hLW) (fun _ _ e h => OL.kept h e) (nL_sameBytes (c_X3_sameBytes (rg_of _) (rg_of _) h1)) (c_X4_sameBytes (rg_of _) (rg_of _) h2) h3 (fun _ _ h => h) kk
  · by_cases e1 : E = 1
    · subst e1
      exact k_sameBytes A0 hLW hS hl hL (k := 1) (by decide) (lw_pre hLW) (fun _ _ e h => h.elim fun x h => ⟨x, OL.kept h e⟩) (tL_sameBytes_1 (t_X3_sameBytes hst (rg_of _) (rg_of _) h1)) (c_X4_sameBytes (rg_of _) (rg_of _) h2) h3 (fun h => absurd h (by decide)) kk
    · by_cases e2 : E = 2
      · subst e2
        exact k_sameBytes A0 hLW hS hl hL (k := 2) (by decide) (lw_pre hLW) (fun _ _ e h => h.elim fun x h => ⟨x, OL.kept h e⟩) (tL_sameBytes_2 (t_X3_sameBytes hst (rg_of _) (rg_of _) h1)) (c_X4_sameBytes (rg_of _) (rg_of _) h2) h3 (fun h => absurd h (by decide)) kk
      · exact absurd (show (if E = 1 then (1 : Int) else if E = 2 then (2 : Int) else 0) = 0 from by simp only [e1, e2, if_false]) h5
theorem q_lookup {p : Program} {l : Launch} (hst : l.stackTraces = false) {e : Env} {S : State} {m : MethodId} {below : List Frame} {meth : Method} {c : Code} {H : Heap} {locs : List Loc} {Q : State → Prop} {ls : Array Slot} {g : Gx} {b L : Nat} {xs : Nat → Int32} (A0 : LA p S m c b L xs g) {q o d : Nat} (hLW : LW g S.heap.size q o d M0 MR H) (hS : va_S (fun a => S.heap.size ≤ a) S.heap H locs) (hl : lv_has ls 9 [(5, .int (jI 0)), (4, .ref d), (3, .ref o), (2, .ref q), (1, .ref S.heap.size), (0, .ref b)]) (hL : 6 ≤ L)
    (kk : ∀ (H1 : Heap) (locs1 : List Loc) (ls1 : Array Slot), va_S (fun a => S.heap.size ≤ a) S.heap H1 locs1 → lv_has ls1 9 [(5, .int (jI 0)), (0, .ref b)] → W p l e room_1 S m #[.ref b] below meth c H1 locs1 (440 + 1 + 0) (25558 + 6 + 0) Q (F0 m 4280 ls1 [])) : W p l e room_1 S m #[.ref b] below meth c H locs 440 25558 Q (F0 m 3437 ls []) := by
  rcases p_lookup ((xs 1).toInt) ((xs 2).toInt) with ⟨r, Mr', h1, h2, h3⟩ | ⟨E, r, Mr', h1, h2, h3, h5⟩
  · exact k_lookup A0 hLW hS hl hL (k := 0) rg_0 (lw_pre hLW) (fun _ _ e h => OL.kept h e) (nL_lookup (c_X3_lookup (rg_of _) (rg_of _) h1)) (c_X4_lookup (rg_of _) (rg_of _) h2) h3 (fun _ _ h => h) kk
  · by_cases e1 : E = 1
    · subst e1
      exact k_lookup A0 hLW hS hl hL (k := 1) (by decide) (lw_pre hLW) (fun _ _ e h => h.elim fun x h => ⟨x, OL.kept h e⟩) (tL_lookup_1 (t_X3_lookup hst (rg_of _) (rg_of _) h1)) (c_X4_lookup (rg_of _) (rg_of _) h2) h3 (fun h => absurd h (by decide)) kk
    · by_cases e2 : E = 2
      · subst e2
        exact k_lookup A0 hLW hS hl hL (k := 2) (by decide) (lw_pre hLW) (fun _ _ e h => h.elim fun x h => ⟨x, OL.kept h e⟩) (tL_lookup_2 (t_X3_lookup hst (rg_of _) (rg_of _) h1)) (c_X4_lookup (rg_of _) (rg_of _) h2) h3 (fun h => absurd h (by decide)) kk
      · by_cases e3 : E = 3
        · subst e3
          exact k_lookup A0 hLW hS hl hL (k := 3) (by decide) (lw_pre hLW) (fun _ _ e h => h.elim fun x h => ⟨x, OL.kept h e⟩) (tL_lookup_3 (t_X3_lookup hst (rg_of _) (rg_of _) h1)) (c_X4_lookup (rg_of _) (rg_of _) h2) h3 (fun h => absurd h (by decide)) kk
        · exact absurd (show (if E = 1 then (1 : Int) else if E = 2 then (2 : Int) else if E = 3 then (3 : Int) else 0) = 0 from by simp only [e1, e2, e3, if_false]) h5
theorem q_follow {p : Program} {l : Launch} (hst : l.stackTraces = false) {e : Env} {S : State} {m : MethodId} {below : List Frame} {meth : Method} {c : Code} {H : Heap} {locs : List Loc} {Q : State → Prop} {ls : Array Slot} {g : Gx} {b L : Nat} {xs : Nat → Int32} (A0 : LA p S m c b L xs g) {q o d : Nat} (hLW : LW g S.heap.size q o d M0 MR H) (hS : va_S (fun a => S.heap.size ≤ a) S.heap H locs) (hl : lv_has ls 9 [(5, .int (jI 0)), (4, .ref d), (3, .ref o), (2, .ref q), (1, .ref S.heap.size), (0, .ref b)]) (hL : 6 ≤ L)
    (kk : ∀ (H1 : Heap) (locs1 : List Loc) (ls1 : Array Slot), va_S (fun a => S.heap.size ≤ a) S.heap H1 locs1 → lv_has ls1 9 [(5, .int (jI 0)), (0, .ref b)] → W p l e room_1 S m #[.ref b] below meth c H1 locs1 (440 + 1 + 0) (25558 + 6 + 0) Q (F0 m 4280 ls1 [])) : W p l e room_1 S m #[.ref b] below meth c H locs 440 25558 Q (F0 m 3505 ls []) := by
  rcases p_follow ((xs 1).toInt) ((xs 2).toInt) with ⟨r, M', Mr', h1, h2, h3⟩ | ⟨E, r, Mr', h1, h2, h3, h5⟩
  · exact k_follow A0 hLW hS hl hL (k := 0) rg_0 (lw_pre hLW) (fun _ _ e h => OL.kept h e) (nL_follow (c_X3_follow (rg_of _) (rg_of _) h1)) (c_X4_follow (rg_of _) (rg_of _) h2) h3 (fun _ _ h => h) kk
  · by_cases e1 : E = 1
    · subst e1
      exact k_follow A0 hLW hS hl hL (k := 1) (by decide) (lw_pre hLW) (fun _ _ e h => h.elim fun x h => ⟨x, OL.kept h e⟩) (tL_follow_1 (t_X3_follow hst (rg_of _) (rg_of _) h1)) (c_X4_follow (rg_of _) (rg_of _) h2) h3 (fun h => absurd h (by decide)) kk
    · by_cases e2 : E = 2
      · subst e2
        exact k_follow A0 hLW hS hl hL (k := 2) (by decide) (lw_pre hLW) (fun _ _ e h => h.elim fun x h => ⟨x, OL.kept h e⟩) (tL_follow_2 (t_X3_follow hst (rg_of _) (rg_of _) h1)) (c_X4_follow (rg_of _) (rg_of _) h2) h3 (fun h => absurd h (by decide)) kk
      · by_cases e3 : E = 3
        · subst e3
          exact k_follow A0 hLW hS hl hL (k := 3) (by decide) (lw_pre hLW) (fun _ _ e h => h.elim fun x h => ⟨x, OL.kept h e⟩) (tL_follow_3 (t_X3_follow hst (rg_of _) (rg_of _) h1)) (c_X4_follow (rg_of _) (rg_of _) h2) h3 (fun h => absurd h (by decide)) kk
        · exact absurd (show (if E = 1 then (1 : Int) else if E = 2 then (2 : Int) else if E = 3 then (3 : Int) else 0) = 0 from by simp only [e1, e2, e3, if_false]) h5
theorem q_nameAt {p : Program} {l : Launch} (hst : l.stackTraces = false) {e : Env} {S : State} {m : MethodId} {below : List Frame} {meth : Method} {c : Code} {H : Heap} {locs : List Loc} {Q : State → Prop} {ls : Array Slot} {g : Gx} {b L : Nat} {xs : Nat → Int32} (A0 : LA p S m c b L xs g) {q o d : Nat} (hLW : LW g S.heap.size q o d M0 MR H) (hS : va_S (fun a => S.heap.size ≤ a) S.heap H locs) (hl : lv_has ls 9 [(5, .int (jI 0)), (4, .ref d), (3, .ref o), (2, .ref q), (1, .ref S.heap.size), (0, .ref b)]) (hL : 6 ≤ L)
    (kk : ∀ (H1 : Heap) (locs1 : List Loc) (ls1 : Array Slot), va_S (fun a => S.heap.size ≤ a) S.heap H1 locs1 → lv_has ls1 9 [(5, .int (jI 0)), (0, .ref b)] → W p l e room_1 S m #[.ref b] below meth c H1 locs1 (440 + 1 + 0) (25558 + 6 + 0) Q (F0 m 4280 ls1 [])) : W p l e room_1 S m #[.ref b] below meth c H locs 440 25558 Q (F0 m 3573 ls []) := by
  rcases p_nameAt ((xs 1).toInt) ((xs 2).toInt) with ⟨r, Mr', h1, h2, h3⟩ | ⟨E, r, Mr', h1, h2, h3, h5⟩
  · exact k_nameAt A0 hLW hS hl hL (k := 0) rg_0 (lw_pre hLW) (fun _ _ e h => OL.kept h e) (nL_nameAt (c_X3_nameAt (rg_of _) (rg_of _) h1)) (c_X4_nameAt (rg_of _) (rg_of _) h2) h3 (fun _ _ h => h) kk
  · by_cases e1 : E = 1
    · subst e1
      exact k_nameAt A0 hLW hS hl hL (k := 1) (by decide) (lw_pre hLW) (fun _ _ e h => h.elim fun x h => ⟨x, OL.kept h e⟩) (tL_nameAt_1 (t_X3_nameAt hst (rg_of _) (rg_of _) h1)) (c_X4_nameAt (rg_of _) (rg_of _) h2) h3 (fun h => absurd h (by decide)) kk
    · by_cases e2 : E = 2
      · subst e2
        exact k_nameAt A0 hLW hS hl hL (k := 2) (by decide) (lw_pre hLW) (fun _ _ e h => h.elim fun x h => ⟨x, OL.kept h e⟩) (tL_nameAt_2 (t_X3_nameAt hst (rg_of _) (rg_of _) h1)) (c_X4_nameAt (rg_of _) (rg_of _) h2) h3 (fun h => absurd h (by decide)) kk
      · exact absurd (show (if E = 1 then (1 : Int) else if E = 2 then (2 : Int) else 0) = 0 from by simp only [e1, e2, if_false]) h5
theorem q_parentOf {p : Program} {l : Launch} (hst : l.stackTraces = false) {e : Env} {S : State} {m : MethodId} {below : List Frame} {meth : Method} {c : Code} {H : Heap} {locs : List Loc} {Q : State → Prop} {ls : Array Slot} {g : Gx} {b L : Nat} {xs : Nat → Int32} (A0 : LA p S m c b L xs g) {q o d : Nat} (hLW : LW g S.heap.size q o d M0 MR H) (hS : va_S (fun a => S.heap.size ≤ a) S.heap H locs) (hl : lv_has ls 9 [(5, .int (jI 0)), (4, .ref d), (3, .ref o), (2, .ref q), (1, .ref S.heap.size), (0, .ref b)]) (hL : 6 ≤ L)
    (kk : ∀ (H1 : Heap) (locs1 : List Loc) (ls1 : Array Slot), va_S (fun a => S.heap.size ≤ a) S.heap H1 locs1 → lv_has ls1 9 [(5, .int (jI 0)), (0, .ref b)] → W p l e room_1 S m #[.ref b] below meth c H1 locs1 (440 + 1 + 0) (25558 + 6 + 0) Q (F0 m 4280 ls1 [])) : W p l e room_1 S m #[.ref b] below meth c H locs 440 25558 Q (F0 m 3641 ls []) := by
  rcases p_parentOf ((xs 1).toInt) with ⟨r, Mr', h1, h2, h3⟩ | ⟨E, r, Mr', h1, h2, h3, h5⟩
  · exact k_parentOf A0 hLW hS hl hL (k := 0) rg_0 (lw_pre hLW) (fun _ _ e h => OL.kept h e) (nL_parentOf (c_X3_parentOf (rg_of _) h1)) (c_X4_parentOf (rg_of _) h2) h3 (fun _ _ h => h) kk
  · by_cases e1 : E = 1
    · subst e1
      exact k_parentOf A0 hLW hS hl hL (k := 1) (by decide) (lw_pre hLW) (fun _ _ e h => h.elim fun x h => ⟨x, OL.kept h e⟩) (tL_parentOf_1 (t_X3_parentOf hst (rg_of _) h1)) (c_X4_parentOf (rg_of _) h2) h3 (fun h => absurd h (by decide)) kk
    · by_cases e2 : E = 2
      · subst e2
        exact k_parentOf A0 hLW hS hl hL (k := 2) (by decide) (lw_pre hLW) (fun _ _ e h => h.elim fun x h => ⟨x, OL.kept h e⟩) (tL_parentOf_2 (t_X3_parentOf hst (rg_of _) h1)) (c_X4_parentOf (rg_of _) h2) h3 (fun h => absurd h (by decide)) kk
      · exact absurd (show (if E = 1 then (1 : Int) else if E = 2 then (2 : Int) else 0) = 0 from by simp only [e1, e2, if_false]) h5
theorem q_depthOf {p : Program} {l : Launch} (hst : l.stackTraces = false) {e : Env} {S : State} {m : MethodId} {below : List Frame} {meth : Method} {c : Code} {H : Heap} {locs : List Loc} {Q : State → Prop} {ls : Array Slot} {g : Gx} {b L : Nat} {xs : Nat → Int32} (A0 : LA p S m c b L xs g) {q o d : Nat} (hLW : LW g S.heap.size q o d M0 MR H) (hS : va_S (fun a => S.heap.size ≤ a) S.heap H locs) (hl : lv_has ls 9 [(5, .int (jI 0)), (4, .ref d), (3, .ref o), (2, .ref q), (1, .ref S.heap.size), (0, .ref b)]) (hL : 6 ≤ L)
    (kk : ∀ (H1 : Heap) (locs1 : List Loc) (ls1 : Array Slot), va_S (fun a => S.heap.size ≤ a) S.heap H1 locs1 → lv_has ls1 9 [(5, .int (jI 0)), (0, .ref b)] → W p l e room_1 S m #[.ref b] below meth c H1 locs1 (440 + 1 + 0) (25558 + 6 + 0) Q (F0 m 4280 ls1 [])) : W p l e room_1 S m #[.ref b] below meth c H locs 440 25558 Q (F0 m 3697 ls []) := by
  rcases p_depthOf ((xs 1).toInt) with ⟨r, Mr', h1, h2, h3⟩ | ⟨E, r, Mr', h1, h2, h3, h5⟩
  · exact k_depthOf A0 hLW hS hl hL (k := 0) rg_0 (lw_pre hLW) (fun _ _ e h => OL.kept h e) (nL_depthOf (c_X3_depthOf (rg_of _) h1)) (c_X4_depthOf (rg_of _) h2) h3 (fun _ _ h => h) kk
  · by_cases e1 : E = 1
    · subst e1
      exact k_depthOf A0 hLW hS hl hL (k := 1) (by decide) (lw_pre hLW) (fun _ _ e h => h.elim fun x h => ⟨x, OL.kept h e⟩) (tL_depthOf_1 (t_X3_depthOf hst (rg_of _) h1)) (c_X4_depthOf (rg_of _) h2) h3 (fun h => absurd h (by decide)) kk
    · by_cases e2 : E = 2
      · subst e2
        exact k_depthOf A0 hLW hS hl hL (k := 2) (by decide) (lw_pre hLW) (fun _ _ e h => h.elim fun x h => ⟨x, OL.kept h e⟩) (tL_depthOf_2 (t_X3_depthOf hst (rg_of _) h1)) (c_X4_depthOf (rg_of _) h2) h3 (fun h => absurd h (by decide)) kk
      · exact absurd (show (if E = 1 then (1 : Int) else if E = 2 then (2 : Int) else 0) = 0 from by simp only [e1, e2, if_false]) h5
theorem q_isOrphan {p : Program} {l : Launch} (hst : l.stackTraces = false) {e : Env} {S : State} {m : MethodId} {below : List Frame} {meth : Method} {c : Code} {H : Heap} {locs : List Loc} {Q : State → Prop} {ls : Array Slot} {g : Gx} {b L : Nat} {xs : Nat → Int32} (A0 : LA p S m c b L xs g) {q o d : Nat} (hLW : LW g S.heap.size q o d M0 MR H) (hS : va_S (fun a => S.heap.size ≤ a) S.heap H locs) (hl : lv_has ls 9 [(5, .int (jI 0)), (4, .ref d), (3, .ref o), (2, .ref q), (1, .ref S.heap.size), (0, .ref b)]) (hL : 6 ≤ L)
    (kk : ∀ (H1 : Heap) (locs1 : List Loc) (ls1 : Array Slot), va_S (fun a => S.heap.size ≤ a) S.heap H1 locs1 → lv_has ls1 9 [(5, .int (jI 0)), (0, .ref b)] → W p l e room_1 S m #[.ref b] below meth c H1 locs1 (440 + 1 + 0) (25558 + 6 + 0) Q (F0 m 4280 ls1 [])) : W p l e room_1 S m #[.ref b] below meth c H locs 440 25558 Q (F0 m 3753 ls []) := by
  rcases p_isOrphan ((xs 1).toInt) with ⟨r, Mr', h1, h2, h3⟩ | ⟨E, r, Mr', h1, h2, h3, h5⟩
  · exact k_isOrphan A0 hLW hS hl hL (k := 0) rg_0 (lw_pre hLW) (fun _ _ e h => OL.kept h e) (nL_isOrphan (c_X3_isOrphan (rg_of _) h1)) (c_X4_isOrphan (rg_of _) h2) h3 (fun _ _ h => h) kk
  · by_cases e1 : E = 1
    · subst e1
      exact k_isOrphan A0 hLW hS hl hL (k := 1) (by decide) (lw_pre hLW) (fun _ _ e h => h.elim fun x h => ⟨x, OL.kept h e⟩) (tL_isOrphan_1 (t_X3_isOrphan hst (rg_of _) h1)) (c_X4_isOrphan (rg_of _) h2) h3 (fun h => absurd h (by decide)) kk
    · by_cases e2 : E = 2
      · subst e2
        exact k_isOrphan A0 hLW hS hl hL (k := 2) (by decide) (lw_pre hLW) (fun _ _ e h => h.elim fun x h => ⟨x, OL.kept h e⟩) (tL_isOrphan_2 (t_X3_isOrphan hst (rg_of _) h1)) (c_X4_isOrphan (rg_of _) h2) h3 (fun h => absurd h (by decide)) kk
      · exact absurd (show (if E = 1 then (1 : Int) else if E = 2 then (2 : Int) else 0) = 0 from by simp only [e1, e2, if_false]) h5
theorem q_blocksUnder {p : Program} {l : Launch} (hst : l.stackTraces = false) {e : Env} {S : State} {m : MethodId} {below : List Frame} {meth : Method} {c : Code} {H : Heap} {locs : List Loc} {Q : State → Prop} {ls : Array Slot} {g : Gx} {b L : Nat} {xs : Nat → Int32} (A0 : LA p S m c b L xs g) {q o d : Nat} (hLW : LW g S.heap.size q o d M0 MR H) (hS : va_S (fun a => S.heap.size ≤ a) S.heap H locs) (hl : lv_has ls 9 [(5, .int (jI 0)), (4, .ref d), (3, .ref o), (2, .ref q), (1, .ref S.heap.size), (0, .ref b)]) (hL : 6 ≤ L)
    (kk : ∀ (H1 : Heap) (locs1 : List Loc) (ls1 : Array Slot), va_S (fun a => S.heap.size ≤ a) S.heap H1 locs1 → lv_has ls1 9 [(5, .int (jI 0)), (0, .ref b)] → W p l e room_1 S m #[.ref b] below meth c H1 locs1 (440 + 1 + 2) (25558 + 6 + 233) Q (F0 m 4280 ls1 [])) : W p l e room_1 S m #[.ref b] below meth c H locs 440 25558 Q (F0 m 3816 ls []) := by
  rcases p_blocksUnder ((xs 1).toInt) with ⟨r, M', Mr', h1, h2, h3⟩ | ⟨E, r, Mr', h1, h2, h3, h5⟩
  · exact k_blocksUnder A0 hLW hS hl hL (k := 0) rg_0 (lw_pre hLW) (fun _ _ e h => OL.kept h e) (nL_blocksUnder (c_X3_blocksUnder (rg_of _) h1)) (c_X4_blocksUnder (rg_of _) h2) h3 (fun _ _ h => h) kk
  · by_cases e1 : E = 1
    · subst e1
      exact k_blocksUnder A0 hLW hS hl hL (k := 1) (by decide) (lw_pre hLW) (fun _ _ e h => h.elim fun x h => ⟨x, OL.kept h e⟩) (tL_blocksUnder_1 (t_X3_blocksUnder hst (rg_of _) h1)) (c_X4_blocksUnder (rg_of _) h2) h3 (fun h => absurd h (by decide)) kk
    · by_cases e2 : E = 2
      · subst e2
        exact k_blocksUnder A0 hLW hS hl hL (k := 2) (by decide) (lw_pre hLW) (fun _ _ e h => h.elim fun x h => ⟨x, OL.kept h e⟩) (tL_blocksUnder_2 (t_X3_blocksUnder hst (rg_of _) h1)) (c_X4_blocksUnder (rg_of _) h2) h3 (fun h => absurd h (by decide)) kk
      · exact absurd (show (if E = 1 then (1 : Int) else if E = 2 then (2 : Int) else 0) = 0 from by simp only [e1, e2, if_false]) h5
theorem q_wouldFree {p : Program} {l : Launch} (hst : l.stackTraces = false) {e : Env} {S : State} {m : MethodId} {below : List Frame} {meth : Method} {c : Code} {H : Heap} {locs : List Loc} {Q : State → Prop} {ls : Array Slot} {g : Gx} {b L : Nat} {xs : Nat → Int32} (A0 : LA p S m c b L xs g) {q o d : Nat} (hLW : LW g S.heap.size q o d M0 MR H) (hS : va_S (fun a => S.heap.size ≤ a) S.heap H locs) (hl : lv_has ls 9 [(5, .int (jI 0)), (4, .ref d), (3, .ref o), (2, .ref q), (1, .ref S.heap.size), (0, .ref b)]) (hL : 6 ≤ L)
    (kk : ∀ (H1 : Heap) (locs1 : List Loc) (ls1 : Array Slot), va_S (fun a => S.heap.size ≤ a) S.heap H1 locs1 → lv_has ls1 9 [(5, .int (jI 0)), (0, .ref b)] → W p l e room_1 S m #[.ref b] below meth c H1 locs1 (440 + 1 + 5) (25558 + 6 + 498) Q (F0 m 4280 ls1 [])) : W p l e room_1 S m #[.ref b] below meth c H locs 440 25558 Q (F0 m 3872 ls []) := by
  rcases p_wouldFree ((xs 1).toInt) with ⟨r, M', Mr', h1, h2, h3⟩ | ⟨E, r, Mr', h1, h2, h3, h5⟩
  · exact k_wouldFree A0 hLW hS hl hL (k := 0) rg_0 (lw_pre hLW) (fun _ _ e h => OL.kept h e) (nL_wouldFree (c_X3_wouldFree (rg_of _) h1)) (c_X4_wouldFree (rg_of _) h2) h3 (fun _ _ h => h) kk
  · by_cases e1 : E = 1
    · subst e1
      exact k_wouldFree A0 hLW hS hl hL (k := 1) (by decide) (lw_pre hLW) (fun _ _ e h => h.elim fun x h => ⟨x, OL.kept h e⟩) (tL_wouldFree_1 (t_X3_wouldFree hst (rg_of _) h1)) (c_X4_wouldFree (rg_of _) h2) h3 (fun h => absurd h (by decide)) kk
    · by_cases e2 : E = 2
      · subst e2
        exact k_wouldFree A0 hLW hS hl hL (k := 2) (by decide) (lw_pre hLW) (fun _ _ e h => h.elim fun x h => ⟨x, OL.kept h e⟩) (tL_wouldFree_2 (t_X3_wouldFree hst (rg_of _) h1)) (c_X4_wouldFree (rg_of _) h2) h3 (fun h => absurd h (by decide)) kk
      · exact absurd (show (if E = 1 then (1 : Int) else if E = 2 then (2 : Int) else 0) = 0 from by simp only [e1, e2, if_false]) h5
theorem q_used {p : Program} {l : Launch} (hst : l.stackTraces = false) {e : Env} {S : State} {m : MethodId} {below : List Frame} {meth : Method} {c : Code} {H : Heap} {locs : List Loc} {Q : State → Prop} {ls : Array Slot} {g : Gx} {b L : Nat} {xs : Nat → Int32} (A0 : LA p S m c b L xs g) {q o d : Nat} (hLW : LW g S.heap.size q o d M0 MR H) (hS : va_S (fun a => S.heap.size ≤ a) S.heap H locs) (hl : lv_has ls 9 [(5, .int (jI 0)), (4, .ref d), (3, .ref o), (2, .ref q), (1, .ref S.heap.size), (0, .ref b)]) (hL : 6 ≤ L)
    (kk : ∀ (H1 : Heap) (locs1 : List Loc) (ls1 : Array Slot), va_S (fun a => S.heap.size ≤ a) S.heap H1 locs1 → lv_has ls1 9 [(5, .int (jI 0)), (0, .ref b)] → W p l e room_1 S m #[.ref b] below meth c H1 locs1 (440 + 1 + 2) (25558 + 6 + 233) Q (F0 m 4280 ls1 [])) : W p l e room_1 S m #[.ref b] below meth c H locs 440 25558 Q (F0 m 3928 ls []) := by
  rcases p_used  with ⟨r, Mr', h1, h2, h3⟩ | ⟨E, r, Mr', h1, h2, h3, h5⟩
  · exact k_used A0 hLW hS hl hL (k := 0) rg_0 (lw_pre hLW) (fun _ _ e h => OL.kept h e) (nL_used (c_X3_used h1)) (c_X4_used_ h2) h3 (fun _ _ h => h) kk
  · by_cases e1 : E = 1
    · subst e1
      exact k_used A0 hLW hS hl hL (k := 1) (by decide) (lw_pre hLW) (fun _ _ e h => h.elim fun x h => ⟨x, OL.kept h e⟩) (tL_used_1 (t_X3_used hst h1)) (c_X4_used_ h2) h3 (fun h => absurd h (by decide)) kk
    · exact absurd (show (if E = 1 then (1 : Int) else 0) = 0 from by simp only [e1, if_false]) h5
theorem q_usedBy {p : Program} {l : Launch} (hst : l.stackTraces = false) {e : Env} {S : State} {m : MethodId} {below : List Frame} {meth : Method} {c : Code} {H : Heap} {locs : List Loc} {Q : State → Prop} {ls : Array Slot} {g : Gx} {b L : Nat} {xs : Nat → Int32} (A0 : LA p S m c b L xs g) {q o d : Nat} (hLW : LW g S.heap.size q o d M0 MR H) (hS : va_S (fun a => S.heap.size ≤ a) S.heap H locs) (hl : lv_has ls 9 [(5, .int (jI 0)), (4, .ref d), (3, .ref o), (2, .ref q), (1, .ref S.heap.size), (0, .ref b)]) (hL : 6 ≤ L)
    (kk : ∀ (H1 : Heap) (locs1 : List Loc) (ls1 : Array Slot), va_S (fun a => S.heap.size ≤ a) S.heap H1 locs1 → lv_has ls1 9 [(5, .int (jI 0)), (0, .ref b)] → W p l e room_1 S m #[.ref b] below meth c H1 locs1 (440 + 1 + 0) (25558 + 6 + 0) Q (F0 m 4280 ls1 [])) : W p l e room_1 S m #[.ref b] below meth c H locs 440 25558 Q (F0 m 3972 ls []) := by
  rcases p_usedBy ((xs 1).toInt) with ⟨r, Mr', h1, h2, h3⟩ | ⟨E, r, Mr', h1, h2, h3, h5⟩
  · exact k_usedBy A0 hLW hS hl hL (k := 0) rg_0 (lw_pre hLW) (fun _ _ e h => OL.kept h e) (nL_usedBy (c_X3_usedBy (rg_of _) h1)) (c_X4_usedBy_ (rg_of _) h2) h3 (fun _ _ h => h) kk
  · by_cases e1 : E = 1
    · subst e1
      exact k_usedBy A0 hLW hS hl hL (k := 1) (by decide) (lw_pre hLW) (fun _ _ e h => h.elim fun x h => ⟨x, OL.kept h e⟩) (tL_usedBy_1 (t_X3_usedBy hst (rg_of _) h1)) (c_X4_usedBy_ (rg_of _) h2) h3 (fun h => absurd h (by decide)) kk
    · by_cases e3 : E = 3
      · subst e3
        exact k_usedBy A0 hLW hS hl hL (k := 2) (by decide) (lw_pre hLW) (fun _ _ e h => h.elim fun x h => ⟨x, OL.kept h e⟩) (tL_usedBy_3 (t_X3_usedBy hst (rg_of _) h1)) (c_X4_usedBy_ (rg_of _) h2) h3 (fun h => absurd h (by decide)) kk
      · exact absurd (show (if E = 1 then (1 : Int) else if E = 3 then (2 : Int) else 0) = 0 from by simp only [e1, e3, if_false]) h5
theorem q_quotaOf {p : Program} {l : Launch} (hst : l.stackTraces = false) {e : Env} {S : State} {m : MethodId} {below : List Frame} {meth : Method} {c : Code} {H : Heap} {locs : List Loc} {Q : State → Prop} {ls : Array Slot} {g : Gx} {b L : Nat} {xs : Nat → Int32} (A0 : LA p S m c b L xs g) {q o d : Nat} (hLW : LW g S.heap.size q o d M0 MR H) (hS : va_S (fun a => S.heap.size ≤ a) S.heap H locs) (hl : lv_has ls 9 [(5, .int (jI 0)), (4, .ref d), (3, .ref o), (2, .ref q), (1, .ref S.heap.size), (0, .ref b)]) (hL : 6 ≤ L)
    (kk : ∀ (H1 : Heap) (locs1 : List Loc) (ls1 : Array Slot), va_S (fun a => S.heap.size ≤ a) S.heap H1 locs1 → lv_has ls1 9 [(5, .int (jI 0)), (0, .ref b)] → W p l e room_1 S m #[.ref b] below meth c H1 locs1 (440 + 1 + 0) (25558 + 6 + 0) Q (F0 m 4280 ls1 [])) : W p l e room_1 S m #[.ref b] below meth c H locs 440 25558 Q (F0 m 4028 ls []) := by
  rcases p_quotaOf ((xs 1).toInt) with ⟨r, Mr', h1, h2, h3⟩ | ⟨E, r, Mr', h1, h2, h3, h5⟩
  · exact k_quotaOf A0 hLW hS hl hL (k := 0) rg_0 (lw_pre hLW) (fun _ _ e h => OL.kept h e) (nL_quotaOf (c_X3_quotaOf (rg_of _) h1)) (c_X4_quotaOf (rg_of _) h2) h3 (fun _ _ h => h) kk
  · by_cases e1 : E = 1
    · subst e1
      exact k_quotaOf A0 hLW hS hl hL (k := 1) (by decide) (lw_pre hLW) (fun _ _ e h => h.elim fun x h => ⟨x, OL.kept h e⟩) (tL_quotaOf_1 (t_X3_quotaOf hst (rg_of _) h1)) (c_X4_quotaOf (rg_of _) h2) h3 (fun h => absurd h (by decide)) kk
    · by_cases e3 : E = 3
      · subst e3
        exact k_quotaOf A0 hLW hS hl hL (k := 2) (by decide) (lw_pre hLW) (fun _ _ e h => h.elim fun x h => ⟨x, OL.kept h e⟩) (tL_quotaOf_3 (t_X3_quotaOf hst (rg_of _) h1)) (c_X4_quotaOf (rg_of _) h2) h3 (fun h => absurd h (by decide)) kk
      · exact absurd (show (if E = 1 then (1 : Int) else if E = 3 then (2 : Int) else 0) = 0 from by simp only [e1, e3, if_false]) h5
theorem q_greatestFile {p : Program} {l : Launch} (hst : l.stackTraces = false) {e : Env} {S : State} {m : MethodId} {below : List Frame} {meth : Method} {c : Code} {H : Heap} {locs : List Loc} {Q : State → Prop} {ls : Array Slot} {g : Gx} {b L : Nat} {xs : Nat → Int32} (A0 : LA p S m c b L xs g) {q o d : Nat} (hLW : LW g S.heap.size q o d M0 MR H) (hS : va_S (fun a => S.heap.size ≤ a) S.heap H locs) (hl : lv_has ls 9 [(5, .int (jI 0)), (4, .ref d), (3, .ref o), (2, .ref q), (1, .ref S.heap.size), (0, .ref b)]) (hL : 6 ≤ L)
    (kk : ∀ (H1 : Heap) (locs1 : List Loc) (ls1 : Array Slot), va_S (fun a => S.heap.size ≤ a) S.heap H1 locs1 → lv_has ls1 9 [(5, .int (jI 0)), (0, .ref b)] → W p l e room_1 S m #[.ref b] below meth c H1 locs1 (440 + 1 + 0) (25558 + 6 + 0) Q (F0 m 4280 ls1 [])) : W p l e room_1 S m #[.ref b] below meth c H locs 440 25558 Q (F0 m 4084 ls []) := by
  rcases p_greatestFile  with ⟨r, Mr', h1, h2, h3⟩ | ⟨E, r, Mr', h1, h2, h3, h5⟩
  · exact k_greatestFile A0 hLW hS hl hL (k := 0) rg_0 (lw_pre hLW) (fun _ _ e h => OL.kept h e) (nL_greatestFile (c_X3_greatestFile h1)) (c_X4_greatestFile h2) h3 (fun _ _ h => h) kk
  · by_cases e1 : E = 1
    · subst e1
      exact k_greatestFile A0 hLW hS hl hL (k := 1) (by decide) (lw_pre hLW) (fun _ _ e h => h.elim fun x h => ⟨x, OL.kept h e⟩) (tL_greatestFile_1 (t_X3_greatestFile hst h1)) (c_X4_greatestFile h2) h3 (fun h => absurd h (by decide)) kk
    · exact absurd (show (if E = 1 then (1 : Int) else 0) = 0 from by simp only [e1, if_false]) h5
theorem q_flaws {p : Program} {l : Launch} (hst : l.stackTraces = false) {e : Env} {S : State} {m : MethodId} {below : List Frame} {meth : Method} {c : Code} {H : Heap} {locs : List Loc} {Q : State → Prop} {ls : Array Slot} {g : Gx} {b L : Nat} {xs : Nat → Int32} (A0 : LA p S m c b L xs g) {q o d : Nat} (hLW : LW g S.heap.size q o d M0 MR H) (hS : va_S (fun a => S.heap.size ≤ a) S.heap H locs) (hl : lv_has ls 9 [(5, .int (jI 0)), (4, .ref d), (3, .ref o), (2, .ref q), (1, .ref S.heap.size), (0, .ref b)]) (hL : 6 ≤ L)
    (kk : ∀ (H1 : Heap) (locs1 : List Loc) (ls1 : Array Slot), va_S (fun a => S.heap.size ≤ a) S.heap H1 locs1 → lv_has ls1 9 [(5, .int (jI 0)), (0, .ref b)] → W p l e room_1 S m #[.ref b] below meth c H1 locs1 (440 + 1 + 0) (25558 + 6 + 0) Q (F0 m 4280 ls1 [])) : W p l e room_1 S m #[.ref b] below meth c H locs 440 25558 Q (F0 m 4193 ls []) := by
  rcases p_flaws  with ⟨r, Mr', h1, h2, h3⟩ | ⟨E, r, Mr', h1, h2, h3, h5⟩
  · exact k_flaws A0 hLW hS hl hL (k := 0) rg_0 (lw_pre hLW) (fun _ _ e h => OL.kept h e) (nL_flaws (c_X3_flaws h1)) (c_X4_flaws h2) h3 (fun _ _ h => h) kk
  · by_cases e1 : E = 1
    · subst e1
      exact k_flaws A0 hLW hS hl hL (k := 1) (by decide) (lw_pre hLW) (fun _ _ e h => h.elim fun x h => ⟨x, OL.kept h e⟩) (tL_flaws_1 (t_X3_flaws hst h1)) (c_X4_flaws h2) h3 (fun h => absurd h (by decide)) kk
    · exact absurd (show (if E = 1 then (1 : Int) else 0) = 0 from by simp only [e1, if_false]) h5
