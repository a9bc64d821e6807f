abbrev rmX3_needPower : Room := { frames := 0, cells := 0, slots := 0, locals := 0 }
theorem hyX3_needPower : yX3_needPower.cls = RX3 ∧ yX3_needPower.cls ≠ "java/lang/invoke/MethodHandle" ∧ yX3_needPower.cls ≠ "java/lang/invoke/VarHandle" ∧ (parseMethodDescriptor yX3_needPower.desc).map (fun d => d.parameters.length) = some 0 := by decide +kernel
def F_X3_needPower (M : Mm) : Option (Unit) := (if (M 0 0 5) = 0 then (some ()) else none)
set_option maxHeartbeats 4000000 in
set_option maxRecDepth 100000 in
theorem c_X3_needPower {l : Launch} {g : Gx} {b : Nat} {M : Mm} (hF : F_X3_needPower M  = some ()) : Ct l yX3_needPower cX3_needPower 1 none rmX3_needPower g b [.ref (adr b 0 0)] M (qV g b M) := by
  refine ct_of (by decide +kernel) (Nat.le_of_ble_eq_true rfl) ?_
  intro p e s m args below meth c C0 hR ls hl
  obtain ⟨hx, hb, hr, hlocks, hml, hown, hts, hK⟩ := id C0
  have hS : va_S (AA b s.heap.size) s.heap s.heap [] := va_S.rf
  have hl : lv_has ls 1 [(0, .ref (adr b 0 0))] := hl
  obtain ⟨H, hH⟩ : ∃ z, z = s.heap := ⟨_, rfl⟩
  obtain ⟨locs, hlo⟩ : ∃ z : List Loc, z = [] := ⟨_, rfl⟩
  have hR : Rel g b M H := by rw [hH]; exact hR
  have hS : va_S (AA b s.heap.size) s.heap H locs := by rw [hH, hlo]; exact hS
  suffices hW : W p l e rmX3_needPower s m args below meth c H locs 0 0 (MQ below (qV g b M s.heap.size) args s 0 0 (AA b s.heap.size)) (F0 m 0 ls []) by rw [hH, hlo] at hW; exact hW
  rw [F_X3_needPower] at hF
  refine lv_aload_n hx hb dX3_needPower_0 rfl (lv_at hl 0 rfl) ?_
  refine gf_3_5 hx hb hts hown hK hR wd143 dX3_needPower_1 ?_
  have hg1 : rg (M 0 0 5) := hR.2 0 0 5 (by decide)
  refine x_if_eq (tgt := 18) hx hb hg1 dX3_needPower_4 (by decide) (fun ci2 => ?_) (fun ci2 => ?_)
  · rw [if_pos ci2] at hF
    cases hF
    exact x_vret hx hb hlocks hK hR hS hr dX3_needPower_18
  · rw [if_neg ci2] at hF
    cases hF
abbrev rmX3_needNode : Room := { frames := 1, cells := 0, slots := 0, locals := 21 }
theorem hyX3_needNode : yX3_needNode.cls = RX3 ∧ yX3_needNode.cls ≠ "java/lang/invoke/MethodHandle" ∧ yX3_needNode.cls ≠ "java/lang/invoke/VarHandle" ∧ (parseMethodDescriptor yX3_needNode.desc).map (fun d => d.parameters.length) = some 1 := by decide +kernel
def F_X3_needNode (M : Mm) (a1 : Int) : Option (Unit) := (xk (M 0 0 0 = 0 ∨ M 0 0 0 = 1) (xb1 (F_X2_at M ((M 0 0 0).toNat) a1) fun y4 => (if (M 2 y4 0) = 0 then none else (some ()))))
set_option maxHeartbeats 4000000 in
set_option maxRecDepth 100000 in
theorem c_X3_needNode {l : Launch} {g : Gx} {b : Nat} {M : Mm} {a1 : Int} (ha1 : rg a1) (hF : F_X3_needNode M a1 = some ()) : Ct l yX3_needNode cX3_needNode 2 none rmX3_needNode g b [.ref (adr b 0 0), .int (jI a1)] M (qV g b M) := by
  refine ct_of (by decide +kernel) (Nat.le_of_ble_eq_true rfl) ?_
  intro p e s m args below meth c C0 hR ls hl
  obtain ⟨hx, hb, hr, hlocks, hml, hown, hts, hK⟩ := id C0
  have hS : va_S (AA b s.heap.size) s.heap s.heap [] := va_S.rf
  have hl : lv_has ls 2 [(0, .ref (adr b 0 0)), (1, .int (jI a1))] := hl
  obtain ⟨H, hH⟩ : ∃ z, z = s.heap := ⟨_, rfl⟩
  obtain ⟨locs, hlo⟩ : ∃ z : List Loc, z = [] := ⟨_, rfl⟩
  have hR : Rel g b M H := by rw [hH]; exact hR
  have hS : va_S (AA b s.heap.size) s.heap H locs := by rw [hH, hlo]; exact hS
  suffices hW : W p l e rmX3_needNode s m args below meth c H locs 0 0 (MQ below (qV g b M s.heap.size) args s 0 0 (AA b s.heap.size)) (F0 m 0 ls []) by rw [hH, hlo] at hW; exact hW
  rw [F_X3_needNode] at hF
  refine lv_aload_n hx hb dX3_needNode_0 rfl (lv_at hl 0 rfl) ?_
  refine gf_3_0 hx hb hts hown hK hR wd138 dX3_needNode_1 ?_
  obtain ⟨ht1, hF⟩ := xk_some hF
  have hj2 : (M 0 0 0).toNat < 3 := by omega
  refine lv_iload_n hx hb dX3_needNode_4 rfl (lv_at hl 1 rfl) ?_
  obtain ⟨y4, hc3, hF⟩ := xb1_some hF
  refine x_cVr (C := RX2) (T := TX2) (N := 8) (ci := 2) (As := [.int (jI a1)]) (rest := []) hx hb hml hown hts hK hR hS (c_X2_at hj2 ha1 hc3) (ok1 hj2) rfl rfl wd337 wd255 wd256 wd2 wd257 hyX2_at ⟨rfl, rfl⟩ ⟨Nat.le_of_ble_eq_true rfl, Nat.le_of_ble_eq_true rfl⟩ hl.1 (Nat.le_of_ble_eq_true rfl) dX3_needNode_5 ⟨Nat.zero_le _, Nat.zero_le _⟩ rfl (fun hg5 H locs hR hS => ?_)
  have hj6 : y4 < 99 := lt2 hg5
  refine gf_1_0 hx hb hts hown hK hR hj6 wd36 dX3_needNode_8 ?_
  have hg7 : rg (M 2 y4 0) := hR.2 2 y4 0 (by decide)
  refine x_if_ne (tgt := 25) hx hb hg7 dX3_needNode_11 (by decide) (fun ci8 => ?_) (fun ci8 => ?_)
  · rw [if_neg ci8] at hF
    cases hF
    exact x_vret hx hb hlocks hK hR hS hr dX3_needNode_25
  · rw [if_pos ci8] at hF
    cases hF
abbrev rmX3_needRange : Room := { frames := 0, cells := 0, slots := 0, locals := 0 }
theorem hyX3_needRange : yX3_needRange.cls = RX3 ∧ yX3_needRange.cls ≠ "java/lang/invoke/MethodHandle" ∧ yX3_needRange.cls ≠ "java/lang/invoke/VarHandle" ∧ (parseMethodDescriptor yX3_needRange.desc).map (fun d => d.parameters.length) = some 3 := by decide +kernel
def F_X3_needRange (M : Mm) (a1 : Int) (a2 : Int) (a3 : Int) : Option (Unit) := (if a1 < a2 then none else (if a1 ≤ a3 then (some ()) else none))
set_option maxHeartbeats 4000000 in
set_option maxRecDepth 100000 in
theorem c_X3_needRange {l : Launch} {g : Gx} {b : Nat} {M : Mm} {a1 : Int} {a2 : Int} {a3 : Int} (ha1 : rg a1) (ha2 : rg a2) (ha3 : rg a3) (hF : F_X3_needRange M a1 a2 a3 = some ()) : Ct l yX3_needRange cX3_needRange 4 none rmX3_needRange g b [.ref (adr b 0 0), .int (jI a1), .int (jI a2), .int (jI a3)] M (qV g b M) := by
  refine ct_of (by decide +kernel) (Nat.le_of_ble_eq_true rfl) ?_
  intro p e s m args below meth c C0 hR ls hl
  obtain ⟨hx, hb, hr, hlocks, hml, hown, hts, hK⟩ := id C0
  have hS : va_S (AA b s.heap.size) s.heap s.heap [] := va_S.rf
  have hl : lv_has ls 4 [(0, .ref (adr b 0 0)), (1, .int (jI a1)), (2, .int (jI a2)), (3, .int (jI a3))] := hl
  obtain ⟨H, hH⟩ : ∃ z, z = s.heap := ⟨_, rfl⟩
  obtain ⟨locs, hlo⟩ : ∃ z : List Loc, z = [] := ⟨_, rfl⟩
  have hR : Rel g b M H := by rw [hH]; exact hR
  have hS : va_S (AA b s.heap.size) s.heap H locs := by rw [hH, hlo]; exact hS
  suffices hW : W p l e rmX3_needRange s m args below meth c H locs 0 0 (MQ below (qV g b M s.heap.size) args s 0 0 (AA b s.heap.size)) (F0 m 0 ls []) by rw [hH, hlo] at hW; exact hW
  rw [F_X3_needRange] at hF
  refine lv_iload_n hx hb dX3_needRange_0 rfl (lv_at hl 1 rfl) ?_
  refine lv_iload_n hx hb dX3_needRange_1 rfl (lv_at hl 2 rfl) ?_
  refine x_icmp_lt (tgt := 10) hx hb ha1 ha2 dX3_needRange_2 (by decide) (fun ci1 => ?_) (fun ci1 => ?_)
  · rw [if_pos ci1] at hF
    cases hF
  · rw [if_neg ci1] at hF
    refine lv_iload_n hx hb dX3_needRange_5 rfl (lv_at hl 1 rfl) ?_
    refine lv_iload_n hx hb dX3_needRange_6 rfl (lv_at hl 3 rfl) ?_
    refine x_icmp_le (tgt := 21) hx hb ha1 ha3 dX3_needRange_7 (by decide) (fun ci2 => ?_) (fun ci2 => ?_)
    · rw [if_pos ci2] at hF
      cases hF
      exact x_vret hx hb hlocks hK hR hS hr dX3_needRange_21
    · rw [if_neg ci2] at hF
      cases hF
abbrev rmX3_needEntry : Room := { frames := 2, cells := 0, slots := 0, locals := 42 }
theorem hyX3_needEntry : yX3_needEntry.cls = RX3 ∧ yX3_needEntry.cls ≠ "java/lang/invoke/MethodHandle" ∧ yX3_needEntry.cls ≠ "java/lang/invoke/VarHandle" ∧ (parseMethodDescriptor yX3_needEntry.desc).map (fun d => d.parameters.length) = some 2 := by decide +kernel
def F_X3_needEntry (M : Mm) (a1 : Int) (a2 : Int) : Option (Unit) := (xb1 (F_X3_needPower M ) fun _ => (xb1 (F_X3_needNode M a1) fun _ => (xb1 (F_X3_needRange M a2 (1 : Int) (99 : Int)) fun _ => (some ()))))
set_option maxHeartbeats 4000000 in
set_option maxRecDepth 100000 in
theorem c_X3_needEntry {l : Launch} {g : Gx} {b : Nat} {M : Mm} {a1 : Int} {a2 : Int} (ha1 : rg a1) (ha2 : rg a2) (hF : F_X3_needEntry M a1 a2 = some ()) : Ct l yX3_needEntry cX3_needEntry 3 none rmX3_needEntry g b [.ref (adr b 0 0), .int (jI a1), .int (jI a2)] M (qV g b M) := by
  refine ct_of (by decide +kernel) (Nat.le_of_ble_eq_true rfl) ?_
  intro p e s m args below meth c C0 hR ls hl
  obtain ⟨hx, hb, hr, hlocks, hml, hown, hts, hK⟩ := id C0
  have hS : va_S (AA b s.heap.size) s.heap s.heap [] := va_S.rf
  have hl : lv_has ls 3 [(0, .ref (adr b 0 0)), (1, .int (jI a1)), (2, .int (jI a2))] := hl
  obtain ⟨H, hH⟩ : ∃ z, z = s.heap := ⟨_, rfl⟩
  obtain ⟨locs, hlo⟩ : ∃ z : List Loc, z = [] := ⟨_, rfl⟩
  have hR : Rel g b M H := by rw [hH]; exact hR
  have hS : va_S (AA b s.heap.size) s.heap H locs := by rw [hH, hlo]; exact hS
  suffices hW : W p l e rmX3_needEntry s m args below meth c H locs 0 0 (MQ below (qV g b M s.heap.size) args s 0 0 (AA b s.heap.size)) (F0 m 0 ls []) by rw [hH, hlo] at hW; exact hW
  rw [F_X3_needEntry] at hF
  refine lv_aload_n hx hb dX3_needEntry_0 rfl (lv_at hl 0 rfl) ?_
  obtain ⟨_, hc1, hF⟩ := xb1_some hF
  refine x_cVv (C := RX3) (T := TX3) (N := 9) (ci := 3) (As := []) (rest := []) hx hb hml hown hts hK hR hS (c_X3_needPower  hc1) ok0 rfl rfl wd170 wd172 ws0 wd1 wd173 hyX3_needPower ⟨rfl, rfl⟩ ⟨Nat.le_of_ble_eq_true rfl, Nat.le_of_ble_eq_true rfl⟩ hl.1 (Nat.le_of_ble_eq_true rfl) dX3_needEntry_1 ⟨Nat.zero_le _, Nat.zero_le _⟩ rfl (fun H locs hR hS => ?_)
  refine lv_aload_n hx hb dX3_needEntry_4 rfl (lv_at hl 0 rfl) ?_
  refine lv_iload_n hx hb dX3_needEntry_5 rfl (lv_at hl 1 rfl) ?_
  obtain ⟨_, hc2, hF⟩ := xb1_some hF
  refine x_cVv (C := RX3) (T := TX3) (N := 9) (ci := 3) (As := [.int (jI a1)]) (rest := []) hx hb hml hown hts hK hR hS (c_X3_needNode ha1 hc2) ok0 rfl rfl wd346 wd348 ws5 wd1 wd349 hyX3_needNode ⟨rfl, rfl⟩ ⟨Nat.le_of_ble_eq_true rfl, Nat.le_of_ble_eq_true rfl⟩ hl.1 (Nat.le_of_ble_eq_true rfl) dX3_needEntry_6 ⟨Nat.zero_le _, Nat.zero_le _⟩ rfl (fun H locs hR hS => ?_)
  refine lv_aload_n hx hb dX3_needEntry_9 rfl (lv_at hl 0 rfl) ?_
  refine lv_iload_n hx hb dX3_needEntry_10 rfl (lv_at hl 2 rfl) ?_
  refine x_iconst hx hb dX3_needEntry_11 ?_
  refine x_bipush hx hb (by decide +kernel) dX3_needEntry_12 ?_
  obtain ⟨_, hc3, hF⟩ := xb1_some hF
  refine x_cVv (C := RX3) (T := TX3) (N := 9) (ci := 3) (As := [.int (jI a2), .int (jI (1 : Int)), .int (jI (99 : Int))]) (rest := []) hx hb hml hown hts hK hR hS (c_X3_needRange ha2 (by decide : rg (1 : Int)) (by decide : rg (99 : Int)) hc3) ok0 rfl rfl wd419 wd421 ws6 wd1 wd422 hyX3_needRange ⟨rfl, rfl⟩ ⟨Nat.le_of_ble_eq_true rfl, Nat.le_of_ble_eq_true rfl⟩ hl.1 (Nat.le_of_ble_eq_true rfl) dX3_needEntry_14 ⟨Nat.zero_le _, Nat.zero_le _⟩ rfl (fun H locs hR hS => ?_)
  cases hF
  exact x_vret hx hb hlocks hK hR hS hr dX3_needEntry_17
abbrev rmX3_hindranceToMake : Room := { frames := 2, cells := 0, slots := 0, locals := 43 }
theorem hyX3_hindranceToMake : yX3_hindranceToMake.cls = RX3 ∧ yX3_hindranceToMake.cls ≠ "java/lang/invoke/MethodHandle" ∧ yX3_hindranceToMake.cls ≠ "java/lang/invoke/VarHandle" ∧ (parseMethodDescriptor yX3_hindranceToMake.desc).map (fun d => d.parameters.length) = some 2 := by decide +kernel
def F_X3_hindranceToMake (M : Mm) (a1 : Int) (a2 : Int) : Option (Int) := (xk (M 0 0 0 = 0 ∨ M 0 0 0 = 1) (xb1 (F_X2_at M ((M 0 0 0).toNat) a1) fun y4 => (if (M 2 y4 0) = (2 : Int) then (xb1 (F_X1_nodeNamed M y4 a2) fun y10 => (if y10 = (-1 : Int) then (if (12 : Int) ≤ (M 2 y4 8) then (some (-5 : Int)) else (xk (M 0 0 0 = 0 ∨ M 0 0 0 = 1) (xb1 (F_X2_count M ((M 0 0 0).toNat)) fun y18 => (if y18 < (32 : Int) then (some (0 : Int)) else (some (-5 : Int)))))) else (some (-2 : Int)))) else (some (-3 : Int)))))
set_option maxHeartbeats 4000000 in
set_option maxRecDepth 100000 in
theorem c_X3_hindranceToMake {l : Launch} {g : Gx} {b : Nat} {M : Mm} {a1 : Int} {a2 : Int} {r : Int} (ha1 : rg a1) (ha2 : rg a2) (hF : F_X3_hindranceToMake M a1 a2 = some r) : Ct l yX3_hindranceToMake cX3_hindranceToMake 4 (some .int) rmX3_hindranceToMake g b [.ref (adr b 0 0), .int (jI a1), .int (jI a2)] M (qI g b r M) := by
  refine ct_of (by decide +kernel) (Nat.le_of_ble_eq_true rfl) ?_
  intro p e s m args below meth c C0 hR ls hl
  obtain ⟨hx, hb, hr, hlocks, hml, hown, hts, hK⟩ := id C0
  have hS : va_S (AA b s.heap.size) s.heap s.heap [] := va_S.rf
  have hl : lv_has ls 4 [(0, .ref (adr b 0 0)), (1, .int (jI a1)), (2, .int (jI a2))] := hl
  obtain ⟨H, hH⟩ : ∃ z, z = s.heap := ⟨_, rfl⟩
  obtain ⟨locs, hlo⟩ : ∃ z : List Loc, z = [] := ⟨_, rfl⟩
  have hR : Rel g b M H := by rw [hH]; exact hR
  have hS : va_S (AA b s.heap.size) s.heap H locs := by rw [hH, hlo]; exact hS
  suffices hW : W p l e rmX3_hindranceToMake s m args below meth c H locs 0 0 (MQ below (qI g b r M s.heap.size) args s 0 0 (AA b s.heap.size)) (F0 m 0 ls []) by rw [hH, hlo] at hW; exact hW
  rw [F_X3_hindranceToMake] at hF
  refine lv_aload_n hx hb dX3_hindranceToMake_0 rfl (lv_at hl 0 rfl) ?_
  refine gf_3_0 hx hb hts hown hK hR wd138 dX3_hindranceToMake_1 ?_
  obtain ⟨ht1, hF⟩ := xk_some hF
  have hj2 : (M 0 0 0).toNat < 3 := by omega
  refine lv_iload_n hx hb dX3_hindranceToMake_4 rfl (lv_at hl 1 rfl) ?_
  obtain ⟨y4, hc3, hF⟩ := xb1_some hF
  refine x_cVr (C := RX2) (T := TX2) (N := 8) (ci := 2) (As := [.int (jI a1)]) (rest := []) hx hb hml hown hts hK hR hS (c_X2_at hj2 ha1 hc3) (ok1 hj2) rfl rfl wd337 wd255 wd256 wd2 wd257 hyX2_at ⟨rfl, rfl⟩ ⟨Nat.le_of_ble_eq_true rfl, Nat.le_of_ble_eq_true rfl⟩ hl.1 (Nat.le_of_ble_eq_true rfl) dX3_hindranceToMake_5 ⟨Nat.zero_le _, Nat.zero_le _⟩ rfl (fun hg5 H locs hR hS => ?_)
  have hj6 : y4 < 99 := lt2 hg5
  refine lv_astore_n (lv' := [(3, .ref (adr b 2 y4)), (0, .ref (adr b 0 0)), (1, .int (jI a1)), (2, .int (jI a2))]) hx hb dX3_hindranceToMake_8 rfl hl (by decide) rfl (fun ls hl => ?_)
  refine lv_aload_n hx hb dX3_hindranceToMake_9 rfl (lv_at hl 0 rfl) ?_
  refine gf_1_0 hx hb hts hown hK hR hj6 wd36 dX3_hindranceToMake_10 ?_
  have hg7 : rg (M 2 y4 0) := hR.2 2 y4 0 (by decide)
  refine x_iconst hx hb dX3_hindranceToMake_13 ?_
  refine x_icmp_eq (tgt := 20) hx hb hg7 (by decide : rg (2 : Int)) dX3_hindranceToMake_14 (by decide) (fun ci8 => ?_) (fun ci8 => ?_)
  · rw [if_pos ci8] at hF
    refine lv_aload_n hx hb dX3_hindranceToMake_20 rfl (lv_at hl 0 rfl) ?_
    refine lv_iload_n hx hb dX3_hindranceToMake_21 rfl (lv_at hl 3 rfl) ?_
    obtain ⟨y10, hc9, hF⟩ := xb1_some hF
    refine x_cVi (C := RX1) (T := TX1) (N := 12) (ci := 1) (As := [.int (jI a2)]) (rest := []) hx hb hml hown hts hK hR hS (c_X1_nodeNamed hj6 ha2 hc9) (ok2 hj6) rfl rfl wd560 wd561 wd562 wd3 wd563 hyX1_nodeNamed ⟨rfl, rfl⟩ ⟨Nat.le_of_ble_eq_true rfl, Nat.le_of_ble_eq_true rfl⟩ hl.1 (Nat.le_of_ble_eq_true rfl) dX3_hindranceToMake_22 ⟨Nat.zero_le _, Nat.zero_le _⟩ rfl (fun hg11 H locs hR hS => ?_)
    refine x_iconst hx hb dX3_hindranceToMake_25 ?_
    refine x_icmp_eq (tgt := 32) hx hb hg11 (by decide : rg (-1 : Int)) dX3_hindranceToMake_26 (by decide) (fun ci12 => ?_) (fun ci12 => ?_)
    · rw [if_pos ci12] at hF
      refine lv_aload_n hx hb dX3_hindranceToMake_32 rfl (lv_at hl 0 rfl) ?_
      refine gf_1_8 hx hb hts hown hK hR hj6 wd56 dX3_hindranceToMake_33 ?_
      have hg13 : rg (M 2 y4 8) := hR.2 2 y4 8 (by decide)
      refine x_bipush hx hb (by decide +kernel) dX3_hindranceToMake_36 ?_
      refine x_icmp_ge (tgt := 53) hx hb hg13 (by decide : rg (12 : Int)) dX3_hindranceToMake_38 (by decide) (fun ci14 => ?_) (fun ci14 => ?_)
      · rw [if_pos ci14] at hF
        refine x_bipush hx hb (by decide +kernel) dX3_hindranceToMake_53 ?_
        refine lv_goto (tgt := 59) hx hb dX3_hindranceToMake_55 (by decide) ?_
        cases hF
        exact x_iret hx hb hlocks hK hR hS hr (by decide : rg (-5 : Int)) dX3_hindranceToMake_59
      · rw [if_neg ci14] at hF
        refine lv_aload_n hx hb dX3_hindranceToMake_41 rfl (lv_at hl 1 rfl) ?_
        refine gf_3_0 hx hb hts hown hK hR wd138 dX3_hindranceToMake_42 ?_
        obtain ⟨ht15, hF⟩ := xk_some hF
        have hj16 : (M 0 0 0).toNat < 3 := by omega
        obtain ⟨y18, hc17, hF⟩ := xb1_some hF
        refine x_cVi (C := RX2) (T := TX2) (N := 8) (ci := 2) (As := []) (rest := []) hx hb hml hown hts hK hR hS (c_X2_count hj16 hc17) (ok1 hj16) rfl rfl wd389 wd390 wd391 wd2 wd392 hyX2_count ⟨rfl, rfl⟩ ⟨Nat.le_of_ble_eq_true rfl, Nat.le_of_ble_eq_true rfl⟩ hl.1 (Nat.le_of_ble_eq_true rfl) dX3_hindranceToMake_45 ⟨Nat.zero_le _, Nat.zero_le _⟩ rfl (fun hg19 H locs hR hS => ?_)
        refine x_bipush hx hb (by decide +kernel) dX3_hindranceToMake_48 ?_
        refine x_icmp_lt (tgt := 58) hx hb hg19 (by decide : rg (32 : Int)) dX3_hindranceToMake_50 (by decide) (fun ci20 => ?_) (fun ci20 => ?_)
        · rw [if_pos ci20] at hF
          refine x_iconst hx hb dX3_hindranceToMake_58 ?_
          cases hF
          exact x_iret hx hb hlocks hK hR hS hr (by decide : rg (0 : Int)) dX3_hindranceToMake_59
        · rw [if_neg ci20] at hF
          refine x_bipush hx hb (by decide +kernel) dX3_hindranceToMake_53 ?_
          refine lv_goto (tgt := 59) hx hb dX3_hindranceToMake_55 (by decide) ?_
          cases hF
          exact x_iret hx hb hlocks hK hR hS hr (by decide : rg (-5 : Int)) dX3_hindranceToMake_59
    · rw [if_neg ci12] at hF
      refine x_bipush hx hb (by decide +kernel) dX3_hindranceToMake_29 ?_
      cases hF
      exact x_iret hx hb hlocks hK hR hS hr (by decide : rg (-2 : Int)) dX3_hindranceToMake_31
  · rw [if_neg ci8] at hF
    refine x_bipush hx hb (by decide +kernel) dX3_hindranceToMake_17 ?_
    cases hF
    exact x_iret hx hb hlocks hK hR hS hr (by decide : rg (-3 : Int)) dX3_hindranceToMake_19
abbrev rmX3_startDraft : Room := { frames := 3, cells := 0, slots := 0, locals := 78 }
theorem hyX3_startDraft : yX3_startDraft.cls = RX3 ∧ yX3_startDraft.cls ≠ "java/lang/invoke/MethodHandle" ∧ yX3_startDraft.cls ≠ "java/lang/invoke/VarHandle" ∧ (parseMethodDescriptor yX3_startDraft.desc).map (fun d => d.parameters.length) = some 0 := by decide +kernel
def F_X3_startDraft (M : Mm) : Option (Mm) := (xk (M 0 0 1 = 0 ∨ M 0 0 1 = 1) (xk (M 0 0 0 = 0 ∨ M 0 0 0 = 1) (xb1 (F_X2_copyFrom M ((M 0 0 1).toNat) ((M 0 0 0).toNat)) fun M6 => (some M6))))
set_option maxHeartbeats 4000000 in
set_option maxRecDepth 100000 in
theorem c_X3_startDraft {l : Launch} {g : Gx} {b : Nat} {M : Mm} {M' : Mm} (hF : F_X3_startDraft M  = some M') : Ct l yX3_startDraft cX3_startDraft 1 none rmX3_startDraft g b [.ref (adr b 0 0)] M (qV g b M') := by
  refine ct_of (by decide +kernel) (Nat.le_of_ble_eq_true rfl) ?_
  intro p e s m args below meth c C0 hR ls hl
  obtain ⟨hx, hb, hr, hlocks, hml, hown, hts, hK⟩ := id C0
  have hS : va_S (AA b s.heap.size) s.heap s.heap [] := va_S.rf
  have hl : lv_has ls 1 [(0, .ref (adr b 0 0))] := hl
  obtain ⟨H, hH⟩ : ∃ z, z = s.heap := ⟨_, rfl⟩
  obtain ⟨locs, hlo⟩ : ∃ z : List Loc, z = [] := ⟨_, rfl⟩
  have hR : Rel g b M H := by rw [hH]; exact hR
  have hS : va_S (AA b s.heap.size) s.heap H locs := by rw [hH, hlo]; exact hS
  suffices hW : W p l e rmX3_startDraft s m args below meth c H locs 0 0 (MQ below (qV g b M' s.heap.size) args s 0 0 (AA b s.heap.size)) (F0 m 0 ls []) by rw [hH, hlo] at hW; exact hW
  rw [F_X3_startDraft] at hF
  refine lv_aload_n hx hb dX3_startDraft_0 rfl (lv_at hl 0 rfl) ?_
  refine gf_3_1 hx hb hts hown hK hR wd139 dX3_startDraft_1 ?_
  obtain ⟨ht1, hF⟩ := xk_some hF
  have hj2 : (M 0 0 1).toNat < 3 := by omega
  refine lv_aload_n hx hb dX3_startDraft_4 rfl (lv_at hl 0 rfl) ?_
  refine gf_3_0 hx hb hts hown hK hR wd138 dX3_startDraft_5 ?_
  obtain ⟨ht3, hF⟩ := xk_some hF
  have hj4 : (M 0 0 0).toNat < 3 := by omega
  obtain ⟨M6, hc5, hF⟩ := xb1_some hF
  refine x_cVv (C := RX2) (T := TX2) (N := 8) (ci := 2) (As := [.ref (adr b 1 ((M 0 0 0).toNat))]) (rest := []) hx hb hml hown hts hK hR hS (c_X2_copyFrom hj2 hj4 hc5) (ok1 hj2) rfl rfl wd250 wd251 wd252 wd2 wd253 hyX2_copyFrom ⟨rfl, rfl⟩ ⟨Nat.le_of_ble_eq_true rfl, Nat.le_of_ble_eq_true rfl⟩ hl.1 (Nat.le_of_ble_eq_true rfl) dX3_startDraft_8 ⟨Nat.zero_le _, Nat.zero_le _⟩ rfl (fun H locs hR hS => ?_)
  cases hF
  exact x_vret hx hb hlocks hK hR hS hr dX3_startDraft_11
abbrev rmX3_hindranceOfRoom : Room := { frames := 3, cells := 0, slots := 0, locals := 65 }
theorem hyX3_hindranceOfRoom : yX3_hindranceOfRoom.cls = RX3 ∧ yX3_hindranceOfRoom.cls ≠ "java/lang/invoke/MethodHandle" ∧ yX3_hindranceOfRoom.cls ≠ "java/lang/invoke/VarHandle" ∧ (parseMethodDescriptor yX3_hindranceOfRoom.desc).map (fun d => d.parameters.length) = some 0 := by decide +kernel
def F_X3_hindranceOfRoom_17 (M : Mm)  : Nat → Int → Option (Int)
  | 0, _ => none
  | n + 1, v1 => (if (4 : Int) ≤ v1 then (some (0 : Int)) else (xk (M 0 0 1 = 0 ∨ M 0 0 1 = 1) (xb1 (F_X2_takenBy M ((M 0 0 1).toNat) v1) fun y5 => (xk (M 0 0 0 = 0 ∨ M 0 0 0 = 1) (xb1 (F_X2_takenBy M ((M 0 0 0).toNat) v1) fun y10 => (if y5 ≤ y10 then (xk (rg (v1 + (1 : Int))) (F_X3_hindranceOfRoom_17 M  n (v1 + (1 : Int)))) else (xk (M 0 0 1 = 0 ∨ M 0 0 1 = 1) (xb1 (F_X2_limitOf M ((M 0 0 1).toNat) v1) fun y17 => (if y5 ≤ y17 then (xk (rg (v1 + (1 : Int))) (F_X3_hindranceOfRoom_17 M  n (v1 + (1 : Int)))) else (some (-8 : Int)))))))))))
set_option maxHeartbeats 4000000 in
set_option maxRecDepth 100000 in
theorem w_X3_hindranceOfRoom_17 {p : Program} {l : Launch} {e : Env} {s : State} {m : MethodId} {args : Array Value} {below : List Frame} {meth : Method} {c : Code} {g : Gx} {b : Nat} (C0 : XA p s m meth c args RX3 cX3_hindranceOfRoom 3 (some .int) g) {r : Int} {M : Mm} : ∀ n : Nat, ∀ (v1 : Int) (hv1 : rg v1) (H : Heap) (locs : List Loc), Rel g b M H → va_S (AA b s.heap.size) s.heap H locs → ∀ ls : Array Slot, lv_has ls 3 [(0, .ref (adr b 0 0)), (1, .int (jI v1))] → F_X3_hindranceOfRoom_17 M  n v1 = some r → W p l e rmX3_hindranceOfRoom s m args below meth c H locs 0 0 (MQ below (qI g b r M s.heap.size) args s 0 0 (AA b s.heap.size)) (F0 m 17 ls []) := by
  obtain ⟨hx, hb, hr, hlocks, hml, hown, hts, hK⟩ := id C0
  intro n
  induction n with
  | zero =>
    intro v1 hv1 H locs hR hS ls hl hF
    rw [F_X3_hindranceOfRoom_17] at hF
    cases hF
  | succ n ih =>
    intro v1 hv1 H locs hR hS ls hl hF
    rw [F_X3_hindranceOfRoom_17] at hF
    refine lv_iload_n hx hb dX3_hindranceOfRoom_17 rfl (lv_at hl 1 rfl) ?_
    refine x_iconst hx hb dX3_hindranceOfRoom_18 ?_
    refine x_icmp_ge (tgt := 64) hx hb hv1 (by decide : rg (4 : Int)) dX3_hindranceOfRoom_19 (by decide) (fun ci1 => ?_) (fun ci1 => ?_)
    · rw [if_pos ci1] at hF
      refine x_iconst hx hb dX3_hindranceOfRoom_64 ?_
      cases hF
      exact x_iret hx hb hlocks hK hR hS hr (by decide : rg (0 : Int)) dX3_hindranceOfRoom_65
    · rw [if_neg ci1] at hF
      refine lv_aload_n hx hb dX3_hindranceOfRoom_22 rfl (lv_at hl 0 rfl) ?_
      refine gf_3_1 hx hb hts hown hK hR wd139 dX3_hindranceOfRoom_23 ?_
      obtain ⟨ht2, hF⟩ := xk_some hF
      have hj3 : (M 0 0 1).toNat < 3 := by omega
      refine lv_iload_n hx hb dX3_hindranceOfRoom_26 rfl (lv_at hl 1 rfl) ?_
      obtain ⟨y5, hc4, hF⟩ := xb1_some hF
      refine x_cVi (C := RX2) (T := TX2) (N := 8) (ci := 2) (As := [.int (jI v1)]) (rest := []) hx hb hml hown hts hK hR hS (c_X2_takenBy hj3 hv1 hc4) (ok1 hj3) rfl rfl wd439 wd440 wd441 wd2 wd442 hyX2_takenBy ⟨rfl, rfl⟩ ⟨Nat.le_of_ble_eq_true rfl, Nat.le_of_ble_eq_true rfl⟩ hl.1 (Nat.le_of_ble_eq_true rfl) dX3_hindranceOfRoom_27 ⟨Nat.zero_le _, Nat.zero_le _⟩ rfl (fun hg6 H locs hR hS => ?_)
      refine lv_istore_n (lv' := [(2, .int (jI y5)), (0, .ref (adr b 0 0)), (1, .int (jI v1))]) hx hb dX3_hindranceOfRoom_30 rfl hl (by decide) rfl (fun ls hl => ?_)
      refine lv_iload_n hx hb dX3_hindranceOfRoom_31 rfl (lv_at hl 0 rfl) ?_
      refine lv_aload_n hx hb dX3_hindranceOfRoom_32 rfl (lv_at hl 1 rfl) ?_
      refine gf_3_0 hx hb hts hown hK hR wd138 dX3_hindranceOfRoom_33 ?_
      obtain ⟨ht7, hF⟩ := xk_some hF
      have hj8 : (M 0 0 0).toNat < 3 := by omega
      refine lv_iload_n hx hb dX3_hindranceOfRoom_36 rfl (lv_at hl 2 rfl) ?_
      obtain ⟨y10, hc9, hF⟩ := xb1_some hF
      refine x_cVi (C := RX2) (T := TX2) (N := 8) (ci := 2) (As := [.int (jI v1)]) (rest := [.int (jI y5)]) hx hb hml hown hts hK hR hS (c_X2_takenBy hj8 hv1 hc9) (ok1 hj8) rfl rfl wd439 wd440 wd441 wd2 wd442 hyX2_takenBy ⟨rfl, rfl⟩ ⟨Nat.le_of_ble_eq_true rfl, Nat.le_of_ble_eq_true rfl⟩ hl.1 (Nat.le_of_ble_eq_true rfl) dX3_hindranceOfRoom_37 ⟨Nat.zero_le _, Nat.zero_le _⟩ rfl (fun hg11 H locs hR hS => ?_)
      refine x_icmp_le (tgt := 58) hx hb hg6 hg11 dX3_hindranceOfRoom_40 (by decide) (fun ci12 => ?_) (fun ci12 => ?_)
      · rw [if_pos ci12] at hF
        obtain ⟨hq13, hF⟩ := xk_some hF
        refine x_iinc (lv' := [(1, .int (jI (v1 + (1 : Int)))), (2, .int (jI y5)), (0, .ref (adr b 0 0))]) hx hb dX3_hindranceOfRoom_58 hl (k := 2) rfl (by decide) rfl (fun ls hl => ?_)
        refine lv_goto (tgt := 17) hx hb dX3_hindranceOfRoom_61 (by decide) ?_
        exact ih (v1 + (1 : Int)) hq13 H locs hR hS ls (lv_sub hl [2, 0] rfl) hF
      · rw [if_neg ci12] at hF
        refine lv_iload_n hx hb dX3_hindranceOfRoom_43 rfl (lv_at hl 0 rfl) ?_
        refine lv_aload_n hx hb dX3_hindranceOfRoom_44 rfl (lv_at hl 1 rfl) ?_
        refine gf_3_1 hx hb hts hown hK hR wd139 dX3_hindranceOfRoom_45 ?_
        obtain ⟨ht14, hF⟩ := xk_some hF
        have hj15 : (M 0 0 1).toNat < 3 := by omega
        refine lv_iload_n hx hb dX3_hindranceOfRoom_48 rfl (lv_at hl 2 rfl) ?_
        obtain ⟨y17, hc16, hF⟩ := xb1_some hF
        refine x_cVi (C := RX2) (T := TX2) (N := 8) (ci := 2) (As := [.int (jI v1)]) (rest := [.int (jI y5)]) hx hb hml hown hts hK hR hS (c_X2_limitOf hj15 hv1 hc16) (ok1 hj15) rfl rfl wd447 wd448 wd449 wd2 wd450 hyX2_limitOf ⟨rfl, rfl⟩ ⟨Nat.le_of_ble_eq_true rfl, Nat.le_of_ble_eq_true rfl⟩ hl.1 (Nat.le_of_ble_eq_true rfl) dX3_hindranceOfRoom_49 ⟨Nat.zero_le _, Nat.zero_le _⟩ rfl (fun hg18 H locs hR hS => ?_)
        refine x_icmp_le (tgt := 58) hx hb hg6 hg18 dX3_hindranceOfRoom_52 (by decide) (fun ci19 => ?_) (fun ci19 => ?_)
        · rw [if_pos ci19] at hF
          obtain ⟨hq20, hF⟩ := xk_some hF
          refine x_iinc (lv' := [(1, .int (jI (v1 + (1 : Int)))), (2, .int (jI y5)), (0, .ref (adr b 0 0))]) hx hb dX3_hindranceOfRoom_58 hl (k := 2) rfl (by decide) rfl (fun ls hl => ?_)
          refine lv_goto (tgt := 17) hx hb dX3_hindranceOfRoom_61 (by decide) ?_
          exact ih (v1 + (1 : Int)) hq20 H locs hR hS ls (lv_sub hl [2, 0] rfl) hF
        · rw [if_neg ci19] at hF
          refine x_bipush hx hb (by decide +kernel) dX3_hindranceOfRoom_55 ?_
          cases hF
          exact x_iret hx hb hlocks hK hR hS hr (by decide : rg (-8 : Int)) dX3_hindranceOfRoom_57
def F_X3_hindranceOfRoom (M : Mm) : Option (Int) := (xk (M 0 0 1 = 0 ∨ M 0 0 1 = 1) (xb1 (F_X2_blocksTaken M ((M 0 0 1).toNat)) fun y4 => (if y4 ≤ (120 : Int) then (F_X3_hindranceOfRoom_17 M  FU (0 : Int)) else (some (-7 : Int)))))
set_option maxHeartbeats 4000000 in
set_option maxRecDepth 100000 in
theorem c_X3_hindranceOfRoom {l : Launch} {g : Gx} {b : Nat} {M : Mm} {r : Int} (hF : F_X3_hindranceOfRoom M  = some r) : Ct l yX3_hindranceOfRoom cX3_hindranceOfRoom 3 (some .int) rmX3_hindranceOfRoom g b [.ref (adr b 0 0)] M (qI g b r M) := by
  refine ct_of (by decide +kernel) (Nat.le_of_ble_eq_true rfl) ?_
  intro p e s m args below meth c C0 hR ls hl
  obtain ⟨hx, hb, hr, hlocks, hml, hown, hts, hK⟩ := id C0
  have hS : va_S (AA b s.heap.size) s.heap s.heap [] := va_S.rf
  have hl : lv_has ls 3 [(0, .ref (adr b 0 0))] := hl
  obtain ⟨H, hH⟩ : ∃ z, z = s.heap := ⟨_, rfl⟩
  obtain ⟨locs, hlo⟩ : ∃ z : List Loc, z = [] := ⟨_, rfl⟩
  have hR : Rel g b M H := by rw [hH]; exact hR
  have hS : va_S (AA b s.heap.size) s.heap H locs := by rw [hH, hlo]; exact hS
  suffices hW : W p l e rmX3_hindranceOfRoom s m args below meth c H locs 0 0 (MQ below (qI g b r M s.heap.size) args s 0 0 (AA b s.heap.size)) (F0 m 0 ls []) by rw [hH, hlo] at hW; exact hW
  rw [F_X3_hindranceOfRoom] at hF
  refine lv_aload_n hx hb dX3_hindranceOfRoom_0 rfl (lv_at hl 0 rfl) ?_
  refine gf_3_1 hx hb hts hown hK hR wd139 dX3_hindranceOfRoom_1 ?_
  obtain ⟨ht1, hF⟩ := xk_some hF
  have hj2 : (M 0 0 1).toNat < 3 := by omega
  obtain ⟨y4, hc3, hF⟩ := xb1_some hF
  refine x_cVi (C := RX2) (T := TX2) (N := 8) (ci := 2) (As := []) (rest := []) hx hb hml hown hts hK hR hS (c_X2_blocksTaken hj2 hc3) (ok1 hj2) rfl rfl wd404 wd405 wd406 wd2 wd407 hyX2_blocksTaken ⟨rfl, rfl⟩ ⟨Nat.le_of_ble_eq_true rfl, Nat.le_of_ble_eq_true rfl⟩ hl.1 (Nat.le_of_ble_eq_true rfl) dX3_hindranceOfRoom_4 ⟨Nat.zero_le _, Nat.zero_le _⟩ rfl (fun hg5 H locs hR hS => ?_)
  refine x_bipush hx hb (by decide +kernel) dX3_hindranceOfRoom_7 ?_
  refine x_icmp_le (tgt := 15) hx hb hg5 (by decide : rg (120 : Int)) dX3_hindranceOfRoom_9 (by decide) (fun ci6 => ?_) (fun ci6 => ?_)
  · rw [if_pos ci6] at hF
    refine x_iconst hx hb dX3_hindranceOfRoom_15 ?_
    refine lv_istore_n (lv' := [(1, .int (jI (0 : Int))), (0, .ref (adr b 0 0))]) hx hb dX3_hindranceOfRoom_16 rfl hl (by decide) rfl (fun ls hl => ?_)
    exact w_X3_hindranceOfRoom_17 C0  FU (0 : Int) (by decide : rg (0 : Int)) H locs hR hS ls (lv_sub hl [1, 0] rfl) hF
  · rw [if_neg ci6] at hF
    refine x_bipush hx hb (by decide +kernel) dX3_hindranceOfRoom_12 ?_
    cases hF
    exact x_iret hx hb hlocks hK hR hS hr (by decide : rg (-7 : Int)) dX3_hindranceOfRoom_14
abbrev rmX3_fall : Room := { frames := 3, cells := 0, slots := 0, locals := 66 }
theorem hyX3_fall : yX3_fall.cls = RX3 ∧ yX3_fall.cls ≠ "java/lang/invoke/MethodHandle" ∧ yX3_fall.cls ≠ "java/lang/invoke/VarHandle" ∧ (parseMethodDescriptor yX3_fall.desc).map (fun d => d.parameters.length) = some 0 := by decide +kernel
def F_X3_fall_12  : Nat → Mm → Int → Option (Mm)
  | 0, _, _ => none
  | n + 1, M, v1 => (if (6 : Int) ≤ v1 then (some M) else (xk (0 ≤ v1 ∧ v1 < 6) (xb1 (F_X0_leave M (v1.toNat)) fun M5 => (xk (rg (v1 + (1 : Int))) (F_X3_fall_12  n M5 (v1 + (1 : Int)))))))
set_option maxHeartbeats 4000000 in
set_option maxRecDepth 100000 in
theorem w_X3_fall_12 {p : Program} {l : Launch} {e : Env} {s : State} {m : MethodId} {args : Array Value} {below : List Frame} {meth : Method} {c : Code} {g : Gx} {b : Nat} (C0 : XA p s m meth c args RX3 cX3_fall 2 none g) {M' : Mm} : ∀ n : Nat, ∀ (M : Mm) (v1 : Int) (hv1 : rg v1) (H : Heap) (locs : List Loc), Rel g b M H → va_S (AA b s.heap.size) s.heap H locs → ∀ ls : Array Slot, lv_has ls 2 [(0, .ref (adr b 0 0)), (1, .int (jI v1))] → F_X3_fall_12  n M v1 = some M' → W p l e rmX3_fall s m args below meth c H locs 0 0 (MQ below (qV g b M' s.heap.size) args s 0 0 (AA b s.heap.size)) (F0 m 12 ls []) := by
  obtain ⟨hx, hb, hr, hlocks, hml, hown, hts, hK⟩ := id C0
  intro n
  induction n with
  | zero =>
    intro M v1 hv1 H locs hR hS ls hl hF
    rw [F_X3_fall_12] at hF
    cases hF
  | succ n ih =>
    intro M v1 hv1 H locs hR hS ls hl hF
    rw [F_X3_fall_12] at hF
    refine lv_iload_n hx hb dX3_fall_12 rfl (lv_at hl 1 rfl) ?_
    refine lv_aload_n hx hb dX3_fall_13 rfl (lv_at hl 0 rfl) ?_
    refine gf_3_3 hx hb hts hown hK hR wd141 dX3_fall_14 ?_
    refine x_alenH hx hb hK hR dX3_fall_17 ?_
    refine x_icmp_ge (tgt := 36) hx hb hv1 (by decide : rg (6 : Int)) dX3_fall_18 (by decide) (fun ci1 => ?_) (fun ci1 => ?_)
    · rw [if_pos ci1] at hF
      cases hF
      exact x_vret hx hb hlocks hK hR hS hr dX3_fall_36
    · rw [if_neg ci1] at hF
      refine lv_aload_n hx hb dX3_fall_21 rfl (lv_at hl 0 rfl) ?_
      refine gf_3_3 hx hb hts hown hK hR wd141 dX3_fall_22 ?_
      refine lv_iload_n hx hb dX3_fall_25 rfl (lv_at hl 1 rfl) ?_
      obtain ⟨hi2, hF⟩ := xk_some hF
      refine x_aldH hx hb hK hR hv1 hi2 dX3_fall_26 ?_
      have hj3 : v1.toNat < 6 := by omega
      obtain ⟨M5, hc4, hF⟩ := xb1_some hF
      refine x_cVv (C := RX0) (T := TX0) (N := 4) (ci := 0) (As := []) (rest := []) hx hb hml hown hts hK hR hS (c_X0_leave hj3 hc4) (ok11 hj3) rfl rfl wd274 wd275 wd276 wd4 wd277 hyX0_leave ⟨rfl, rfl⟩ ⟨Nat.le_of_ble_eq_true rfl, Nat.le_of_ble_eq_true rfl⟩ hl.1 (Nat.le_of_ble_eq_true rfl) dX3_fall_27 ⟨Nat.zero_le _, Nat.zero_le _⟩ rfl (fun H locs hR hS => ?_)
      obtain ⟨hq6, hF⟩ := xk_some hF
      refine x_iinc (lv' := [(1, .int (jI (v1 + (1 : Int)))), (0, .ref (adr b 0 0))]) hx hb dX3_fall_30 hl (k := 1) rfl (by decide) rfl (fun ls hl => ?_)
      refine lv_goto (tgt := 12) hx hb dX3_fall_33 (by decide) ?_
      exact ih M5 (v1 + (1 : Int)) hq6 H locs hR hS ls (lv_sub hl [1, 0] rfl) hF
def F_X3_fall (M : Mm) : Option (Mm) := (xl (mup M 0 0 5 (1 : Int)) fun M1 => (xl (mup M1 0 0 4 (0 : Int)) fun M2 => (F_X3_fall_12  FU M2 (0 : Int))))
set_option maxHeartbeats 4000000 in
set_option maxRecDepth 100000 in
theorem c_X3_fall {l : Launch} {g : Gx} {b : Nat} {M : Mm} {M' : Mm} (hF : F_X3_fall M  = some M') : Ct l yX3_fall cX3_fall 2 none rmX3_fall g b [.ref (adr b 0 0)] M (qV g b M') := by
  refine ct_of (by decide +kernel) (Nat.le_of_ble_eq_true rfl) ?_
  intro p e s m args below meth c C0 hR ls hl
  obtain ⟨hx, hb, hr, hlocks, hml, hown, hts, hK⟩ := id C0
  have hS : va_S (AA b s.heap.size) s.heap s.heap [] := va_S.rf
  have hl : lv_has ls 2 [(0, .ref (adr b 0 0))] := hl
  obtain ⟨H, hH⟩ : ∃ z, z = s.heap := ⟨_, rfl⟩
  obtain ⟨locs, hlo⟩ : ∃ z : List Loc, z = [] := ⟨_, rfl⟩
  have hR : Rel g b M H := by rw [hH]; exact hR
  have hS : va_S (AA b s.heap.size) s.heap H locs := by rw [hH, hlo]; exact hS
  suffices hW : W p l e rmX3_fall s m args below meth c H locs 0 0 (MQ below (qV g b M' s.heap.size) args s 0 0 (AA b s.heap.size)) (F0 m 0 ls []) by rw [hH, hlo] at hW; exact hW
  rw [F_X3_fall] at hF
  refine lv_aload_n hx hb dX3_fall_0 rfl (lv_at hl 0 rfl) ?_
  refine x_iconst hx hb dX3_fall_1 ?_
  refine pf_3_5 hx hb hts hown hK hR hS (by decide : rg (1 : Int)) (by decide) wd143 dX3_fall_2 (fun H locs hR hS => ?_)
  obtain ⟨M1, eM, hF⟩ := xl_some hF
  rw [eM] at hR
  clear eM
  refine lv_aload_n hx hb dX3_fall_5 rfl (lv_at hl 0 rfl) ?_
  refine x_iconst hx hb dX3_fall_6 ?_
  refine pf_3_4 hx hb hts hown hK hR hS (by decide : rg (0 : Int)) wd142 dX3_fall_7 (fun H locs hR hS => ?_)
  obtain ⟨M2, eM, hF⟩ := xl_some hF
  rw [eM] at hR
  clear eM
  refine x_iconst hx hb dX3_fall_10 ?_
  refine lv_istore_n (lv' := [(1, .int (jI (0 : Int))), (0, .ref (adr b 0 0))]) hx hb dX3_fall_11 rfl hl (by decide) rfl (fun ls hl => ?_)
  exact w_X3_fall_12 C0  FU M2 (0 : Int) (by decide : rg (0 : Int)) H locs hR hS ls (lv_sub hl [1, 0] rfl) hF
abbrev rmX3_commit : Room := { frames := 4, cells := 0, slots := 0, locals := 87 }
theorem hyX3_commit : yX3_commit.cls = RX3 ∧ yX3_commit.cls ≠ "java/lang/invoke/MethodHandle" ∧ yX3_commit.cls ≠ "java/lang/invoke/VarHandle" ∧ (parseMethodDescriptor yX3_commit.desc).map (fun d => d.parameters.length) = some 0 := by decide +kernel
def F_X3_commit_71  (M : Mm) (v1 : Int) : Option (Int × Mm) := (if v1 = 0 then (some ((1 : Int), M)) else (some ((0 : Int), M)))
set_option maxHeartbeats 4000000 in
set_option maxRecDepth 100000 in
theorem w_X3_commit_71 {p : Program} {l : Launch} {e : Env} {s : State} {m : MethodId} {args : Array Value} {below : List Frame} {meth : Method} {c : Code} {g : Gx} {b : Nat} (C0 : XA p s m meth c args RX3 cX3_commit 2 (some .boolean) g) {r : Int} {M' : Mm} : ∀ (M : Mm) (v1 : Int) (hv1 : rg v1) (H : Heap) (locs : List Loc), Rel g b M H → va_S (AA b s.heap.size) s.heap H locs → ∀ ls : Array Slot, lv_has ls 2 [(1, .int (jI v1))] → F_X3_commit_71  M v1 = some (r, M') → W p l e rmX3_commit s m args below meth c H locs 0 0 (MQ below (qI g b r M' s.heap.size) args s 0 0 (AA b s.heap.size)) (F0 m 71 ls []) := by
  obtain ⟨hx, hb, hr, hlocks, hml, hown, hts, hK⟩ := id C0
  intro M v1 hv1 H locs hR hS ls hl hF
  rw [F_X3_commit_71] at hF
  refine lv_iload_n hx hb dX3_commit_71 rfl (lv_at hl 0 rfl) ?_
  refine x_if_ne (tgt := 79) hx hb hv1 dX3_commit_72 (by decide) (fun ci1 => ?_) (fun ci1 => ?_)
  · rw [if_neg ci1] at hF
    refine x_iconst hx hb dX3_commit_79 ?_
    cases hF
    exact x_zret hx hb hlocks hK hR hS hr (by decide) dX3_commit_80
  · rw [if_pos ci1] at hF
    refine x_iconst hx hb dX3_commit_75 ?_
    refine lv_goto (tgt := 80) hx hb dX3_commit_76 (by decide) ?_
    cases hF
    exact x_zret hx hb hlocks hK hR hS hr (by decide) dX3_commit_80
def F_X3_commit_58  (M : Mm) (v1 : Int) : Option (Int × Mm) := (if v1 = 0 then (F_X3_commit_71  M v1) else (xl (mup M 0 0 7 (-1 : Int)) fun M2 => (xb1 (F_X3_fall M2 ) fun M4 => (F_X3_commit_71  M4 v1))))
set_option maxHeartbeats 4000000 in
set_option maxRecDepth 100000 in
theorem w_X3_commit_58 {p : Program} {l : Launch} {e : Env} {s : State} {m : MethodId} {args : Array Value} {below : List Frame} {meth : Method} {c : Code} {g : Gx} {b : Nat} (C0 : XA p s m meth c args RX3 cX3_commit 2 (some .boolean) g) {r : Int} {M' : Mm} : ∀ (M : Mm) (v1 : Int) (hv1 : rg v1) (H : Heap) (locs : List Loc), Rel g b M H → va_S (AA b s.heap.size) s.heap H locs → ∀ ls : Array Slot, lv_has ls 2 [(0, .ref (adr b 0 0)), (1, .int (jI v1))] → F_X3_commit_58  M v1 = some (r, M') → W p l e rmX3_commit s m args below meth c H locs 0 0 (MQ below (qI g b r M' s.heap.size) args s 0 0 (AA b s.heap.size)) (F0 m 58 ls []) := by
  obtain ⟨hx, hb, hr, hlocks, hml, hown, hts, hK⟩ := id C0
  intro M v1 hv1 H locs hR hS ls hl hF
  rw [F_X3_commit_58] at hF
  refine lv_iload_n hx hb dX3_commit_58 rfl (lv_at hl 1 rfl) ?_
  refine x_if_eq (tgt := 71) hx hb hv1 dX3_commit_59 (by decide) (fun ci1 => ?_) (fun ci1 => ?_)
  · rw [if_pos ci1] at hF
    exact w_X3_commit_71 C0  M v1 hv1 H locs hR hS ls (lv_sub hl [1] rfl) hF
  · rw [if_neg ci1] at hF
    refine lv_aload_n hx hb dX3_commit_62 rfl (lv_at hl 0 rfl) ?_
    refine x_iconst hx hb dX3_commit_63 ?_
    refine pf_3_7 hx hb hts hown hK hR hS (by decide : rg (-1 : Int)) wd145 dX3_commit_64 (fun H locs hR hS => ?_)
    obtain ⟨M2, eM, hF⟩ := xl_some hF
    rw [eM] at hR
    clear eM
    refine lv_aload_n hx hb dX3_commit_67 rfl (lv_at hl 0 rfl) ?_
    obtain ⟨M4, hc3, hF⟩ := xb1_some hF
    refine x_cVv (C := RX3) (T := TX3) (N := 9) (ci := 3) (As := []) (rest := []) hx hb hml hown hts hK hR hS (c_X3_fall  hc3) ok0 rfl rfl wd270 wd272 ws3 wd1 wd273 hyX3_fall ⟨rfl, rfl⟩ ⟨Nat.le_of_ble_eq_true rfl, Nat.le_of_ble_eq_true rfl⟩ hl.1 (Nat.le_of_ble_eq_true rfl) dX3_commit_68 ⟨Nat.zero_le _, Nat.zero_le _⟩ rfl (fun H locs hR hS => ?_)
    exact w_X3_commit_71 C0  M4 v1 hv1 H locs hR hS ls (lv_sub hl [1] rfl) hF
def F_X3_commit_42  (M : Mm) (v1 : Int) : Option (Int × Mm) := (xk (M 0 0 0 = 0 ∨ M 0 0 0 = 1) (xb1 (F_X2_copyFrom M 2 ((M 0 0 0).toNat)) fun M4 => (xl (mup M4 0 0 4 (0 : Int)) fun M5 => (F_X3_commit_58  M5 v1))))
set_option maxHeartbeats 4000000 in
set_option maxRecDepth 100000 in
theorem w_X3_commit_42 {p : Program} {l : Launch} {e : Env} {s : State} {m : MethodId} {args : Array Value} {below : List Frame} {meth : Method} {c : Code} {g : Gx} {b : Nat} (C0 : XA p s m meth c args RX3 cX3_commit 2 (some .boolean) g) {r : Int} {M' : Mm} : ∀ (M : Mm) (v1 : Int) (hv1 : rg v1) (H : Heap) (locs : List Loc), Rel g b M H → va_S (AA b s.heap.size) s.heap H locs → ∀ ls : Array Slot, lv_has ls 2 [(0, .ref (adr b 0 0)), (1, .int (jI v1))] → F_X3_commit_42  M v1 = some (r, M') → W p l e rmX3_commit s m args below meth c H locs 0 0 (MQ below (qI g b r M' s.heap.size) args s 0 0 (AA b s.heap.size)) (F0 m 42 ls []) := by
  obtain ⟨hx, hb, hr, hlocks, hml, hown, hts, hK⟩ := id C0
  intro M v1 hv1 H locs hR hS ls hl hF
  rw [F_X3_commit_42] at hF
  refine lv_aload_n hx hb dX3_commit_42 rfl (lv_at hl 0 rfl) ?_
  refine gf_3_2 hx hb hts hown hK hR wd140 dX3_commit_43 ?_
  refine lv_aload_n hx hb dX3_commit_46 rfl (lv_at hl 0 rfl) ?_
  refine gf_3_0 hx hb hts hown hK hR wd138 dX3_commit_47 ?_
  obtain ⟨ht1, hF⟩ := xk_some hF
  have hj2 : (M 0 0 0).toNat < 3 := by omega
  obtain ⟨M4, hc3, hF⟩ := xb1_some hF
  refine x_cVv (C := RX2) (T := TX2) (N := 8) (ci := 2) (As := [.ref (adr b 1 ((M 0 0 0).toNat))]) (rest := []) hx hb hml hown hts hK hR hS (c_X2_copyFrom (by decide) hj2 hc3) (ok1 (by decide)) rfl rfl wd250 wd251 wd252 wd2 wd253 hyX2_copyFrom ⟨rfl, rfl⟩ ⟨Nat.le_of_ble_eq_true rfl, Nat.le_of_ble_eq_true rfl⟩ hl.1 (Nat.le_of_ble_eq_true rfl) dX3_commit_50 ⟨Nat.zero_le _, Nat.zero_le _⟩ rfl (fun H locs hR hS => ?_)
  refine lv_aload_n hx hb dX3_commit_53 rfl (lv_at hl 0 rfl) ?_
  refine x_iconst hx hb dX3_commit_54 ?_
  refine pf_3_4 hx hb hts hown hK hR hS (by decide : rg (0 : Int)) wd142 dX3_commit_55 (fun H locs hR hS => ?_)
  obtain ⟨M5, eM, hF⟩ := xl_some hF
  rw [eM] at hR
  clear eM
  exact w_X3_commit_58 C0  M5 v1 hv1 H locs hR hS ls (lv_sub hl [0, 1] rfl) hF
def F_X3_commit_20  (M : Mm) (s0 : Int) : Option (Int × Mm) := (if s0 = 0 then (F_X3_commit_42  M s0) else (if (M 0 0 7) = (1 : Int) then (if (M 0 0 8) < (32 : Int) then (F_X3_commit_58  M s0) else (F_X3_commit_42  M s0)) else (F_X3_commit_58  M s0)))
set_option maxHeartbeats 4000000 in
set_option maxRecDepth 100000 in
theorem w_X3_commit_20 {p : Program} {l : Launch} {e : Env} {s : State} {m : MethodId} {args : Array Value} {below : List Frame} {meth : Method} {c : Code} {g : Gx} {b : Nat} (C0 : XA p s m meth c args RX3 cX3_commit 2 (some .boolean) g) {r : Int} {M' : Mm} : ∀ (M : Mm) (s0 : Int) (hs0 : rg s0) (H : Heap) (locs : List Loc), Rel g b M H → va_S (AA b s.heap.size) s.heap H locs → ∀ ls : Array Slot, lv_has ls 2 [(0, .ref (adr b 0 0))] → F_X3_commit_20  M s0 = some (r, M') → W p l e rmX3_commit s m args below meth c H locs 0 0 (MQ below (qI g b r M' s.heap.size) args s 0 0 (AA b s.heap.size)) (F0 m 20 ls [.int (jI s0)]) := by
  obtain ⟨hx, hb, hr, hlocks, hml, hown, hts, hK⟩ := id C0
  intro M s0 hs0 H locs hR hS ls hl hF
  rw [F_X3_commit_20] at hF
  refine lv_istore_n (lv' := [(1, .int (jI s0)), (0, .ref (adr b 0 0))]) hx hb dX3_commit_20 rfl hl (by decide) rfl (fun ls hl => ?_)
  refine lv_iload_n hx hb dX3_commit_21 rfl (lv_at hl 0 rfl) ?_
  refine x_if_eq (tgt := 42) hx hb hs0 dX3_commit_22 (by decide) (fun ci1 => ?_) (fun ci1 => ?_)
  · rw [if_pos ci1] at hF
    exact w_X3_commit_42 C0  M s0 hs0 H locs hR hS ls (lv_sub hl [1, 0] rfl) hF
  · rw [if_neg ci1] at hF
    refine lv_aload_n hx hb dX3_commit_25 rfl (lv_at hl 1 rfl) ?_
    refine gf_3_7 hx hb hts hown hK hR wd145 dX3_commit_26 ?_
    have hg6 : rg (M 0 0 7) := hR.2 0 0 7 (by decide)
    refine x_iconst hx hb dX3_commit_29 ?_
    refine x_icmp_ne (tgt := 58) hx hb hg6 (by decide : rg (1 : Int)) dX3_commit_30 (by decide) (fun ci7 => ?_) (fun ci7 => ?_)
    · rw [if_neg ci7] at hF
      exact w_X3_commit_58 C0  M s0 hs0 H locs hR hS ls (lv_sub hl [1, 0] rfl) hF
    · rw [if_pos ci7] at hF
      refine lv_aload_n hx hb dX3_commit_33 rfl (lv_at hl 1 rfl) ?_
      refine gf_3_8 hx hb hts hown hK hR wd146 dX3_commit_34 ?_
      have hg8 : rg (M 0 0 8) := hR.2 0 0 8 (by decide)
      refine x_bipush hx hb (by decide +kernel) dX3_commit_37 ?_
      refine x_icmp_lt (tgt := 58) hx hb hg8 (by decide : rg (32 : Int)) dX3_commit_39 (by decide) (fun ci9 => ?_) (fun ci9 => ?_)
      · rw [if_pos ci9] at hF
        exact w_X3_commit_58 C0  M s0 hs0 H locs hR hS ls (lv_sub hl [1, 0] rfl) hF
      · rw [if_neg ci9] at hF
        exact w_X3_commit_42 C0  M s0 hs0 H locs hR hS ls (lv_sub hl [1, 0] rfl) hF
def F_X3_commit_15  (M : Mm) : Option (Int × Mm) := (F_X3_commit_20  M (1 : Int))
set_option maxHeartbeats 4000000 in
set_option maxRecDepth 100000 in
theorem w_X3_commit_15 {p : Program} {l : Launch} {e : Env} {s : State} {m : MethodId} {args : Array Value} {below : List Frame} {meth : Method} {c : Code} {g : Gx} {b : Nat} (C0 : XA p s m meth c args RX3 cX3_commit 2 (some .boolean) g) {r : Int} {M' : Mm} : ∀ (M : Mm)   (H : Heap) (locs : List Loc), Rel g b M H → va_S (AA b s.heap.size) s.heap H locs → ∀ ls : Array Slot, lv_has ls 2 [(0, .ref (adr b 0 0))] → F_X3_commit_15  M  = some (r, M') → W p l e rmX3_commit s m args below meth c H locs 0 0 (MQ below (qI g b r M' s.heap.size) args s 0 0 (AA b s.heap.size)) (F0 m 15 ls []) := by
  obtain ⟨hx, hb, hr, hlocks, hml, hown, hts, hK⟩ := id C0
  intro M H locs hR hS ls hl hF
  rw [F_X3_commit_15] at hF
  refine x_iconst hx hb dX3_commit_15 ?_
  refine lv_goto (tgt := 20) hx hb dX3_commit_16 (by decide) ?_
  exact w_X3_commit_20 C0  M (1 : Int) (by decide : rg (1 : Int)) H locs hR hS ls (lv_sub hl [0] rfl) hF
def F_X3_commit (M : Mm) : Option (Int × Mm) := (if (M 0 0 7) = 0 then (F_X3_commit_15  M) else (if (M 0 0 7) = (1 : Int) then (F_X3_commit_15  M) else (F_X3_commit_20  M (0 : Int))))
set_option maxHeartbeats 4000000 in
set_option maxRecDepth 100000 in
theorem c_X3_commit {l : Launch} {g : Gx} {b : Nat} {M : Mm} {r : Int} {M' : Mm} (hF : F_X3_commit M  = some (r, M')) : Ct l yX3_commit cX3_commit 2 (some .boolean) rmX3_commit g b [.ref (adr b 0 0)] M (qI g b r M') := by
  refine ct_of (by decide +kernel) (Nat.le_of_ble_eq_true rfl) ?_
  intro p e s m args below meth c C0 hR ls hl
  obtain ⟨hx, hb, hr, hlocks, hml, hown, hts, hK⟩ := id C0
  have hS : va_S (AA b s.heap.size) s.heap s.heap [] := va_S.rf
  have hl : lv_has ls 2 [(0, .ref (adr b 0 0))] := hl
  obtain ⟨H, hH⟩ : ∃ z, z = s.heap := ⟨_, rfl⟩
  obtain ⟨locs, hlo⟩ : ∃ z : List Loc, z = [] := ⟨_, rfl⟩
  have hR : Rel g b M H := by rw [hH]; exact hR
  have hS : va_S (AA b s.heap.size) s.heap H locs := by rw [hH, hlo]; exact hS
  suffices hW : W p l e rmX3_commit s m args below meth c H locs 0 0 (MQ below (qI g b r M' s.heap.size) args s 0 0 (AA b s.heap.size)) (F0 m 0 ls []) by rw [hH, hlo] at hW; exact hW
  rw [F_X3_commit] at hF
  refine lv_aload_n hx hb dX3_commit_0 rfl (lv_at hl 0 rfl) ?_
  refine gf_3_7 hx hb hts hown hK hR wd145 dX3_commit_1 ?_
  have hg1 : rg (M 0 0 7) := hR.2 0 0 7 (by decide)
  refine x_if_eq (tgt := 15) hx hb hg1 dX3_commit_4 (by decide) (fun ci2 => ?_) (fun ci2 => ?_)
  · rw [if_pos ci2] at hF
    exact w_X3_commit_15 C0  M H locs hR hS ls (lv_sub hl [0] rfl) hF
  · rw [if_neg ci2] at hF
    refine lv_aload_n hx hb dX3_commit_7 rfl (lv_at hl 0 rfl) ?_
    refine gf_3_7 hx hb hts hown hK hR wd145 dX3_commit_8 ?_
    have hg10 : rg (M 0 0 7) := hR.2 0 0 7 (by decide)
    refine x_iconst hx hb dX3_commit_11 ?_
    refine x_icmp_ne (tgt := 19) hx hb hg10 (by decide : rg (1 : Int)) dX3_commit_12 (by decide) (fun ci11 => ?_) (fun ci11 => ?_)
    · rw [if_neg ci11] at hF
      refine x_iconst hx hb dX3_commit_19 ?_
      exact w_X3_commit_20 C0  M (0 : Int) (by decide : rg (0 : Int)) H locs hR hS ls (lv_sub hl [0] rfl) hF
    · rw [if_pos ci11] at hF
      exact w_X3_commit_15 C0  M H locs hR hS ls (lv_sub hl [0] rfl) hF
abbrev rmX3_settle : Room := { frames := 5, cells := 0, slots := 0, locals := 108 }
theorem hyX3_settle : yX3_settle.cls = RX3 ∧ yX3_settle.cls ≠ "java/lang/invoke/MethodHandle" ∧ yX3_settle.cls ≠ "java/lang/invoke/VarHandle" ∧ (parseMethodDescriptor yX3_settle.desc).map (fun d => d.parameters.length) = some 1 := by decide +kernel
def F_X3_settle (M : Mm) (a1 : Int) : Option (Int × Mm) := (xb1 (F_X3_hindranceOfRoom M ) fun y2 => (if y2 = 0 then (xk (M 0 0 0 = 0 ∨ M 0 0 0 = 1) (xk (M 0 0 1 = 0 ∨ M 0 0 1 = 1) (xl (mup M 0 0 0 (((M 0 0 1).toNat) : Nat)) fun M9 => (xl (mup M9 0 0 1 (((M 0 0 0).toNat) : Nat)) fun M10 => (xk (M10 0 0 0 = 0 ∨ M10 0 0 0 = 1) (xk (rg ((M10 1 ((M10 0 0 0).toNat) 5) + (1 : Int))) (xl (mup M10 1 ((M10 0 0 0).toNat) 5 ((M10 1 ((M10 0 0 0).toNat) 5) + (1 : Int))) fun M15 => (xk (rg ((M15 0 0 4) + (1 : Int))) (xl (mup M15 0 0 4 ((M15 0 0 4) + (1 : Int))) fun M18 => (if (M18 0 0 4) < (8 : Int) then (some (a1, M18)) else (xb2 (F_X3_commit M18 ) fun y22 M23 => (if y22 = 0 then (some ((-9 : Int), M23)) else (some (a1, M23)))))))))))))) else (some (y2, M))))
set_option maxHeartbeats 4000000 in
set_option maxRecDepth 100000 in
theorem c_X3_settle {l : Launch} {g : Gx} {b : Nat} {M : Mm} {a1 : Int} {r : Int} {M' : Mm} (ha1 : rg a1) (hF : F_X3_settle M a1 = some (r, M')) : Ct l yX3_settle cX3_settle 4 (some .int) rmX3_settle g b [.ref (adr b 0 0), .int (jI a1)] M (qI g b r M') := by
  refine ct_of (by decide +kernel) (Nat.le_of_ble_eq_true rfl) ?_
  intro p e s m args below meth c C0 hR ls hl
  obtain ⟨hx, hb, hr, hlocks, hml, hown, hts, hK⟩ := id C0
  have hS : va_S (AA b s.heap.size) s.heap s.heap [] := va_S.rf
  have hl : lv_has ls 4 [(0, .ref (adr b 0 0)), (1, .int (jI a1))] := hl
  obtain ⟨H, hH⟩ : ∃ z, z = s.heap := ⟨_, rfl⟩
  obtain ⟨locs, hlo⟩ : ∃ z : List Loc, z = [] := ⟨_, rfl⟩
  have hR : Rel g b M H := by rw [hH]; exact hR
  have hS : va_S (AA b s.heap.size) s.heap H locs := by rw [hH, hlo]; exact hS
  suffices hW : W p l e rmX3_settle s m args below meth c H locs 0 0 (MQ below (qI g b r M' s.heap.size) args s 0 0 (AA b s.heap.size)) (F0 m 0 ls []) by rw [hH, hlo] at hW; exact hW
  rw [F_X3_settle] at hF
  refine lv_aload_n hx hb dX3_settle_0 rfl (lv_at hl 0 rfl) ?_
  obtain ⟨y2, hc1, hF⟩ := xb1_some hF
  refine x_cVi (C := RX3) (T := TX3) (N := 9) (ci := 3) (As := []) (rest := []) hx hb hml hown hts hK hR hS (c_X3_hindranceOfRoom  hc1) ok0 rfl rfl wd657 wd659 ws16 wd1 wd660 hyX3_hindranceOfRoom ⟨rfl, rfl⟩ ⟨Nat.le_of_ble_eq_true rfl, Nat.le_of_ble_eq_true rfl⟩ hl.1 (Nat.le_of_ble_eq_true rfl) dX3_settle_1 ⟨Nat.zero_le _, Nat.zero_le _⟩ rfl (fun hg3 H locs hR hS => ?_)
  refine lv_istore_n (lv' := [(2, .int (jI y2)), (0, .ref (adr b 0 0)), (1, .int (jI a1))]) hx hb dX3_settle_4 rfl hl (by decide) rfl (fun ls hl => ?_)
  refine lv_iload_n hx hb dX3_settle_5 rfl (lv_at hl 0 rfl) ?_
  refine x_if_eq (tgt := 11) hx hb hg3 dX3_settle_6 (by decide) (fun ci4 => ?_) (fun ci4 => ?_)
  · rw [if_pos ci4] at hF
    refine lv_aload_n hx hb dX3_settle_11 rfl (lv_at hl 1 rfl) ?_
    refine gf_3_0 hx hb hts hown hK hR wd138 dX3_settle_12 ?_
    obtain ⟨ht5, hF⟩ := xk_some hF
    have hj6 : (M 0 0 0).toNat < 3 := by omega
    refine lv_astore_n (lv' := [(3, .ref (adr b 1 ((M 0 0 0).toNat))), (2, .int (jI y2)), (0, .ref (adr b 0 0)), (1, .int (jI a1))]) hx hb dX3_settle_15 rfl hl (by decide) rfl (fun ls hl => ?_)
    refine lv_aload_n hx hb dX3_settle_16 rfl (lv_at hl 2 rfl) ?_
    refine lv_aload_n hx hb dX3_settle_17 rfl (lv_at hl 2 rfl) ?_
    refine gf_3_1 hx hb hts hown hK hR wd139 dX3_settle_18 ?_
    obtain ⟨ht7, hF⟩ := xk_some hF
    have hj8 : (M 0 0 1).toNat < 3 := by omega
    refine pf_3_0 hx hb hts hown hK hR hS hj8 wd138 dX3_settle_21 (fun H locs hR hS => ?_)
    obtain ⟨M9, eM, hF⟩ := xl_some hF
    rw [eM] at hR
    clear eM
    refine lv_aload_n hx hb dX3_settle_24 rfl (lv_at hl 2 rfl) ?_
    refine lv_aload_n hx hb dX3_settle_25 rfl (lv_at hl 0 rfl) ?_
    refine pf_3_1 hx hb hts hown hK hR hS hj6 wd139 dX3_settle_26 (fun H locs hR hS => ?_)
    obtain ⟨M10, eM, hF⟩ := xl_some hF
    rw [eM] at hR
    clear eM
    refine lv_aload_n hx hb dX3_settle_29 rfl (lv_at hl 2 rfl) ?_
    refine gf_3_0 hx hb hts hown hK hR wd138 dX3_settle_30 ?_
    obtain ⟨ht11, hF⟩ := xk_some hF
    have hj12 : (M10 0 0 0).toNat < 3 := by omega
    refine lv_dup hx hb dX3_settle_33 rfl ?_
    refine gf_2_5 hx hb hts hown hK hR hj12 wd94 dX3_settle_34 ?_
    have hg13 : rg (M10 1 ((M10 0 0 0).toNat) 5) := hR.2 1 ((M10 0 0 0).toNat) 5 (by decide)
    refine x_iconst hx hb dX3_settle_37 ?_
    obtain ⟨hq14, hF⟩ := xk_some hF
    refine x_iadd hx hb dX3_settle_38 ?_
    refine pf_2_5 hx hb hts hown hK hR hS hj12 hq14 wd94 dX3_settle_39 (fun H locs hR hS => ?_)
    obtain ⟨M15, eM, hF⟩ := xl_some hF
    rw [eM] at hR
    clear eM
    refine lv_aload_n hx hb dX3_settle_42 rfl (lv_at hl 2 rfl) ?_
    refine lv_dup hx hb dX3_settle_43 rfl ?_
    refine gf_3_4 hx hb hts hown hK hR wd142 dX3_settle_44 ?_
    have hg16 : rg (M15 0 0 4) := hR.2 0 0 4 (by decide)
    refine x_iconst hx hb dX3_settle_47 ?_
    obtain ⟨hq17, hF⟩ := xk_some hF
    refine x_iadd hx hb dX3_settle_48 ?_
    refine pf_3_4 hx hb hts hown hK hR hS hq17 wd142 dX3_settle_49 (fun H locs hR hS => ?_)
    obtain ⟨M18, eM, hF⟩ := xl_some hF
    rw [eM] at hR
    clear eM
    refine lv_aload_n hx hb dX3_settle_52 rfl (lv_at hl 2 rfl) ?_
    refine gf_3_4 hx hb hts hown hK hR wd142 dX3_settle_53 ?_
    have hg19 : rg (M18 0 0 4) := hR.2 0 0 4 (by decide)
    refine x_bipush hx hb (by decide +kernel) dX3_settle_56 ?_
    refine x_icmp_lt (tgt := 68) hx hb hg19 (by decide : rg (8 : Int)) dX3_settle_58 (by decide) (fun ci20 => ?_) (fun ci20 => ?_)
    · rw [if_pos ci20] at hF
      refine lv_iload_n hx hb dX3_settle_68 rfl (lv_at hl 3 rfl) ?_
      refine lv_goto (tgt := 74) hx hb dX3_settle_69 (by decide) ?_
      cases hF
      exact x_iret hx hb hlocks hK hR hS hr ha1 dX3_settle_74
    · rw [if_neg ci20] at hF
      refine lv_aload_n hx hb dX3_settle_61 rfl (lv_at hl 2 rfl) ?_
      obtain ⟨y22, M23, hc21, hF⟩ := xb2_some hF
      refine x_cVi (C := RX3) (T := TX3) (N := 9) (ci := 3) (As := []) (rest := []) hx hb hml hown hts hK hR hS (c_X3_commit  hc21) ok0 rfl rfl wd246 wd248 ws2 wd1 wd249 hyX3_commit ⟨rfl, rfl⟩ ⟨Nat.le_of_ble_eq_true rfl, Nat.le_of_ble_eq_true rfl⟩ hl.1 (Nat.le_of_ble_eq_true rfl) dX3_settle_62 ⟨Nat.zero_le _, Nat.zero_le _⟩ rfl (fun hg24 H locs hR hS => ?_)
      refine x_if_eq (tgt := 72) hx hb hg24 dX3_settle_65 (by decide) (fun ci25 => ?_) (fun ci25 => ?_)
      · rw [if_pos ci25] at hF
        refine x_bipush hx hb (by decide +kernel) dX3_settle_72 ?_
        cases hF
        exact x_iret hx hb hlocks hK hR hS hr (by decide : rg (-9 : Int)) dX3_settle_74
      · rw [if_neg ci25] at hF
        refine lv_iload_n hx hb dX3_settle_68 rfl (lv_at hl 3 rfl) ?_
        refine lv_goto (tgt := 74) hx hb dX3_settle_69 (by decide) ?_
        cases hF
        exact x_iret hx hb hlocks hK hR hS hr ha1 dX3_settle_74
  · rw [if_neg ci4] at hF
    refine lv_iload_n hx hb dX3_settle_9 rfl (lv_at hl 0 rfl) ?_
    cases hF
    exact x_iret hx hb hlocks hK hR hS hr hg3 dX3_settle_10
abbrev rmX3_makeEmpty : Room := { frames := 6, cells := 0, slots := 0, locals := 131 }
theorem hyX3_makeEmpty : yX3_makeEmpty.cls = RX3 ∧ yX3_makeEmpty.cls ≠ "java/lang/invoke/MethodHandle" ∧ yX3_makeEmpty.cls ≠ "java/lang/invoke/VarHandle" ∧ (parseMethodDescriptor yX3_makeEmpty.desc).map (fun d => d.parameters.length) = some 3 := by decide +kernel
def F_X3_makeEmpty (M : Mm) (a1 : Int) (a2 : Int) (a3 : Int) : Option (Int × Mm) := (xb1 (F_X3_hindranceToMake M a2 a3) fun y2 => (if y2 = 0 then (xb1 (F_X3_startDraft M ) fun M6 => (xk (M6 0 0 1 = 0 ∨ M6 0 0 1 = 1) (xb2 (F_X2_make M6 ((M6 0 0 1).toNat) a1 a2 a3) fun y10 M11 => (xb2 (F_X3_settle M11 y10) fun y14 M15 => (some (y14, M15)))))) else (some (y2, M))))
set_option maxHeartbeats 4000000 in
set_option maxRecDepth 100000 in
theorem c_X3_makeEmpty {l : Launch} {g : Gx} {b : Nat} {M : Mm} {a1 : Int} {a2 : Int} {a3 : Int} {r : Int} {M' : Mm} (ha1 : rg a1) (ha2 : rg a2) (ha3 : rg a3) (hF : F_X3_makeEmpty M a1 a2 a3 = some (r, M')) : Ct l yX3_makeEmpty cX3_makeEmpty 5 (some .int) rmX3_makeEmpty g b [.ref (adr b 0 0), .int (jI a1), .int (jI a2), .int (jI a3)] M (qI g b r M') := by
  refine ct_of (by decide +kernel) (Nat.le_of_ble_eq_true rfl) ?_
  intro p e s m args below meth c C0 hR ls hl
  obtain ⟨hx, hb, hr, hlocks, hml, hown, hts, hK⟩ := id C0
  have hS : va_S (AA b s.heap.size) s.heap s.heap [] := va_S.rf
  have hl : lv_has ls 5 [(0, .ref (adr b 0 0)), (1, .int (jI a1)), (2, .int (jI a2)), (3, .int (jI a3))] := hl
  obtain ⟨H, hH⟩ : ∃ z, z = s.heap := ⟨_, rfl⟩
  obtain ⟨locs, hlo⟩ : ∃ z : List Loc, z = [] := ⟨_, rfl⟩
  have hR : Rel g b M H := by rw [hH]; exact hR
  have hS : va_S (AA b s.heap.size) s.heap H locs := by rw [hH, hlo]; exact hS
  suffices hW : W p l e rmX3_makeEmpty s m args below meth c H locs 0 0 (MQ below (qI g b r M' s.heap.size) args s 0 0 (AA b s.heap.size)) (F0 m 0 ls []) by rw [hH, hlo] at hW; exact hW
  rw [F_X3_makeEmpty] at hF
  refine lv_aload_n hx hb dX3_makeEmpty_0 rfl (lv_at hl 0 rfl) ?_
  refine lv_iload_n hx hb dX3_makeEmpty_1 rfl (lv_at hl 2 rfl) ?_
  refine lv_iload_n hx hb dX3_makeEmpty_2 rfl (lv_at hl 3 rfl) ?_
  obtain ⟨y2, hc1, hF⟩ := xb1_some hF
  refine x_cVi (C := RX3) (T := TX3) (N := 9) (ci := 3) (As := [.int (jI a2), .int (jI a3)]) (rest := []) hx hb hml hown hts hK hR hS (c_X3_hindranceToMake ha2 ha3 hc1) ok0 rfl rfl wd629 wd631 ws13 wd1 wd632 hyX3_hindranceToMake ⟨rfl, rfl⟩ ⟨Nat.le_of_ble_eq_true rfl, Nat.le_of_ble_eq_true rfl⟩ hl.1 (Nat.le_of_ble_eq_true rfl) dX3_makeEmpty_3 ⟨Nat.zero_le _, Nat.zero_le _⟩ rfl (fun hg3 H locs hR hS => ?_)
  refine lv_istore (lv' := [(4, .int (jI y2)), (0, .ref (adr b 0 0)), (1, .int (jI a1)), (2, .int (jI a2)), (3, .int (jI a3))]) hx hb dX3_makeEmpty_6 hl (by decide) rfl (fun ls hl => ?_)
  refine lv_iload hx hb dX3_makeEmpty_8 (lv_at hl 0 rfl) ?_
  refine x_if_eq (tgt := 16) hx hb hg3 dX3_makeEmpty_10 (by decide) (fun ci4 => ?_) (fun ci4 => ?_)
  · rw [if_pos ci4] at hF
    refine lv_aload_n hx hb dX3_makeEmpty_16 rfl (lv_at hl 1 rfl) ?_
    obtain ⟨M6, hc5, hF⟩ := xb1_some hF
    refine x_cVv (C := RX3) (T := TX3) (N := 9) (ci := 3) (As := []) (rest := []) hx hb hml hown hts hK hR hS (c_X3_startDraft  hc5) ok0 rfl rfl wd633 wd635 ws14 wd1 wd636 hyX3_startDraft ⟨rfl, rfl⟩ ⟨Nat.le_of_ble_eq_true rfl, Nat.le_of_ble_eq_true rfl⟩ hl.1 (Nat.le_of_ble_eq_true rfl) dX3_makeEmpty_17 ⟨Nat.zero_le _, Nat.zero_le _⟩ rfl (fun H locs hR hS => ?_)
    refine lv_aload_n hx hb dX3_makeEmpty_20 rfl (lv_at hl 1 rfl) ?_
    refine lv_aload_n hx hb dX3_makeEmpty_21 rfl (lv_at hl 1 rfl) ?_
    refine gf_3_1 hx hb hts hown hK hR wd139 dX3_makeEmpty_22 ?_
    obtain ⟨ht7, hF⟩ := xk_some hF
    have hj8 : (M6 0 0 1).toNat < 3 := by omega
    refine lv_iload_n hx hb dX3_makeEmpty_25 rfl (lv_at hl 2 rfl) ?_
    refine lv_iload_n hx hb dX3_makeEmpty_26 rfl (lv_at hl 3 rfl) ?_
    refine lv_iload_n hx hb dX3_makeEmpty_27 rfl (lv_at hl 4 rfl) ?_
    obtain ⟨y10, M11, hc9, hF⟩ := xb2_some hF
    refine x_cVi (C := RX2) (T := TX2) (N := 8) (ci := 2) (As := [.int (jI a1), .int (jI a2), .int (jI a3)]) (rest := [.ref (adr b 0 0)]) hx hb hml hown hts hK hR hS (c_X2_make hj8 ha1 ha2 ha3 hc9) (ok1 hj8) rfl rfl wd637 wd638 wd639 wd2 wd640 hyX2_make ⟨rfl, rfl⟩ ⟨Nat.le_of_ble_eq_true rfl, Nat.le_of_ble_eq_true rfl⟩ hl.1 (Nat.le_of_ble_eq_true rfl) dX3_makeEmpty_28 ⟨Nat.zero_le _, Nat.zero_le _⟩ rfl (fun hg12 H locs hR hS => ?_)
    obtain ⟨y14, M15, hc13, hF⟩ := xb2_some hF
    refine x_cVi (C := RX3) (T := TX3) (N := 9) (ci := 3) (As := [.int (jI y10)]) (rest := []) hx hb hml hown hts hK hR hS (c_X3_settle hg12 hc13) ok0 rfl rfl wd653 wd655 ws15 wd1 wd656 hyX3_settle ⟨rfl, rfl⟩ ⟨Nat.le_of_ble_eq_true rfl, Nat.le_of_ble_eq_true rfl⟩ hl.1 (Nat.le_of_ble_eq_true rfl) dX3_makeEmpty_31 ⟨Nat.zero_le _, Nat.zero_le _⟩ rfl (fun hg16 H locs hR hS => ?_)
    cases hF
    exact x_iret hx hb hlocks hK hR hS hr hg16 dX3_makeEmpty_34
  · rw [if_neg ci4] at hF
    refine lv_iload hx hb dX3_makeEmpty_13 (lv_at hl 0 rfl) ?_
    cases hF
    exact x_iret hx hb hlocks hK hR hS hr hg3 dX3_makeEmpty_15
abbrev rmX3_makeFile : Room := { frames := 7, cells := 0, slots := 0, locals := 155 }
theorem hyX3_makeFile : yX3_makeFile.cls = RX3 ∧ yX3_makeFile.cls ≠ "java/lang/invoke/MethodHandle" ∧ yX3_makeFile.cls ≠ "java/lang/invoke/VarHandle" ∧ (parseMethodDescriptor yX3_makeFile.desc).map (fun d => d.parameters.length) = some 2 := by decide +kernel
def F_X3_makeFile (M : Mm) (a1 : Int) (a2 : Int) : Option (Int × Mm) := (xb1 (F_X3_needEntry M a1 a2) fun _ => (xb2 (F_X3_makeEmpty M (1 : Int) a1 a2) fun y3 M4 => (some (y3, M4))))
set_option maxHeartbeats 4000000 in
set_option maxRecDepth 100000 in
theorem c_X3_makeFile {l : Launch} {g : Gx} {b : Nat} {M : Mm} {a1 : Int} {a2 : Int} {r : Int} {M' : Mm} (ha1 : rg a1) (ha2 : rg a2) (hF : F_X3_makeFile M a1 a2 = some (r, M')) : Ct l yX3_makeFile cX3_makeFile 3 (some .int) rmX3_makeFile g b [.ref (adr b 0 0), .int (jI a1), .int (jI a2)] M (qI g b r M') := by
  refine ct_of (by decide +kernel) (Nat.le_of_ble_eq_true rfl) ?_
  intro p e s m args below meth c C0 hR ls hl
  obtain ⟨hx, hb, hr, hlocks, hml, hown, hts, hK⟩ := id C0
  have hS : va_S (AA b s.heap.size) s.heap s.heap [] := va_S.rf
  have hl : lv_has ls 3 [(0, .ref (adr b 0 0)), (1, .int (jI a1)), (2, .int (jI a2))] := hl
  obtain ⟨H, hH⟩ : ∃ z, z = s.heap := ⟨_, rfl⟩
  obtain ⟨locs, hlo⟩ : ∃ z : List Loc, z = [] := ⟨_, rfl⟩
  have hR : Rel g b M H := by rw [hH]; exact hR
  have hS : va_S (AA b s.heap.size) s.heap H locs := by rw [hH, hlo]; exact hS
  suffices hW : W p l e rmX3_makeFile s m args below meth c H locs 0 0 (MQ below (qI g b r M' s.heap.size) args s 0 0 (AA b s.heap.size)) (F0 m 0 ls []) by rw [hH, hlo] at hW; exact hW
  rw [F_X3_makeFile] at hF
  refine lv_aload_n hx hb dX3_makeFile_0 rfl (lv_at hl 0 rfl) ?_
  refine lv_iload_n hx hb dX3_makeFile_1 rfl (lv_at hl 1 rfl) ?_
  refine lv_iload_n hx hb dX3_makeFile_2 rfl (lv_at hl 2 rfl) ?_
  obtain ⟨_, hc1, hF⟩ := xb1_some hF
  refine x_cVv (C := RX3) (T := TX3) (N := 9) (ci := 3) (As := [.int (jI a1), .int (jI a2)]) (rest := []) hx hb hml hown hts hK hR hS (c_X3_needEntry ha1 ha2 hc1) ok0 rfl rfl wd621 wd623 ws11 wd1 wd624 hyX3_needEntry ⟨rfl, rfl⟩ ⟨Nat.le_of_ble_eq_true rfl, Nat.le_of_ble_eq_true rfl⟩ hl.1 (Nat.le_of_ble_eq_true rfl) dX3_makeFile_3 ⟨Nat.zero_le _, Nat.zero_le _⟩ rfl (fun H locs hR hS => ?_)
  refine lv_aload_n hx hb dX3_makeFile_6 rfl (lv_at hl 0 rfl) ?_
  refine x_iconst hx hb dX3_makeFile_7 ?_
  refine lv_iload_n hx hb dX3_makeFile_8 rfl (lv_at hl 1 rfl) ?_
  refine lv_iload_n hx hb dX3_makeFile_9 rfl (lv_at hl 2 rfl) ?_
  obtain ⟨y3, M4, hc2, hF⟩ := xb2_some hF
  refine x_cVi (C := RX3) (T := TX3) (N := 9) (ci := 3) (As := [.int (jI (1 : Int)), .int (jI a1), .int (jI a2)]) (rest := []) hx hb hml hown hts hK hR hS (c_X3_makeEmpty (by decide : rg (1 : Int)) ha1 ha2 hc2) ok0 rfl rfl wd625 wd627 ws12 wd1 wd628 hyX3_makeEmpty ⟨rfl, rfl⟩ ⟨Nat.le_of_ble_eq_true rfl, Nat.le_of_ble_eq_true rfl⟩ hl.1 (Nat.le_of_ble_eq_true rfl) dX3_makeFile_10 ⟨Nat.zero_le _, Nat.zero_le _⟩ rfl (fun hg5 H locs hR hS => ?_)
  cases hF
  exact x_iret hx hb hlocks hK hR hS hr hg5 dX3_makeFile_13
abbrev rmX3_makeFolder : Room := { frames := 7, cells := 0, slots := 0, locals := 155 }
theorem hyX3_makeFolder : yX3_makeFolder.cls = RX3 ∧ yX3_makeFolder.cls ≠ "java/lang/invoke/MethodHandle" ∧ yX3_makeFolder.cls ≠ "java/lang/invoke/VarHandle" ∧ (parseMethodDescriptor yX3_makeFolder.desc).map (fun d => d.parameters.length) = some 2 := by decide +kernel
def F_X3_makeFolder (M : Mm) (a1 : Int) (a2 : Int) : Option (Int × Mm) := (xb1 (F_X3_needEntry M a1 a2) fun _ => (xb2 (F_X3_makeEmpty M (2 : Int) a1 a2) fun y3 M4 => (some (y3, M4))))
set_option maxHeartbeats 4000000 in
set_option maxRecDepth 100000 in
theorem c_X3_makeFolder {l : Launch} {g : Gx} {b : Nat} {M : Mm} {a1 : Int} {a2 : Int} {r : Int} {M' : Mm} (ha1 : rg a1) (ha2 : rg a2) (hF : F_X3_makeFolder M a1 a2 = some (r, M')) : Ct l yX3_makeFolder cX3_makeFolder 3 (some .int) rmX3_makeFolder g b [.ref (adr b 0 0), .int (jI a1), .int (jI a2)] M (qI g b r M') := by
  refine ct_of (by decide +kernel) (Nat.le_of_ble_eq_true rfl) ?_
  intro p e s m args below meth c C0 hR ls hl
  obtain ⟨hx, hb, hr, hlocks, hml, hown, hts, hK⟩ := id C0
  have hS : va_S (AA b s.heap.size) s.heap s.heap [] := va_S.rf
  have hl : lv_has ls 3 [(0, .ref (adr b 0 0)), (1, .int (jI a1)), (2, .int (jI a2))] := hl
  obtain ⟨H, hH⟩ : ∃ z, z = s.heap := ⟨_, rfl⟩
  obtain ⟨locs, hlo⟩ : ∃ z : List Loc, z = [] := ⟨_, rfl⟩
  have hR : Rel g b M H := by rw [hH]; exact hR
  have hS : va_S (AA b s.heap.size) s.heap H locs := by rw [hH, hlo]; exact hS
  suffices hW : W p l e rmX3_makeFolder s m args below meth c H locs 0 0 (MQ below (qI g b r M' s.heap.size) args s 0 0 (AA b s.heap.size)) (F0 m 0 ls []) by rw [hH, hlo] at hW; exact hW
  rw [F_X3_makeFolder] at hF
  refine lv_aload_n hx hb dX3_makeFolder_0 rfl (lv_at hl 0 rfl) ?_
  refine lv_iload_n hx hb dX3_makeFolder_1 rfl (lv_at hl 1 rfl) ?_
  refine lv_iload_n hx hb dX3_makeFolder_2 rfl (lv_at hl 2 rfl) ?_
  obtain ⟨_, hc1, hF⟩ := xb1_some hF
  refine x_cVv (C := RX3) (T := TX3) (N := 9) (ci := 3) (As := [.int (jI a1), .int (jI a2)]) (rest := []) hx hb hml hown hts hK hR hS (c_X3_needEntry ha1 ha2 hc1) ok0 rfl rfl wd621 wd623 ws11 wd1 wd624 hyX3_needEntry ⟨rfl, rfl⟩ ⟨Nat.le_of_ble_eq_true rfl, Nat.le_of_ble_eq_true rfl⟩ hl.1 (Nat.le_of_ble_eq_true rfl) dX3_makeFolder_3 ⟨Nat.zero_le _, Nat.zero_le _⟩ rfl (fun H locs hR hS => ?_)
  refine lv_aload_n hx hb dX3_makeFolder_6 rfl (lv_at hl 0 rfl) ?_
  refine x_iconst hx hb dX3_makeFolder_7 ?_
  refine lv_iload_n hx hb dX3_makeFolder_8 rfl (lv_at hl 1 rfl) ?_
  refine lv_iload_n hx hb dX3_makeFolder_9 rfl (lv_at hl 2 rfl) ?_
  obtain ⟨y3, M4, hc2, hF⟩ := xb2_some hF
  refine x_cVi (C := RX3) (T := TX3) (N := 9) (ci := 3) (As := [.int (jI (2 : Int)), .int (jI a1), .int (jI a2)]) (rest := []) hx hb hml hown hts hK hR hS (c_X3_makeEmpty (by decide : rg (2 : Int)) ha1 ha2 hc2) ok0 rfl rfl wd625 wd627 ws12 wd1 wd628 hyX3_makeEmpty ⟨rfl, rfl⟩ ⟨Nat.le_of_ble_eq_true rfl, Nat.le_of_ble_eq_true rfl⟩ hl.1 (Nat.le_of_ble_eq_true rfl) dX3_makeFolder_10 ⟨Nat.zero_le _, Nat.zero_le _⟩ rfl (fun hg5 H locs hR hS => ?_)
  cases hF
  exact x_iret hx hb hlocks hK hR hS hr hg5 dX3_makeFolder_13
abbrev rmX3_makeLink : Room := { frames := 6, cells := 0, slots := 0, locals := 131 }
theorem hyX3_makeLink : yX3_makeLink.cls = RX3 ∧ yX3_makeLink.cls ≠ "java/lang/invoke/MethodHandle" ∧ yX3_makeLink.cls ≠ "java/lang/invoke/VarHandle" ∧ (parseMethodDescriptor yX3_makeLink.desc).map (fun d => d.parameters.length) = some 5 := by decide +kernel
def F_X3_makeLink_37  (M : Mm) (v1 : Int) (v2 : Int) (v3 : Int) (v4 : Int) (v5 : Int) (s1 : Int) (s2 : Int) (s3 : Int) : Option (Int × Mm) := (xb1 (F_X3_needRange M s1 s2 s3) fun _ => (xb1 (F_X3_hindranceToMake M v1 v2) fun y3 => (if y3 = 0 then (xb1 (F_X3_startDraft M ) fun M7 => (xk (M7 0 0 1 = 0 ∨ M7 0 0 1 = 1) (xb2 (F_X2_make M7 ((M7 0 0 1).toNat) (3 : Int) v1 v2) fun y11 M12 => (xk (M12 0 0 1 = 0 ∨ M12 0 0 1 = 1) (xb1 (F_X2_at M12 ((M12 0 0 1).toNat) y11) fun y17 => (xb1 (F_X1_aim M12 y17 v3 v4 v5) fun M21 => (xb2 (F_X3_settle M21 y11) fun y23 M24 => (some (y23, M24))))))))) else (some (y3, M)))))
set_option maxHeartbeats 4000000 in
set_option maxRecDepth 100000 in
theorem w_X3_makeLink_37 {p : Program} {l : Launch} {e : Env} {s : State} {m : MethodId} {args : Array Value} {below : List Frame} {meth : Method} {c : Code} {g : Gx} {b : Nat} (C0 : XA p s m meth c args RX3 cX3_makeLink 8 (some .int) g) {r : Int} {M' : Mm} : ∀ (M : Mm) (v1 : Int) (v2 : Int) (v3 : Int) (v4 : Int) (v5 : Int) (s1 : Int) (s2 : Int) (s3 : Int) (hv1 : rg v1) (hv2 : rg v2) (hv3 : rg v3) (hv4 : rg v4) (hv5 : rg v5) (hs1 : rg s1) (hs2 : rg s2) (hs3 : rg s3) (H : Heap) (locs : List Loc), Rel g b M H → va_S (AA b s.heap.size) s.heap H locs → ∀ ls : Array Slot, lv_has ls 8 [(0, .ref (adr b 0 0)), (1, .int (jI v1)), (2, .int (jI v2)), (3, .int (jI v3)), (4, .int (jI v4)), (5, .int (jI v5))] → F_X3_makeLink_37  M v1 v2 v3 v4 v5 s1 s2 s3 = some (r, M') → W p l e rmX3_makeLink s m args below meth c H locs 0 0 (MQ below (qI g b r M' s.heap.size) args s 0 0 (AA b s.heap.size)) (F0 m 37 ls [.int (jI s3), .int (jI s2), .int (jI s1), .ref (adr b 0 0)]) := by
  obtain ⟨hx, hb, hr, hlocks, hml, hown, hts, hK⟩ := id C0
  intro M v1 v2 v3 v4 v5 s1 s2 s3 hv1 hv2 hv3 hv4 hv5 hs1 hs2 hs3 H locs hR hS ls hl hF
  rw [F_X3_makeLink_37] at hF
  obtain ⟨_, hc1, hF⟩ := xb1_some hF
  refine x_cVv (C := RX3) (T := TX3) (N := 9) (ci := 3) (As := [.int (jI s1), .int (jI s2), .int (jI s3)]) (rest := []) hx hb hml hown hts hK hR hS (c_X3_needRange hs1 hs2 hs3 hc1) ok0 rfl rfl wd419 wd421 ws6 wd1 wd422 hyX3_needRange ⟨rfl, rfl⟩ ⟨Nat.le_of_ble_eq_true rfl, Nat.le_of_ble_eq_true rfl⟩ hl.1 (Nat.le_of_ble_eq_true rfl) dX3_makeLink_37 ⟨Nat.zero_le _, Nat.zero_le _⟩ rfl (fun H locs hR hS => ?_)
  refine lv_aload_n hx hb dX3_makeLink_40 rfl (lv_at hl 0 rfl) ?_
  refine lv_iload_n hx hb dX3_makeLink_41 rfl (lv_at hl 1 rfl) ?_
  refine lv_iload_n hx hb dX3_makeLink_42 rfl (lv_at hl 2 rfl) ?_
  obtain ⟨y3, hc2, hF⟩ := xb1_some hF
  refine x_cVi (C := RX3) (T := TX3) (N := 9) (ci := 3) (As := [.int (jI v1), .int (jI v2)]) (rest := []) hx hb hml hown hts hK hR hS (c_X3_hindranceToMake hv1 hv2 hc2) ok0 rfl rfl wd629 wd631 ws13 wd1 wd632 hyX3_hindranceToMake ⟨rfl, rfl⟩ ⟨Nat.le_of_ble_eq_true rfl, Nat.le_of_ble_eq_true rfl⟩ hl.1 (Nat.le_of_ble_eq_true rfl) dX3_makeLink_43 ⟨Nat.zero_le _, Nat.zero_le _⟩ rfl (fun hg4 H locs hR hS => ?_)
  refine lv_istore (lv' := [(6, .int (jI y3)), (0, .ref (adr b 0 0)), (1, .int (jI v1)), (2, .int (jI v2)), (3, .int (jI v3)), (4, .int (jI v4)), (5, .int (jI v5))]) hx hb dX3_makeLink_46 hl (by decide) rfl (fun ls hl => ?_)
  refine lv_iload hx hb dX3_makeLink_48 (lv_at hl 0 rfl) ?_
  refine x_if_eq (tgt := 56) hx hb hg4 dX3_makeLink_50 (by decide) (fun ci5 => ?_) (fun ci5 => ?_)
  · rw [if_pos ci5] at hF
    refine lv_aload_n hx hb dX3_makeLink_56 rfl (lv_at hl 1 rfl) ?_
    obtain ⟨M7, hc6, hF⟩ := xb1_some hF
    refine x_cVv (C := RX3) (T := TX3) (N := 9) (ci := 3) (As := []) (rest := []) hx hb hml hown hts hK hR hS (c_X3_startDraft  hc6) ok0 rfl rfl wd633 wd635 ws14 wd1 wd636 hyX3_startDraft ⟨rfl, rfl⟩ ⟨Nat.le_of_ble_eq_true rfl, Nat.le_of_ble_eq_true rfl⟩ hl.1 (Nat.le_of_ble_eq_true rfl) dX3_makeLink_57 ⟨Nat.zero_le _, Nat.zero_le _⟩ rfl (fun H locs hR hS => ?_)
    refine lv_aload_n hx hb dX3_makeLink_60 rfl (lv_at hl 1 rfl) ?_
    refine gf_3_1 hx hb hts hown hK hR wd139 dX3_makeLink_61 ?_
    obtain ⟨ht8, hF⟩ := xk_some hF
    have hj9 : (M7 0 0 1).toNat < 3 := by omega
    refine x_iconst hx hb dX3_makeLink_64 ?_
    refine lv_iload_n hx hb dX3_makeLink_65 rfl (lv_at hl 2 rfl) ?_
    refine lv_iload_n hx hb dX3_makeLink_66 rfl (lv_at hl 3 rfl) ?_
    obtain ⟨y11, M12, hc10, hF⟩ := xb2_some hF
    refine x_cVi (C := RX2) (T := TX2) (N := 8) (ci := 2) (As := [.int (jI (3 : Int)), .int (jI v1), .int (jI v2)]) (rest := []) hx hb hml hown hts hK hR hS (c_X2_make hj9 (by decide : rg (3 : Int)) hv1 hv2 hc10) (ok1 hj9) rfl rfl wd637 wd638 wd639 wd2 wd640 hyX2_make ⟨rfl, rfl⟩ ⟨Nat.le_of_ble_eq_true rfl, Nat.le_of_ble_eq_true rfl⟩ hl.1 (Nat.le_of_ble_eq_true rfl) dX3_makeLink_67 ⟨Nat.zero_le _, Nat.zero_le _⟩ rfl (fun hg13 H locs hR hS => ?_)
    refine lv_istore (lv' := [(7, .int (jI y11)), (6, .int (jI y3)), (0, .ref (adr b 0 0)), (1, .int (jI v1)), (2, .int (jI v2)), (3, .int (jI v3)), (4, .int (jI v4)), (5, .int (jI v5))]) hx hb dX3_makeLink_70 hl (by decide) rfl (fun ls hl => ?_)
    refine lv_aload_n hx hb dX3_makeLink_72 rfl (lv_at hl 2 rfl) ?_
    refine gf_3_1 hx hb hts hown hK hR wd139 dX3_makeLink_73 ?_
    obtain ⟨ht14, hF⟩ := xk_some hF
    have hj15 : (M12 0 0 1).toNat < 3 := by omega
    refine lv_iload hx hb dX3_makeLink_76 (lv_at hl 0 rfl) ?_
    obtain ⟨y17, hc16, hF⟩ := xb1_some hF
    refine x_cVr (C := RX2) (T := TX2) (N := 8) (ci := 2) (As := [.int (jI y11)]) (rest := []) hx hb hml hown hts hK hR hS (c_X2_at hj15 hg13 hc16) (ok1 hj15) rfl rfl wd337 wd255 wd256 wd2 wd257 hyX2_at ⟨rfl, rfl⟩ ⟨Nat.le_of_ble_eq_true rfl, Nat.le_of_ble_eq_true rfl⟩ hl.1 (Nat.le_of_ble_eq_true rfl) dX3_makeLink_78 ⟨Nat.zero_le _, Nat.zero_le _⟩ rfl (fun hg18 H locs hR hS => ?_)
    have hj19 : y17 < 99 := lt2 hg18
    refine lv_iload_n hx hb dX3_makeLink_81 rfl (lv_at hl 5 rfl) ?_
    refine lv_iload hx hb dX3_makeLink_82 (lv_at hl 6 rfl) ?_
    refine lv_iload hx hb dX3_makeLink_84 (lv_at hl 7 rfl) ?_
    obtain ⟨M21, hc20, hF⟩ := xb1_some hF
    refine x_cVv (C := RX1) (T := TX1) (N := 12) (ci := 1) (As := [.int (jI v3), .int (jI v4), .int (jI v5)]) (rest := []) hx hb hml hown hts hK hR hS (c_X1_aim hj19 hv3 hv4 hv5 hc20) (ok2 hj19) rfl rfl wd669 wd263 wd264 wd3 wd265 hyX1_aim ⟨rfl, rfl⟩ ⟨Nat.le_of_ble_eq_true rfl, Nat.le_of_ble_eq_true rfl⟩ hl.1 (Nat.le_of_ble_eq_true rfl) dX3_makeLink_86 ⟨Nat.zero_le _, Nat.zero_le _⟩ rfl (fun H locs hR hS => ?_)
    refine lv_aload_n hx hb dX3_makeLink_89 rfl (lv_at hl 2 rfl) ?_
    refine lv_iload hx hb dX3_makeLink_90 (lv_at hl 0 rfl) ?_
    obtain ⟨y23, M24, hc22, hF⟩ := xb2_some hF
    refine x_cVi (C := RX3) (T := TX3) (N := 9) (ci := 3) (As := [.int (jI y11)]) (rest := []) hx hb hml hown hts hK hR hS (c_X3_settle hg13 hc22) ok0 rfl rfl wd653 wd655 ws15 wd1 wd656 hyX3_settle ⟨rfl, rfl⟩ ⟨Nat.le_of_ble_eq_true rfl, Nat.le_of_ble_eq_true rfl⟩ hl.1 (Nat.le_of_ble_eq_true rfl) dX3_makeLink_92 ⟨Nat.zero_le _, Nat.zero_le _⟩ rfl (fun hg25 H locs hR hS => ?_)
    cases hF
    exact x_iret hx hb hlocks hK hR hS hr hg25 dX3_makeLink_95
  · rw [if_neg ci5] at hF
    refine lv_iload hx hb dX3_makeLink_53 (lv_at hl 0 rfl) ?_
    cases hF
    exact x_iret hx hb hlocks hK hR hS hr hg4 dX3_makeLink_55
def F_X3_makeLink (M : Mm) (a1 : Int) (a2 : Int) (a3 : Int) (a4 : Int) (a5 : Int) : Option (Int × Mm) := (xb1 (F_X3_needEntry M a1 a2) fun _ => (xb1 (F_X3_needRange M a3 (-1 : Int) (3 : Int)) fun _ => (xb1 (F_X3_needRange M a4 (0 : Int) (99 : Int)) fun _ => (if a4 = 0 then (F_X3_makeLink_37  M a1 a2 a3 a4 a5 a5 (0 : Int) (0 : Int)) else (F_X3_makeLink_37  M a1 a2 a3 a4 a5 a5 (0 : Int) (99 : Int))))))
set_option maxHeartbeats 4000000 in
set_option maxRecDepth 100000 in
theorem c_X3_makeLink {l : Launch} {g : Gx} {b : Nat} {M : Mm} {a1 : Int} {a2 : Int} {a3 : Int} {a4 : Int} {a5 : Int} {r : Int} {M' : Mm} (ha1 : rg a1) (ha2 : rg a2) (ha3 : rg a3) (ha4 : rg a4) (ha5 : rg a5) (hF : F_X3_makeLink M a1 a2 a3 a4 a5 = some (r, M')) : Ct l yX3_makeLink cX3_makeLink 8 (some .int) rmX3_makeLink g b [.ref (adr b 0 0), .int (jI a1), .int (jI a2), .int (jI a3), .int (jI a4), .int (jI a5)] M (qI g b r M') := by
  refine ct_of (by decide +kernel) (Nat.le_of_ble_eq_true rfl) ?_
  intro p e s m args below meth c C0 hR ls hl
  obtain ⟨hx, hb, hr, hlocks, hml, hown, hts, hK⟩ := id C0
  have hS : va_S (AA b s.heap.size) s.heap s.heap [] := va_S.rf
  have hl : lv_has ls 8 [(0, .ref (adr b 0 0)), (1, .int (jI a1)), (2, .int (jI a2)), (3, .int (jI a3)), (4, .int (jI a4)), (5, .int (jI a5))] := hl
  obtain ⟨H, hH⟩ : ∃ z, z = s.heap := ⟨_, rfl⟩
  obtain ⟨locs, hlo⟩ : ∃ z : List Loc, z = [] := ⟨_, rfl⟩
  have hR : Rel g b M H := by rw [hH]; exact hR
  have hS : va_S (AA b s.heap.size) s.heap H locs := by rw [hH, hlo]; exact hS
  suffices hW : W p l e rmX3_makeLink s m args below meth c H locs 0 0 (MQ below (qI g b r M' s.heap.size) args s 0 0 (AA b s.heap.size)) (F0 m 0 ls []) by rw [hH, hlo] at hW; exact hW
  rw [F_X3_makeLink] at hF
  refine lv_aload_n hx hb dX3_makeLink_0 rfl (lv_at hl 0 rfl) ?_
  refine lv_iload_n hx hb dX3_makeLink_1 rfl (lv_at hl 1 rfl) ?_
  refine lv_iload_n hx hb dX3_makeLink_2 rfl (lv_at hl 2 rfl) ?_
  obtain ⟨_, hc1, hF⟩ := xb1_some hF
  refine x_cVv (C := RX3) (T := TX3) (N := 9) (ci := 3) (As := [.int (jI a1), .int (jI a2)]) (rest := []) hx hb hml hown hts hK hR hS (c_X3_needEntry ha1 ha2 hc1) ok0 rfl rfl wd621 wd623 ws11 wd1 wd624 hyX3_needEntry ⟨rfl, rfl⟩ ⟨Nat.le_of_ble_eq_true rfl, Nat.le_of_ble_eq_true rfl⟩ hl.1 (Nat.le_of_ble_eq_true rfl) dX3_makeLink_3 ⟨Nat.zero_le _, Nat.zero_le _⟩ rfl (fun H locs hR hS => ?_)
  refine lv_aload_n hx hb dX3_makeLink_6 rfl (lv_at hl 0 rfl) ?_
  refine lv_iload_n hx hb dX3_makeLink_7 rfl (lv_at hl 3 rfl) ?_
  refine x_iconst hx hb dX3_makeLink_8 ?_
  refine x_iconst hx hb dX3_makeLink_9 ?_
  obtain ⟨_, hc2, hF⟩ := xb1_some hF
  refine x_cVv (C := RX3) (T := TX3) (N := 9) (ci := 3) (As := [.int (jI a3), .int (jI (-1 : Int)), .int (jI (3 : Int))]) (rest := []) hx hb hml hown hts hK hR hS (c_X3_needRange ha3 (by decide : rg (-1 : Int)) (by decide : rg (3 : Int)) hc2) ok0 rfl rfl wd419 wd421 ws6 wd1 wd422 hyX3_needRange ⟨rfl, rfl⟩ ⟨Nat.le_of_ble_eq_true rfl, Nat.le_of_ble_eq_true rfl⟩ hl.1 (Nat.le_of_ble_eq_true rfl) dX3_makeLink_10 ⟨Nat.zero_le _, Nat.zero_le _⟩ rfl (fun H locs hR hS => ?_)
  refine lv_aload_n hx hb dX3_makeLink_13 rfl (lv_at hl 0 rfl) ?_
  refine lv_iload hx hb dX3_makeLink_14 (lv_at hl 4 rfl) ?_
  refine x_iconst hx hb dX3_makeLink_16 ?_
  refine x_bipush hx hb (by decide +kernel) dX3_makeLink_17 ?_
  obtain ⟨_, hc3, hF⟩ := xb1_some hF
  refine x_cVv (C := RX3) (T := TX3) (N := 9) (ci := 3) (As := [.int (jI a4), .int (jI (0 : Int)), .int (jI (99 : Int))]) (rest := []) hx hb hml hown hts hK hR hS (c_X3_needRange ha4 (by decide : rg (0 : Int)) (by decide : rg (99 : Int)) hc3) ok0 rfl rfl wd419 wd421 ws6 wd1 wd422 hyX3_needRange ⟨rfl, rfl⟩ ⟨Nat.le_of_ble_eq_true rfl, Nat.le_of_ble_eq_true rfl⟩ hl.1 (Nat.le_of_ble_eq_true rfl) dX3_makeLink_19 ⟨Nat.zero_le _, Nat.zero_le _⟩ rfl (fun H locs hR hS => ?_)
  refine lv_aload_n hx hb dX3_makeLink_22 rfl (lv_at hl 0 rfl) ?_
  refine lv_iload hx hb dX3_makeLink_23 (lv_at hl 5 rfl) ?_
  refine x_iconst hx hb dX3_makeLink_25 ?_
  refine lv_iload hx hb dX3_makeLink_26 (lv_at hl 4 rfl) ?_
  refine x_if_ne (tgt := 35) hx hb ha4 dX3_makeLink_28 (by decide) (fun ci4 => ?_) (fun ci4 => ?_)
  · rw [if_neg ci4] at hF
    refine x_bipush hx hb (by decide +kernel) dX3_makeLink_35 ?_
    exact w_X3_makeLink_37 C0  M a1 a2 a3 a4 a5 a5 (0 : Int) (99 : Int) ha1 ha2 ha3 ha4 ha5 ha5 (by decide : rg (0 : Int)) (by decide : rg (99 : Int)) H locs hR hS ls (lv_sub hl [0, 1, 2, 3, 4, 5] rfl) hF
  · rw [if_pos ci4] at hF
    refine x_iconst hx hb dX3_makeLink_31 ?_
    refine lv_goto (tgt := 37) hx hb dX3_makeLink_32 (by decide) ?_
    exact w_X3_makeLink_37 C0  M a1 a2 a3 a4 a5 a5 (0 : Int) (0 : Int) ha1 ha2 ha3 ha4 ha5 ha5 (by decide : rg (0 : Int)) (by decide : rg (0 : Int)) H locs hR hS ls (lv_sub hl [0, 1, 2, 3, 4, 5] rfl) hF
abbrev rmX3_cloneFile : Room := { frames := 6, cells := 0, slots := 0, locals := 131 }
theorem hyX3_cloneFile : yX3_cloneFile.cls = RX3 ∧ yX3_cloneFile.cls ≠ "java/lang/invoke/MethodHandle" ∧ yX3_cloneFile.cls ≠ "java/lang/invoke/VarHandle" ∧ (parseMethodDescriptor yX3_cloneFile.desc).map (fun d => d.parameters.length) = some 3 := by decide +kernel
def F_X3_cloneFile (M : Mm) (a1 : Int) (a2 : Int) (a3 : Int) : Option (Int × Mm) := (xb1 (F_X3_needPower M ) fun _ => (xb1 (F_X3_needNode M a1) fun _ => (xb1 (F_X3_needNode M a3) fun _ => (xb1 (F_X3_needRange M a2 (1 : Int) (99 : Int)) fun _ => (xk (M 0 0 0 = 0 ∨ M 0 0 0 = 1) (xb1 (F_X2_at M ((M 0 0 0).toNat) a3) fun y8 => (if (M 2 y8 0) = (1 : Int) then (xb1 (F_X3_hindranceToMake M a1 a2) fun y14 => (if y14 = 0 then (xb1 (F_X3_startDraft M ) fun M18 => (xk (M18 0 0 1 = 0 ∨ M18 0 0 1 = 1) (xb2 (F_X2_make M18 ((M18 0 0 1).toNat) (1 : Int) a1 a2) fun y22 M23 => (xk (M23 0 0 1 = 0 ∨ M23 0 0 1 = 1) (xk (M23 0 0 1 = 0 ∨ M23 0 0 1 = 1) (xb1 (F_X2_at M23 ((M23 0 0 1).toNat) y22) fun y30 => (xk (M23 0 0 1 = 0 ∨ M23 0 0 1 = 1) (xb1 (F_X2_at M23 ((M23 0 0 1).toNat) a3) fun y36 => (xb1 (F_X2_shareAll M23 ((M23 0 0 1).toNat) y30 y36) fun M40 => (xb2 (F_X3_settle M40 y22) fun y42 M43 => (some (y42, M43)))))))))))) else (some (y14, M)))) else (some ((-3 : Int), M)))))))))
set_option maxHeartbeats 4000000 in
set_option maxRecDepth 100000 in
theorem c_X3_cloneFile {l : Launch} {g : Gx} {b : Nat} {M : Mm} {a1 : Int} {a2 : Int} {a3 : Int} {r : Int} {M' : Mm} (ha1 : rg a1) (ha2 : rg a2) (ha3 : rg a3) (hF : F_X3_cloneFile M a1 a2 a3 = some (r, M')) : Ct l yX3_cloneFile cX3_cloneFile 6 (some .int) rmX3_cloneFile g b [.ref (adr b 0 0), .int (jI a1), .int (jI a2), .int (jI a3)] M (qI g b r M') := by
  refine ct_of (by decide +kernel) (Nat.le_of_ble_eq_true rfl) ?_
  intro p e s m args below meth c C0 hR ls hl
  obtain ⟨hx, hb, hr, hlocks, hml, hown, hts, hK⟩ := id C0
  have hS : va_S (AA b s.heap.size) s.heap s.heap [] := va_S.rf
  have hl : lv_has ls 6 [(0, .ref (adr b 0 0)), (1, .int (jI a1)), (2, .int (jI a2)), (3, .int (jI a3))] := hl
  obtain ⟨H, hH⟩ : ∃ z, z = s.heap := ⟨_, rfl⟩
  obtain ⟨locs, hlo⟩ : ∃ z : List Loc, z = [] := ⟨_, rfl⟩
  have hR : Rel g b M H := by rw [hH]; exact hR
  have hS : va_S (AA b s.heap.size) s.heap H locs := by rw [hH, hlo]; exact hS
  suffices hW : W p l e rmX3_cloneFile s m args below meth c H locs 0 0 (MQ below (qI g b r M' s.heap.size) args s 0 0 (AA b s.heap.size)) (F0 m 0 ls []) by rw [hH, hlo] at hW; exact hW
  rw [F_X3_cloneFile] at hF
  refine lv_aload_n hx hb dX3_cloneFile_0 rfl (lv_at hl 0 rfl) ?_
  obtain ⟨_, hc1, hF⟩ := xb1_some hF
  refine x_cVv (C := RX3) (T := TX3) (N := 9) (ci := 3) (As := []) (rest := []) hx hb hml hown hts hK hR hS (c_X3_needPower  hc1) ok0 rfl rfl wd170 wd172 ws0 wd1 wd173 hyX3_needPower ⟨rfl, rfl⟩ ⟨Nat.le_of_ble_eq_true rfl, Nat.le_of_ble_eq_true rfl⟩ hl.1 (Nat.le_of_ble_eq_true rfl) dX3_cloneFile_1 ⟨Nat.zero_le _, Nat.zero_le _⟩ rfl (fun H locs hR hS => ?_)
  refine lv_aload_n hx hb dX3_cloneFile_4 rfl (lv_at hl 0 rfl) ?_
  refine lv_iload_n hx hb dX3_cloneFile_5 rfl (lv_at hl 1 rfl) ?_
  obtain ⟨_, hc2, hF⟩ := xb1_some hF
  refine x_cVv (C := RX3) (T := TX3) (N := 9) (ci := 3) (As := [.int (jI a1)]) (rest := []) hx hb hml hown hts hK hR hS (c_X3_needNode ha1 hc2) ok0 rfl rfl wd346 wd348 ws5 wd1 wd349 hyX3_needNode ⟨rfl, rfl⟩ ⟨Nat.le_of_ble_eq_true rfl, Nat.le_of_ble_eq_true rfl⟩ hl.1 (Nat.le_of_ble_eq_true rfl) dX3_cloneFile_6 ⟨Nat.zero_le _, Nat.zero_le _⟩ rfl (fun H locs hR hS => ?_)
  refine lv_aload_n hx hb dX3_cloneFile_9 rfl (lv_at hl 0 rfl) ?_
  refine lv_iload_n hx hb dX3_cloneFile_10 rfl (lv_at hl 3 rfl) ?_
  obtain ⟨_, hc3, hF⟩ := xb1_some hF
  refine x_cVv (C := RX3) (T := TX3) (N := 9) (ci := 3) (As := [.int (jI a3)]) (rest := []) hx hb hml hown hts hK hR hS (c_X3_needNode ha3 hc3) ok0 rfl rfl wd346 wd348 ws5 wd1 wd349 hyX3_needNode ⟨rfl, rfl⟩ ⟨Nat.le_of_ble_eq_true rfl, Nat.le_of_ble_eq_true rfl⟩ hl.1 (Nat.le_of_ble_eq_true rfl) dX3_cloneFile_11 ⟨Nat.zero_le _, Nat.zero_le _⟩ rfl (fun H locs hR hS => ?_)
  refine lv_aload_n hx hb dX3_cloneFile_14 rfl (lv_at hl 0 rfl) ?_
  refine lv_iload_n hx hb dX3_cloneFile_15 rfl (lv_at hl 2 rfl) ?_
  refine x_iconst hx hb dX3_cloneFile_16 ?_
  refine x_bipush hx hb (by decide +kernel) dX3_cloneFile_17 ?_
  obtain ⟨_, hc4, hF⟩ := xb1_some hF
  refine x_cVv (C := RX3) (T := TX3) (N := 9) (ci := 3) (As := [.int (jI a2), .int (jI (1 : Int)), .int (jI (99 : Int))]) (rest := []) hx hb hml hown hts hK hR hS (c_X3_needRange ha2 (by decide : rg (1 : Int)) (by decide : rg (99 : Int)) hc4) ok0 rfl rfl wd419 wd421 ws6 wd1 wd422 hyX3_needRange ⟨rfl, rfl⟩ ⟨Nat.le_of_ble_eq_true rfl, Nat.le_of_ble_eq_true rfl⟩ hl.1 (Nat.le_of_ble_eq_true rfl) dX3_cloneFile_19 ⟨Nat.zero_le _, Nat.zero_le _⟩ rfl (fun H locs hR hS => ?_)
  refine lv_aload_n hx hb dX3_cloneFile_22 rfl (lv_at hl 0 rfl) ?_
  refine gf_3_0 hx hb hts hown hK hR wd138 dX3_cloneFile_23 ?_
  obtain ⟨ht5, hF⟩ := xk_some hF
  have hj6 : (M 0 0 0).toNat < 3 := by omega
  refine lv_iload_n hx hb dX3_cloneFile_26 rfl (lv_at hl 3 rfl) ?_
  obtain ⟨y8, hc7, hF⟩ := xb1_some hF
  refine x_cVr (C := RX2) (T := TX2) (N := 8) (ci := 2) (As := [.int (jI a3)]) (rest := []) hx hb hml hown hts hK hR hS (c_X2_at hj6 ha3 hc7) (ok1 hj6) rfl rfl wd337 wd255 wd256 wd2 wd257 hyX2_at ⟨rfl, rfl⟩ ⟨Nat.le_of_ble_eq_true rfl, Nat.le_of_ble_eq_true rfl⟩ hl.1 (Nat.le_of_ble_eq_true rfl) dX3_cloneFile_27 ⟨Nat.zero_le _, Nat.zero_le _⟩ rfl (fun hg9 H locs hR hS => ?_)
  have hj10 : y8 < 99 := lt2 hg9
  refine gf_1_0 hx hb hts hown hK hR hj10 wd36 dX3_cloneFile_30 ?_
  have hg11 : rg (M 2 y8 0) := hR.2 2 y8 0 (by decide)
  refine x_iconst hx hb dX3_cloneFile_33 ?_
  refine x_icmp_eq (tgt := 40) hx hb hg11 (by decide : rg (1 : Int)) dX3_cloneFile_34 (by decide) (fun ci12 => ?_) (fun ci12 => ?_)
  · rw [if_pos ci12] at hF
    refine lv_aload_n hx hb dX3_cloneFile_40 rfl (lv_at hl 0 rfl) ?_
    refine lv_iload_n hx hb dX3_cloneFile_41 rfl (lv_at hl 1 rfl) ?_
    refine lv_iload_n hx hb dX3_cloneFile_42 rfl (lv_at hl 2 rfl) ?_
    obtain ⟨y14, hc13, hF⟩ := xb1_some hF
    refine x_cVi (C := RX3) (T := TX3) (N := 9) (ci := 3) (As := [.int (jI a1), .int (jI a2)]) (rest := []) hx hb hml hown hts hK hR hS (c_X3_hindranceToMake ha1 ha2 hc13) ok0 rfl rfl wd629 wd631 ws13 wd1 wd632 hyX3_hindranceToMake ⟨rfl, rfl⟩ ⟨Nat.le_of_ble_eq_true rfl, Nat.le_of_ble_eq_true rfl⟩ hl.1 (Nat.le_of_ble_eq_true rfl) dX3_cloneFile_43 ⟨Nat.zero_le _, Nat.zero_le _⟩ rfl (fun hg15 H locs hR hS => ?_)
    refine lv_istore (lv' := [(4, .int (jI y14)), (0, .ref (adr b 0 0)), (1, .int (jI a1)), (2, .int (jI a2)), (3, .int (jI a3))]) hx hb dX3_cloneFile_46 hl (by decide) rfl (fun ls hl => ?_)
    refine lv_iload hx hb dX3_cloneFile_48 (lv_at hl 0 rfl) ?_
    refine x_if_eq (tgt := 56) hx hb hg15 dX3_cloneFile_50 (by decide) (fun ci16 => ?_) (fun ci16 => ?_)
    · rw [if_pos ci16] at hF
      refine lv_aload_n hx hb dX3_cloneFile_56 rfl (lv_at hl 1 rfl) ?_
      obtain ⟨M18, hc17, hF⟩ := xb1_some hF
      refine x_cVv (C := RX3) (T := TX3) (N := 9) (ci := 3) (As := []) (rest := []) hx hb hml hown hts hK hR hS (c_X3_startDraft  hc17) ok0 rfl rfl wd633 wd635 ws14 wd1 wd636 hyX3_startDraft ⟨rfl, rfl⟩ ⟨Nat.le_of_ble_eq_true rfl, Nat.le_of_ble_eq_true rfl⟩ hl.1 (Nat.le_of_ble_eq_true rfl) dX3_cloneFile_57 ⟨Nat.zero_le _, Nat.zero_le _⟩ rfl (fun H locs hR hS => ?_)
      refine lv_aload_n hx hb dX3_cloneFile_60 rfl (lv_at hl 1 rfl) ?_
      refine gf_3_1 hx hb hts hown hK hR wd139 dX3_cloneFile_61 ?_
      obtain ⟨ht19, hF⟩ := xk_some hF
      have hj20 : (M18 0 0 1).toNat < 3 := by omega
      refine x_iconst hx hb dX3_cloneFile_64 ?_
      refine lv_iload_n hx hb dX3_cloneFile_65 rfl (lv_at hl 2 rfl) ?_
      refine lv_iload_n hx hb dX3_cloneFile_66 rfl (lv_at hl 3 rfl) ?_
      obtain ⟨y22, M23, hc21, hF⟩ := xb2_some hF
      refine x_cVi (C := RX2) (T := TX2) (N := 8) (ci := 2) (As := [.int (jI (1 : Int)), .int (jI a1), .int (jI a2)]) (rest := []) hx hb hml hown hts hK hR hS (c_X2_make hj20 (by decide : rg (1 : Int)) ha1 ha2 hc21) (ok1 hj20) rfl rfl wd637 wd638 wd639 wd2 wd640 hyX2_make ⟨rfl, rfl⟩ ⟨Nat.le_of_ble_eq_true rfl, Nat.le_of_ble_eq_true rfl⟩ hl.1 (Nat.le_of_ble_eq_true rfl) dX3_cloneFile_67 ⟨Nat.zero_le _, Nat.zero_le _⟩ rfl (fun hg24 H locs hR hS => ?_)
      refine lv_istore (lv' := [(5, .int (jI y22)), (4, .int (jI y14)), (0, .ref (adr b 0 0)), (1, .int (jI a1)), (2, .int (jI a2)), (3, .int (jI a3))]) hx hb dX3_cloneFile_70 hl (by decide) rfl (fun ls hl => ?_)
      refine lv_aload_n hx hb dX3_cloneFile_72 rfl (lv_at hl 2 rfl) ?_
      refine gf_3_1 hx hb hts hown hK hR wd139 dX3_cloneFile_73 ?_
      obtain ⟨ht25, hF⟩ := xk_some hF
      have hj26 : (M23 0 0 1).toNat < 3 := by omega
      refine lv_aload_n hx hb dX3_cloneFile_76 rfl (lv_at hl 2 rfl) ?_
      refine gf_3_1 hx hb hts hown hK hR wd139 dX3_cloneFile_77 ?_
      obtain ⟨ht27, hF⟩ := xk_some hF
      have hj28 : (M23 0 0 1).toNat < 3 := by omega
      refine lv_iload hx hb dX3_cloneFile_80 (lv_at hl 0 rfl) ?_
      obtain ⟨y30, hc29, hF⟩ := xb1_some hF
      refine x_cVr (C := RX2) (T := TX2) (N := 8) (ci := 2) (As := [.int (jI y22)]) (rest := [.ref (adr b 1 ((M23 0 0 1).toNat))]) hx hb hml hown hts hK hR hS (c_X2_at hj28 hg24 hc29) (ok1 hj28) rfl rfl wd337 wd255 wd256 wd2 wd257 hyX2_at ⟨rfl, rfl⟩ ⟨Nat.le_of_ble_eq_true rfl, Nat.le_of_ble_eq_true rfl⟩ hl.1 (Nat.le_of_ble_eq_true rfl) dX3_cloneFile_82 ⟨Nat.zero_le _, Nat.zero_le _⟩ rfl (fun hg31 H locs hR hS => ?_)
      have hj32 : y30 < 99 := lt2 hg31
      refine lv_aload_n hx hb dX3_cloneFile_85 rfl (lv_at hl 2 rfl) ?_
      refine gf_3_1 hx hb hts hown hK hR wd139 dX3_cloneFile_86 ?_
      obtain ⟨ht33, hF⟩ := xk_some hF
      have hj34 : (M23 0 0 1).toNat < 3 := by omega
      refine lv_iload_n hx hb dX3_cloneFile_89 rfl (lv_at hl 5 rfl) ?_
      obtain ⟨y36, hc35, hF⟩ := xb1_some hF
      refine x_cVr (C := RX2) (T := TX2) (N := 8) (ci := 2) (As := [.int (jI a3)]) (rest := [.ref (adr b 2 y30), .ref (adr b 1 ((M23 0 0 1).toNat))]) hx hb hml hown hts hK hR hS (c_X2_at hj34 ha3 hc35) (ok1 hj34) rfl rfl wd337 wd255 wd256 wd2 wd257 hyX2_at ⟨rfl, rfl⟩ ⟨Nat.le_of_ble_eq_true rfl, Nat.le_of_ble_eq_true rfl⟩ hl.1 (Nat.le_of_ble_eq_true rfl) dX3_cloneFile_90 ⟨Nat.zero_le _, Nat.zero_le _⟩ rfl (fun hg37 H locs hR hS => ?_)
      have hj38 : y36 < 99 := lt2 hg37
      obtain ⟨M40, hc39, hF⟩ := xb1_some hF
      refine x_cVv (C := RX2) (T := TX2) (N := 8) (ci := 2) (As := [.ref (adr b 2 y30), .ref (adr b 2 y36)]) (rest := []) hx hb hml hown hts hK hR hS (c_X2_shareAll hj26 hj32 hj38 hc39) (ok1 hj26) rfl rfl wd674 wd675 wd676 wd2 wd677 hyX2_shareAll ⟨rfl, rfl⟩ ⟨Nat.le_of_ble_eq_true rfl, Nat.le_of_ble_eq_true rfl⟩ hl.1 (Nat.le_of_ble_eq_true rfl) dX3_cloneFile_93 ⟨Nat.zero_le _, Nat.zero_le _⟩ rfl (fun H locs hR hS => ?_)
      refine lv_aload_n hx hb dX3_cloneFile_96 rfl (lv_at hl 2 rfl) ?_
      refine lv_iload hx hb dX3_cloneFile_97 (lv_at hl 0 rfl) ?_
      obtain ⟨y42, M43, hc41, hF⟩ := xb2_some hF
      refine x_cVi (C := RX3) (T := TX3) (N := 9) (ci := 3) (As := [.int (jI y22)]) (rest := []) hx hb hml hown hts hK hR hS (c_X3_settle hg24 hc41) ok0 rfl rfl wd653 wd655 ws15 wd1 wd656 hyX3_settle ⟨rfl, rfl⟩ ⟨Nat.le_of_ble_eq_true rfl, Nat.le_of_ble_eq_true rfl⟩ hl.1 (Nat.le_of_ble_eq_true rfl) dX3_cloneFile_99 ⟨Nat.zero_le _, Nat.zero_le _⟩ rfl (fun hg44 H locs hR hS => ?_)
      cases hF
      exact x_iret hx hb hlocks hK hR hS hr hg44 dX3_cloneFile_102
    · rw [if_neg ci16] at hF
      refine lv_iload hx hb dX3_cloneFile_53 (lv_at hl 0 rfl) ?_
      cases hF
      exact x_iret hx hb hlocks hK hR hS hr hg15 dX3_cloneFile_55
  · rw [if_neg ci12] at hF
    refine x_bipush hx hb (by decide +kernel) dX3_cloneFile_37 ?_
    cases hF
    exact x_iret hx hb hlocks hK hR hS hr (by decide : rg (-3 : Int)) dX3_cloneFile_39
abbrev rmX3_addName : Room := { frames := 6, cells := 0, slots := 0, locals := 131 }
theorem hyX3_addName : yX3_addName.cls = RX3 ∧ yX3_addName.cls ≠ "java/lang/invoke/MethodHandle" ∧ yX3_addName.cls ≠ "java/lang/invoke/VarHandle" ∧ (parseMethodDescriptor yX3_addName.desc).map (fun d => d.parameters.length) = some 3 := by decide +kernel
def F_X3_addName (M : Mm) (a1 : Int) (a2 : Int) (a3 : Int) : Option (Int × Mm) := (xb1 (F_X3_needPower M ) fun _ => (xb1 (F_X3_needNode M a1) fun _ => (xb1 (F_X3_needNode M a3) fun _ => (xb1 (F_X3_needRange M a2 (1 : Int) (99 : Int)) fun _ => (xk (M 0 0 0 = 0 ∨ M 0 0 0 = 1) (xb1 (F_X2_at M ((M 0 0 0).toNat) a1) fun y8 => (xk (M 0 0 0 = 0 ∨ M 0 0 0 = 1) (xb1 (F_X2_at M ((M 0 0 0).toNat) a3) fun y14 => (if (M 2 y8 0) = (2 : Int) then (if (M 2 y14 0) = (2 : Int) then (some ((-3 : Int), M)) else (if (M 2 y14 2) = 0 then (some ((-1 : Int), M)) else (xb1 (F_X1_nodeNamed M y8 a2) fun y24 => (if y24 = (-1 : Int) then (if (12 : Int) ≤ (M 2 y8 8) then (some ((-5 : Int), M)) else (if (M 2 y14 2) < (6 : Int) then (xb1 (F_X3_startDraft M ) fun M32 => (xk (M32 0 0 1 = 0 ∨ M32 0 0 1 = 1) (xb1 (F_X2_attach M32 ((M32 0 0 1).toNat) a1 a2 a3) fun M36 => (xk (M36 0 0 1 = 0 ∨ M36 0 0 1 = 1) (xb1 (F_X2_at M36 ((M36 0 0 1).toNat) a3) fun y40 => (xb2 (F_X3_settle M36 (M36 2 y40 2)) fun y45 M46 => (some (y45, M46)))))))) else (some ((-5 : Int), M)))) else (some ((-2 : Int), M)))))) else (some ((-3 : Int), M)))))))))))
set_option maxHeartbeats 4000000 in
set_option maxRecDepth 100000 in
theorem c_X3_addName {l : Launch} {g : Gx} {b : Nat} {M : Mm} {a1 : Int} {a2 : Int} {a3 : Int} {r : Int} {M' : Mm} (ha1 : rg a1) (ha2 : rg a2) (ha3 : rg a3) (hF : F_X3_addName M a1 a2 a3 = some (r, M')) : Ct l yX3_addName cX3_addName 6 (some .int) rmX3_addName g b [.ref (adr b 0 0), .int (jI a1), .int (jI a2), .int (jI a3)] M (qI g b r M') := by
  refine ct_of (by decide +kernel) (Nat.le_of_ble_eq_true rfl) ?_
  intro p e s m args below meth c C0 hR ls hl
  obtain ⟨hx, hb, hr, hlocks, hml, hown, hts, hK⟩ := id C0
  have hS : va_S (AA b s.heap.size) s.heap s.heap [] := va_S.rf
  have hl : lv_has ls 6 [(0, .ref (adr b 0 0)), (1, .int (jI a1)), (2, .int (jI a2)), (3, .int (jI a3))] := hl
  obtain ⟨H, hH⟩ : ∃ z, z = s.heap := ⟨_, rfl⟩
  obtain ⟨locs, hlo⟩ : ∃ z : List Loc, z = [] := ⟨_, rfl⟩
  have hR : Rel g b M H := by rw [hH]; exact hR
  have hS : va_S (AA b s.heap.size) s.heap H locs := by rw [hH, hlo]; exact hS
  suffices hW : W p l e rmX3_addName s m args below meth c H locs 0 0 (MQ below (qI g b r M' s.heap.size) args s 0 0 (AA b s.heap.size)) (F0 m 0 ls []) by rw [hH, hlo] at hW; exact hW
  rw [F_X3_addName] at hF
  refine lv_aload_n hx hb dX3_addName_0 rfl (lv_at hl 0 rfl) ?_
  obtain ⟨_, hc1, hF⟩ := xb1_some hF
  refine x_cVv (C := RX3) (T := TX3) (N := 9) (ci := 3) (As := []) (rest := []) hx hb hml hown hts hK hR hS (c_X3_needPower  hc1) ok0 rfl rfl wd170 wd172 ws0 wd1 wd173 hyX3_needPower ⟨rfl, rfl⟩ ⟨Nat.le_of_ble_eq_true rfl, Nat.le_of_ble_eq_true rfl⟩ hl.1 (Nat.le_of_ble_eq_true rfl) dX3_addName_1 ⟨Nat.zero_le _, Nat.zero_le _⟩ rfl (fun H locs hR hS => ?_)
  refine lv_aload_n hx hb dX3_addName_4 rfl (lv_at hl 0 rfl) ?_
  refine lv_iload_n hx hb dX3_addName_5 rfl (lv_at hl 1 rfl) ?_
  obtain ⟨_, hc2, hF⟩ := xb1_some hF
  refine x_cVv (C := RX3) (T := TX3) (N := 9) (ci := 3) (As := [.int (jI a1)]) (rest := []) hx hb hml hown hts hK hR hS (c_X3_needNode ha1 hc2) ok0 rfl rfl wd346 wd348 ws5 wd1 wd349 hyX3_needNode ⟨rfl, rfl⟩ ⟨Nat.le_of_ble_eq_true rfl, Nat.le_of_ble_eq_true rfl⟩ hl.1 (Nat.le_of_ble_eq_true rfl) dX3_addName_6 ⟨Nat.zero_le _, Nat.zero_le _⟩ rfl (fun H locs hR hS => ?_)
  refine lv_aload_n hx hb dX3_addName_9 rfl (lv_at hl 0 rfl) ?_
  refine lv_iload_n hx hb dX3_addName_10 rfl (lv_at hl 3 rfl) ?_
  obtain ⟨_, hc3, hF⟩ := xb1_some hF
  refine x_cVv (C := RX3) (T := TX3) (N := 9) (ci := 3) (As := [.int (jI a3)]) (rest := []) hx hb hml hown hts hK hR hS (c_X3_needNode ha3 hc3) ok0 rfl rfl wd346 wd348 ws5 wd1 wd349 hyX3_needNode ⟨rfl, rfl⟩ ⟨Nat.le_of_ble_eq_true rfl, Nat.le_of_ble_eq_true rfl⟩ hl.1 (Nat.le_of_ble_eq_true rfl) dX3_addName_11 ⟨Nat.zero_le _, Nat.zero_le _⟩ rfl (fun H locs hR hS => ?_)
  refine lv_aload_n hx hb dX3_addName_14 rfl (lv_at hl 0 rfl) ?_
  refine lv_iload_n hx hb dX3_addName_15 rfl (lv_at hl 2 rfl) ?_
  refine x_iconst hx hb dX3_addName_16 ?_
  refine x_bipush hx hb (by decide +kernel) dX3_addName_17 ?_
  obtain ⟨_, hc4, hF⟩ := xb1_some hF
  refine x_cVv (C := RX3) (T := TX3) (N := 9) (ci := 3) (As := [.int (jI a2), .int (jI (1 : Int)), .int (jI (99 : Int))]) (rest := []) hx hb hml hown hts hK hR hS (c_X3_needRange ha2 (by decide : rg (1 : Int)) (by decide : rg (99 : Int)) hc4) ok0 rfl rfl wd419 wd421 ws6 wd1 wd422 hyX3_needRange ⟨rfl, rfl⟩ ⟨Nat.le_of_ble_eq_true rfl, Nat.le_of_ble_eq_true rfl⟩ hl.1 (Nat.le_of_ble_eq_true rfl) dX3_addName_19 ⟨Nat.zero_le _, Nat.zero_le _⟩ rfl (fun H locs hR hS => ?_)
  refine lv_aload_n hx hb dX3_addName_22 rfl (lv_at hl 0 rfl) ?_
  refine gf_3_0 hx hb hts hown hK hR wd138 dX3_addName_23 ?_
  obtain ⟨ht5, hF⟩ := xk_some hF
  have hj6 : (M 0 0 0).toNat < 3 := by omega
  refine lv_iload_n hx hb dX3_addName_26 rfl (lv_at hl 1 rfl) ?_
  obtain ⟨y8, hc7, hF⟩ := xb1_some hF
  refine x_cVr (C := RX2) (T := TX2) (N := 8) (ci := 2) (As := [.int (jI a1)]) (rest := []) hx hb hml hown hts hK hR hS (c_X2_at hj6 ha1 hc7) (ok1 hj6) rfl rfl wd337 wd255 wd256 wd2 wd257 hyX2_at ⟨rfl, rfl⟩ ⟨Nat.le_of_ble_eq_true rfl, Nat.le_of_ble_eq_true rfl⟩ hl.1 (Nat.le_of_ble_eq_true rfl) dX3_addName_27 ⟨Nat.zero_le _, Nat.zero_le _⟩ rfl (fun hg9 H locs hR hS => ?_)
  have hj10 : y8 < 99 := lt2 hg9
  refine lv_astore (lv' := [(4, .ref (adr b 2 y8)), (0, .ref (adr b 0 0)), (1, .int (jI a1)), (2, .int (jI a2)), (3, .int (jI a3))]) hx hb dX3_addName_30 hl (by decide) rfl (fun ls hl => ?_)
  refine lv_aload_n hx hb dX3_addName_32 rfl (lv_at hl 1 rfl) ?_
  refine gf_3_0 hx hb hts hown hK hR wd138 dX3_addName_33 ?_
  obtain ⟨ht11, hF⟩ := xk_some hF
  have hj12 : (M 0 0 0).toNat < 3 := by omega
  refine lv_iload_n hx hb dX3_addName_36 rfl (lv_at hl 4 rfl) ?_
  obtain ⟨y14, hc13, hF⟩ := xb1_some hF
  refine x_cVr (C := RX2) (T := TX2) (N := 8) (ci := 2) (As := [.int (jI a3)]) (rest := []) hx hb hml hown hts hK hR hS (c_X2_at hj12 ha3 hc13) (ok1 hj12) rfl rfl wd337 wd255 wd256 wd2 wd257 hyX2_at ⟨rfl, rfl⟩ ⟨Nat.le_of_ble_eq_true rfl, Nat.le_of_ble_eq_true rfl⟩ hl.1 (Nat.le_of_ble_eq_true rfl) dX3_addName_37 ⟨Nat.zero_le _, Nat.zero_le _⟩ rfl (fun hg15 H locs hR hS => ?_)
  have hj16 : y14 < 99 := lt2 hg15
  refine lv_astore (lv' := [(5, .ref (adr b 2 y14)), (4, .ref (adr b 2 y8)), (0, .ref (adr b 0 0)), (1, .int (jI a1)), (2, .int (jI a2)), (3, .int (jI a3))]) hx hb dX3_addName_40 hl (by decide) rfl (fun ls hl => ?_)
  refine lv_aload hx hb dX3_addName_42 (lv_at hl 1 rfl) ?_
  refine gf_1_0 hx hb hts hown hK hR hj10 wd36 dX3_addName_44 ?_
  have hg17 : rg (M 2 y8 0) := hR.2 2 y8 0 (by decide)
  refine x_iconst hx hb dX3_addName_47 ?_
  refine x_icmp_ne (tgt := 60) hx hb hg17 (by decide : rg (2 : Int)) dX3_addName_48 (by decide) (fun ci18 => ?_) (fun ci18 => ?_)
  · rw [if_neg ci18] at hF
    refine x_bipush hx hb (by decide +kernel) dX3_addName_60 ?_
    cases hF
    exact x_iret hx hb hlocks hK hR hS hr (by decide : rg (-3 : Int)) dX3_addName_62
  · rw [if_pos ci18] at hF
    refine lv_aload hx hb dX3_addName_51 (lv_at hl 0 rfl) ?_
    refine gf_1_0 hx hb hts hown hK hR hj16 wd36 dX3_addName_53 ?_
    have hg19 : rg (M 2 y14 0) := hR.2 2 y14 0 (by decide)
    refine x_iconst hx hb dX3_addName_56 ?_
    refine x_icmp_ne (tgt := 63) hx hb hg19 (by decide : rg (2 : Int)) dX3_addName_57 (by decide) (fun ci20 => ?_) (fun ci20 => ?_)
    · rw [if_neg ci20] at hF
      refine lv_aload hx hb dX3_addName_63 (lv_at hl 0 rfl) ?_
      refine gf_1_2 hx hb hts hown hK hR hj16 wd41 dX3_addName_65 ?_
      have hg21 : rg (M 2 y14 2) := hR.2 2 y14 2 (by decide)
      refine x_if_ne (tgt := 73) hx hb hg21 dX3_addName_68 (by decide) (fun ci22 => ?_) (fun ci22 => ?_)
      · rw [if_neg ci22] at hF
        refine lv_aload hx hb dX3_addName_73 (lv_at hl 1 rfl) ?_
        refine lv_iload_n hx hb dX3_addName_75 rfl (lv_at hl 4 rfl) ?_
        obtain ⟨y24, hc23, hF⟩ := xb1_some hF
        refine x_cVi (C := RX1) (T := TX1) (N := 12) (ci := 1) (As := [.int (jI a2)]) (rest := []) hx hb hml hown hts hK hR hS (c_X1_nodeNamed hj10 ha2 hc23) (ok2 hj10) rfl rfl wd560 wd561 wd562 wd3 wd563 hyX1_nodeNamed ⟨rfl, rfl⟩ ⟨Nat.le_of_ble_eq_true rfl, Nat.le_of_ble_eq_true rfl⟩ hl.1 (Nat.le_of_ble_eq_true rfl) dX3_addName_76 ⟨Nat.zero_le _, Nat.zero_le _⟩ rfl (fun hg25 H locs hR hS => ?_)
        refine x_iconst hx hb dX3_addName_79 ?_
        refine x_icmp_eq (tgt := 86) hx hb hg25 (by decide : rg (-1 : Int)) dX3_addName_80 (by decide) (fun ci26 => ?_) (fun ci26 => ?_)
        · rw [if_pos ci26] at hF
          refine lv_aload hx hb dX3_addName_86 (lv_at hl 1 rfl) ?_
          refine gf_1_8 hx hb hts hown hK hR hj10 wd56 dX3_addName_88 ?_
          have hg27 : rg (M 2 y8 8) := hR.2 2 y8 8 (by decide)
          refine x_bipush hx hb (by decide +kernel) dX3_addName_91 ?_
          refine x_icmp_ge (tgt := 106) hx hb hg27 (by decide : rg (12 : Int)) dX3_addName_93 (by decide) (fun ci28 => ?_) (fun ci28 => ?_)
          · rw [if_pos ci28] at hF
            refine x_bipush hx hb (by decide +kernel) dX3_addName_106 ?_
            cases hF
            exact x_iret hx hb hlocks hK hR hS hr (by decide : rg (-5 : Int)) dX3_addName_108
          · rw [if_neg ci28] at hF
            refine lv_aload hx hb dX3_addName_96 (lv_at hl 0 rfl) ?_
            refine gf_1_2 hx hb hts hown hK hR hj16 wd41 dX3_addName_98 ?_
            have hg29 : rg (M 2 y14 2) := hR.2 2 y14 2 (by decide)
            refine x_bipush hx hb (by decide +kernel) dX3_addName_101 ?_
            refine x_icmp_lt (tgt := 109) hx hb hg29 (by decide : rg (6 : Int)) dX3_addName_103 (by decide) (fun ci30 => ?_) (fun ci30 => ?_)
            · rw [if_pos ci30] at hF
              refine lv_aload_n hx hb dX3_addName_109 rfl (lv_at hl 2 rfl) ?_
              obtain ⟨M32, hc31, hF⟩ := xb1_some hF
              refine x_cVv (C := RX3) (T := TX3) (N := 9) (ci := 3) (As := []) (rest := []) hx hb hml hown hts hK hR hS (c_X3_startDraft  hc31) ok0 rfl rfl wd633 wd635 ws14 wd1 wd636 hyX3_startDraft ⟨rfl, rfl⟩ ⟨Nat.le_of_ble_eq_true rfl, Nat.le_of_ble_eq_true rfl⟩ hl.1 (Nat.le_of_ble_eq_true rfl) dX3_addName_110 ⟨Nat.zero_le _, Nat.zero_le _⟩ rfl (fun H locs hR hS => ?_)
              refine lv_aload_n hx hb dX3_addName_113 rfl (lv_at hl 2 rfl) ?_
              refine gf_3_1 hx hb hts hown hK hR wd139 dX3_addName_114 ?_
              obtain ⟨ht33, hF⟩ := xk_some hF
              have hj34 : (M32 0 0 1).toNat < 3 := by omega
              refine lv_iload_n hx hb dX3_addName_117 rfl (lv_at hl 3 rfl) ?_
              refine lv_iload_n hx hb dX3_addName_118 rfl (lv_at hl 4 rfl) ?_
              refine lv_iload_n hx hb dX3_addName_119 rfl (lv_at hl 5 rfl) ?_
              obtain ⟨M36, hc35, hF⟩ := xb1_some hF
              refine x_cVv (C := RX2) (T := TX2) (N := 8) (ci := 2) (As := [.int (jI a1), .int (jI a2), .int (jI a3)]) (rest := []) hx hb hml hown hts hK hR hS (c_X2_attach hj34 ha1 ha2 ha3 hc35) (ok1 hj34) rfl rfl wd682 wd646 wd647 wd2 wd648 hyX2_attach ⟨rfl, rfl⟩ ⟨Nat.le_of_ble_eq_true rfl, Nat.le_of_ble_eq_true rfl⟩ hl.1 (Nat.le_of_ble_eq_true rfl) dX3_addName_120 ⟨Nat.zero_le _, Nat.zero_le _⟩ rfl (fun H locs hR hS => ?_)
              refine lv_aload_n hx hb dX3_addName_123 rfl (lv_at hl 2 rfl) ?_
              refine lv_aload_n hx hb dX3_addName_124 rfl (lv_at hl 2 rfl) ?_
              refine gf_3_1 hx hb hts hown hK hR wd139 dX3_addName_125 ?_
              obtain ⟨ht37, hF⟩ := xk_some hF
              have hj38 : (M36 0 0 1).toNat < 3 := by omega
              refine lv_iload_n hx hb dX3_addName_128 rfl (lv_at hl 5 rfl) ?_
              obtain ⟨y40, hc39, hF⟩ := xb1_some hF
              refine x_cVr (C := RX2) (T := TX2) (N := 8) (ci := 2) (As := [.int (jI a3)]) (rest := [.ref (adr b 0 0)]) hx hb hml hown hts hK hR hS (c_X2_at hj38 ha3 hc39) (ok1 hj38) rfl rfl wd337 wd255 wd256 wd2 wd257 hyX2_at ⟨rfl, rfl⟩ ⟨Nat.le_of_ble_eq_true rfl, Nat.le_of_ble_eq_true rfl⟩ hl.1 (Nat.le_of_ble_eq_true rfl) dX3_addName_129 ⟨Nat.zero_le _, Nat.zero_le _⟩ rfl (fun hg41 H locs hR hS => ?_)
              have hj42 : y40 < 99 := lt2 hg41
              refine gf_1_2 hx hb hts hown hK hR hj42 wd41 dX3_addName_132 ?_
              have hg43 : rg (M36 2 y40 2) := hR.2 2 y40 2 (by decide)
              obtain ⟨y45, M46, hc44, hF⟩ := xb2_some hF
              refine x_cVi (C := RX3) (T := TX3) (N := 9) (ci := 3) (As := [.int (jI (M36 2 y40 2))]) (rest := []) hx hb hml hown hts hK hR hS (c_X3_settle hg43 hc44) ok0 rfl rfl wd653 wd655 ws15 wd1 wd656 hyX3_settle ⟨rfl, rfl⟩ ⟨Nat.le_of_ble_eq_true rfl, Nat.le_of_ble_eq_true rfl⟩ hl.1 (Nat.le_of_ble_eq_true rfl) dX3_addName_135 ⟨Nat.zero_le _, Nat.zero_le _⟩ rfl (fun hg47 H locs hR hS => ?_)
              cases hF
              exact x_iret hx hb hlocks hK hR hS hr hg47 dX3_addName_138
            · rw [if_neg ci30] at hF
              refine x_bipush hx hb (by decide +kernel) dX3_addName_106 ?_
              cases hF
              exact x_iret hx hb hlocks hK hR hS hr (by decide : rg (-5 : Int)) dX3_addName_108
        · rw [if_neg ci26] at hF
          refine x_bipush hx hb (by decide +kernel) dX3_addName_83 ?_
          cases hF
          exact x_iret hx hb hlocks hK hR hS hr (by decide : rg (-2 : Int)) dX3_addName_85
      · rw [if_pos ci22] at hF
        refine x_iconst hx hb dX3_addName_71 ?_
        cases hF
        exact x_iret hx hb hlocks hK hR hS hr (by decide : rg (-1 : Int)) dX3_addName_72
    · rw [if_pos ci20] at hF
      refine x_bipush hx hb (by decide +kernel) dX3_addName_60 ?_
      cases hF
      exact x_iret hx hb hlocks hK hR hS hr (by decide : rg (-3 : Int)) dX3_addName_62
abbrev rmX3_isHeld : Room := { frames := 1, cells := 0, slots := 0, locals := 21 }
theorem hyX3_isHeld : yX3_isHeld.cls = RX3 ∧ yX3_isHeld.cls ≠ "java/lang/invoke/MethodHandle" ∧ yX3_isHeld.cls ≠ "java/lang/invoke/VarHandle" ∧ (parseMethodDescriptor yX3_isHeld.desc).map (fun d => d.parameters.length) = some 1 := by decide +kernel
def F_X3_isHeld_2 (M : Mm)  : Nat → Int → Int → Option (Int)
  | 0, _, _ => none
  | n + 1, v1, v2 => (if (6 : Int) ≤ v2 then (some (0 : Int)) else (xk (0 ≤ v2 ∧ v2 < 6) (xb1 (F_X0_isOn M (v2.toNat) v1) fun y5 => (if y5 = 0 then (xk (rg (v2 + (1 : Int))) (F_X3_isHeld_2 M  n v1 (v2 + (1 : Int)))) else (some (1 : Int))))))
set_option maxHeartbeats 4000000 in
set_option maxRecDepth 100000 in
theorem w_X3_isHeld_2 {p : Program} {l : Launch} {e : Env} {s : State} {m : MethodId} {args : Array Value} {below : List Frame} {meth : Method} {c : Code} {g : Gx} {b : Nat} (C0 : XA p s m meth c args RX3 cX3_isHeld 3 (some .boolean) g) {r : Int} {M : Mm} : ∀ n : Nat, ∀ (v1 : Int) (v2 : Int) (hv1 : rg v1) (hv2 : rg v2) (H : Heap) (locs : List Loc), Rel g b M H → va_S (AA b s.heap.size) s.heap H locs → ∀ ls : Array Slot, lv_has ls 3 [(0, .ref (adr b 0 0)), (1, .int (jI v1)), (2, .int (jI v2))] → F_X3_isHeld_2 M  n v1 v2 = some r → W p l e rmX3_isHeld s m args below meth c H locs 0 0 (MQ below (qI g b r M s.heap.size) args s 0 0 (AA b s.heap.size)) (F0 m 2 ls []) := by
  obtain ⟨hx, hb, hr, hlocks, hml, hown, hts, hK⟩ := id C0
  intro n
  induction n with
  | zero =>
    intro v1 v2 hv1 hv2 H locs hR hS ls hl hF
    rw [F_X3_isHeld_2] at hF
    cases hF
  | succ n ih =>
    intro v1 v2 hv1 hv2 H locs hR hS ls hl hF
    rw [F_X3_isHeld_2] at hF
    refine lv_iload_n hx hb dX3_isHeld_2 rfl (lv_at hl 2 rfl) ?_
    refine lv_aload_n hx hb dX3_isHeld_3 rfl (lv_at hl 0 rfl) ?_
    refine gf_3_3 hx hb hts hown hK hR wd141 dX3_isHeld_4 ?_
    refine x_alenH hx hb hK hR dX3_isHeld_7 ?_
    refine x_icmp_ge (tgt := 32) hx hb hv2 (by decide : rg (6 : Int)) dX3_isHeld_8 (by decide) (fun ci1 => ?_) (fun ci1 => ?_)
    · rw [if_pos ci1] at hF
      refine x_iconst hx hb dX3_isHeld_32 ?_
      cases hF
      exact x_zret hx hb hlocks hK hR hS hr (by decide) dX3_isHeld_33
    · rw [if_neg ci1] at hF
      refine lv_aload_n hx hb dX3_isHeld_11 rfl (lv_at hl 0 rfl) ?_
      refine gf_3_3 hx hb hts hown hK hR wd141 dX3_isHeld_12 ?_
      refine lv_iload_n hx hb dX3_isHeld_15 rfl (lv_at hl 2 rfl) ?_
      obtain ⟨hi2, hF⟩ := xk_some hF
      refine x_aldH hx hb hK hR hv2 hi2 dX3_isHeld_16 ?_
      have hj3 : v2.toNat < 6 := by omega
      refine lv_iload_n hx hb dX3_isHeld_17 rfl (lv_at hl 1 rfl) ?_
      obtain ⟨y5, hc4, hF⟩ := xb1_some hF
      refine x_cVi (C := RX0) (T := TX0) (N := 4) (ci := 0) (As := [.int (jI v1)]) (rest := []) hx hb hml hown hts hK hR hS (c_X0_isOn hj3 hv1 hc4) (ok11 hj3) rfl rfl wd704 wd705 wd706 wd4 wd707 hyX0_isOn ⟨rfl, rfl⟩ ⟨Nat.le_of_ble_eq_true rfl, Nat.le_of_ble_eq_true rfl⟩ hl.1 (Nat.le_of_ble_eq_true rfl) dX3_isHeld_18 ⟨Nat.zero_le _, Nat.zero_le _⟩ rfl (fun hg6 H locs hR hS => ?_)
      refine x_if_eq (tgt := 26) hx hb hg6 dX3_isHeld_21 (by decide) (fun ci7 => ?_) (fun ci7 => ?_)
      · rw [if_pos ci7] at hF
        obtain ⟨hq8, hF⟩ := xk_some hF
        refine x_iinc (lv' := [(2, .int (jI (v2 + (1 : Int)))), (0, .ref (adr b 0 0)), (1, .int (jI v1))]) hx hb dX3_isHeld_26 hl (k := 2) rfl (by decide) rfl (fun ls hl => ?_)
        refine lv_goto (tgt := 2) hx hb dX3_isHeld_29 (by decide) ?_
        exact ih v1 (v2 + (1 : Int)) hv1 hq8 H locs hR hS ls (lv_sub hl [1, 2, 0] rfl) hF
      · rw [if_neg ci7] at hF
        refine x_iconst hx hb dX3_isHeld_24 ?_
        cases hF
        exact x_zret hx hb hlocks hK hR hS hr (by decide) dX3_isHeld_25
def F_X3_isHeld (M : Mm) (a1 : Int) : Option (Int) := (F_X3_isHeld_2 M  FU a1 (0 : Int))
set_option maxHeartbeats 4000000 in
set_option maxRecDepth 100000 in
theorem c_X3_isHeld {l : Launch} {g : Gx} {b : Nat} {M : Mm} {a1 : Int} {r : Int} (ha1 : rg a1) (hF : F_X3_isHeld M a1 = some r) : Ct l yX3_isHeld cX3_isHeld 3 (some .boolean) rmX3_isHeld g b [.ref (adr b 0 0), .int (jI a1)] M (qI g b r M) := by
  refine ct_of (by decide +kernel) (Nat.le_of_ble_eq_true rfl) ?_
  intro p e s m args below meth c C0 hR ls hl
  obtain ⟨hx, hb, hr, hlocks, hml, hown, hts, hK⟩ := id C0
  have hS : va_S (AA b s.heap.size) s.heap s.heap [] := va_S.rf
  have hl : lv_has ls 3 [(0, .ref (adr b 0 0)), (1, .int (jI a1))] := hl
  obtain ⟨H, hH⟩ : ∃ z, z = s.heap := ⟨_, rfl⟩
  obtain ⟨locs, hlo⟩ : ∃ z : List Loc, z = [] := ⟨_, rfl⟩
  have hR : Rel g b M H := by rw [hH]; exact hR
  have hS : va_S (AA b s.heap.size) s.heap H locs := by rw [hH, hlo]; exact hS
  suffices hW : W p l e rmX3_isHeld s m args below meth c H locs 0 0 (MQ below (qI g b r M s.heap.size) args s 0 0 (AA b s.heap.size)) (F0 m 0 ls []) by rw [hH, hlo] at hW; exact hW
  rw [F_X3_isHeld] at hF
  refine x_iconst hx hb dX3_isHeld_0 ?_
  refine lv_istore_n (lv' := [(2, .int (jI (0 : Int))), (0, .ref (adr b 0 0)), (1, .int (jI a1))]) hx hb dX3_isHeld_1 rfl hl (by decide) rfl (fun ls hl => ?_)
  exact w_X3_isHeld_2 C0  FU a1 (0 : Int) ha1 (by decide : rg (0 : Int)) H locs hR hS ls (lv_sub hl [1, 2, 0] rfl) hF
abbrev rmX3_takeName : Room := { frames := 3, cells := 0, slots := 0, locals := 69 }
theorem hyX3_takeName : yX3_takeName.cls = RX3 ∧ yX3_takeName.cls ≠ "java/lang/invoke/MethodHandle" ∧ yX3_takeName.cls ≠ "java/lang/invoke/VarHandle" ∧ (parseMethodDescriptor yX3_takeName.desc).map (fun d => d.parameters.length) = some 2 := by decide +kernel
def F_X3_takeName (M : Mm) (a1 : Int) (a2 : Int) : Option (Mm) := (xk (M 0 0 1 = 0 ∨ M 0 0 1 = 1) (xb2 (F_X2_detach M ((M 0 0 1).toNat) a1 a2) fun y4 M5 => (if y4 = (-1 : Int) then (some M5) else (xk (M5 0 0 1 = 0 ∨ M5 0 0 1 = 1) (xb1 (F_X2_at M5 ((M5 0 0 1).toNat) y4) fun y11 => (if (M5 2 y11 2) = 0 then (xb1 (F_X3_isHeld M5 y4) fun y17 => (if y17 = 0 then (xk (M5 0 0 1 = 0 ∨ M5 0 0 1 = 1) (xb1 (F_X2_drop M5 ((M5 0 0 1).toNat) y4) fun M23 => (some M23))) else (some M5))) else (some M5)))))))
set_option maxHeartbeats 4000000 in
set_option maxRecDepth 100000 in
theorem c_X3_takeName {l : Launch} {g : Gx} {b : Nat} {M : Mm} {a1 : Int} {a2 : Int} {M' : Mm} (ha1 : rg a1) (ha2 : rg a2) (hF : F_X3_takeName M a1 a2 = some M') : Ct l yX3_takeName cX3_takeName 4 none rmX3_takeName g b [.ref (adr b 0 0), .int (jI a1), .int (jI a2)] M (qV g b M') := by
  refine ct_of (by decide +kernel) (Nat.le_of_ble_eq_true rfl) ?_
  intro p e s m args below meth c C0 hR ls hl
  obtain ⟨hx, hb, hr, hlocks, hml, hown, hts, hK⟩ := id C0
  have hS : va_S (AA b s.heap.size) s.heap s.heap [] := va_S.rf
  have hl : lv_has ls 4 [(0, .ref (adr b 0 0)), (1, .int (jI a1)), (2, .int (jI a2))] := hl
  obtain ⟨H, hH⟩ : ∃ z, z = s.heap := ⟨_, rfl⟩
  obtain ⟨locs, hlo⟩ : ∃ z : List Loc, z = [] := ⟨_, rfl⟩
  have hR : Rel g b M H := by rw [hH]; exact hR
  have hS : va_S (AA b s.heap.size) s.heap H locs := by rw [hH, hlo]; exact hS
  suffices hW : W p l e rmX3_takeName s m args below meth c H locs 0 0 (MQ below (qV g b M' s.heap.size) args s 0 0 (AA b s.heap.size)) (F0 m 0 ls []) by rw [hH, hlo] at hW; exact hW
  rw [F_X3_takeName] at hF
  refine lv_aload_n hx hb dX3_takeName_0 rfl (lv_at hl 0 rfl) ?_
  refine gf_3_1 hx hb hts hown hK hR wd139 dX3_takeName_1 ?_
  obtain ⟨ht1, hF⟩ := xk_some hF
  have hj2 : (M 0 0 1).toNat < 3 := by omega
  refine lv_iload_n hx hb dX3_takeName_4 rfl (lv_at hl 1 rfl) ?_
  refine lv_iload_n hx hb dX3_takeName_5 rfl (lv_at hl 2 rfl) ?_
  obtain ⟨y4, M5, hc3, hF⟩ := xb2_some hF
  refine x_cVi (C := RX2) (T := TX2) (N := 8) (ci := 2) (As := [.int (jI a1), .int (jI a2)]) (rest := []) hx hb hml hown hts hK hR hS (c_X2_detach hj2 ha1 ha2 hc3) (ok1 hj2) rfl rfl wd691 wd692 wd693 wd2 wd694 hyX2_detach ⟨rfl, rfl⟩ ⟨Nat.le_of_ble_eq_true rfl, Nat.le_of_ble_eq_true rfl⟩ hl.1 (Nat.le_of_ble_eq_true rfl) dX3_takeName_6 ⟨Nat.zero_le _, Nat.zero_le _⟩ rfl (fun hg6 H locs hR hS => ?_)
  refine lv_istore_n (lv' := [(3, .int (jI y4)), (0, .ref (adr b 0 0)), (1, .int (jI a1)), (2, .int (jI a2))]) hx hb dX3_takeName_9 rfl hl (by decide) rfl (fun ls hl => ?_)
  refine lv_iload_n hx hb dX3_takeName_10 rfl (lv_at hl 0 rfl) ?_
  refine x_iconst hx hb dX3_takeName_11 ?_
  refine x_icmp_eq (tgt := 45) hx hb hg6 (by decide : rg (-1 : Int)) dX3_takeName_12 (by decide) (fun ci7 => ?_) (fun ci7 => ?_)
  · rw [if_pos ci7] at hF
    cases hF
    exact x_vret hx hb hlocks hK hR hS hr dX3_takeName_45
  · rw [if_neg ci7] at hF
    refine lv_aload_n hx hb dX3_takeName_15 rfl (lv_at hl 1 rfl) ?_
    refine gf_3_1 hx hb hts hown hK hR wd139 dX3_takeName_16 ?_
    obtain ⟨ht8, hF⟩ := xk_some hF
    have hj9 : (M5 0 0 1).toNat < 3 := by omega
    refine lv_iload_n hx hb dX3_takeName_19 rfl (lv_at hl 0 rfl) ?_
    obtain ⟨y11, hc10, hF⟩ := xb1_some hF
    refine x_cVr (C := RX2) (T := TX2) (N := 8) (ci := 2) (As := [.int (jI y4)]) (rest := []) hx hb hml hown hts hK hR hS (c_X2_at hj9 hg6 hc10) (ok1 hj9) rfl rfl wd337 wd255 wd256 wd2 wd257 hyX2_at ⟨rfl, rfl⟩ ⟨Nat.le_of_ble_eq_true rfl, Nat.le_of_ble_eq_true rfl⟩ hl.1 (Nat.le_of_ble_eq_true rfl) dX3_takeName_20 ⟨Nat.zero_le _, Nat.zero_le _⟩ rfl (fun hg12 H locs hR hS => ?_)
    have hj13 : y11 < 99 := lt2 hg12
    refine gf_1_2 hx hb hts hown hK hR hj13 wd41 dX3_takeName_23 ?_
    have hg14 : rg (M5 2 y11 2) := hR.2 2 y11 2 (by decide)
    refine x_if_ne (tgt := 45) hx hb hg14 dX3_takeName_26 (by decide) (fun ci15 => ?_) (fun ci15 => ?_)
    · rw [if_neg ci15] at hF
      cases hF
      exact x_vret hx hb hlocks hK hR hS hr dX3_takeName_45
    · rw [if_pos ci15] at hF
      refine lv_aload_n hx hb dX3_takeName_29 rfl (lv_at hl 1 rfl) ?_
      refine lv_iload_n hx hb dX3_takeName_30 rfl (lv_at hl 0 rfl) ?_
      obtain ⟨y17, hc16, hF⟩ := xb1_some hF
      refine x_cVi (C := RX3) (T := TX3) (N := 9) (ci := 3) (As := [.int (jI y4)]) (rest := []) hx hb hml hown hts hK hR hS (c_X3_isHeld hg6 hc16) ok0 rfl rfl wd700 wd702 ws18 wd1 wd703 hyX3_isHeld ⟨rfl, rfl⟩ ⟨Nat.le_of_ble_eq_true rfl, Nat.le_of_ble_eq_true rfl⟩ hl.1 (Nat.le_of_ble_eq_true rfl) dX3_takeName_31 ⟨Nat.zero_le _, Nat.zero_le _⟩ rfl (fun hg18 H locs hR hS => ?_)
      refine x_if_ne (tgt := 45) hx hb hg18 dX3_takeName_34 (by decide) (fun ci19 => ?_) (fun ci19 => ?_)
      · rw [if_neg ci19] at hF
        cases hF
        exact x_vret hx hb hlocks hK hR hS hr dX3_takeName_45
      · rw [if_pos ci19] at hF
        refine lv_aload_n hx hb dX3_takeName_37 rfl (lv_at hl 1 rfl) ?_
        refine gf_3_1 hx hb hts hown hK hR wd139 dX3_takeName_38 ?_
        obtain ⟨ht20, hF⟩ := xk_some hF
        have hj21 : (M5 0 0 1).toNat < 3 := by omega
        refine lv_iload_n hx hb dX3_takeName_41 rfl (lv_at hl 0 rfl) ?_
        obtain ⟨M23, hc22, hF⟩ := xb1_some hF
        refine x_cVv (C := RX2) (T := TX2) (N := 8) (ci := 2) (As := [.int (jI y4)]) (rest := []) hx hb hml hown hts hK hR hS (c_X2_drop hj21 hg6 hc22) (ok1 hj21) rfl rfl wd708 wd303 wd304 wd2 wd305 hyX2_drop ⟨rfl, rfl⟩ ⟨Nat.le_of_ble_eq_true rfl, Nat.le_of_ble_eq_true rfl⟩ hl.1 (Nat.le_of_ble_eq_true rfl) dX3_takeName_42 ⟨Nat.zero_le _, Nat.zero_le _⟩ rfl (fun H locs hR hS => ?_)
        cases hF
        exact x_vret hx hb hlocks hK hR hS hr dX3_takeName_45
abbrev rmX3_unlink : Room := { frames := 6, cells := 0, slots := 0, locals := 131 }
theorem hyX3_unlink : yX3_unlink.cls = RX3 ∧ yX3_unlink.cls ≠ "java/lang/invoke/MethodHandle" ∧ yX3_unlink.cls ≠ "java/lang/invoke/VarHandle" ∧ (parseMethodDescriptor yX3_unlink.desc).map (fun d => d.parameters.length) = some 2 := by decide +kernel
def F_X3_unlink (M : Mm) (a1 : Int) (a2 : Int) : Option (Int × Mm) := (xb1 (F_X3_needEntry M a1 a2) fun _ => (xk (M 0 0 0 = 0 ∨ M 0 0 0 = 1) (xb1 (F_X2_at M ((M 0 0 0).toNat) a1) fun y5 => (if (M 2 y5 0) = (2 : Int) then (xk (M 0 0 0 = 0 ∨ M 0 0 0 = 1) (xb1 (F_X2_at M ((M 0 0 0).toNat) a1) fun y13 => (xb1 (F_X1_nodeNamed M y13 a2) fun y17 => (if y17 = (-1 : Int) then (some ((-1 : Int), M)) else (xk (M 0 0 0 = 0 ∨ M 0 0 0 = 1) (xb1 (F_X2_at M ((M 0 0 0).toNat) y17) fun y23 => (if (M 2 y23 0) = (2 : Int) then (some ((-3 : Int), M)) else (xb1 (F_X3_startDraft M ) fun M29 => (xb1 (F_X3_takeName M29 a1 a2) fun M31 => (xk (M31 0 0 1 = 0 ∨ M31 0 0 1 = 1) (xb1 (F_X2_at M31 ((M31 0 0 1).toNat) y17) fun y35 => (xb2 (F_X3_settle M31 (M31 2 y35 2)) fun y40 M41 => (some (y40, M41)))))))))))))) else (some ((-3 : Int), M))))))
set_option maxHeartbeats 4000000 in
set_option maxRecDepth 100000 in
theorem c_X3_unlink {l : Launch} {g : Gx} {b : Nat} {M : Mm} {a1 : Int} {a2 : Int} {r : Int} {M' : Mm} (ha1 : rg a1) (ha2 : rg a2) (hF : F_X3_unlink M a1 a2 = some (r, M')) : Ct l yX3_unlink cX3_unlink 4 (some .int) rmX3_unlink g b [.ref (adr b 0 0), .int (jI a1), .int (jI a2)] M (qI g b r M') := by
  refine ct_of (by decide +kernel) (Nat.le_of_ble_eq_true rfl) ?_
  intro p e s m args below meth c C0 hR ls hl
  obtain ⟨hx, hb, hr, hlocks, hml, hown, hts, hK⟩ := id C0
  have hS : va_S (AA b s.heap.size) s.heap s.heap [] := va_S.rf
  have hl : lv_has ls 4 [(0, .ref (adr b 0 0)), (1, .int (jI a1)), (2, .int (jI a2))] := hl
  obtain ⟨H, hH⟩ : ∃ z, z = s.heap := ⟨_, rfl⟩
  obtain ⟨locs, hlo⟩ : ∃ z : List Loc, z = [] := ⟨_, rfl⟩
  have hR : Rel g b M H := by rw [hH]; exact hR
  have hS : va_S (AA b s.heap.size) s.heap H locs := by rw [hH, hlo]; exact hS
  suffices hW : W p l e rmX3_unlink s m args below meth c H locs 0 0 (MQ below (qI g b r M' s.heap.size) args s 0 0 (AA b s.heap.size)) (F0 m 0 ls []) by rw [hH, hlo] at hW; exact hW
  rw [F_X3_unlink] at hF
  refine lv_aload_n hx hb dX3_unlink_0 rfl (lv_at hl 0 rfl) ?_
  refine lv_iload_n hx hb dX3_unlink_1 rfl (lv_at hl 1 rfl) ?_
  refine lv_iload_n hx hb dX3_unlink_2 rfl (lv_at hl 2 rfl) ?_
  obtain ⟨_, hc1, hF⟩ := xb1_some hF
  refine x_cVv (C := RX3) (T := TX3) (N := 9) (ci := 3) (As := [.int (jI a1), .int (jI a2)]) (rest := []) hx hb hml hown hts hK hR hS (c_X3_needEntry ha1 ha2 hc1) ok0 rfl rfl wd621 wd623 ws11 wd1 wd624 hyX3_needEntry ⟨rfl, rfl⟩ ⟨Nat.le_of_ble_eq_true rfl, Nat.le_of_ble_eq_true rfl⟩ hl.1 (Nat.le_of_ble_eq_true rfl) dX3_unlink_3 ⟨Nat.zero_le _, Nat.zero_le _⟩ rfl (fun H locs hR hS => ?_)
  refine lv_aload_n hx hb dX3_unlink_6 rfl (lv_at hl 0 rfl) ?_
  refine gf_3_0 hx hb hts hown hK hR wd138 dX3_unlink_7 ?_
  obtain ⟨ht2, hF⟩ := xk_some hF
  have hj3 : (M 0 0 0).toNat < 3 := by omega
  refine lv_iload_n hx hb dX3_unlink_10 rfl (lv_at hl 1 rfl) ?_
  obtain ⟨y5, hc4, hF⟩ := xb1_some hF
  refine x_cVr (C := RX2) (T := TX2) (N := 8) (ci := 2) (As := [.int (jI a1)]) (rest := []) hx hb hml hown hts hK hR hS (c_X2_at hj3 ha1 hc4) (ok1 hj3) rfl rfl wd337 wd255 wd256 wd2 wd257 hyX2_at ⟨rfl, rfl⟩ ⟨Nat.le_of_ble_eq_true rfl, Nat.le_of_ble_eq_true rfl⟩ hl.1 (Nat.le_of_ble_eq_true rfl) dX3_unlink_11 ⟨Nat.zero_le _, Nat.zero_le _⟩ rfl (fun hg6 H locs hR hS => ?_)
  have hj7 : y5 < 99 := lt2 hg6
  refine gf_1_0 hx hb hts hown hK hR hj7 wd36 dX3_unlink_14 ?_
  have hg8 : rg (M 2 y5 0) := hR.2 2 y5 0 (by decide)
  refine x_iconst hx hb dX3_unlink_17 ?_
  refine x_icmp_eq (tgt := 24) hx hb hg8 (by decide : rg (2 : Int)) dX3_unlink_18 (by decide) (fun ci9 => ?_) (fun ci9 => ?_)
  · rw [if_pos ci9] at hF
    refine lv_aload_n hx hb dX3_unlink_24 rfl (lv_at hl 0 rfl) ?_
    refine gf_3_0 hx hb hts hown hK hR wd138 dX3_unlink_25 ?_
    obtain ⟨ht10, hF⟩ := xk_some hF
    have hj11 : (M 0 0 0).toNat < 3 := by omega
    refine lv_iload_n hx hb dX3_unlink_28 rfl (lv_at hl 1 rfl) ?_
    obtain ⟨y13, hc12, hF⟩ := xb1_some hF
    refine x_cVr (C := RX2) (T := TX2) (N := 8) (ci := 2) (As := [.int (jI a1)]) (rest := []) hx hb hml hown hts hK hR hS (c_X2_at hj11 ha1 hc12) (ok1 hj11) rfl rfl wd337 wd255 wd256 wd2 wd257 hyX2_at ⟨rfl, rfl⟩ ⟨Nat.le_of_ble_eq_true rfl, Nat.le_of_ble_eq_true rfl⟩ hl.1 (Nat.le_of_ble_eq_true rfl) dX3_unlink_29 ⟨Nat.zero_le _, Nat.zero_le _⟩ rfl (fun hg14 H locs hR hS => ?_)
    have hj15 : y13 < 99 := lt2 hg14
    refine lv_iload_n hx hb dX3_unlink_32 rfl (lv_at hl 2 rfl) ?_
    obtain ⟨y17, hc16, hF⟩ := xb1_some hF
    refine x_cVi (C := RX1) (T := TX1) (N := 12) (ci := 1) (As := [.int (jI a2)]) (rest := []) hx hb hml hown hts hK hR hS (c_X1_nodeNamed hj15 ha2 hc16) (ok2 hj15) rfl rfl wd560 wd561 wd562 wd3 wd563 hyX1_nodeNamed ⟨rfl, rfl⟩ ⟨Nat.le_of_ble_eq_true rfl, Nat.le_of_ble_eq_true rfl⟩ hl.1 (Nat.le_of_ble_eq_true rfl) dX3_unlink_33 ⟨Nat.zero_le _, Nat.zero_le _⟩ rfl (fun hg18 H locs hR hS => ?_)
    refine lv_istore_n (lv' := [(3, .int (jI y17)), (0, .ref (adr b 0 0)), (1, .int (jI a1)), (2, .int (jI a2))]) hx hb dX3_unlink_36 rfl hl (by decide) rfl (fun ls hl => ?_)
    refine lv_iload_n hx hb dX3_unlink_37 rfl (lv_at hl 0 rfl) ?_
    refine x_iconst hx hb dX3_unlink_38 ?_
    refine x_icmp_ne (tgt := 44) hx hb hg18 (by decide : rg (-1 : Int)) dX3_unlink_39 (by decide) (fun ci19 => ?_) (fun ci19 => ?_)
    · rw [if_neg ci19] at hF
      refine lv_aload_n hx hb dX3_unlink_44 rfl (lv_at hl 1 rfl) ?_
      refine gf_3_0 hx hb hts hown hK hR wd138 dX3_unlink_45 ?_
      obtain ⟨ht20, hF⟩ := xk_some hF
      have hj21 : (M 0 0 0).toNat < 3 := by omega
      refine lv_iload_n hx hb dX3_unlink_48 rfl (lv_at hl 0 rfl) ?_
      obtain ⟨y23, hc22, hF⟩ := xb1_some hF
      refine x_cVr (C := RX2) (T := TX2) (N := 8) (ci := 2) (As := [.int (jI y17)]) (rest := []) hx hb hml hown hts hK hR hS (c_X2_at hj21 hg18 hc22) (ok1 hj21) rfl rfl wd337 wd255 wd256 wd2 wd257 hyX2_at ⟨rfl, rfl⟩ ⟨Nat.le_of_ble_eq_true rfl, Nat.le_of_ble_eq_true rfl⟩ hl.1 (Nat.le_of_ble_eq_true rfl) dX3_unlink_49 ⟨Nat.zero_le _, Nat.zero_le _⟩ rfl (fun hg24 H locs hR hS => ?_)
      have hj25 : y23 < 99 := lt2 hg24
      refine gf_1_0 hx hb hts hown hK hR hj25 wd36 dX3_unlink_52 ?_
      have hg26 : rg (M 2 y23 0) := hR.2 2 y23 0 (by decide)
      refine x_iconst hx hb dX3_unlink_55 ?_
      refine x_icmp_ne (tgt := 62) hx hb hg26 (by decide : rg (2 : Int)) dX3_unlink_56 (by decide) (fun ci27 => ?_) (fun ci27 => ?_)
      · rw [if_neg ci27] at hF
        refine lv_aload_n hx hb dX3_unlink_62 rfl (lv_at hl 1 rfl) ?_
        obtain ⟨M29, hc28, hF⟩ := xb1_some hF
        refine x_cVv (C := RX3) (T := TX3) (N := 9) (ci := 3) (As := []) (rest := []) hx hb hml hown hts hK hR hS (c_X3_startDraft  hc28) ok0 rfl rfl wd633 wd635 ws14 wd1 wd636 hyX3_startDraft ⟨rfl, rfl⟩ ⟨Nat.le_of_ble_eq_true rfl, Nat.le_of_ble_eq_true rfl⟩ hl.1 (Nat.le_of_ble_eq_true rfl) dX3_unlink_63 ⟨Nat.zero_le _, Nat.zero_le _⟩ rfl (fun H locs hR hS => ?_)
        refine lv_aload_n hx hb dX3_unlink_66 rfl (lv_at hl 1 rfl) ?_
        refine lv_iload_n hx hb dX3_unlink_67 rfl (lv_at hl 2 rfl) ?_
        refine lv_iload_n hx hb dX3_unlink_68 rfl (lv_at hl 3 rfl) ?_
        obtain ⟨M31, hc30, hF⟩ := xb1_some hF
        refine x_cVv (C := RX3) (T := TX3) (N := 9) (ci := 3) (As := [.int (jI a1), .int (jI a2)]) (rest := []) hx hb hml hown hts hK hR hS (c_X3_takeName ha1 ha2 hc30) ok0 rfl rfl wd687 wd689 ws17 wd1 wd690 hyX3_takeName ⟨rfl, rfl⟩ ⟨Nat.le_of_ble_eq_true rfl, Nat.le_of_ble_eq_true rfl⟩ hl.1 (Nat.le_of_ble_eq_true rfl) dX3_unlink_69 ⟨Nat.zero_le _, Nat.zero_le _⟩ rfl (fun H locs hR hS => ?_)
        refine lv_aload_n hx hb dX3_unlink_72 rfl (lv_at hl 1 rfl) ?_
        refine lv_aload_n hx hb dX3_unlink_73 rfl (lv_at hl 1 rfl) ?_
        refine gf_3_1 hx hb hts hown hK hR wd139 dX3_unlink_74 ?_
        obtain ⟨ht32, hF⟩ := xk_some hF
        have hj33 : (M31 0 0 1).toNat < 3 := by omega
        refine lv_iload_n hx hb dX3_unlink_77 rfl (lv_at hl 0 rfl) ?_
        obtain ⟨y35, hc34, hF⟩ := xb1_some hF
        refine x_cVr (C := RX2) (T := TX2) (N := 8) (ci := 2) (As := [.int (jI y17)]) (rest := [.ref (adr b 0 0)]) hx hb hml hown hts hK hR hS (c_X2_at hj33 hg18 hc34) (ok1 hj33) rfl rfl wd337 wd255 wd256 wd2 wd257 hyX2_at ⟨rfl, rfl⟩ ⟨Nat.le_of_ble_eq_true rfl, Nat.le_of_ble_eq_true rfl⟩ hl.1 (Nat.le_of_ble_eq_true rfl) dX3_unlink_78 ⟨Nat.zero_le _, Nat.zero_le _⟩ rfl (fun hg36 H locs hR hS => ?_)
        have hj37 : y35 < 99 := lt2 hg36
        refine gf_1_2 hx hb hts hown hK hR hj37 wd41 dX3_unlink_81 ?_
        have hg38 : rg (M31 2 y35 2) := hR.2 2 y35 2 (by decide)
        obtain ⟨y40, M41, hc39, hF⟩ := xb2_some hF
        refine x_cVi (C := RX3) (T := TX3) (N := 9) (ci := 3) (As := [.int (jI (M31 2 y35 2))]) (rest := []) hx hb hml hown hts hK hR hS (c_X3_settle hg38 hc39) ok0 rfl rfl wd653 wd655 ws15 wd1 wd656 hyX3_settle ⟨rfl, rfl⟩ ⟨Nat.le_of_ble_eq_true rfl, Nat.le_of_ble_eq_true rfl⟩ hl.1 (Nat.le_of_ble_eq_true rfl) dX3_unlink_84 ⟨Nat.zero_le _, Nat.zero_le _⟩ rfl (fun hg42 H locs hR hS => ?_)
        cases hF
        exact x_iret hx hb hlocks hK hR hS hr hg42 dX3_unlink_87
      · rw [if_pos ci27] at hF
        refine x_bipush hx hb (by decide +kernel) dX3_unlink_59 ?_
        cases hF
        exact x_iret hx hb hlocks hK hR hS hr (by decide : rg (-3 : Int)) dX3_unlink_61
    · rw [if_pos ci19] at hF
      refine x_iconst hx hb dX3_unlink_42 ?_
      cases hF
      exact x_iret hx hb hlocks hK hR hS hr (by decide : rg (-1 : Int)) dX3_unlink_43
  · rw [if_neg ci9] at hF
    refine x_bipush hx hb (by decide +kernel) dX3_unlink_21 ?_
    cases hF
    exact x_iret hx hb hlocks hK hR hS hr (by decide : rg (-3 : Int)) dX3_unlink_23
abbrev rmX3_removeFolder : Room := { frames := 6, cells := 0, slots := 0, locals := 131 }
theorem hyX3_removeFolder : yX3_removeFolder.cls = RX3 ∧ yX3_removeFolder.cls ≠ "java/lang/invoke/MethodHandle" ∧ yX3_removeFolder.cls ≠ "java/lang/invoke/VarHandle" ∧ (parseMethodDescriptor yX3_removeFolder.desc).map (fun d => d.parameters.length) = some 2 := by decide +kernel
def F_X3_removeFolder (M : Mm) (a1 : Int) (a2 : Int) : Option (Int × Mm) := (xb1 (F_X3_needEntry M a1 a2) fun _ => (xk (M 0 0 0 = 0 ∨ M 0 0 0 = 1) (xb1 (F_X2_at M ((M 0 0 0).toNat) a1) fun y5 => (if (M 2 y5 0) = (2 : Int) then (xk (M 0 0 0 = 0 ∨ M 0 0 0 = 1) (xb1 (F_X2_at M ((M 0 0 0).toNat) a1) fun y13 => (xb1 (F_X1_nodeNamed M y13 a2) fun y17 => (if y17 = (-1 : Int) then (some ((-1 : Int), M)) else (xk (M 0 0 0 = 0 ∨ M 0 0 0 = 1) (xb1 (F_X2_at M ((M 0 0 0).toNat) y17) fun y23 => (if (M 2 y23 0) = (2 : Int) then (xk (M 0 0 0 = 0 ∨ M 0 0 0 = 1) (xb1 (F_X2_at M ((M 0 0 0).toNat) y17) fun y31 => (if (M 2 y31 8) ≤ 0 then (xb1 (F_X3_startDraft M ) fun M37 => (xb1 (F_X3_takeName M37 a1 a2) fun M39 => (xb2 (F_X3_settle M39 y17) fun y41 M42 => (some (y41, M42))))) else (some ((-4 : Int), M))))) else (some ((-3 : Int), M))))))))) else (some ((-3 : Int), M))))))
set_option maxHeartbeats 4000000 in
set_option maxRecDepth 100000 in
theorem c_X3_removeFolder {l : Launch} {g : Gx} {b : Nat} {M : Mm} {a1 : Int} {a2 : Int} {r : Int} {M' : Mm} (ha1 : rg a1) (ha2 : rg a2) (hF : F_X3_removeFolder M a1 a2 = some (r, M')) : Ct l yX3_removeFolder cX3_removeFolder 4 (some .int) rmX3_removeFolder g b [.ref (adr b 0 0), .int (jI a1), .int (jI a2)] M (qI g b r M') := by
  refine ct_of (by decide +kernel) (Nat.le_of_ble_eq_true rfl) ?_
  intro p e s m args below meth c C0 hR ls hl
  obtain ⟨hx, hb, hr, hlocks, hml, hown, hts, hK⟩ := id C0
  have hS : va_S (AA b s.heap.size) s.heap s.heap [] := va_S.rf
  have hl : lv_has ls 4 [(0, .ref (adr b 0 0)), (1, .int (jI a1)), (2, .int (jI a2))] := hl
  obtain ⟨H, hH⟩ : ∃ z, z = s.heap := ⟨_, rfl⟩
  obtain ⟨locs, hlo⟩ : ∃ z : List Loc, z = [] := ⟨_, rfl⟩
  have hR : Rel g b M H := by rw [hH]; exact hR
  have hS : va_S (AA b s.heap.size) s.heap H locs := by rw [hH, hlo]; exact hS
  suffices hW : W p l e rmX3_removeFolder s m args below meth c H locs 0 0 (MQ below (qI g b r M' s.heap.size) args s 0 0 (AA b s.heap.size)) (F0 m 0 ls []) by rw [hH, hlo] at hW; exact hW
  rw [F_X3_removeFolder] at hF
  refine lv_aload_n hx hb dX3_removeFolder_0 rfl (lv_at hl 0 rfl) ?_
  refine lv_iload_n hx hb dX3_removeFolder_1 rfl (lv_at hl 1 rfl) ?_
  refine lv_iload_n hx hb dX3_removeFolder_2 rfl (lv_at hl 2 rfl) ?_
  obtain ⟨_, hc1, hF⟩ := xb1_some hF
  refine x_cVv (C := RX3) (T := TX3) (N := 9) (ci := 3) (As := [.int (jI a1), .int (jI a2)]) (rest := []) hx hb hml hown hts hK hR hS (c_X3_needEntry ha1 ha2 hc1) ok0 rfl rfl wd621 wd623 ws11 wd1 wd624 hyX3_needEntry ⟨rfl, rfl⟩ ⟨Nat.le_of_ble_eq_true rfl, Nat.le_of_ble_eq_true rfl⟩ hl.1 (Nat.le_of_ble_eq_true rfl) dX3_removeFolder_3 ⟨Nat.zero_le _, Nat.zero_le _⟩ rfl (fun H locs hR hS => ?_)
  refine lv_aload_n hx hb dX3_removeFolder_6 rfl (lv_at hl 0 rfl) ?_
  refine gf_3_0 hx hb hts hown hK hR wd138 dX3_removeFolder_7 ?_
  obtain ⟨ht2, hF⟩ := xk_some hF
  have hj3 : (M 0 0 0).toNat < 3 := by omega
  refine lv_iload_n hx hb dX3_removeFolder_10 rfl (lv_at hl 1 rfl) ?_
  obtain ⟨y5, hc4, hF⟩ := xb1_some hF
  refine x_cVr (C := RX2) (T := TX2) (N := 8) (ci := 2) (As := [.int (jI a1)]) (rest := []) hx hb hml hown hts hK hR hS (c_X2_at hj3 ha1 hc4) (ok1 hj3) rfl rfl wd337 wd255 wd256 wd2 wd257 hyX2_at ⟨rfl, rfl⟩ ⟨Nat.le_of_ble_eq_true rfl, Nat.le_of_ble_eq_true rfl⟩ hl.1 (Nat.le_of_ble_eq_true rfl) dX3_removeFolder_11 ⟨Nat.zero_le _, Nat.zero_le _⟩ rfl (fun hg6 H locs hR hS => ?_)
  have hj7 : y5 < 99 := lt2 hg6
  refine gf_1_0 hx hb hts hown hK hR hj7 wd36 dX3_removeFolder_14 ?_
  have hg8 : rg (M 2 y5 0) := hR.2 2 y5 0 (by decide)
  refine x_iconst hx hb dX3_removeFolder_17 ?_
  refine x_icmp_eq (tgt := 24) hx hb hg8 (by decide : rg (2 : Int)) dX3_removeFolder_18 (by decide) (fun ci9 => ?_) (fun ci9 => ?_)
  · rw [if_pos ci9] at hF
    refine lv_aload_n hx hb dX3_removeFolder_24 rfl (lv_at hl 0 rfl) ?_
    refine gf_3_0 hx hb hts hown hK hR wd138 dX3_removeFolder_25 ?_
    obtain ⟨ht10, hF⟩ := xk_some hF
    have hj11 : (M 0 0 0).toNat < 3 := by omega
    refine lv_iload_n hx hb dX3_removeFolder_28 rfl (lv_at hl 1 rfl) ?_
    obtain ⟨y13, hc12, hF⟩ := xb1_some hF
    refine x_cVr (C := RX2) (T := TX2) (N := 8) (ci := 2) (As := [.int (jI a1)]) (rest := []) hx hb hml hown hts hK hR hS (c_X2_at hj11 ha1 hc12) (ok1 hj11) rfl rfl wd337 wd255 wd256 wd2 wd257 hyX2_at ⟨rfl, rfl⟩ ⟨Nat.le_of_ble_eq_true rfl, Nat.le_of_ble_eq_true rfl⟩ hl.1 (Nat.le_of_ble_eq_true rfl) dX3_removeFolder_29 ⟨Nat.zero_le _, Nat.zero_le _⟩ rfl (fun hg14 H locs hR hS => ?_)
    have hj15 : y13 < 99 := lt2 hg14
    refine lv_iload_n hx hb dX3_removeFolder_32 rfl (lv_at hl 2 rfl) ?_
    obtain ⟨y17, hc16, hF⟩ := xb1_some hF
    refine x_cVi (C := RX1) (T := TX1) (N := 12) (ci := 1) (As := [.int (jI a2)]) (rest := []) hx hb hml hown hts hK hR hS (c_X1_nodeNamed hj15 ha2 hc16) (ok2 hj15) rfl rfl wd560 wd561 wd562 wd3 wd563 hyX1_nodeNamed ⟨rfl, rfl⟩ ⟨Nat.le_of_ble_eq_true rfl, Nat.le_of_ble_eq_true rfl⟩ hl.1 (Nat.le_of_ble_eq_true rfl) dX3_removeFolder_33 ⟨Nat.zero_le _, Nat.zero_le _⟩ rfl (fun hg18 H locs hR hS => ?_)
    refine lv_istore_n (lv' := [(3, .int (jI y17)), (0, .ref (adr b 0 0)), (1, .int (jI a1)), (2, .int (jI a2))]) hx hb dX3_removeFolder_36 rfl hl (by decide) rfl (fun ls hl => ?_)
    refine lv_iload_n hx hb dX3_removeFolder_37 rfl (lv_at hl 0 rfl) ?_
    refine x_iconst hx hb dX3_removeFolder_38 ?_
    refine x_icmp_ne (tgt := 44) hx hb hg18 (by decide : rg (-1 : Int)) dX3_removeFolder_39 (by decide) (fun ci19 => ?_) (fun ci19 => ?_)
    · rw [if_neg ci19] at hF
      refine lv_aload_n hx hb dX3_removeFolder_44 rfl (lv_at hl 1 rfl) ?_
      refine gf_3_0 hx hb hts hown hK hR wd138 dX3_removeFolder_45 ?_
      obtain ⟨ht20, hF⟩ := xk_some hF
      have hj21 : (M 0 0 0).toNat < 3 := by omega
      refine lv_iload_n hx hb dX3_removeFolder_48 rfl (lv_at hl 0 rfl) ?_
      obtain ⟨y23, hc22, hF⟩ := xb1_some hF
      refine x_cVr (C := RX2) (T := TX2) (N := 8) (ci := 2) (As := [.int (jI y17)]) (rest := []) hx hb hml hown hts hK hR hS (c_X2_at hj21 hg18 hc22) (ok1 hj21) rfl rfl wd337 wd255 wd256 wd2 wd257 hyX2_at ⟨rfl, rfl⟩ ⟨Nat.le_of_ble_eq_true rfl, Nat.le_of_ble_eq_true rfl⟩ hl.1 (Nat.le_of_ble_eq_true rfl) dX3_removeFolder_49 ⟨Nat.zero_le _, Nat.zero_le _⟩ rfl (fun hg24 H locs hR hS => ?_)
      have hj25 : y23 < 99 := lt2 hg24
      refine gf_1_0 hx hb hts hown hK hR hj25 wd36 dX3_removeFolder_52 ?_
      have hg26 : rg (M 2 y23 0) := hR.2 2 y23 0 (by decide)
      refine x_iconst hx hb dX3_removeFolder_55 ?_
      refine x_icmp_eq (tgt := 62) hx hb hg26 (by decide : rg (2 : Int)) dX3_removeFolder_56 (by decide) (fun ci27 => ?_) (fun ci27 => ?_)
      · rw [if_pos ci27] at hF
        refine lv_aload_n hx hb dX3_removeFolder_62 rfl (lv_at hl 1 rfl) ?_
        refine gf_3_0 hx hb hts hown hK hR wd138 dX3_removeFolder_63 ?_
        obtain ⟨ht28, hF⟩ := xk_some hF
        have hj29 : (M 0 0 0).toNat < 3 := by omega
        refine lv_iload_n hx hb dX3_removeFolder_66 rfl (lv_at hl 0 rfl) ?_
        obtain ⟨y31, hc30, hF⟩ := xb1_some hF
        refine x_cVr (C := RX2) (T := TX2) (N := 8) (ci := 2) (As := [.int (jI y17)]) (rest := []) hx hb hml hown hts hK hR hS (c_X2_at hj29 hg18 hc30) (ok1 hj29) rfl rfl wd337 wd255 wd256 wd2 wd257 hyX2_at ⟨rfl, rfl⟩ ⟨Nat.le_of_ble_eq_true rfl, Nat.le_of_ble_eq_true rfl⟩ hl.1 (Nat.le_of_ble_eq_true rfl) dX3_removeFolder_67 ⟨Nat.zero_le _, Nat.zero_le _⟩ rfl (fun hg32 H locs hR hS => ?_)
        have hj33 : y31 < 99 := lt2 hg32
        refine gf_1_8 hx hb hts hown hK hR hj33 wd56 dX3_removeFolder_70 ?_
        have hg34 : rg (M 2 y31 8) := hR.2 2 y31 8 (by decide)
        refine x_if_le (tgt := 79) hx hb hg34 dX3_removeFolder_73 (by decide) (fun ci35 => ?_) (fun ci35 => ?_)
        · rw [if_pos ci35] at hF
          refine lv_aload_n hx hb dX3_removeFolder_79 rfl (lv_at hl 1 rfl) ?_
          obtain ⟨M37, hc36, hF⟩ := xb1_some hF
          refine x_cVv (C := RX3) (T := TX3) (N := 9) (ci := 3) (As := []) (rest := []) hx hb hml hown hts hK hR hS (c_X3_startDraft  hc36) ok0 rfl rfl wd633 wd635 ws14 wd1 wd636 hyX3_startDraft ⟨rfl, rfl⟩ ⟨Nat.le_of_ble_eq_true rfl, Nat.le_of_ble_eq_true rfl⟩ hl.1 (Nat.le_of_ble_eq_true rfl) dX3_removeFolder_80 ⟨Nat.zero_le _, Nat.zero_le _⟩ rfl (fun H locs hR hS => ?_)
          refine lv_aload_n hx hb dX3_removeFolder_83 rfl (lv_at hl 1 rfl) ?_
          refine lv_iload_n hx hb dX3_removeFolder_84 rfl (lv_at hl 2 rfl) ?_
          refine lv_iload_n hx hb dX3_removeFolder_85 rfl (lv_at hl 3 rfl) ?_
          obtain ⟨M39, hc38, hF⟩ := xb1_some hF
          refine x_cVv (C := RX3) (T := TX3) (N := 9) (ci := 3) (As := [.int (jI a1), .int (jI a2)]) (rest := []) hx hb hml hown hts hK hR hS (c_X3_takeName ha1 ha2 hc38) ok0 rfl rfl wd687 wd689 ws17 wd1 wd690 hyX3_takeName ⟨rfl, rfl⟩ ⟨Nat.le_of_ble_eq_true rfl, Nat.le_of_ble_eq_true rfl⟩ hl.1 (Nat.le_of_ble_eq_true rfl) dX3_removeFolder_86 ⟨Nat.zero_le _, Nat.zero_le _⟩ rfl (fun H locs hR hS => ?_)
          refine lv_aload_n hx hb dX3_removeFolder_89 rfl (lv_at hl 1 rfl) ?_
          refine lv_iload_n hx hb dX3_removeFolder_90 rfl (lv_at hl 0 rfl) ?_
          obtain ⟨y41, M42, hc40, hF⟩ := xb2_some hF
          refine x_cVi (C := RX3) (T := TX3) (N := 9) (ci := 3) (As := [.int (jI y17)]) (rest := []) hx hb hml hown hts hK hR hS (c_X3_settle hg18 hc40) ok0 rfl rfl wd653 wd655 ws15 wd1 wd656 hyX3_settle ⟨rfl, rfl⟩ ⟨Nat.le_of_ble_eq_true rfl, Nat.le_of_ble_eq_true rfl⟩ hl.1 (Nat.le_of_ble_eq_true rfl) dX3_removeFolder_91 ⟨Nat.zero_le _, Nat.zero_le _⟩ rfl (fun hg43 H locs hR hS => ?_)
          cases hF
          exact x_iret hx hb hlocks hK hR hS hr hg43 dX3_removeFolder_94
        · rw [if_neg ci35] at hF
          refine x_bipush hx hb (by decide +kernel) dX3_removeFolder_76 ?_
          cases hF
          exact x_iret hx hb hlocks hK hR hS hr (by decide : rg (-4 : Int)) dX3_removeFolder_78
      · rw [if_neg ci27] at hF
        refine x_bipush hx hb (by decide +kernel) dX3_removeFolder_59 ?_
        cases hF
        exact x_iret hx hb hlocks hK hR hS hr (by decide : rg (-3 : Int)) dX3_removeFolder_61
    · rw [if_pos ci19] at hF
      refine x_iconst hx hb dX3_removeFolder_42 ?_
      cases hF
      exact x_iret hx hb hlocks hK hR hS hr (by decide : rg (-1 : Int)) dX3_removeFolder_43
  · rw [if_neg ci9] at hF
    refine x_bipush hx hb (by decide +kernel) dX3_removeFolder_21 ?_
    cases hF
    exact x_iret hx hb hlocks hK hR hS hr (by decide : rg (-3 : Int)) dX3_removeFolder_23
abbrev rmX3_needTwoEntries : Room := { frames := 2, cells := 0, slots := 0, locals := 42 }
theorem hyX3_needTwoEntries : yX3_needTwoEntries.cls = RX3 ∧ yX3_needTwoEntries.cls ≠ "java/lang/invoke/MethodHandle" ∧ yX3_needTwoEntries.cls ≠ "java/lang/invoke/VarHandle" ∧ (parseMethodDescriptor yX3_needTwoEntries.desc).map (fun d => d.parameters.length) = some 4 := by decide +kernel
def F_X3_needTwoEntries (M : Mm) (a1 : Int) (a2 : Int) (a3 : Int) (a4 : Int) : Option (Unit) := (xb1 (F_X3_needPower M ) fun _ => (xb1 (F_X3_needNode M a1) fun _ => (xb1 (F_X3_needNode M a3) fun _ => (xb1 (F_X3_needRange M a2 (1 : Int) (99 : Int)) fun _ => (xb1 (F_X3_needRange M a4 (1 : Int) (99 : Int)) fun _ => (some ()))))))
set_option maxHeartbeats 4000000 in
set_option maxRecDepth 100000 in
theorem c_X3_needTwoEntries {l : Launch} {g : Gx} {b : Nat} {M : Mm} {a1 : Int} {a2 : Int} {a3 : Int} {a4 : Int} (ha1 : rg a1) (ha2 : rg a2) (ha3 : rg a3) (ha4 : rg a4) (hF : F_X3_needTwoEntries M a1 a2 a3 a4 = some ()) : Ct l yX3_needTwoEntries cX3_needTwoEntries 5 none rmX3_needTwoEntries g b [.ref (adr b 0 0), .int (jI a1), .int (jI a2), .int (jI a3), .int (jI a4)] M (qV g b M) := by
  refine ct_of (by decide +kernel) (Nat.le_of_ble_eq_true rfl) ?_
  intro p e s m args below meth c C0 hR ls hl
  obtain ⟨hx, hb, hr, hlocks, hml, hown, hts, hK⟩ := id C0
  have hS : va_S (AA b s.heap.size) s.heap s.heap [] := va_S.rf
  have hl : lv_has ls 5 [(0, .ref (adr b 0 0)), (1, .int (jI a1)), (2, .int (jI a2)), (3, .int (jI a3)), (4, .int (jI a4))] := hl
  obtain ⟨H, hH⟩ : ∃ z, z = s.heap := ⟨_, rfl⟩
  obtain ⟨locs, hlo⟩ : ∃ z : List Loc, z = [] := ⟨_, rfl⟩
  have hR : Rel g b M H := by rw [hH]; exact hR
  have hS : va_S (AA b s.heap.size) s.heap H locs := by rw [hH, hlo]; exact hS
  suffices hW : W p l e rmX3_needTwoEntries s m args below meth c H locs 0 0 (MQ below (qV g b M s.heap.size) args s 0 0 (AA b s.heap.size)) (F0 m 0 ls []) by rw [hH, hlo] at hW; exact hW
  rw [F_X3_needTwoEntries] at hF
  refine lv_aload_n hx hb dX3_needTwoEntries_0 rfl (lv_at hl 0 rfl) ?_
  obtain ⟨_, hc1, hF⟩ := xb1_some hF
  refine x_cVv (C := RX3) (T := TX3) (N := 9) (ci := 3) (As := []) (rest := []) hx hb hml hown hts hK hR hS (c_X3_needPower  hc1) ok0 rfl rfl wd170 wd172 ws0 wd1 wd173 hyX3_needPower ⟨rfl, rfl⟩ ⟨Nat.le_of_ble_eq_true rfl, Nat.le_of_ble_eq_true rfl⟩ hl.1 (Nat.le_of_ble_eq_true rfl) dX3_needTwoEntries_1 ⟨Nat.zero_le _, Nat.zero_le _⟩ rfl (fun H locs hR hS => ?_)
  refine lv_aload_n hx hb dX3_needTwoEntries_4 rfl (lv_at hl 0 rfl) ?_
  refine lv_iload_n hx hb dX3_needTwoEntries_5 rfl (lv_at hl 1 rfl) ?_
  obtain ⟨_, hc2, hF⟩ := xb1_some hF
  refine x_cVv (C := RX3) (T := TX3) (N := 9) (ci := 3) (As := [.int (jI a1)]) (rest := []) hx hb hml hown hts hK hR hS (c_X3_needNode ha1 hc2) ok0 rfl rfl wd346 wd348 ws5 wd1 wd349 hyX3_needNode ⟨rfl, rfl⟩ ⟨Nat.le_of_ble_eq_true rfl, Nat.le_of_ble_eq_true rfl⟩ hl.1 (Nat.le_of_ble_eq_true rfl) dX3_needTwoEntries_6 ⟨Nat.zero_le _, Nat.zero_le _⟩ rfl (fun H locs hR hS => ?_)
  refine lv_aload_n hx hb dX3_needTwoEntries_9 rfl (lv_at hl 0 rfl) ?_
  refine lv_iload_n hx hb dX3_needTwoEntries_10 rfl (lv_at hl 3 rfl) ?_
  obtain ⟨_, hc3, hF⟩ := xb1_some hF
  refine x_cVv (C := RX3) (T := TX3) (N := 9) (ci := 3) (As := [.int (jI a3)]) (rest := []) hx hb hml hown hts hK hR hS (c_X3_needNode ha3 hc3) ok0 rfl rfl wd346 wd348 ws5 wd1 wd349 hyX3_needNode ⟨rfl, rfl⟩ ⟨Nat.le_of_ble_eq_true rfl, Nat.le_of_ble_eq_true rfl⟩ hl.1 (Nat.le_of_ble_eq_true rfl) dX3_needTwoEntries_11 ⟨Nat.zero_le _, Nat.zero_le _⟩ rfl (fun H locs hR hS => ?_)
  refine lv_aload_n hx hb dX3_needTwoEntries_14 rfl (lv_at hl 0 rfl) ?_
  refine lv_iload_n hx hb dX3_needTwoEntries_15 rfl (lv_at hl 2 rfl) ?_
  refine x_iconst hx hb dX3_needTwoEntries_16 ?_
  refine x_bipush hx hb (by decide +kernel) dX3_needTwoEntries_17 ?_
  obtain ⟨_, hc4, hF⟩ := xb1_some hF
  refine x_cVv (C := RX3) (T := TX3) (N := 9) (ci := 3) (As := [.int (jI a2), .int (jI (1 : Int)), .int (jI (99 : Int))]) (rest := []) hx hb hml hown hts hK hR hS (c_X3_needRange ha2 (by decide : rg (1 : Int)) (by decide : rg (99 : Int)) hc4) ok0 rfl rfl wd419 wd421 ws6 wd1 wd422 hyX3_needRange ⟨rfl, rfl⟩ ⟨Nat.le_of_ble_eq_true rfl, Nat.le_of_ble_eq_true rfl⟩ hl.1 (Nat.le_of_ble_eq_true rfl) dX3_needTwoEntries_19 ⟨Nat.zero_le _, Nat.zero_le _⟩ rfl (fun H locs hR hS => ?_)
  refine lv_aload_n hx hb dX3_needTwoEntries_22 rfl (lv_at hl 0 rfl) ?_
  refine lv_iload hx hb dX3_needTwoEntries_23 (lv_at hl 4 rfl) ?_
  refine x_iconst hx hb dX3_needTwoEntries_25 ?_
  refine x_bipush hx hb (by decide +kernel) dX3_needTwoEntries_26 ?_
  obtain ⟨_, hc5, hF⟩ := xb1_some hF
  refine x_cVv (C := RX3) (T := TX3) (N := 9) (ci := 3) (As := [.int (jI a4), .int (jI (1 : Int)), .int (jI (99 : Int))]) (rest := []) hx hb hml hown hts hK hR hS (c_X3_needRange ha4 (by decide : rg (1 : Int)) (by decide : rg (99 : Int)) hc5) ok0 rfl rfl wd419 wd421 ws6 wd1 wd422 hyX3_needRange ⟨rfl, rfl⟩ ⟨Nat.le_of_ble_eq_true rfl, Nat.le_of_ble_eq_true rfl⟩ hl.1 (Nat.le_of_ble_eq_true rfl) dX3_needTwoEntries_28 ⟨Nat.zero_le _, Nat.zero_le _⟩ rfl (fun H locs hR hS => ?_)
  cases hF
  exact x_vret hx hb hlocks hK hR hS hr dX3_needTwoEntries_31
abbrev rmX3_hindranceToMove : Room := { frames := 2, cells := 0, slots := 0, locals := 45 }
theorem hyX3_hindranceToMove : yX3_hindranceToMove.cls = RX3 ∧ yX3_hindranceToMove.cls ≠ "java/lang/invoke/MethodHandle" ∧ yX3_hindranceToMove.cls ≠ "java/lang/invoke/VarHandle" ∧ (parseMethodDescriptor yX3_hindranceToMove.desc).map (fun d => d.parameters.length) = some 4 := by decide +kernel
def F_X3_hindranceToMove_93 (M : Mm)  (v7 : Nat) (s0 : Int) : Option (Int) := (if (M 2 v7 0) = (2 : Int) then (if s0 = (1 : Int) then (if (M 2 v7 8) ≤ 0 then (some (0 : Int)) else (some (-4 : Int))) else (some (-3 : Int))) else (if s0 = (0 : Int) then (if (M 2 v7 8) ≤ 0 then (some (0 : Int)) else (some (-4 : Int))) else (some (-3 : Int))))
set_option maxHeartbeats 4000000 in
set_option maxRecDepth 100000 in
theorem w_X3_hindranceToMove_93 {p : Program} {l : Launch} {e : Env} {s : State} {m : MethodId} {args : Array Value} {below : List Frame} {meth : Method} {c : Code} {g : Gx} {b : Nat} (C0 : XA p s m meth c args RX3 cX3_hindranceToMove 8 (some .int) g) {r : Int} {M : Mm} : ∀ (v7 : Nat) (s0 : Int) (hv7 : v7 < 99) (hs0 : rg s0) (H : Heap) (locs : List Loc), Rel g b M H → va_S (AA b s.heap.size) s.heap H locs → ∀ ls : Array Slot, lv_has ls 8 [(7, .ref (adr b 2 v7))] → F_X3_hindranceToMove_93 M  v7 s0 = some r → W p l e rmX3_hindranceToMove s m args below meth c H locs 0 0 (MQ below (qI g b r M s.heap.size) args s 0 0 (AA b s.heap.size)) (F0 m 93 ls [.int (jI s0)]) := by
  obtain ⟨hx, hb, hr, hlocks, hml, hown, hts, hK⟩ := id C0
  intro v7 s0 hv7 hs0 H locs hR hS ls hl hF
  rw [F_X3_hindranceToMove_93] at hF
  refine lv_aload hx hb dX3_hindranceToMove_93 (lv_at hl 0 rfl) ?_
  refine gf_1_0 hx hb hts hown hK hR hv7 wd36 dX3_hindranceToMove_95 ?_
  have hg1 : rg (M 2 v7 0) := hR.2 2 v7 0 (by decide)
  refine x_iconst hx hb dX3_hindranceToMove_98 ?_
  refine x_icmp_ne (tgt := 106) hx hb hg1 (by decide : rg (2 : Int)) dX3_hindranceToMove_99 (by decide) (fun ci2 => ?_) (fun ci2 => ?_)
  · rw [if_neg ci2] at hF
    refine x_iconst hx hb dX3_hindranceToMove_106 ?_
    refine x_icmp_eq (tgt := 113) hx hb hs0 (by decide : rg (0 : Int)) dX3_hindranceToMove_107 (by decide) (fun ci3 => ?_) (fun ci3 => ?_)
    · rw [if_pos ci3] at hF
      refine lv_aload hx hb dX3_hindranceToMove_113 (lv_at hl 0 rfl) ?_
      refine gf_1_8 hx hb hts hown hK hR hv7 wd56 dX3_hindranceToMove_115 ?_
      have hg4 : rg (M 2 v7 8) := hR.2 2 v7 8 (by decide)
      refine x_if_le (tgt := 126) hx hb hg4 dX3_hindranceToMove_118 (by decide) (fun ci5 => ?_) (fun ci5 => ?_)
      · rw [if_pos ci5] at hF
        refine x_iconst hx hb dX3_hindranceToMove_126 ?_
        cases hF
        exact x_iret hx hb hlocks hK hR hS hr (by decide : rg (0 : Int)) dX3_hindranceToMove_127
      · rw [if_neg ci5] at hF
        refine x_bipush hx hb (by decide +kernel) dX3_hindranceToMove_121 ?_
        refine lv_goto (tgt := 127) hx hb dX3_hindranceToMove_123 (by decide) ?_
        cases hF
        exact x_iret hx hb hlocks hK hR hS hr (by decide : rg (-4 : Int)) dX3_hindranceToMove_127
    · rw [if_neg ci3] at hF
      refine x_bipush hx hb (by decide +kernel) dX3_hindranceToMove_110 ?_
      cases hF
      exact x_iret hx hb hlocks hK hR hS hr (by decide : rg (-3 : Int)) dX3_hindranceToMove_112
  · rw [if_pos ci2] at hF
    refine x_iconst hx hb dX3_hindranceToMove_102 ?_
    refine lv_goto (tgt := 107) hx hb dX3_hindranceToMove_103 (by decide) ?_
    refine x_icmp_eq (tgt := 113) hx hb hs0 (by decide : rg (1 : Int)) dX3_hindranceToMove_107 (by decide) (fun ci6 => ?_) (fun ci6 => ?_)
    · rw [if_pos ci6] at hF
      refine lv_aload hx hb dX3_hindranceToMove_113 (lv_at hl 0 rfl) ?_
      refine gf_1_8 hx hb hts hown hK hR hv7 wd56 dX3_hindranceToMove_115 ?_
      have hg7 : rg (M 2 v7 8) := hR.2 2 v7 8 (by decide)
      refine x_if_le (tgt := 126) hx hb hg7 dX3_hindranceToMove_118 (by decide) (fun ci8 => ?_) (fun ci8 => ?_)
      · rw [if_pos ci8] at hF
        refine x_iconst hx hb dX3_hindranceToMove_126 ?_
        cases hF
        exact x_iret hx hb hlocks hK hR hS hr (by decide : rg (0 : Int)) dX3_hindranceToMove_127
      · rw [if_neg ci8] at hF
        refine x_bipush hx hb (by decide +kernel) dX3_hindranceToMove_121 ?_
        refine lv_goto (tgt := 127) hx hb dX3_hindranceToMove_123 (by decide) ?_
        cases hF
        exact x_iret hx hb hlocks hK hR hS hr (by decide : rg (-4 : Int)) dX3_hindranceToMove_127
    · rw [if_neg ci6] at hF
      refine x_bipush hx hb (by decide +kernel) dX3_hindranceToMove_110 ?_
      cases hF
      exact x_iret hx hb hlocks hK hR hS hr (by decide : rg (-3 : Int)) dX3_hindranceToMove_112
def F_X3_hindranceToMove (M : Mm) (a1 : Int) (a2 : Int) (a3 : Int) (a4 : Int) : Option (Int) := (xk (M 0 0 0 = 0 ∨ M 0 0 0 = 1) (xb1 (F_X2_isWithin M ((M 0 0 0).toNat) a3 a2) fun y4 => (if y4 = 0 then (xk (M 0 0 0 = 0 ∨ M 0 0 0 = 1) (xb1 (F_X2_at M ((M 0 0 0).toNat) a3) fun y10 => (xb1 (F_X1_nodeNamed M y10 a4) fun y14 => (if y14 = (-1 : Int) then (if a3 = a1 then (some (0 : Int)) else (if (M 2 y10 8) < (12 : Int) then (some (0 : Int)) else (some (-5 : Int)))) else (xk (M 0 0 0 = 0 ∨ M 0 0 0 = 1) (xb1 (F_X2_at M ((M 0 0 0).toNat) y14) fun y20 => (xk (M 0 0 0 = 0 ∨ M 0 0 0 = 1) (xb1 (F_X2_at M ((M 0 0 0).toNat) a2) fun y26 => (if (M 2 y26 0) = (2 : Int) then (F_X3_hindranceToMove_93 M  y20 (1 : Int)) else (F_X3_hindranceToMove_93 M  y20 (0 : Int))))))))))) else (some (-6 : Int)))))
set_option maxHeartbeats 4000000 in
set_option maxRecDepth 100000 in
theorem c_X3_hindranceToMove {l : Launch} {g : Gx} {b : Nat} {M : Mm} {a1 : Int} {a2 : Int} {a3 : Int} {a4 : Int} {r : Int} (ha1 : rg a1) (ha2 : rg a2) (ha3 : rg a3) (ha4 : rg a4) (hF : F_X3_hindranceToMove M a1 a2 a3 a4 = some r) : Ct l yX3_hindranceToMove cX3_hindranceToMove 8 (some .int) rmX3_hindranceToMove g b [.ref (adr b 0 0), .int (jI a1), .int (jI a2), .int (jI a3), .int (jI a4)] M (qI g b r M) := by
  refine ct_of (by decide +kernel) (Nat.le_of_ble_eq_true rfl) ?_
  intro p e s m args below meth c C0 hR ls hl
  obtain ⟨hx, hb, hr, hlocks, hml, hown, hts, hK⟩ := id C0
  have hS : va_S (AA b s.heap.size) s.heap s.heap [] := va_S.rf
  have hl : lv_has ls 8 [(0, .ref (adr b 0 0)), (1, .int (jI a1)), (2, .int (jI a2)), (3, .int (jI a3)), (4, .int (jI a4))] := hl
  obtain ⟨H, hH⟩ : ∃ z, z = s.heap := ⟨_, rfl⟩
  obtain ⟨locs, hlo⟩ : ∃ z : List Loc, z = [] := ⟨_, rfl⟩
  have hR : Rel g b M H := by rw [hH]; exact hR
  have hS : va_S (AA b s.heap.size) s.heap H locs := by rw [hH, hlo]; exact hS
  suffices hW : W p l e rmX3_hindranceToMove s m args below meth c H locs 0 0 (MQ below (qI g b r M s.heap.size) args s 0 0 (AA b s.heap.size)) (F0 m 0 ls []) by rw [hH, hlo] at hW; exact hW
  rw [F_X3_hindranceToMove] at hF
  refine lv_aload_n hx hb dX3_hindranceToMove_0 rfl (lv_at hl 0 rfl) ?_
  refine gf_3_0 hx hb hts hown hK hR wd138 dX3_hindranceToMove_1 ?_
  obtain ⟨ht1, hF⟩ := xk_some hF
  have hj2 : (M 0 0 0).toNat < 3 := by omega
  refine lv_iload_n hx hb dX3_hindranceToMove_4 rfl (lv_at hl 3 rfl) ?_
  refine lv_iload_n hx hb dX3_hindranceToMove_5 rfl (lv_at hl 2 rfl) ?_
  obtain ⟨y4, hc3, hF⟩ := xb1_some hF
  refine x_cVi (C := RX2) (T := TX2) (N := 8) (ci := 2) (As := [.int (jI a3), .int (jI a2)]) (rest := []) hx hb hml hown hts hK hR hS (c_X2_isWithin hj2 ha3 ha2 hc3) (ok1 hj2) rfl rfl wd721 wd722 wd723 wd2 wd724 hyX2_isWithin ⟨rfl, rfl⟩ ⟨Nat.le_of_ble_eq_true rfl, Nat.le_of_ble_eq_true rfl⟩ hl.1 (Nat.le_of_ble_eq_true rfl) dX3_hindranceToMove_6 ⟨Nat.zero_le _, Nat.zero_le _⟩ rfl (fun hg5 H locs hR hS => ?_)
  refine x_if_eq (tgt := 15) hx hb hg5 dX3_hindranceToMove_9 (by decide) (fun ci6 => ?_) (fun ci6 => ?_)
  · rw [if_pos ci6] at hF
    refine lv_aload_n hx hb dX3_hindranceToMove_15 rfl (lv_at hl 0 rfl) ?_
    refine gf_3_0 hx hb hts hown hK hR wd138 dX3_hindranceToMove_16 ?_
    obtain ⟨ht7, hF⟩ := xk_some hF
    have hj8 : (M 0 0 0).toNat < 3 := by omega
    refine lv_iload_n hx hb dX3_hindranceToMove_19 rfl (lv_at hl 3 rfl) ?_
    obtain ⟨y10, hc9, hF⟩ := xb1_some hF
    refine x_cVr (C := RX2) (T := TX2) (N := 8) (ci := 2) (As := [.int (jI a3)]) (rest := []) hx hb hml hown hts hK hR hS (c_X2_at hj8 ha3 hc9) (ok1 hj8) rfl rfl wd337 wd255 wd256 wd2 wd257 hyX2_at ⟨rfl, rfl⟩ ⟨Nat.le_of_ble_eq_true rfl, Nat.le_of_ble_eq_true rfl⟩ hl.1 (Nat.le_of_ble_eq_true rfl) dX3_hindranceToMove_20 ⟨Nat.zero_le _, Nat.zero_le _⟩ rfl (fun hg11 H locs hR hS => ?_)
    have hj12 : y10 < 99 := lt2 hg11
    refine lv_astore (lv' := [(5, .ref (adr b 2 y10)), (0, .ref (adr b 0 0)), (1, .int (jI a1)), (2, .int (jI a2)), (3, .int (jI a3)), (4, .int (jI a4))]) hx hb dX3_hindranceToMove_23 hl (by decide) rfl (fun ls hl => ?_)
    refine lv_aload hx hb dX3_hindranceToMove_25 (lv_at hl 0 rfl) ?_
    refine lv_iload hx hb dX3_hindranceToMove_27 (lv_at hl 5 rfl) ?_
    obtain ⟨y14, hc13, hF⟩ := xb1_some hF
    refine x_cVi (C := RX1) (T := TX1) (N := 12) (ci := 1) (As := [.int (jI a4)]) (rest := []) hx hb hml hown hts hK hR hS (c_X1_nodeNamed hj12 ha4 hc13) (ok2 hj12) rfl rfl wd560 wd561 wd562 wd3 wd563 hyX1_nodeNamed ⟨rfl, rfl⟩ ⟨Nat.le_of_ble_eq_true rfl, Nat.le_of_ble_eq_true rfl⟩ hl.1 (Nat.le_of_ble_eq_true rfl) dX3_hindranceToMove_29 ⟨Nat.zero_le _, Nat.zero_le _⟩ rfl (fun hg15 H locs hR hS => ?_)
    refine lv_istore (lv' := [(6, .int (jI y14)), (5, .ref (adr b 2 y10)), (0, .ref (adr b 0 0)), (1, .int (jI a1)), (2, .int (jI a2)), (3, .int (jI a3)), (4, .int (jI a4))]) hx hb dX3_hindranceToMove_32 hl (by decide) rfl (fun ls hl => ?_)
    refine lv_iload hx hb dX3_hindranceToMove_34 (lv_at hl 0 rfl) ?_
    refine x_iconst hx hb dX3_hindranceToMove_36 ?_
    refine x_icmp_ne (tgt := 62) hx hb hg15 (by decide : rg (-1 : Int)) dX3_hindranceToMove_37 (by decide) (fun ci16 => ?_) (fun ci16 => ?_)
    · rw [if_neg ci16] at hF
      refine lv_aload_n hx hb dX3_hindranceToMove_62 rfl (lv_at hl 2 rfl) ?_
      refine gf_3_0 hx hb hts hown hK hR wd138 dX3_hindranceToMove_63 ?_
      obtain ⟨ht17, hF⟩ := xk_some hF
      have hj18 : (M 0 0 0).toNat < 3 := by omega
      refine lv_iload hx hb dX3_hindranceToMove_66 (lv_at hl 0 rfl) ?_
      obtain ⟨y20, hc19, hF⟩ := xb1_some hF
      refine x_cVr (C := RX2) (T := TX2) (N := 8) (ci := 2) (As := [.int (jI y14)]) (rest := []) hx hb hml hown hts hK hR hS (c_X2_at hj18 hg15 hc19) (ok1 hj18) rfl rfl wd337 wd255 wd256 wd2 wd257 hyX2_at ⟨rfl, rfl⟩ ⟨Nat.le_of_ble_eq_true rfl, Nat.le_of_ble_eq_true rfl⟩ hl.1 (Nat.le_of_ble_eq_true rfl) dX3_hindranceToMove_68 ⟨Nat.zero_le _, Nat.zero_le _⟩ rfl (fun hg21 H locs hR hS => ?_)
      have hj22 : y20 < 99 := lt2 hg21
      refine lv_astore (lv' := [(7, .ref (adr b 2 y20)), (6, .int (jI y14)), (5, .ref (adr b 2 y10)), (0, .ref (adr b 0 0)), (1, .int (jI a1)), (2, .int (jI a2)), (3, .int (jI a3)), (4, .int (jI a4))]) hx hb dX3_hindranceToMove_71 hl (by decide) rfl (fun ls hl => ?_)
      refine lv_aload_n hx hb dX3_hindranceToMove_73 rfl (lv_at hl 3 rfl) ?_
      refine gf_3_0 hx hb hts hown hK hR wd138 dX3_hindranceToMove_74 ?_
      obtain ⟨ht23, hF⟩ := xk_some hF
      have hj24 : (M 0 0 0).toNat < 3 := by omega
      refine lv_iload_n hx hb dX3_hindranceToMove_77 rfl (lv_at hl 5 rfl) ?_
      obtain ⟨y26, hc25, hF⟩ := xb1_some hF
      refine x_cVr (C := RX2) (T := TX2) (N := 8) (ci := 2) (As := [.int (jI a2)]) (rest := []) hx hb hml hown hts hK hR hS (c_X2_at hj24 ha2 hc25) (ok1 hj24) rfl rfl wd337 wd255 wd256 wd2 wd257 hyX2_at ⟨rfl, rfl⟩ ⟨Nat.le_of_ble_eq_true rfl, Nat.le_of_ble_eq_true rfl⟩ hl.1 (Nat.le_of_ble_eq_true rfl) dX3_hindranceToMove_78 ⟨Nat.zero_le _, Nat.zero_le _⟩ rfl (fun hg27 H locs hR hS => ?_)
      have hj28 : y26 < 99 := lt2 hg27
      refine gf_1_0 hx hb hts hown hK hR hj28 wd36 dX3_hindranceToMove_81 ?_
      have hg29 : rg (M 2 y26 0) := hR.2 2 y26 0 (by decide)
      refine x_iconst hx hb dX3_hindranceToMove_84 ?_
      refine x_icmp_ne (tgt := 92) hx hb hg29 (by decide : rg (2 : Int)) dX3_hindranceToMove_85 (by decide) (fun ci30 => ?_) (fun ci30 => ?_)
      · rw [if_neg ci30] at hF
        refine x_iconst hx hb dX3_hindranceToMove_92 ?_
        exact w_X3_hindranceToMove_93 C0  y20 (0 : Int) hj22 (by decide : rg (0 : Int)) H locs hR hS ls (lv_sub hl [0] rfl) hF
      · rw [if_pos ci30] at hF
        refine x_iconst hx hb dX3_hindranceToMove_88 ?_
        refine lv_goto (tgt := 93) hx hb dX3_hindranceToMove_89 (by decide) ?_
        exact w_X3_hindranceToMove_93 C0  y20 (1 : Int) hj22 (by decide : rg (1 : Int)) H locs hR hS ls (lv_sub hl [0] rfl) hF
    · rw [if_pos ci16] at hF
      refine lv_iload_n hx hb dX3_hindranceToMove_40 rfl (lv_at hl 5 rfl) ?_
      refine lv_iload_n hx hb dX3_hindranceToMove_41 rfl (lv_at hl 3 rfl) ?_
      refine x_icmp_eq (tgt := 60) hx hb ha3 ha1 dX3_hindranceToMove_42 (by decide) (fun ci31 => ?_) (fun ci31 => ?_)
      · rw [if_pos ci31] at hF
        refine x_iconst hx hb dX3_hindranceToMove_60 ?_
        cases hF
        exact x_iret hx hb hlocks hK hR hS hr (by decide : rg (0 : Int)) dX3_hindranceToMove_61
      · rw [if_neg ci31] at hF
        refine lv_aload hx hb dX3_hindranceToMove_45 (lv_at hl 1 rfl) ?_
        refine gf_1_8 hx hb hts hown hK hR hj12 wd56 dX3_hindranceToMove_47 ?_
        have hg32 : rg (M 2 y10 8) := hR.2 2 y10 8 (by decide)
        refine x_bipush hx hb (by decide +kernel) dX3_hindranceToMove_50 ?_
        refine x_icmp_lt (tgt := 60) hx hb hg32 (by decide : rg (12 : Int)) dX3_hindranceToMove_52 (by decide) (fun ci33 => ?_) (fun ci33 => ?_)
        · rw [if_pos ci33] at hF
          refine x_iconst hx hb dX3_hindranceToMove_60 ?_
          cases hF
          exact x_iret hx hb hlocks hK hR hS hr (by decide : rg (0 : Int)) dX3_hindranceToMove_61
        · rw [if_neg ci33] at hF
          refine x_bipush hx hb (by decide +kernel) dX3_hindranceToMove_55 ?_
          refine lv_goto (tgt := 61) hx hb dX3_hindranceToMove_57 (by decide) ?_
          cases hF
          exact x_iret hx hb hlocks hK hR hS hr (by decide : rg (-5 : Int)) dX3_hindranceToMove_61
  · rw [if_neg ci6] at hF
    refine x_bipush hx hb (by decide +kernel) dX3_hindranceToMove_12 ?_
    cases hF
    exact x_iret hx hb hlocks hK hR hS hr (by decide : rg (-6 : Int)) dX3_hindranceToMove_14
abbrev rmX3_rename : Room := { frames := 6, cells := 0, slots := 0, locals := 131 }
theorem hyX3_rename : yX3_rename.cls = RX3 ∧ yX3_rename.cls ≠ "java/lang/invoke/MethodHandle" ∧ yX3_rename.cls ≠ "java/lang/invoke/VarHandle" ∧ (parseMethodDescriptor yX3_rename.desc).map (fun d => d.parameters.length) = some 4 := by decide +kernel
def F_X3_rename_108  (M : Mm) (v1 : Int) (v2 : Int) (v3 : Int) (v4 : Int) (v5 : Int) (v6 : Int) (s0 : Int) : Option (Int × Mm) := (if s0 = 0 then (xb1 (F_X3_startDraft M ) fun M3 => (if v6 = 0 then (xk (M3 0 0 1 = 0 ∨ M3 0 0 1 = 1) (xb2 (F_X2_detach M3 ((M3 0 0 1).toNat) v1 v2) fun y12 M13 => (xb1 (F_X3_takeName M13 v3 v4) fun M16 => (xk (M16 0 0 1 = 0 ∨ M16 0 0 1 = 1) (xb1 (F_X2_attach M16 ((M16 0 0 1).toNat) v3 v4 v5) fun M20 => (xb2 (F_X3_settle M20 v5) fun y22 M23 => (some (y22, M23)))))))) else (xb2 (F_X3_settle M3 v5) fun y6 M7 => (some (y6, M7))))) else (some (s0, M)))
set_option maxHeartbeats 4000000 in
set_option maxRecDepth 100000 in
theorem w_X3_rename_108 {p : Program} {l : Launch} {e : Env} {s : State} {m : MethodId} {args : Array Value} {below : List Frame} {meth : Method} {c : Code} {g : Gx} {b : Nat} (C0 : XA p s m meth c args RX3 cX3_rename 8 (some .int) g) {r : Int} {M' : Mm} : ∀ (M : Mm) (v1 : Int) (v2 : Int) (v3 : Int) (v4 : Int) (v5 : Int) (v6 : Int) (s0 : Int) (hv1 : rg v1) (hv2 : rg v2) (hv3 : rg v3) (hv4 : rg v4) (hv5 : rg v5) (hv6 : rg v6) (hs0 : rg s0) (H : Heap) (locs : List Loc), Rel g b M H → va_S (AA b s.heap.size) s.heap H locs → ∀ ls : Array Slot, lv_has ls 8 [(0, .ref (adr b 0 0)), (1, .int (jI v1)), (2, .int (jI v2)), (3, .int (jI v3)), (4, .int (jI v4)), (5, .int (jI v5)), (6, .int (jI v6))] → F_X3_rename_108  M v1 v2 v3 v4 v5 v6 s0 = some (r, M') → W p l e rmX3_rename s m args below meth c H locs 0 0 (MQ below (qI g b r M' s.heap.size) args s 0 0 (AA b s.heap.size)) (F0 m 108 ls [.int (jI s0)]) := by
  obtain ⟨hx, hb, hr, hlocks, hml, hown, hts, hK⟩ := id C0
  intro M v1 v2 v3 v4 v5 v6 s0 hv1 hv2 hv3 hv4 hv5 hv6 hs0 H locs hR hS ls hl hF
  rw [F_X3_rename_108] at hF
  refine lv_istore (lv' := [(7, .int (jI s0)), (0, .ref (adr b 0 0)), (1, .int (jI v1)), (2, .int (jI v2)), (3, .int (jI v3)), (4, .int (jI v4)), (5, .int (jI v5)), (6, .int (jI v6))]) hx hb dX3_rename_108 hl (by decide) rfl (fun ls hl => ?_)
  refine lv_iload hx hb dX3_rename_110 (lv_at hl 0 rfl) ?_
  refine x_if_eq (tgt := 118) hx hb hs0 dX3_rename_112 (by decide) (fun ci1 => ?_) (fun ci1 => ?_)
  · rw [if_pos ci1] at hF
    refine lv_aload_n hx hb dX3_rename_118 rfl (lv_at hl 1 rfl) ?_
    obtain ⟨M3, hc2, hF⟩ := xb1_some hF
    refine x_cVv (C := RX3) (T := TX3) (N := 9) (ci := 3) (As := []) (rest := []) hx hb hml hown hts hK hR hS (c_X3_startDraft  hc2) ok0 rfl rfl wd633 wd635 ws14 wd1 wd636 hyX3_startDraft ⟨rfl, rfl⟩ ⟨Nat.le_of_ble_eq_true rfl, Nat.le_of_ble_eq_true rfl⟩ hl.1 (Nat.le_of_ble_eq_true rfl) dX3_rename_119 ⟨Nat.zero_le _, Nat.zero_le _⟩ rfl (fun H locs hR hS => ?_)
    refine lv_iload hx hb dX3_rename_122 (lv_at hl 7 rfl) ?_
    refine x_if_ne (tgt := 156) hx hb hv6 dX3_rename_124 (by decide) (fun ci4 => ?_) (fun ci4 => ?_)
    · rw [if_neg ci4] at hF
      refine lv_aload_n hx hb dX3_rename_156 rfl (lv_at hl 1 rfl) ?_
      refine lv_iload hx hb dX3_rename_157 (lv_at hl 6 rfl) ?_
      obtain ⟨y6, M7, hc5, hF⟩ := xb2_some hF
      refine x_cVi (C := RX3) (T := TX3) (N := 9) (ci := 3) (As := [.int (jI v5)]) (rest := []) hx hb hml hown hts hK hR hS (c_X3_settle hv5 hc5) ok0 rfl rfl wd653 wd655 ws15 wd1 wd656 hyX3_settle ⟨rfl, rfl⟩ ⟨Nat.le_of_ble_eq_true rfl, Nat.le_of_ble_eq_true rfl⟩ hl.1 (Nat.le_of_ble_eq_true rfl) dX3_rename_159 ⟨Nat.zero_le _, Nat.zero_le _⟩ rfl (fun hg8 H locs hR hS => ?_)
      cases hF
      exact x_iret hx hb hlocks hK hR hS hr hg8 dX3_rename_162
    · rw [if_pos ci4] at hF
      refine lv_aload_n hx hb dX3_rename_127 rfl (lv_at hl 1 rfl) ?_
      refine gf_3_1 hx hb hts hown hK hR wd139 dX3_rename_128 ?_
      obtain ⟨ht9, hF⟩ := xk_some hF
      have hj10 : (M3 0 0 1).toNat < 3 := by omega
      refine lv_iload_n hx hb dX3_rename_131 rfl (lv_at hl 2 rfl) ?_
      refine lv_iload_n hx hb dX3_rename_132 rfl (lv_at hl 3 rfl) ?_
      obtain ⟨y12, M13, hc11, hF⟩ := xb2_some hF
      refine x_cVi (C := RX2) (T := TX2) (N := 8) (ci := 2) (As := [.int (jI v1), .int (jI v2)]) (rest := []) hx hb hml hown hts hK hR hS (c_X2_detach hj10 hv1 hv2 hc11) (ok1 hj10) rfl rfl wd691 wd692 wd693 wd2 wd694 hyX2_detach ⟨rfl, rfl⟩ ⟨Nat.le_of_ble_eq_true rfl, Nat.le_of_ble_eq_true rfl⟩ hl.1 (Nat.le_of_ble_eq_true rfl) dX3_rename_133 ⟨Nat.zero_le _, Nat.zero_le _⟩ rfl (fun hg14 H locs hR hS => ?_)
      refine lv_pop hx hb dX3_rename_136 rfl ?_
      refine lv_aload_n hx hb dX3_rename_137 rfl (lv_at hl 1 rfl) ?_
      refine lv_iload_n hx hb dX3_rename_138 rfl (lv_at hl 4 rfl) ?_
      refine lv_iload hx hb dX3_rename_139 (lv_at hl 5 rfl) ?_
      obtain ⟨M16, hc15, hF⟩ := xb1_some hF
      refine x_cVv (C := RX3) (T := TX3) (N := 9) (ci := 3) (As := [.int (jI v3), .int (jI v4)]) (rest := []) hx hb hml hown hts hK hR hS (c_X3_takeName hv3 hv4 hc15) ok0 rfl rfl wd687 wd689 ws17 wd1 wd690 hyX3_takeName ⟨rfl, rfl⟩ ⟨Nat.le_of_ble_eq_true rfl, Nat.le_of_ble_eq_true rfl⟩ hl.1 (Nat.le_of_ble_eq_true rfl) dX3_rename_141 ⟨Nat.zero_le _, Nat.zero_le _⟩ rfl (fun H locs hR hS => ?_)
      refine lv_aload_n hx hb dX3_rename_144 rfl (lv_at hl 1 rfl) ?_
      refine gf_3_1 hx hb hts hown hK hR wd139 dX3_rename_145 ?_
      obtain ⟨ht17, hF⟩ := xk_some hF
      have hj18 : (M16 0 0 1).toNat < 3 := by omega
      refine lv_iload_n hx hb dX3_rename_148 rfl (lv_at hl 4 rfl) ?_
      refine lv_iload hx hb dX3_rename_149 (lv_at hl 5 rfl) ?_
      refine lv_iload hx hb dX3_rename_151 (lv_at hl 6 rfl) ?_
      obtain ⟨M20, hc19, hF⟩ := xb1_some hF
      refine x_cVv (C := RX2) (T := TX2) (N := 8) (ci := 2) (As := [.int (jI v3), .int (jI v4), .int (jI v5)]) (rest := []) hx hb hml hown hts hK hR hS (c_X2_attach hj18 hv3 hv4 hv5 hc19) (ok1 hj18) rfl rfl wd682 wd646 wd647 wd2 wd648 hyX2_attach ⟨rfl, rfl⟩ ⟨Nat.le_of_ble_eq_true rfl, Nat.le_of_ble_eq_true rfl⟩ hl.1 (Nat.le_of_ble_eq_true rfl) dX3_rename_153 ⟨Nat.zero_le _, Nat.zero_le _⟩ rfl (fun H locs hR hS => ?_)
      refine lv_aload_n hx hb dX3_rename_156 rfl (lv_at hl 1 rfl) ?_
      refine lv_iload hx hb dX3_rename_157 (lv_at hl 6 rfl) ?_
      obtain ⟨y22, M23, hc21, hF⟩ := xb2_some hF
      refine x_cVi (C := RX3) (T := TX3) (N := 9) (ci := 3) (As := [.int (jI v5)]) (rest := []) hx hb hml hown hts hK hR hS (c_X3_settle hv5 hc21) ok0 rfl rfl wd653 wd655 ws15 wd1 wd656 hyX3_settle ⟨rfl, rfl⟩ ⟨Nat.le_of_ble_eq_true rfl, Nat.le_of_ble_eq_true rfl⟩ hl.1 (Nat.le_of_ble_eq_true rfl) dX3_rename_159 ⟨Nat.zero_le _, Nat.zero_le _⟩ rfl (fun hg24 H locs hR hS => ?_)
      cases hF
      exact x_iret hx hb hlocks hK hR hS hr hg24 dX3_rename_162
  · rw [if_neg ci1] at hF
    refine lv_iload hx hb dX3_rename_115 (lv_at hl 0 rfl) ?_
    cases hF
    exact x_iret hx hb hlocks hK hR hS hr hs0 dX3_rename_117
def F_X3_rename_87  (M : Mm) (v1 : Int) (v2 : Int) (v3 : Int) (v4 : Int) (v5 : Int) (s0 : Int) : Option (Int × Mm) := (if s0 = 0 then (xb1 (F_X3_hindranceToMove M v1 v5 v3 v4) fun y3 => (F_X3_rename_108  M v1 v2 v3 v4 v5 s0 y3)) else (F_X3_rename_108  M v1 v2 v3 v4 v5 s0 (0 : Int)))
set_option maxHeartbeats 4000000 in
set_option maxRecDepth 100000 in
theorem w_X3_rename_87 {p : Program} {l : Launch} {e : Env} {s : State} {m : MethodId} {args : Array Value} {below : List Frame} {meth : Method} {c : Code} {g : Gx} {b : Nat} (C0 : XA p s m meth c args RX3 cX3_rename 8 (some .int) g) {r : Int} {M' : Mm} : ∀ (M : Mm) (v1 : Int) (v2 : Int) (v3 : Int) (v4 : Int) (v5 : Int) (s0 : Int) (hv1 : rg v1) (hv2 : rg v2) (hv3 : rg v3) (hv4 : rg v4) (hv5 : rg v5) (hs0 : rg s0) (H : Heap) (locs : List Loc), Rel g b M H → va_S (AA b s.heap.size) s.heap H locs → ∀ ls : Array Slot, lv_has ls 8 [(0, .ref (adr b 0 0)), (1, .int (jI v1)), (2, .int (jI v2)), (3, .int (jI v3)), (4, .int (jI v4)), (5, .int (jI v5))] → F_X3_rename_87  M v1 v2 v3 v4 v5 s0 = some (r, M') → W p l e rmX3_rename s m args below meth c H locs 0 0 (MQ below (qI g b r M' s.heap.size) args s 0 0 (AA b s.heap.size)) (F0 m 87 ls [.int (jI s0)]) := by
  obtain ⟨hx, hb, hr, hlocks, hml, hown, hts, hK⟩ := id C0
  intro M v1 v2 v3 v4 v5 s0 hv1 hv2 hv3 hv4 hv5 hs0 H locs hR hS ls hl hF
  rw [F_X3_rename_87] at hF
  refine lv_istore (lv' := [(6, .int (jI s0)), (0, .ref (adr b 0 0)), (1, .int (jI v1)), (2, .int (jI v2)), (3, .int (jI v3)), (4, .int (jI v4)), (5, .int (jI v5))]) hx hb dX3_rename_87 hl (by decide) rfl (fun ls hl => ?_)
  refine lv_iload hx hb dX3_rename_89 (lv_at hl 0 rfl) ?_
  refine x_if_eq (tgt := 98) hx hb hs0 dX3_rename_91 (by decide) (fun ci1 => ?_) (fun ci1 => ?_)
  · rw [if_pos ci1] at hF
    refine lv_aload_n hx hb dX3_rename_98 rfl (lv_at hl 1 rfl) ?_
    refine lv_iload_n hx hb dX3_rename_99 rfl (lv_at hl 2 rfl) ?_
    refine lv_iload hx hb dX3_rename_100 (lv_at hl 6 rfl) ?_
    refine lv_iload_n hx hb dX3_rename_102 rfl (lv_at hl 4 rfl) ?_
    refine lv_iload hx hb dX3_rename_103 (lv_at hl 5 rfl) ?_
    obtain ⟨y3, hc2, hF⟩ := xb1_some hF
    refine x_cVi (C := RX3) (T := TX3) (N := 9) (ci := 3) (As := [.int (jI v1), .int (jI v5), .int (jI v3), .int (jI v4)]) (rest := []) hx hb hml hown hts hK hR hS (c_X3_hindranceToMove hv1 hv5 hv3 hv4 hc2) ok0 rfl rfl wd717 wd719 ws20 wd1 wd720 hyX3_hindranceToMove ⟨rfl, rfl⟩ ⟨Nat.le_of_ble_eq_true rfl, Nat.le_of_ble_eq_true rfl⟩ hl.1 (Nat.le_of_ble_eq_true rfl) dX3_rename_105 ⟨Nat.zero_le _, Nat.zero_le _⟩ rfl (fun hg4 H locs hR hS => ?_)
    exact w_X3_rename_108 C0  M v1 v2 v3 v4 v5 s0 y3 hv1 hv2 hv3 hv4 hv5 hs0 hg4 H locs hR hS ls (lv_sub hl [1, 2, 3, 4, 5, 6, 0] rfl) hF
  · rw [if_neg ci1] at hF
    refine x_iconst hx hb dX3_rename_94 ?_
    refine lv_goto (tgt := 108) hx hb dX3_rename_95 (by decide) ?_
    exact w_X3_rename_108 C0  M v1 v2 v3 v4 v5 s0 (0 : Int) hv1 hv2 hv3 hv4 hv5 hs0 (by decide : rg (0 : Int)) H locs hR hS ls (lv_sub hl [1, 2, 3, 4, 5, 6, 0] rfl) hF
def F_X3_rename (M : Mm) (a1 : Int) (a2 : Int) (a3 : Int) (a4 : Int) : Option (Int × Mm) := (xb1 (F_X3_needTwoEntries M a1 a2 a3 a4) fun _ => (xk (M 0 0 0 = 0 ∨ M 0 0 0 = 1) (xb1 (F_X2_at M ((M 0 0 0).toNat) a1) fun y5 => (if (M 2 y5 0) = (2 : Int) then (xk (M 0 0 0 = 0 ∨ M 0 0 0 = 1) (xb1 (F_X2_at M ((M 0 0 0).toNat) a3) fun y13 => (if (M 2 y13 0) = (2 : Int) then (xk (M 0 0 0 = 0 ∨ M 0 0 0 = 1) (xb1 (F_X2_at M ((M 0 0 0).toNat) a1) fun y21 => (xb1 (F_X1_nodeNamed M y21 a2) fun y25 => (if y25 = (-1 : Int) then (some ((-1 : Int), M)) else (xk (M 0 0 0 = 0 ∨ M 0 0 0 = 1) (xb1 (F_X2_at M ((M 0 0 0).toNat) a3) fun y31 => (xb1 (F_X1_nodeNamed M y31 a4) fun y35 => (if y35 = y25 then (F_X3_rename_87  M a1 a2 a3 a4 y25 (1 : Int)) else (F_X3_rename_87  M a1 a2 a3 a4 y25 (0 : Int)))))))))) else (some ((-3 : Int), M))))) else (some ((-3 : Int), M))))))
set_option maxHeartbeats 4000000 in
set_option maxRecDepth 100000 in
theorem c_X3_rename {l : Launch} {g : Gx} {b : Nat} {M : Mm} {a1 : Int} {a2 : Int} {a3 : Int} {a4 : Int} {r : Int} {M' : Mm} (ha1 : rg a1) (ha2 : rg a2) (ha3 : rg a3) (ha4 : rg a4) (hF : F_X3_rename M a1 a2 a3 a4 = some (r, M')) : Ct l yX3_rename cX3_rename 8 (some .int) rmX3_rename g b [.ref (adr b 0 0), .int (jI a1), .int (jI a2), .int (jI a3), .int (jI a4)] M (qI g b r M') := by
  refine ct_of (by decide +kernel) (Nat.le_of_ble_eq_true rfl) ?_
  intro p e s m args below meth c C0 hR ls hl
  obtain ⟨hx, hb, hr, hlocks, hml, hown, hts, hK⟩ := id C0
  have hS : va_S (AA b s.heap.size) s.heap s.heap [] := va_S.rf
  have hl : lv_has ls 8 [(0, .ref (adr b 0 0)), (1, .int (jI a1)), (2, .int (jI a2)), (3, .int (jI a3)), (4, .int (jI a4))] := hl
  obtain ⟨H, hH⟩ : ∃ z, z = s.heap := ⟨_, rfl⟩
  obtain ⟨locs, hlo⟩ : ∃ z : List Loc, z = [] := ⟨_, rfl⟩
  have hR : Rel g b M H := by rw [hH]; exact hR
  have hS : va_S (AA b s.heap.size) s.heap H locs := by rw [hH, hlo]; exact hS
  suffices hW : W p l e rmX3_rename s m args below meth c H locs 0 0 (MQ below (qI g b r M' s.heap.size) args s 0 0 (AA b s.heap.size)) (F0 m 0 ls []) by rw [hH, hlo] at hW; exact hW
  rw [F_X3_rename] at hF
  refine lv_aload_n hx hb dX3_rename_0 rfl (lv_at hl 0 rfl) ?_
  refine lv_iload_n hx hb dX3_rename_1 rfl (lv_at hl 1 rfl) ?_
  refine lv_iload_n hx hb dX3_rename_2 rfl (lv_at hl 2 rfl) ?_
  refine lv_iload_n hx hb dX3_rename_3 rfl (lv_at hl 3 rfl) ?_
  refine lv_iload hx hb dX3_rename_4 (lv_at hl 4 rfl) ?_
  obtain ⟨_, hc1, hF⟩ := xb1_some hF
  refine x_cVv (C := RX3) (T := TX3) (N := 9) (ci := 3) (As := [.int (jI a1), .int (jI a2), .int (jI a3), .int (jI a4)]) (rest := []) hx hb hml hown hts hK hR hS (c_X3_needTwoEntries ha1 ha2 ha3 ha4 hc1) ok0 rfl rfl wd713 wd715 ws19 wd1 wd716 hyX3_needTwoEntries ⟨rfl, rfl⟩ ⟨Nat.le_of_ble_eq_true rfl, Nat.le_of_ble_eq_true rfl⟩ hl.1 (Nat.le_of_ble_eq_true rfl) dX3_rename_6 ⟨Nat.zero_le _, Nat.zero_le _⟩ rfl (fun H locs hR hS => ?_)
  refine lv_aload_n hx hb dX3_rename_9 rfl (lv_at hl 0 rfl) ?_
  refine gf_3_0 hx hb hts hown hK hR wd138 dX3_rename_10 ?_
  obtain ⟨ht2, hF⟩ := xk_some hF
  have hj3 : (M 0 0 0).toNat < 3 := by omega
  refine lv_iload_n hx hb dX3_rename_13 rfl (lv_at hl 1 rfl) ?_
  obtain ⟨y5, hc4, hF⟩ := xb1_some hF
  refine x_cVr (C := RX2) (T := TX2) (N := 8) (ci := 2) (As := [.int (jI a1)]) (rest := []) hx hb hml hown hts hK hR hS (c_X2_at hj3 ha1 hc4) (ok1 hj3) rfl rfl wd337 wd255 wd256 wd2 wd257 hyX2_at ⟨rfl, rfl⟩ ⟨Nat.le_of_ble_eq_true rfl, Nat.le_of_ble_eq_true rfl⟩ hl.1 (Nat.le_of_ble_eq_true rfl) dX3_rename_14 ⟨Nat.zero_le _, Nat.zero_le _⟩ rfl (fun hg6 H locs hR hS => ?_)
  have hj7 : y5 < 99 := lt2 hg6
  refine gf_1_0 hx hb hts hown hK hR hj7 wd36 dX3_rename_17 ?_
  have hg8 : rg (M 2 y5 0) := hR.2 2 y5 0 (by decide)
  refine x_iconst hx hb dX3_rename_20 ?_
  refine x_icmp_ne (tgt := 39) hx hb hg8 (by decide : rg (2 : Int)) dX3_rename_21 (by decide) (fun ci9 => ?_) (fun ci9 => ?_)
  · rw [if_neg ci9] at hF
    refine x_bipush hx hb (by decide +kernel) dX3_rename_39 ?_
    cases hF
    exact x_iret hx hb hlocks hK hR hS hr (by decide : rg (-3 : Int)) dX3_rename_41
  · rw [if_pos ci9] at hF
    refine lv_aload_n hx hb dX3_rename_24 rfl (lv_at hl 0 rfl) ?_
    refine gf_3_0 hx hb hts hown hK hR wd138 dX3_rename_25 ?_
    obtain ⟨ht10, hF⟩ := xk_some hF
    have hj11 : (M 0 0 0).toNat < 3 := by omega
    refine lv_iload_n hx hb dX3_rename_28 rfl (lv_at hl 3 rfl) ?_
    obtain ⟨y13, hc12, hF⟩ := xb1_some hF
    refine x_cVr (C := RX2) (T := TX2) (N := 8) (ci := 2) (As := [.int (jI a3)]) (rest := []) hx hb hml hown hts hK hR hS (c_X2_at hj11 ha3 hc12) (ok1 hj11) rfl rfl wd337 wd255 wd256 wd2 wd257 hyX2_at ⟨rfl, rfl⟩ ⟨Nat.le_of_ble_eq_true rfl, Nat.le_of_ble_eq_true rfl⟩ hl.1 (Nat.le_of_ble_eq_true rfl) dX3_rename_29 ⟨Nat.zero_le _, Nat.zero_le _⟩ rfl (fun hg14 H locs hR hS => ?_)
    have hj15 : y13 < 99 := lt2 hg14
    refine gf_1_0 hx hb hts hown hK hR hj15 wd36 dX3_rename_32 ?_
    have hg16 : rg (M 2 y13 0) := hR.2 2 y13 0 (by decide)
    refine x_iconst hx hb dX3_rename_35 ?_
    refine x_icmp_eq (tgt := 42) hx hb hg16 (by decide : rg (2 : Int)) dX3_rename_36 (by decide) (fun ci17 => ?_) (fun ci17 => ?_)
    · rw [if_pos ci17] at hF
      refine lv_aload_n hx hb dX3_rename_42 rfl (lv_at hl 0 rfl) ?_
      refine gf_3_0 hx hb hts hown hK hR wd138 dX3_rename_43 ?_
      obtain ⟨ht18, hF⟩ := xk_some hF
      have hj19 : (M 0 0 0).toNat < 3 := by omega
      refine lv_iload_n hx hb dX3_rename_46 rfl (lv_at hl 1 rfl) ?_
      obtain ⟨y21, hc20, hF⟩ := xb1_some hF
      refine x_cVr (C := RX2) (T := TX2) (N := 8) (ci := 2) (As := [.int (jI a1)]) (rest := []) hx hb hml hown hts hK hR hS (c_X2_at hj19 ha1 hc20) (ok1 hj19) rfl rfl wd337 wd255 wd256 wd2 wd257 hyX2_at ⟨rfl, rfl⟩ ⟨Nat.le_of_ble_eq_true rfl, Nat.le_of_ble_eq_true rfl⟩ hl.1 (Nat.le_of_ble_eq_true rfl) dX3_rename_47 ⟨Nat.zero_le _, Nat.zero_le _⟩ rfl (fun hg22 H locs hR hS => ?_)
      have hj23 : y21 < 99 := lt2 hg22
      refine lv_iload_n hx hb dX3_rename_50 rfl (lv_at hl 2 rfl) ?_
      obtain ⟨y25, hc24, hF⟩ := xb1_some hF
      refine x_cVi (C := RX1) (T := TX1) (N := 12) (ci := 1) (As := [.int (jI a2)]) (rest := []) hx hb hml hown hts hK hR hS (c_X1_nodeNamed hj23 ha2 hc24) (ok2 hj23) rfl rfl wd560 wd561 wd562 wd3 wd563 hyX1_nodeNamed ⟨rfl, rfl⟩ ⟨Nat.le_of_ble_eq_true rfl, Nat.le_of_ble_eq_true rfl⟩ hl.1 (Nat.le_of_ble_eq_true rfl) dX3_rename_51 ⟨Nat.zero_le _, Nat.zero_le _⟩ rfl (fun hg26 H locs hR hS => ?_)
      refine lv_istore (lv' := [(5, .int (jI y25)), (0, .ref (adr b 0 0)), (1, .int (jI a1)), (2, .int (jI a2)), (3, .int (jI a3)), (4, .int (jI a4))]) hx hb dX3_rename_54 hl (by decide) rfl (fun ls hl => ?_)
      refine lv_iload hx hb dX3_rename_56 (lv_at hl 0 rfl) ?_
      refine x_iconst hx hb dX3_rename_58 ?_
      refine x_icmp_ne (tgt := 64) hx hb hg26 (by decide : rg (-1 : Int)) dX3_rename_59 (by decide) (fun ci27 => ?_) (fun ci27 => ?_)
      · rw [if_neg ci27] at hF
        refine lv_aload_n hx hb dX3_rename_64 rfl (lv_at hl 1 rfl) ?_
        refine gf_3_0 hx hb hts hown hK hR wd138 dX3_rename_65 ?_
        obtain ⟨ht28, hF⟩ := xk_some hF
        have hj29 : (M 0 0 0).toNat < 3 := by omega
        refine lv_iload_n hx hb dX3_rename_68 rfl (lv_at hl 4 rfl) ?_
        obtain ⟨y31, hc30, hF⟩ := xb1_some hF
        refine x_cVr (C := RX2) (T := TX2) (N := 8) (ci := 2) (As := [.int (jI a3)]) (rest := []) hx hb hml hown hts hK hR hS (c_X2_at hj29 ha3 hc30) (ok1 hj29) rfl rfl wd337 wd255 wd256 wd2 wd257 hyX2_at ⟨rfl, rfl⟩ ⟨Nat.le_of_ble_eq_true rfl, Nat.le_of_ble_eq_true rfl⟩ hl.1 (Nat.le_of_ble_eq_true rfl) dX3_rename_69 ⟨Nat.zero_le _, Nat.zero_le _⟩ rfl (fun hg32 H locs hR hS => ?_)
        have hj33 : y31 < 99 := lt2 hg32
        refine lv_iload hx hb dX3_rename_72 (lv_at hl 5 rfl) ?_
        obtain ⟨y35, hc34, hF⟩ := xb1_some hF
        refine x_cVi (C := RX1) (T := TX1) (N := 12) (ci := 1) (As := [.int (jI a4)]) (rest := []) hx hb hml hown hts hK hR hS (c_X1_nodeNamed hj33 ha4 hc34) (ok2 hj33) rfl rfl wd560 wd561 wd562 wd3 wd563 hyX1_nodeNamed ⟨rfl, rfl⟩ ⟨Nat.le_of_ble_eq_true rfl, Nat.le_of_ble_eq_true rfl⟩ hl.1 (Nat.le_of_ble_eq_true rfl) dX3_rename_74 ⟨Nat.zero_le _, Nat.zero_le _⟩ rfl (fun hg36 H locs hR hS => ?_)
        refine lv_iload hx hb dX3_rename_77 (lv_at hl 0 rfl) ?_
        refine x_icmp_ne (tgt := 86) hx hb hg36 hg26 dX3_rename_79 (by decide) (fun ci37 => ?_) (fun ci37 => ?_)
        · rw [if_neg ci37] at hF
          refine x_iconst hx hb dX3_rename_86 ?_
          exact w_X3_rename_87 C0  M a1 a2 a3 a4 y25 (0 : Int) ha1 ha2 ha3 ha4 hg26 (by decide : rg (0 : Int)) H locs hR hS ls (lv_sub hl [1, 2, 3, 4, 5, 0] rfl) hF
        · rw [if_pos ci37] at hF
          refine x_iconst hx hb dX3_rename_82 ?_
          refine lv_goto (tgt := 87) hx hb dX3_rename_83 (by decide) ?_
          exact w_X3_rename_87 C0  M a1 a2 a3 a4 y25 (1 : Int) ha1 ha2 ha3 ha4 hg26 (by decide : rg (1 : Int)) H locs hR hS ls (lv_sub hl [1, 2, 3, 4, 5, 0] rfl) hF
      · rw [if_pos ci27] at hF
        refine x_iconst hx hb dX3_rename_62 ?_
        cases hF
        exact x_iret hx hb hlocks hK hR hS hr (by decide : rg (-1 : Int)) dX3_rename_63
    · rw [if_neg ci17] at hF
      refine x_bipush hx hb (by decide +kernel) dX3_rename_39 ?_
      cases hF
      exact x_iret hx hb hlocks hK hR hS hr (by decide : rg (-3 : Int)) dX3_rename_41
abbrev rmX3_exchange : Room := { frames := 6, cells := 0, slots := 0, locals := 131 }
theorem hyX3_exchange : yX3_exchange.cls = RX3 ∧ yX3_exchange.cls ≠ "java/lang/invoke/MethodHandle" ∧ yX3_exchange.cls ≠ "java/lang/invoke/VarHandle" ∧ (parseMethodDescriptor yX3_exchange.desc).map (fun d => d.parameters.length) = some 4 := by decide +kernel
def F_X3_exchange (M : Mm) (a1 : Int) (a2 : Int) (a3 : Int) (a4 : Int) : Option (Int × Mm) := (xb1 (F_X3_needTwoEntries M a1 a2 a3 a4) fun _ => (xk (M 0 0 0 = 0 ∨ M 0 0 0 = 1) (xb1 (F_X2_at M ((M 0 0 0).toNat) a1) fun y5 => (if (M 2 y5 0) = (2 : Int) then (xk (M 0 0 0 = 0 ∨ M 0 0 0 = 1) (xb1 (F_X2_at M ((M 0 0 0).toNat) a3) fun y13 => (if (M 2 y13 0) = (2 : Int) then (xk (M 0 0 0 = 0 ∨ M 0 0 0 = 1) (xb1 (F_X2_at M ((M 0 0 0).toNat) a1) fun y21 => (xb1 (F_X1_nodeNamed M y21 a2) fun y25 => (xk (M 0 0 0 = 0 ∨ M 0 0 0 = 1) (xb1 (F_X2_at M ((M 0 0 0).toNat) a3) fun y30 => (xb1 (F_X1_nodeNamed M y30 a4) fun y34 => (if y25 = (-1 : Int) then (some ((-1 : Int), M)) else (if y34 = (-1 : Int) then (some ((-1 : Int), M)) else (xk (M 0 0 0 = 0 ∨ M 0 0 0 = 1) (xb1 (F_X2_isWithin M ((M 0 0 0).toNat) a3 y25) fun y41 => (if y41 = 0 then (xk (M 0 0 0 = 0 ∨ M 0 0 0 = 1) (xb1 (F_X2_isWithin M ((M 0 0 0).toNat) a1 y34) fun y47 => (if y47 = 0 then (xb1 (F_X3_startDraft M ) fun M51 => (xk (M51 0 0 1 = 0 ∨ M51 0 0 1 = 1) (xb1 (F_X2_turn M51 ((M51 0 0 1).toNat) a1 a2 y34) fun M55 => (xk (M55 0 0 1 = 0 ∨ M55 0 0 1 = 1) (xb1 (F_X2_turn M55 ((M55 0 0 1).toNat) a3 a4 y25) fun M59 => (xb2 (F_X3_settle M59 y34) fun y61 M62 => (some (y61, M62)))))))) else (some ((-6 : Int), M))))) else (some ((-6 : Int), M))))))))))))) else (some ((-3 : Int), M))))) else (some ((-3 : Int), M))))))
set_option maxHeartbeats 4000000 in
set_option maxRecDepth 100000 in
theorem c_X3_exchange {l : Launch} {g : Gx} {b : Nat} {M : Mm} {a1 : Int} {a2 : Int} {a3 : Int} {a4 : Int} {r : Int} {M' : Mm} (ha1 : rg a1) (ha2 : rg a2) (ha3 : rg a3) (ha4 : rg a4) (hF : F_X3_exchange M a1 a2 a3 a4 = some (r, M')) : Ct l yX3_exchange cX3_exchange 7 (some .int) rmX3_exchange g b [.ref (adr b 0 0), .int (jI a1), .int (jI a2), .int (jI a3), .int (jI a4)] M (qI g b r M') := by
  refine ct_of (by decide +kernel) (Nat.le_of_ble_eq_true rfl) ?_
  intro p e s m args below meth c C0 hR ls hl
  obtain ⟨hx, hb, hr, hlocks, hml, hown, hts, hK⟩ := id C0
  have hS : va_S (AA b s.heap.size) s.heap s.heap [] := va_S.rf
  have hl : lv_has ls 7 [(0, .ref (adr b 0 0)), (1, .int (jI a1)), (2, .int (jI a2)), (3, .int (jI a3)), (4, .int (jI a4))] := hl
  obtain ⟨H, hH⟩ : ∃ z, z = s.heap := ⟨_, rfl⟩
  obtain ⟨locs, hlo⟩ : ∃ z : List Loc, z = [] := ⟨_, rfl⟩
  have hR : Rel g b M H := by rw [hH]; exact hR
  have hS : va_S (AA b s.heap.size) s.heap H locs := by rw [hH, hlo]; exact hS
  suffices hW : W p l e rmX3_exchange s m args below meth c H locs 0 0 (MQ below (qI g b r M' s.heap.size) args s 0 0 (AA b s.heap.size)) (F0 m 0 ls []) by rw [hH, hlo] at hW; exact hW
  rw [F_X3_exchange] at hF
  refine lv_aload_n hx hb dX3_exchange_0 rfl (lv_at hl 0 rfl) ?_
  refine lv_iload_n hx hb dX3_exchange_1 rfl (lv_at hl 1 rfl) ?_
  refine lv_iload_n hx hb dX3_exchange_2 rfl (lv_at hl 2 rfl) ?_
  refine lv_iload_n hx hb dX3_exchange_3 rfl (lv_at hl 3 rfl) ?_
  refine lv_iload hx hb dX3_exchange_4 (lv_at hl 4 rfl) ?_
  obtain ⟨_, hc1, hF⟩ := xb1_some hF
  refine x_cVv (C := RX3) (T := TX3) (N := 9) (ci := 3) (As := [.int (jI a1), .int (jI a2), .int (jI a3), .int (jI a4)]) (rest := []) hx hb hml hown hts hK hR hS (c_X3_needTwoEntries ha1 ha2 ha3 ha4 hc1) ok0 rfl rfl wd713 wd715 ws19 wd1 wd716 hyX3_needTwoEntries ⟨rfl, rfl⟩ ⟨Nat.le_of_ble_eq_true rfl, Nat.le_of_ble_eq_true rfl⟩ hl.1 (Nat.le_of_ble_eq_true rfl) dX3_exchange_6 ⟨Nat.zero_le _, Nat.zero_le _⟩ rfl (fun H locs hR hS => ?_)
  refine lv_aload_n hx hb dX3_exchange_9 rfl (lv_at hl 0 rfl) ?_
  refine gf_3_0 hx hb hts hown hK hR wd138 dX3_exchange_10 ?_
  obtain ⟨ht2, hF⟩ := xk_some hF
  have hj3 : (M 0 0 0).toNat < 3 := by omega
  refine lv_iload_n hx hb dX3_exchange_13 rfl (lv_at hl 1 rfl) ?_
  obtain ⟨y5, hc4, hF⟩ := xb1_some hF
  refine x_cVr (C := RX2) (T := TX2) (N := 8) (ci := 2) (As := [.int (jI a1)]) (rest := []) hx hb hml hown hts hK hR hS (c_X2_at hj3 ha1 hc4) (ok1 hj3) rfl rfl wd337 wd255 wd256 wd2 wd257 hyX2_at ⟨rfl, rfl⟩ ⟨Nat.le_of_ble_eq_true rfl, Nat.le_of_ble_eq_true rfl⟩ hl.1 (Nat.le_of_ble_eq_true rfl) dX3_exchange_14 ⟨Nat.zero_le _, Nat.zero_le _⟩ rfl (fun hg6 H locs hR hS => ?_)
  have hj7 : y5 < 99 := lt2 hg6
  refine gf_1_0 hx hb hts hown hK hR hj7 wd36 dX3_exchange_17 ?_
  have hg8 : rg (M 2 y5 0) := hR.2 2 y5 0 (by decide)
  refine x_iconst hx hb dX3_exchange_20 ?_
  refine x_icmp_ne (tgt := 39) hx hb hg8 (by decide : rg (2 : Int)) dX3_exchange_21 (by decide) (fun ci9 => ?_) (fun ci9 => ?_)
  · rw [if_neg ci9] at hF
    refine x_bipush hx hb (by decide +kernel) dX3_exchange_39 ?_
    cases hF
    exact x_iret hx hb hlocks hK hR hS hr (by decide : rg (-3 : Int)) dX3_exchange_41
  · rw [if_pos ci9] at hF
    refine lv_aload_n hx hb dX3_exchange_24 rfl (lv_at hl 0 rfl) ?_
    refine gf_3_0 hx hb hts hown hK hR wd138 dX3_exchange_25 ?_
    obtain ⟨ht10, hF⟩ := xk_some hF
    have hj11 : (M 0 0 0).toNat < 3 := by omega
    refine lv_iload_n hx hb dX3_exchange_28 rfl (lv_at hl 3 rfl) ?_
    obtain ⟨y13, hc12, hF⟩ := xb1_some hF
    refine x_cVr (C := RX2) (T := TX2) (N := 8) (ci := 2) (As := [.int (jI a3)]) (rest := []) hx hb hml hown hts hK hR hS (c_X2_at hj11 ha3 hc12) (ok1 hj11) rfl rfl wd337 wd255 wd256 wd2 wd257 hyX2_at ⟨rfl, rfl⟩ ⟨Nat.le_of_ble_eq_true rfl, Nat.le_of_ble_eq_true rfl⟩ hl.1 (Nat.le_of_ble_eq_true rfl) dX3_exchange_29 ⟨Nat.zero_le _, Nat.zero_le _⟩ rfl (fun hg14 H locs hR hS => ?_)
    have hj15 : y13 < 99 := lt2 hg14
    refine gf_1_0 hx hb hts hown hK hR hj15 wd36 dX3_exchange_32 ?_
    have hg16 : rg (M 2 y13 0) := hR.2 2 y13 0 (by decide)
    refine x_iconst hx hb dX3_exchange_35 ?_
    refine x_icmp_eq (tgt := 42) hx hb hg16 (by decide : rg (2 : Int)) dX3_exchange_36 (by decide) (fun ci17 => ?_) (fun ci17 => ?_)
    · rw [if_pos ci17] at hF
      refine lv_aload_n hx hb dX3_exchange_42 rfl (lv_at hl 0 rfl) ?_
      refine gf_3_0 hx hb hts hown hK hR wd138 dX3_exchange_43 ?_
      obtain ⟨ht18, hF⟩ := xk_some hF
      have hj19 : (M 0 0 0).toNat < 3 := by omega
      refine lv_iload_n hx hb dX3_exchange_46 rfl (lv_at hl 1 rfl) ?_
      obtain ⟨y21, hc20, hF⟩ := xb1_some hF
      refine x_cVr (C := RX2) (T := TX2) (N := 8) (ci := 2) (As := [.int (jI a1)]) (rest := []) hx hb hml hown hts hK hR hS (c_X2_at hj19 ha1 hc20) (ok1 hj19) rfl rfl wd337 wd255 wd256 wd2 wd257 hyX2_at ⟨rfl, rfl⟩ ⟨Nat.le_of_ble_eq_true rfl, Nat.le_of_ble_eq_true rfl⟩ hl.1 (Nat.le_of_ble_eq_true rfl) dX3_exchange_47 ⟨Nat.zero_le _, Nat.zero_le _⟩ rfl (fun hg22 H locs hR hS => ?_)
      have hj23 : y21 < 99 := lt2 hg22
      refine lv_iload_n hx hb dX3_exchange_50 rfl (lv_at hl 2 rfl) ?_
      obtain ⟨y25, hc24, hF⟩ := xb1_some hF
      refine x_cVi (C := RX1) (T := TX1) (N := 12) (ci := 1) (As := [.int (jI a2)]) (rest := []) hx hb hml hown hts hK hR hS (c_X1_nodeNamed hj23 ha2 hc24) (ok2 hj23) rfl rfl wd560 wd561 wd562 wd3 wd563 hyX1_nodeNamed ⟨rfl, rfl⟩ ⟨Nat.le_of_ble_eq_true rfl, Nat.le_of_ble_eq_true rfl⟩ hl.1 (Nat.le_of_ble_eq_true rfl) dX3_exchange_51 ⟨Nat.zero_le _, Nat.zero_le _⟩ rfl (fun hg26 H locs hR hS => ?_)
      refine lv_istore (lv' := [(5, .int (jI y25)), (0, .ref (adr b 0 0)), (1, .int (jI a1)), (2, .int (jI a2)), (3, .int (jI a3)), (4, .int (jI a4))]) hx hb dX3_exchange_54 hl (by decide) rfl (fun ls hl => ?_)
      refine lv_aload_n hx hb dX3_exchange_56 rfl (lv_at hl 1 rfl) ?_
      refine gf_3_0 hx hb hts hown hK hR wd138 dX3_exchange_57 ?_
      obtain ⟨ht27, hF⟩ := xk_some hF
      have hj28 : (M 0 0 0).toNat < 3 := by omega
      refine lv_iload_n hx hb dX3_exchange_60 rfl (lv_at hl 4 rfl) ?_
      obtain ⟨y30, hc29, hF⟩ := xb1_some hF
      refine x_cVr (C := RX2) (T := TX2) (N := 8) (ci := 2) (As := [.int (jI a3)]) (rest := []) hx hb hml hown hts hK hR hS (c_X2_at hj28 ha3 hc29) (ok1 hj28) rfl rfl wd337 wd255 wd256 wd2 wd257 hyX2_at ⟨rfl, rfl⟩ ⟨Nat.le_of_ble_eq_true rfl, Nat.le_of_ble_eq_true rfl⟩ hl.1 (Nat.le_of_ble_eq_true rfl) dX3_exchange_61 ⟨Nat.zero_le _, Nat.zero_le _⟩ rfl (fun hg31 H locs hR hS => ?_)
      have hj32 : y30 < 99 := lt2 hg31
      refine lv_iload hx hb dX3_exchange_64 (lv_at hl 5 rfl) ?_
      obtain ⟨y34, hc33, hF⟩ := xb1_some hF
      refine x_cVi (C := RX1) (T := TX1) (N := 12) (ci := 1) (As := [.int (jI a4)]) (rest := []) hx hb hml hown hts hK hR hS (c_X1_nodeNamed hj32 ha4 hc33) (ok2 hj32) rfl rfl wd560 wd561 wd562 wd3 wd563 hyX1_nodeNamed ⟨rfl, rfl⟩ ⟨Nat.le_of_ble_eq_true rfl, Nat.le_of_ble_eq_true rfl⟩ hl.1 (Nat.le_of_ble_eq_true rfl) dX3_exchange_66 ⟨Nat.zero_le _, Nat.zero_le _⟩ rfl (fun hg35 H locs hR hS => ?_)
      refine lv_istore (lv' := [(6, .int (jI y34)), (5, .int (jI y25)), (0, .ref (adr b 0 0)), (1, .int (jI a1)), (2, .int (jI a2)), (3, .int (jI a3)), (4, .int (jI a4))]) hx hb dX3_exchange_69 hl (by decide) rfl (fun ls hl => ?_)
      refine lv_iload hx hb dX3_exchange_71 (lv_at hl 1 rfl) ?_
      refine x_iconst hx hb dX3_exchange_73 ?_
      refine x_icmp_eq (tgt := 83) hx hb hg26 (by decide : rg (-1 : Int)) dX3_exchange_74 (by decide) (fun ci36 => ?_) (fun ci36 => ?_)
      · rw [if_pos ci36] at hF
        refine x_iconst hx hb dX3_exchange_83 ?_
        cases hF
        exact x_iret hx hb hlocks hK hR hS hr (by decide : rg (-1 : Int)) dX3_exchange_84
      · rw [if_neg ci36] at hF
        refine lv_iload hx hb dX3_exchange_77 (lv_at hl 0 rfl) ?_
        refine x_iconst hx hb dX3_exchange_79 ?_
        refine x_icmp_ne (tgt := 85) hx hb hg35 (by decide : rg (-1 : Int)) dX3_exchange_80 (by decide) (fun ci37 => ?_) (fun ci37 => ?_)
        · rw [if_neg ci37] at hF
          refine lv_aload_n hx hb dX3_exchange_85 rfl (lv_at hl 2 rfl) ?_
          refine gf_3_0 hx hb hts hown hK hR wd138 dX3_exchange_86 ?_
          obtain ⟨ht38, hF⟩ := xk_some hF
          have hj39 : (M 0 0 0).toNat < 3 := by omega
          refine lv_iload_n hx hb dX3_exchange_89 rfl (lv_at hl 5 rfl) ?_
          refine lv_iload hx hb dX3_exchange_90 (lv_at hl 1 rfl) ?_
          obtain ⟨y41, hc40, hF⟩ := xb1_some hF
          refine x_cVi (C := RX2) (T := TX2) (N := 8) (ci := 2) (As := [.int (jI a3), .int (jI y25)]) (rest := []) hx hb hml hown hts hK hR hS (c_X2_isWithin hj39 ha3 hg26 hc40) (ok1 hj39) rfl rfl wd721 wd722 wd723 wd2 wd724 hyX2_isWithin ⟨rfl, rfl⟩ ⟨Nat.le_of_ble_eq_true rfl, Nat.le_of_ble_eq_true rfl⟩ hl.1 (Nat.le_of_ble_eq_true rfl) dX3_exchange_92 ⟨Nat.zero_le _, Nat.zero_le _⟩ rfl (fun hg42 H locs hR hS => ?_)
          refine x_if_ne (tgt := 111) hx hb hg42 dX3_exchange_95 (by decide) (fun ci43 => ?_) (fun ci43 => ?_)
          · rw [if_neg ci43] at hF
            refine x_bipush hx hb (by decide +kernel) dX3_exchange_111 ?_
            cases hF
            exact x_iret hx hb hlocks hK hR hS hr (by decide : rg (-6 : Int)) dX3_exchange_113
          · rw [if_pos ci43] at hF
            refine lv_aload_n hx hb dX3_exchange_98 rfl (lv_at hl 2 rfl) ?_
            refine gf_3_0 hx hb hts hown hK hR wd138 dX3_exchange_99 ?_
            obtain ⟨ht44, hF⟩ := xk_some hF
            have hj45 : (M 0 0 0).toNat < 3 := by omega
            refine lv_iload_n hx hb dX3_exchange_102 rfl (lv_at hl 3 rfl) ?_
            refine lv_iload hx hb dX3_exchange_103 (lv_at hl 0 rfl) ?_
            obtain ⟨y47, hc46, hF⟩ := xb1_some hF
            refine x_cVi (C := RX2) (T := TX2) (N := 8) (ci := 2) (As := [.int (jI a1), .int (jI y34)]) (rest := []) hx hb hml hown hts hK hR hS (c_X2_isWithin hj45 ha1 hg35 hc46) (ok1 hj45) rfl rfl wd721 wd722 wd723 wd2 wd724 hyX2_isWithin ⟨rfl, rfl⟩ ⟨Nat.le_of_ble_eq_true rfl, Nat.le_of_ble_eq_true rfl⟩ hl.1 (Nat.le_of_ble_eq_true rfl) dX3_exchange_105 ⟨Nat.zero_le _, Nat.zero_le _⟩ rfl (fun hg48 H locs hR hS => ?_)
            refine x_if_eq (tgt := 114) hx hb hg48 dX3_exchange_108 (by decide) (fun ci49 => ?_) (fun ci49 => ?_)
            · rw [if_pos ci49] at hF
              refine lv_aload_n hx hb dX3_exchange_114 rfl (lv_at hl 2 rfl) ?_
              obtain ⟨M51, hc50, hF⟩ := xb1_some hF
              refine x_cVv (C := RX3) (T := TX3) (N := 9) (ci := 3) (As := []) (rest := []) hx hb hml hown hts hK hR hS (c_X3_startDraft  hc50) ok0 rfl rfl wd633 wd635 ws14 wd1 wd636 hyX3_startDraft ⟨rfl, rfl⟩ ⟨Nat.le_of_ble_eq_true rfl, Nat.le_of_ble_eq_true rfl⟩ hl.1 (Nat.le_of_ble_eq_true rfl) dX3_exchange_115 ⟨Nat.zero_le _, Nat.zero_le _⟩ rfl (fun H locs hR hS => ?_)
              refine lv_aload_n hx hb dX3_exchange_118 rfl (lv_at hl 2 rfl) ?_
              refine gf_3_1 hx hb hts hown hK hR wd139 dX3_exchange_119 ?_
              obtain ⟨ht52, hF⟩ := xk_some hF
              have hj53 : (M51 0 0 1).toNat < 3 := by omega
              refine lv_iload_n hx hb dX3_exchange_122 rfl (lv_at hl 3 rfl) ?_
              refine lv_iload_n hx hb dX3_exchange_123 rfl (lv_at hl 4 rfl) ?_
              refine lv_iload hx hb dX3_exchange_124 (lv_at hl 0 rfl) ?_
              obtain ⟨M55, hc54, hF⟩ := xb1_some hF
              refine x_cVv (C := RX2) (T := TX2) (N := 8) (ci := 2) (As := [.int (jI a1), .int (jI a2), .int (jI y34)]) (rest := []) hx hb hml hown hts hK hR hS (c_X2_turn hj53 ha1 ha2 hg35 hc54) (ok1 hj53) rfl rfl wd729 wd730 wd731 wd2 wd732 hyX2_turn ⟨rfl, rfl⟩ ⟨Nat.le_of_ble_eq_true rfl, Nat.le_of_ble_eq_true rfl⟩ hl.1 (Nat.le_of_ble_eq_true rfl) dX3_exchange_126 ⟨Nat.zero_le _, Nat.zero_le _⟩ rfl (fun H locs hR hS => ?_)
              refine lv_aload_n hx hb dX3_exchange_129 rfl (lv_at hl 2 rfl) ?_
              refine gf_3_1 hx hb hts hown hK hR wd139 dX3_exchange_130 ?_
              obtain ⟨ht56, hF⟩ := xk_some hF
              have hj57 : (M55 0 0 1).toNat < 3 := by omega
              refine lv_iload_n hx hb dX3_exchange_133 rfl (lv_at hl 5 rfl) ?_
              refine lv_iload hx hb dX3_exchange_134 (lv_at hl 6 rfl) ?_
              refine lv_iload hx hb dX3_exchange_136 (lv_at hl 1 rfl) ?_
              obtain ⟨M59, hc58, hF⟩ := xb1_some hF
              refine x_cVv (C := RX2) (T := TX2) (N := 8) (ci := 2) (As := [.int (jI a3), .int (jI a4), .int (jI y25)]) (rest := []) hx hb hml hown hts hK hR hS (c_X2_turn hj57 ha3 ha4 hg26 hc58) (ok1 hj57) rfl rfl wd729 wd730 wd731 wd2 wd732 hyX2_turn ⟨rfl, rfl⟩ ⟨Nat.le_of_ble_eq_true rfl, Nat.le_of_ble_eq_true rfl⟩ hl.1 (Nat.le_of_ble_eq_true rfl) dX3_exchange_138 ⟨Nat.zero_le _, Nat.zero_le _⟩ rfl (fun H locs hR hS => ?_)
              refine lv_aload_n hx hb dX3_exchange_141 rfl (lv_at hl 2 rfl) ?_
              refine lv_iload hx hb dX3_exchange_142 (lv_at hl 0 rfl) ?_
              obtain ⟨y61, M62, hc60, hF⟩ := xb2_some hF
              refine x_cVi (C := RX3) (T := TX3) (N := 9) (ci := 3) (As := [.int (jI y34)]) (rest := []) hx hb hml hown hts hK hR hS (c_X3_settle hg35 hc60) ok0 rfl rfl wd653 wd655 ws15 wd1 wd656 hyX3_settle ⟨rfl, rfl⟩ ⟨Nat.le_of_ble_eq_true rfl, Nat.le_of_ble_eq_true rfl⟩ hl.1 (Nat.le_of_ble_eq_true rfl) dX3_exchange_144 ⟨Nat.zero_le _, Nat.zero_le _⟩ rfl (fun hg63 H locs hR hS => ?_)
              cases hF
              exact x_iret hx hb hlocks hK hR hS hr hg63 dX3_exchange_147
            · rw [if_neg ci49] at hF
              refine x_bipush hx hb (by decide +kernel) dX3_exchange_111 ?_
              cases hF
              exact x_iret hx hb hlocks hK hR hS hr (by decide : rg (-6 : Int)) dX3_exchange_113
        · rw [if_pos ci37] at hF
          refine x_iconst hx hb dX3_exchange_83 ?_
          cases hF
          exact x_iret hx hb hlocks hK hR hS hr (by decide : rg (-1 : Int)) dX3_exchange_84
    · rw [if_neg ci17] at hF
      refine x_bipush hx hb (by decide +kernel) dX3_exchange_39 ?_
      cases hF
      exact x_iret hx hb hlocks hK hR hS hr (by decide : rg (-3 : Int)) dX3_exchange_41
abbrev rmX3_needOpen : Room := { frames := 0, cells := 0, slots := 0, locals := 0 }
theorem hyX3_needOpen : yX3_needOpen.cls = RX3 ∧ yX3_needOpen.cls ≠ "java/lang/invoke/MethodHandle" ∧ yX3_needOpen.cls ≠ "java/lang/invoke/VarHandle" ∧ (parseMethodDescriptor yX3_needOpen.desc).map (fun d => d.parameters.length) = some 1 := by decide +kernel
def F_X3_needOpen (M : Mm) (a1 : Int) : Option (Nat) := (if a1 < 0 then none else (if (6 : Int) ≤ a1 then none else (xk (0 ≤ a1 ∧ a1 < 6) (if (M 11 (a1.toNat) 0) = 0 then none else (xk (0 ≤ a1 ∧ a1 < 6) (some (a1.toNat)))))))
set_option maxHeartbeats 4000000 in
set_option maxRecDepth 100000 in
theorem c_X3_needOpen {l : Launch} {g : Gx} {b : Nat} {M : Mm} {a1 : Int} {r : Nat} (ha1 : rg a1) (hF : F_X3_needOpen M a1 = some r) : Ct l yX3_needOpen cX3_needOpen 2 (some (.object "JournalDisk$Handle")) rmX3_needOpen g b [.ref (adr b 0 0), .int (jI a1)] M (qR g b 11 r M) := by
  refine ct_of (by decide +kernel) (Nat.le_of_ble_eq_true rfl) ?_
  intro p e s m args below meth c C0 hR ls hl
  obtain ⟨hx, hb, hr, hlocks, hml, hown, hts, hK⟩ := id C0
  have hS : va_S (AA b s.heap.size) s.heap s.heap [] := va_S.rf
  have hl : lv_has ls 2 [(0, .ref (adr b 0 0)), (1, .int (jI a1))] := hl
  obtain ⟨H, hH⟩ : ∃ z, z = s.heap := ⟨_, rfl⟩
  obtain ⟨locs, hlo⟩ : ∃ z : List Loc, z = [] := ⟨_, rfl⟩
  have hR : Rel g b M H := by rw [hH]; exact hR
  have hS : va_S (AA b s.heap.size) s.heap H locs := by rw [hH, hlo]; exact hS
  suffices hW : W p l e rmX3_needOpen s m args below meth c H locs 0 0 (MQ below (qR g b 11 r M s.heap.size) args s 0 0 (AA b s.heap.size)) (F0 m 0 ls []) by rw [hH, hlo] at hW; exact hW
  rw [F_X3_needOpen] at hF
  refine lv_iload_n hx hb dX3_needOpen_0 rfl (lv_at hl 1 rfl) ?_
  refine x_if_lt (tgt := 25) hx hb ha1 dX3_needOpen_1 (by decide) (fun ci1 => ?_) (fun ci1 => ?_)
  · rw [if_pos ci1] at hF
    cases hF
  · rw [if_neg ci1] at hF
    refine lv_iload_n hx hb dX3_needOpen_4 rfl (lv_at hl 1 rfl) ?_
    refine lv_aload_n hx hb dX3_needOpen_5 rfl (lv_at hl 0 rfl) ?_
    refine gf_3_3 hx hb hts hown hK hR wd141 dX3_needOpen_6 ?_
    refine x_alenH hx hb hK hR dX3_needOpen_9 ?_
    refine x_icmp_ge (tgt := 25) hx hb ha1 (by decide : rg (6 : Int)) dX3_needOpen_10 (by decide) (fun ci2 => ?_) (fun ci2 => ?_)
    · rw [if_pos ci2] at hF
      cases hF
    · rw [if_neg ci2] at hF
      refine lv_aload_n hx hb dX3_needOpen_13 rfl (lv_at hl 0 rfl) ?_
      refine gf_3_3 hx hb hts hown hK hR wd141 dX3_needOpen_14 ?_
      refine lv_iload_n hx hb dX3_needOpen_17 rfl (lv_at hl 1 rfl) ?_
      obtain ⟨hi3, hF⟩ := xk_some hF
      refine x_aldH hx hb hK hR ha1 hi3 dX3_needOpen_18 ?_
      have hj4 : a1.toNat < 6 := by omega
      refine gf_0_0 hx hb hts hown hK hR hj4 wd123 dX3_needOpen_19 ?_
      have hg5 : rg (M 11 (a1.toNat) 0) := hR.2 11 (a1.toNat) 0 (by decide)
      refine x_if_ne (tgt := 36) hx hb hg5 dX3_needOpen_22 (by decide) (fun ci6 => ?_) (fun ci6 => ?_)
      · rw [if_neg ci6] at hF
        refine lv_aload_n hx hb dX3_needOpen_36 rfl (lv_at hl 0 rfl) ?_
        refine gf_3_3 hx hb hts hown hK hR wd141 dX3_needOpen_37 ?_
        refine lv_iload_n hx hb dX3_needOpen_40 rfl (lv_at hl 1 rfl) ?_
        obtain ⟨hi7, hF⟩ := xk_some hF
        refine x_aldH hx hb hK hR ha1 hi7 dX3_needOpen_41 ?_
        have hj8 : a1.toNat < 6 := by omega
        cases hF
        exact x_aret hx hb hlocks hK hR hS hr (ok11 hj8) dX3_needOpen_42
      · rw [if_pos ci6] at hF
        cases hF
abbrev rmX3_write : Room := { frames := 6, cells := 0, slots := 0, locals := 131 }
theorem hyX3_write : yX3_write.cls = RX3 ∧ yX3_write.cls ≠ "java/lang/invoke/MethodHandle" ∧ yX3_write.cls ≠ "java/lang/invoke/VarHandle" ∧ (parseMethodDescriptor yX3_write.desc).map (fun d => d.parameters.length) = some 3 := by decide +kernel
def F_X3_write (M : Mm) (a1 : Int) (a2 : Int) (a3 : Int) : Option (Int × Mm) := (xb1 (F_X3_needPower M ) fun _ => (xb1 (F_X3_needOpen M a1) fun y3 => (xb1 (F_X3_needRange M a2 (1 : Int) (64 : Int)) fun _ => (xb1 (F_X3_needRange M a3 (0 : Int) (255 : Int)) fun _ => (xk (rg ((M 11 y3 2) + a2)) (if ((M 11 y3 2) + a2) ≤ (320 : Int) then (xb1 (F_X3_startDraft M ) fun M12 => (xk (M12 0 0 1 = 0 ∨ M12 0 0 1 = 1) (xb1 (F_X2_at M12 ((M12 0 0 1).toNat) (M12 11 y3 1)) fun y17 => (xk (M12 0 0 1 = 0 ∨ M12 0 0 1 = 1) (xb1 (F_X2_writeRow M12 ((M12 0 0 1).toNat) y17 (M12 11 y3 2) a2 a3) fun M24 => (xb2 (F_X3_settle M24 (M24 2 y17 3)) fun y27 M28 => (if y27 < 0 then (some (y27, M28)) else (xl (mup M28 11 y3 2 ((M 11 y3 2) + a2)) fun M31 => (some (y27, M31)))))))))) else (some ((-5 : Int), M))))))))
set_option maxHeartbeats 4000000 in
set_option maxRecDepth 100000 in
theorem c_X3_write {l : Launch} {g : Gx} {b : Nat} {M : Mm} {a1 : Int} {a2 : Int} {a3 : Int} {r : Int} {M' : Mm} (ha1 : rg a1) (ha2 : rg a2) (ha3 : rg a3) (hF : F_X3_write M a1 a2 a3 = some (r, M')) : Ct l yX3_write cX3_write 8 (some .int) rmX3_write g b [.ref (adr b 0 0), .int (jI a1), .int (jI a2), .int (jI a3)] M (qI g b r M') := by
  refine ct_of (by decide +kernel) (Nat.le_of_ble_eq_true rfl) ?_
  intro p e s m args below meth c C0 hR ls hl
  obtain ⟨hx, hb, hr, hlocks, hml, hown, hts, hK⟩ := id C0
  have hS : va_S (AA b s.heap.size) s.heap s.heap [] := va_S.rf
  have hl : lv_has ls 8 [(0, .ref (adr b 0 0)), (1, .int (jI a1)), (2, .int (jI a2)), (3, .int (jI a3))] := hl
  obtain ⟨H, hH⟩ : ∃ z, z = s.heap := ⟨_, rfl⟩
  obtain ⟨locs, hlo⟩ : ∃ z : List Loc, z = [] := ⟨_, rfl⟩
  have hR : Rel g b M H := by rw [hH]; exact hR
  have hS : va_S (AA b s.heap.size) s.heap H locs := by rw [hH, hlo]; exact hS
  suffices hW : W p l e rmX3_write s m args below meth c H locs 0 0 (MQ below (qI g b r M' s.heap.size) args s 0 0 (AA b s.heap.size)) (F0 m 0 ls []) by rw [hH, hlo] at hW; exact hW
  rw [F_X3_write] at hF
  refine lv_aload_n hx hb dX3_write_0 rfl (lv_at hl 0 rfl) ?_
  obtain ⟨_, hc1, hF⟩ := xb1_some hF
  refine x_cVv (C := RX3) (T := TX3) (N := 9) (ci := 3) (As := []) (rest := []) hx hb hml hown hts hK hR hS (c_X3_needPower  hc1) ok0 rfl rfl wd170 wd172 ws0 wd1 wd173 hyX3_needPower ⟨rfl, rfl⟩ ⟨Nat.le_of_ble_eq_true rfl, Nat.le_of_ble_eq_true rfl⟩ hl.1 (Nat.le_of_ble_eq_true rfl) dX3_write_1 ⟨Nat.zero_le _, Nat.zero_le _⟩ rfl (fun H locs hR hS => ?_)
  refine lv_aload_n hx hb dX3_write_4 rfl (lv_at hl 0 rfl) ?_
  refine lv_iload_n hx hb dX3_write_5 rfl (lv_at hl 1 rfl) ?_
  obtain ⟨y3, hc2, hF⟩ := xb1_some hF
  refine x_cVr (C := RX3) (T := TX3) (N := 9) (ci := 3) (As := [.int (jI a1)]) (rest := []) hx hb hml hown hts hK hR hS (c_X3_needOpen ha1 hc2) ok0 rfl rfl wd586 wd588 ws10 wd1 wd589 hyX3_needOpen ⟨rfl, rfl⟩ ⟨Nat.le_of_ble_eq_true rfl, Nat.le_of_ble_eq_true rfl⟩ hl.1 (Nat.le_of_ble_eq_true rfl) dX3_write_6 ⟨Nat.zero_le _, Nat.zero_le _⟩ rfl (fun hg4 H locs hR hS => ?_)
  have hj5 : y3 < 6 := lt11 hg4
  refine lv_astore (lv' := [(4, .ref (adr b 11 y3)), (0, .ref (adr b 0 0)), (1, .int (jI a1)), (2, .int (jI a2)), (3, .int (jI a3))]) hx hb dX3_write_9 hl (by decide) rfl (fun ls hl => ?_)
  refine lv_aload_n hx hb dX3_write_11 rfl (lv_at hl 1 rfl) ?_
  refine lv_iload_n hx hb dX3_write_12 rfl (lv_at hl 3 rfl) ?_
  refine x_iconst hx hb dX3_write_13 ?_
  refine x_bipush hx hb (by decide +kernel) dX3_write_14 ?_
  obtain ⟨_, hc6, hF⟩ := xb1_some hF
  refine x_cVv (C := RX3) (T := TX3) (N := 9) (ci := 3) (As := [.int (jI a2), .int (jI (1 : Int)), .int (jI (64 : Int))]) (rest := []) hx hb hml hown hts hK hR hS (c_X3_needRange ha2 (by decide : rg (1 : Int)) (by decide : rg (64 : Int)) hc6) ok0 rfl rfl wd419 wd421 ws6 wd1 wd422 hyX3_needRange ⟨rfl, rfl⟩ ⟨Nat.le_of_ble_eq_true rfl, Nat.le_of_ble_eq_true rfl⟩ hl.1 (Nat.le_of_ble_eq_true rfl) dX3_write_16 ⟨Nat.zero_le _, Nat.zero_le _⟩ rfl (fun H locs hR hS => ?_)
  refine lv_aload_n hx hb dX3_write_19 rfl (lv_at hl 1 rfl) ?_
  refine lv_iload_n hx hb dX3_write_20 rfl (lv_at hl 4 rfl) ?_
  refine x_iconst hx hb dX3_write_21 ?_
  refine x_sipush hx hb (by decide +kernel) dX3_write_22 ?_
  obtain ⟨_, hc7, hF⟩ := xb1_some hF
  refine x_cVv (C := RX3) (T := TX3) (N := 9) (ci := 3) (As := [.int (jI a3), .int (jI (0 : Int)), .int (jI (255 : Int))]) (rest := []) hx hb hml hown hts hK hR hS (c_X3_needRange ha3 (by decide : rg (0 : Int)) (by decide : rg (255 : Int)) hc7) ok0 rfl rfl wd419 wd421 ws6 wd1 wd422 hyX3_needRange ⟨rfl, rfl⟩ ⟨Nat.le_of_ble_eq_true rfl, Nat.le_of_ble_eq_true rfl⟩ hl.1 (Nat.le_of_ble_eq_true rfl) dX3_write_25 ⟨Nat.zero_le _, Nat.zero_le _⟩ rfl (fun H locs hR hS => ?_)
  refine lv_aload hx hb dX3_write_28 (lv_at hl 0 rfl) ?_
  refine gf_0_2 hx hb hts hown hK hR hj5 wd127 dX3_write_30 ?_
  have hg8 : rg (M 11 y3 2) := hR.2 11 y3 2 (by decide)
  refine lv_iload_n hx hb dX3_write_33 rfl (lv_at hl 3 rfl) ?_
  obtain ⟨hq9, hF⟩ := xk_some hF
  refine x_iadd hx hb dX3_write_34 ?_
  refine lv_istore (lv' := [(5, .int (jI ((M 11 y3 2) + a2))), (4, .ref (adr b 11 y3)), (0, .ref (adr b 0 0)), (1, .int (jI a1)), (2, .int (jI a2)), (3, .int (jI a3))]) hx hb dX3_write_35 hl (by decide) rfl (fun ls hl => ?_)
  refine lv_iload hx hb dX3_write_37 (lv_at hl 0 rfl) ?_
  refine x_sipush hx hb (by decide +kernel) dX3_write_39 ?_
  refine x_icmp_le (tgt := 48) hx hb hq9 (by decide : rg (320 : Int)) dX3_write_42 (by decide) (fun ci10 => ?_) (fun ci10 => ?_)
  · rw [if_pos ci10] at hF
    refine lv_aload_n hx hb dX3_write_48 rfl (lv_at hl 2 rfl) ?_
    obtain ⟨M12, hc11, hF⟩ := xb1_some hF
    refine x_cVv (C := RX3) (T := TX3) (N := 9) (ci := 3) (As := []) (rest := []) hx hb hml hown hts hK hR hS (c_X3_startDraft  hc11) ok0 rfl rfl wd633 wd635 ws14 wd1 wd636 hyX3_startDraft ⟨rfl, rfl⟩ ⟨Nat.le_of_ble_eq_true rfl, Nat.le_of_ble_eq_true rfl⟩ hl.1 (Nat.le_of_ble_eq_true rfl) dX3_write_49 ⟨Nat.zero_le _, Nat.zero_le _⟩ rfl (fun H locs hR hS => ?_)
    refine lv_aload_n hx hb dX3_write_52 rfl (lv_at hl 2 rfl) ?_
    refine gf_3_1 hx hb hts hown hK hR wd139 dX3_write_53 ?_
    obtain ⟨ht13, hF⟩ := xk_some hF
    have hj14 : (M12 0 0 1).toNat < 3 := by omega
    refine lv_aload hx hb dX3_write_56 (lv_at hl 1 rfl) ?_
    refine gf_0_1 hx hb hts hown hK hR hj5 wd125 dX3_write_58 ?_
    have hg15 : rg (M12 11 y3 1) := hR.2 11 y3 1 (by decide)
    obtain ⟨y17, hc16, hF⟩ := xb1_some hF
    refine x_cVr (C := RX2) (T := TX2) (N := 8) (ci := 2) (As := [.int (jI (M12 11 y3 1))]) (rest := []) hx hb hml hown hts hK hR hS (c_X2_at hj14 hg15 hc16) (ok1 hj14) rfl rfl wd337 wd255 wd256 wd2 wd257 hyX2_at ⟨rfl, rfl⟩ ⟨Nat.le_of_ble_eq_true rfl, Nat.le_of_ble_eq_true rfl⟩ hl.1 (Nat.le_of_ble_eq_true rfl) dX3_write_61 ⟨Nat.zero_le _, Nat.zero_le _⟩ rfl (fun hg18 H locs hR hS => ?_)
    have hj19 : y17 < 99 := lt2 hg18
    refine lv_astore (lv' := [(6, .ref (adr b 2 y17)), (5, .int (jI ((M 11 y3 2) + a2))), (4, .ref (adr b 11 y3)), (0, .ref (adr b 0 0)), (1, .int (jI a1)), (2, .int (jI a2)), (3, .int (jI a3))]) hx hb dX3_write_64 hl (by decide) rfl (fun ls hl => ?_)
    refine lv_aload_n hx hb dX3_write_66 rfl (lv_at hl 3 rfl) ?_
    refine gf_3_1 hx hb hts hown hK hR wd139 dX3_write_67 ?_
    obtain ⟨ht20, hF⟩ := xk_some hF
    have hj21 : (M12 0 0 1).toNat < 3 := by omega
    refine lv_aload hx hb dX3_write_70 (lv_at hl 0 rfl) ?_
    refine lv_aload hx hb dX3_write_72 (lv_at hl 2 rfl) ?_
    refine gf_0_2 hx hb hts hown hK hR hj5 wd127 dX3_write_74 ?_
    have hg22 : rg (M12 11 y3 2) := hR.2 11 y3 2 (by decide)
    refine lv_iload_n hx hb dX3_write_77 rfl (lv_at hl 5 rfl) ?_
    refine lv_iload_n hx hb dX3_write_78 rfl (lv_at hl 6 rfl) ?_
    obtain ⟨M24, hc23, hF⟩ := xb1_some hF
    refine x_cVv (C := RX2) (T := TX2) (N := 8) (ci := 2) (As := [.ref (adr b 2 y17), .int (jI (M12 11 y3 2)), .int (jI a2), .int (jI a3)]) (rest := []) hx hb hml hown hts hK hR hS (c_X2_writeRow hj21 hj19 hg22 ha2 ha3 hc23) (ok1 hj21) rfl rfl wd810 wd811 wd812 wd2 wd813 hyX2_writeRow ⟨rfl, rfl⟩ ⟨Nat.le_of_ble_eq_true rfl, Nat.le_of_ble_eq_true rfl⟩ hl.1 (Nat.le_of_ble_eq_true rfl) dX3_write_79 ⟨Nat.zero_le _, Nat.zero_le _⟩ rfl (fun H locs hR hS => ?_)
    refine lv_aload_n hx hb dX3_write_82 rfl (lv_at hl 3 rfl) ?_
    refine lv_aload hx hb dX3_write_83 (lv_at hl 0 rfl) ?_
    refine gf_1_3 hx hb hts hown hK hR hj19 wd44 dX3_write_85 ?_
    have hg25 : rg (M24 2 y17 3) := hR.2 2 y17 3 (by decide)
    obtain ⟨y27, M28, hc26, hF⟩ := xb2_some hF
    refine x_cVi (C := RX3) (T := TX3) (N := 9) (ci := 3) (As := [.int (jI (M24 2 y17 3))]) (rest := []) hx hb hml hown hts hK hR hS (c_X3_settle hg25 hc26) ok0 rfl rfl wd653 wd655 ws15 wd1 wd656 hyX3_settle ⟨rfl, rfl⟩ ⟨Nat.le_of_ble_eq_true rfl, Nat.le_of_ble_eq_true rfl⟩ hl.1 (Nat.le_of_ble_eq_true rfl) dX3_write_88 ⟨Nat.zero_le _, Nat.zero_le _⟩ rfl (fun hg29 H locs hR hS => ?_)
    refine lv_istore (lv' := [(7, .int (jI y27)), (6, .ref (adr b 2 y17)), (5, .int (jI ((M 11 y3 2) + a2))), (4, .ref (adr b 11 y3)), (0, .ref (adr b 0 0)), (1, .int (jI a1)), (2, .int (jI a2)), (3, .int (jI a3))]) hx hb dX3_write_91 hl (by decide) rfl (fun ls hl => ?_)
    refine lv_iload hx hb dX3_write_93 (lv_at hl 0 rfl) ?_
    refine x_if_lt (tgt := 105) hx hb hg29 dX3_write_95 (by decide) (fun ci30 => ?_) (fun ci30 => ?_)
    · rw [if_pos ci30] at hF
      refine lv_iload hx hb dX3_write_105 (lv_at hl 0 rfl) ?_
      cases hF
      exact x_iret hx hb hlocks hK hR hS hr hg29 dX3_write_107
    · rw [if_neg ci30] at hF
      refine lv_aload hx hb dX3_write_98 (lv_at hl 3 rfl) ?_
      refine lv_iload hx hb dX3_write_100 (lv_at hl 2 rfl) ?_
      refine pf_0_2 hx hb hts hown hK hR hS hj5 hq9 wd127 dX3_write_102 (fun H locs hR hS => ?_)
      obtain ⟨M31, eM, hF⟩ := xl_some hF
      rw [eM] at hR
      clear eM
      refine lv_iload hx hb dX3_write_105 (lv_at hl 0 rfl) ?_
      cases hF
      exact x_iret hx hb hlocks hK hR hS hr hg29 dX3_write_107
  · rw [if_neg ci10] at hF
    refine x_bipush hx hb (by decide +kernel) dX3_write_45 ?_
    cases hF
    exact x_iret hx hb hlocks hK hR hS hr (by decide : rg (-5 : Int)) dX3_write_47
abbrev rmX3_truncate : Room := { frames := 6, cells := 0, slots := 0, locals := 131 }
theorem hyX3_truncate : yX3_truncate.cls = RX3 ∧ yX3_truncate.cls ≠ "java/lang/invoke/MethodHandle" ∧ yX3_truncate.cls ≠ "java/lang/invoke/VarHandle" ∧ (parseMethodDescriptor yX3_truncate.desc).map (fun d => d.parameters.length) = some 2 := by decide +kernel
def F_X3_truncate (M : Mm) (a1 : Int) (a2 : Int) : Option (Int × Mm) := (xb1 (F_X3_needPower M ) fun _ => (xb1 (F_X3_needNode M a1) fun _ => (xb1 (F_X3_needRange M a2 (0 : Int) (320 : Int)) fun _ => (xk (M 0 0 0 = 0 ∨ M 0 0 0 = 1) (xb1 (F_X2_at M ((M 0 0 0).toNat) a1) fun y7 => (if (M 2 y7 0) = (1 : Int) then (xb1 (F_X3_startDraft M ) fun M13 => (xk (M13 0 0 1 = 0 ∨ M13 0 0 1 = 1) (xk (M13 0 0 1 = 0 ∨ M13 0 0 1 = 1) (xb1 (F_X2_at M13 ((M13 0 0 1).toNat) a1) fun y19 => (xb1 (F_X2_resize M13 ((M13 0 0 1).toNat) y19 a2) fun M23 => (xk (M23 0 0 0 = 0 ∨ M23 0 0 0 = 1) (xb1 (F_X2_at M23 ((M23 0 0 0).toNat) a1) fun y27 => (xb2 (F_X3_settle M23 (M23 2 y27 3)) fun y32 M33 => (some (y32, M33)))))))))) else (some ((-3 : Int), M))))))))
set_option maxHeartbeats 4000000 in
set_option maxRecDepth 100000 in
theorem c_X3_truncate {l : Launch} {g : Gx} {b : Nat} {M : Mm} {a1 : Int} {a2 : Int} {r : Int} {M' : Mm} (ha1 : rg a1) (ha2 : rg a2) (hF : F_X3_truncate M a1 a2 = some (r, M')) : Ct l yX3_truncate cX3_truncate 3 (some .int) rmX3_truncate g b [.ref (adr b 0 0), .int (jI a1), .int (jI a2)] M (qI g b r M') := by
  refine ct_of (by decide +kernel) (Nat.le_of_ble_eq_true rfl) ?_
  intro p e s m args below meth c C0 hR ls hl
  obtain ⟨hx, hb, hr, hlocks, hml, hown, hts, hK⟩ := id C0
  have hS : va_S (AA b s.heap.size) s.heap s.heap [] := va_S.rf
  have hl : lv_has ls 3 [(0, .ref (adr b 0 0)), (1, .int (jI a1)), (2, .int (jI a2))] := hl
  obtain ⟨H, hH⟩ : ∃ z, z = s.heap := ⟨_, rfl⟩
  obtain ⟨locs, hlo⟩ : ∃ z : List Loc, z = [] := ⟨_, rfl⟩
  have hR : Rel g b M H := by rw [hH]; exact hR
  have hS : va_S (AA b s.heap.size) s.heap H locs := by rw [hH, hlo]; exact hS
  suffices hW : W p l e rmX3_truncate s m args below meth c H locs 0 0 (MQ below (qI g b r M' s.heap.size) args s 0 0 (AA b s.heap.size)) (F0 m 0 ls []) by rw [hH, hlo] at hW; exact hW
  rw [F_X3_truncate] at hF
  refine lv_aload_n hx hb dX3_truncate_0 rfl (lv_at hl 0 rfl) ?_
  obtain ⟨_, hc1, hF⟩ := xb1_some hF
  refine x_cVv (C := RX3) (T := TX3) (N := 9) (ci := 3) (As := []) (rest := []) hx hb hml hown hts hK hR hS (c_X3_needPower  hc1) ok0 rfl rfl wd170 wd172 ws0 wd1 wd173 hyX3_needPower ⟨rfl, rfl⟩ ⟨Nat.le_of_ble_eq_true rfl, Nat.le_of_ble_eq_true rfl⟩ hl.1 (Nat.le_of_ble_eq_true rfl) dX3_truncate_1 ⟨Nat.zero_le _, Nat.zero_le _⟩ rfl (fun H locs hR hS => ?_)
  refine lv_aload_n hx hb dX3_truncate_4 rfl (lv_at hl 0 rfl) ?_
  refine lv_iload_n hx hb dX3_truncate_5 rfl (lv_at hl 1 rfl) ?_
  obtain ⟨_, hc2, hF⟩ := xb1_some hF
  refine x_cVv (C := RX3) (T := TX3) (N := 9) (ci := 3) (As := [.int (jI a1)]) (rest := []) hx hb hml hown hts hK hR hS (c_X3_needNode ha1 hc2) ok0 rfl rfl wd346 wd348 ws5 wd1 wd349 hyX3_needNode ⟨rfl, rfl⟩ ⟨Nat.le_of_ble_eq_true rfl, Nat.le_of_ble_eq_true rfl⟩ hl.1 (Nat.le_of_ble_eq_true rfl) dX3_truncate_6 ⟨Nat.zero_le _, Nat.zero_le _⟩ rfl (fun H locs hR hS => ?_)
  refine lv_aload_n hx hb dX3_truncate_9 rfl (lv_at hl 0 rfl) ?_
  refine lv_iload_n hx hb dX3_truncate_10 rfl (lv_at hl 2 rfl) ?_
  refine x_iconst hx hb dX3_truncate_11 ?_
  refine x_sipush hx hb (by decide +kernel) dX3_truncate_12 ?_
  obtain ⟨_, hc3, hF⟩ := xb1_some hF
  refine x_cVv (C := RX3) (T := TX3) (N := 9) (ci := 3) (As := [.int (jI a2), .int (jI (0 : Int)), .int (jI (320 : Int))]) (rest := []) hx hb hml hown hts hK hR hS (c_X3_needRange ha2 (by decide : rg (0 : Int)) (by decide : rg (320 : Int)) hc3) ok0 rfl rfl wd419 wd421 ws6 wd1 wd422 hyX3_needRange ⟨rfl, rfl⟩ ⟨Nat.le_of_ble_eq_true rfl, Nat.le_of_ble_eq_true rfl⟩ hl.1 (Nat.le_of_ble_eq_true rfl) dX3_truncate_15 ⟨Nat.zero_le _, Nat.zero_le _⟩ rfl (fun H locs hR hS => ?_)
  refine lv_aload_n hx hb dX3_truncate_18 rfl (lv_at hl 0 rfl) ?_
  refine gf_3_0 hx hb hts hown hK hR wd138 dX3_truncate_19 ?_
  obtain ⟨ht4, hF⟩ := xk_some hF
  have hj5 : (M 0 0 0).toNat < 3 := by omega
  refine lv_iload_n hx hb dX3_truncate_22 rfl (lv_at hl 1 rfl) ?_
  obtain ⟨y7, hc6, hF⟩ := xb1_some hF
  refine x_cVr (C := RX2) (T := TX2) (N := 8) (ci := 2) (As := [.int (jI a1)]) (rest := []) hx hb hml hown hts hK hR hS (c_X2_at hj5 ha1 hc6) (ok1 hj5) rfl rfl wd337 wd255 wd256 wd2 wd257 hyX2_at ⟨rfl, rfl⟩ ⟨Nat.le_of_ble_eq_true rfl, Nat.le_of_ble_eq_true rfl⟩ hl.1 (Nat.le_of_ble_eq_true rfl) dX3_truncate_23 ⟨Nat.zero_le _, Nat.zero_le _⟩ rfl (fun hg8 H locs hR hS => ?_)
  have hj9 : y7 < 99 := lt2 hg8
  refine gf_1_0 hx hb hts hown hK hR hj9 wd36 dX3_truncate_26 ?_
  have hg10 : rg (M 2 y7 0) := hR.2 2 y7 0 (by decide)
  refine x_iconst hx hb dX3_truncate_29 ?_
  refine x_icmp_eq (tgt := 36) hx hb hg10 (by decide : rg (1 : Int)) dX3_truncate_30 (by decide) (fun ci11 => ?_) (fun ci11 => ?_)
  · rw [if_pos ci11] at hF
    refine lv_aload_n hx hb dX3_truncate_36 rfl (lv_at hl 0 rfl) ?_
    obtain ⟨M13, hc12, hF⟩ := xb1_some hF
    refine x_cVv (C := RX3) (T := TX3) (N := 9) (ci := 3) (As := []) (rest := []) hx hb hml hown hts hK hR hS (c_X3_startDraft  hc12) ok0 rfl rfl wd633 wd635 ws14 wd1 wd636 hyX3_startDraft ⟨rfl, rfl⟩ ⟨Nat.le_of_ble_eq_true rfl, Nat.le_of_ble_eq_true rfl⟩ hl.1 (Nat.le_of_ble_eq_true rfl) dX3_truncate_37 ⟨Nat.zero_le _, Nat.zero_le _⟩ rfl (fun H locs hR hS => ?_)
    refine lv_aload_n hx hb dX3_truncate_40 rfl (lv_at hl 0 rfl) ?_
    refine gf_3_1 hx hb hts hown hK hR wd139 dX3_truncate_41 ?_
    obtain ⟨ht14, hF⟩ := xk_some hF
    have hj15 : (M13 0 0 1).toNat < 3 := by omega
    refine lv_aload_n hx hb dX3_truncate_44 rfl (lv_at hl 0 rfl) ?_
    refine gf_3_1 hx hb hts hown hK hR wd139 dX3_truncate_45 ?_
    obtain ⟨ht16, hF⟩ := xk_some hF
    have hj17 : (M13 0 0 1).toNat < 3 := by omega
    refine lv_iload_n hx hb dX3_truncate_48 rfl (lv_at hl 1 rfl) ?_
    obtain ⟨y19, hc18, hF⟩ := xb1_some hF
    refine x_cVr (C := RX2) (T := TX2) (N := 8) (ci := 2) (As := [.int (jI a1)]) (rest := [.ref (adr b 1 ((M13 0 0 1).toNat))]) hx hb hml hown hts hK hR hS (c_X2_at hj17 ha1 hc18) (ok1 hj17) rfl rfl wd337 wd255 wd256 wd2 wd257 hyX2_at ⟨rfl, rfl⟩ ⟨Nat.le_of_ble_eq_true rfl, Nat.le_of_ble_eq_true rfl⟩ hl.1 (Nat.le_of_ble_eq_true rfl) dX3_truncate_49 ⟨Nat.zero_le _, Nat.zero_le _⟩ rfl (fun hg20 H locs hR hS => ?_)
    have hj21 : y19 < 99 := lt2 hg20
    refine lv_iload_n hx hb dX3_truncate_52 rfl (lv_at hl 2 rfl) ?_
    obtain ⟨M23, hc22, hF⟩ := xb1_some hF
    refine x_cVv (C := RX2) (T := TX2) (N := 8) (ci := 2) (As := [.ref (adr b 2 y19), .int (jI a2)]) (rest := []) hx hb hml hown hts hK hR hS (c_X2_resize hj15 hj21 ha2 hc22) (ok1 hj15) rfl rfl wd745 wd746 wd747 wd2 wd748 hyX2_resize ⟨rfl, rfl⟩ ⟨Nat.le_of_ble_eq_true rfl, Nat.le_of_ble_eq_true rfl⟩ hl.1 (Nat.le_of_ble_eq_true rfl) dX3_truncate_53 ⟨Nat.zero_le _, Nat.zero_le _⟩ rfl (fun H locs hR hS => ?_)
    refine lv_aload_n hx hb dX3_truncate_56 rfl (lv_at hl 0 rfl) ?_
    refine lv_aload_n hx hb dX3_truncate_57 rfl (lv_at hl 0 rfl) ?_
    refine gf_3_0 hx hb hts hown hK hR wd138 dX3_truncate_58 ?_
    obtain ⟨ht24, hF⟩ := xk_some hF
    have hj25 : (M23 0 0 0).toNat < 3 := by omega
    refine lv_iload_n hx hb dX3_truncate_61 rfl (lv_at hl 1 rfl) ?_
    obtain ⟨y27, hc26, hF⟩ := xb1_some hF
    refine x_cVr (C := RX2) (T := TX2) (N := 8) (ci := 2) (As := [.int (jI a1)]) (rest := [.ref (adr b 0 0)]) hx hb hml hown hts hK hR hS (c_X2_at hj25 ha1 hc26) (ok1 hj25) rfl rfl wd337 wd255 wd256 wd2 wd257 hyX2_at ⟨rfl, rfl⟩ ⟨Nat.le_of_ble_eq_true rfl, Nat.le_of_ble_eq_true rfl⟩ hl.1 (Nat.le_of_ble_eq_true rfl) dX3_truncate_62 ⟨Nat.zero_le _, Nat.zero_le _⟩ rfl (fun hg28 H locs hR hS => ?_)
    have hj29 : y27 < 99 := lt2 hg28
    refine gf_1_3 hx hb hts hown hK hR hj29 wd44 dX3_truncate_65 ?_
    have hg30 : rg (M23 2 y27 3) := hR.2 2 y27 3 (by decide)
    obtain ⟨y32, M33, hc31, hF⟩ := xb2_some hF
    refine x_cVi (C := RX3) (T := TX3) (N := 9) (ci := 3) (As := [.int (jI (M23 2 y27 3))]) (rest := []) hx hb hml hown hts hK hR hS (c_X3_settle hg30 hc31) ok0 rfl rfl wd653 wd655 ws15 wd1 wd656 hyX3_settle ⟨rfl, rfl⟩ ⟨Nat.le_of_ble_eq_true rfl, Nat.le_of_ble_eq_true rfl⟩ hl.1 (Nat.le_of_ble_eq_true rfl) dX3_truncate_68 ⟨Nat.zero_le _, Nat.zero_le _⟩ rfl (fun hg34 H locs hR hS => ?_)
    cases hF
    exact x_iret hx hb hlocks hK hR hS hr hg34 dX3_truncate_71
  · rw [if_neg ci11] at hF
    refine x_bipush hx hb (by decide +kernel) dX3_truncate_33 ?_
    cases hF
    exact x_iret hx hb hlocks hK hR hS hr (by decide : rg (-3 : Int)) dX3_truncate_35
abbrev rmX3_punch : Room := { frames := 6, cells := 0, slots := 0, locals := 131 }
theorem hyX3_punch : yX3_punch.cls = RX3 ∧ yX3_punch.cls ≠ "java/lang/invoke/MethodHandle" ∧ yX3_punch.cls ≠ "java/lang/invoke/VarHandle" ∧ (parseMethodDescriptor yX3_punch.desc).map (fun d => d.parameters.length) = some 2 := by decide +kernel
def F_X3_punch (M : Mm) (a1 : Int) (a2 : Int) : Option (Int × Mm) := (xb1 (F_X3_needPower M ) fun _ => (xb1 (F_X3_needNode M a1) fun _ => (xb1 (F_X3_needRange M a2 (0 : Int) (19 : Int)) fun _ => (xk (M 0 0 0 = 0 ∨ M 0 0 0 = 1) (xb1 (F_X2_at M ((M 0 0 0).toNat) a1) fun y7 => (if (M 2 y7 0) = (1 : Int) then (xb1 (F_X3_startDraft M ) fun M13 => (xk (M13 0 0 1 = 0 ∨ M13 0 0 1 = 1) (xk (M13 0 0 1 = 0 ∨ M13 0 0 1 = 1) (xb1 (F_X2_at M13 ((M13 0 0 1).toNat) a1) fun y19 => (xb1 (F_X2_put M13 ((M13 0 0 1).toNat) y19 a2 (0 : Int)) fun M23 => (xk (M23 0 0 0 = 0 ∨ M23 0 0 0 = 1) (xb1 (F_X2_at M23 ((M23 0 0 0).toNat) a1) fun y27 => (xb1 (F_X1_blockAt M23 y27 a2) fun y31 => (if y31 = 0 then (xb2 (F_X3_settle M23 (0 : Int)) fun y39 M40 => (some (y39, M40))) else (xb2 (F_X3_settle M23 (1 : Int)) fun y35 M36 => (some (y35, M36)))))))))))) else (some ((-3 : Int), M))))))))
set_option maxHeartbeats 4000000 in
set_option maxRecDepth 100000 in
theorem c_X3_punch {l : Launch} {g : Gx} {b : Nat} {M : Mm} {a1 : Int} {a2 : Int} {r : Int} {M' : Mm} (ha1 : rg a1) (ha2 : rg a2) (hF : F_X3_punch M a1 a2 = some (r, M')) : Ct l yX3_punch cX3_punch 3 (some .int) rmX3_punch g b [.ref (adr b 0 0), .int (jI a1), .int (jI a2)] M (qI g b r M') := by
  refine ct_of (by decide +kernel) (Nat.le_of_ble_eq_true rfl) ?_
  intro p e s m args below meth c C0 hR ls hl
  obtain ⟨hx, hb, hr, hlocks, hml, hown, hts, hK⟩ := id C0
  have hS : va_S (AA b s.heap.size) s.heap s.heap [] := va_S.rf
  have hl : lv_has ls 3 [(0, .ref (adr b 0 0)), (1, .int (jI a1)), (2, .int (jI a2))] := hl
  obtain ⟨H, hH⟩ : ∃ z, z = s.heap := ⟨_, rfl⟩
  obtain ⟨locs, hlo⟩ : ∃ z : List Loc, z = [] := ⟨_, rfl⟩
  have hR : Rel g b M H := by rw [hH]; exact hR
  have hS : va_S (AA b s.heap.size) s.heap H locs := by rw [hH, hlo]; exact hS
  suffices hW : W p l e rmX3_punch s m args below meth c H locs 0 0 (MQ below (qI g b r M' s.heap.size) args s 0 0 (AA b s.heap.size)) (F0 m 0 ls []) by rw [hH, hlo] at hW; exact hW
  rw [F_X3_punch] at hF
  refine lv_aload_n hx hb dX3_punch_0 rfl (lv_at hl 0 rfl) ?_
  obtain ⟨_, hc1, hF⟩ := xb1_some hF
  refine x_cVv (C := RX3) (T := TX3) (N := 9) (ci := 3) (As := []) (rest := []) hx hb hml hown hts hK hR hS (c_X3_needPower  hc1) ok0 rfl rfl wd170 wd172 ws0 wd1 wd173 hyX3_needPower ⟨rfl, rfl⟩ ⟨Nat.le_of_ble_eq_true rfl, Nat.le_of_ble_eq_true rfl⟩ hl.1 (Nat.le_of_ble_eq_true rfl) dX3_punch_1 ⟨Nat.zero_le _, Nat.zero_le _⟩ rfl (fun H locs hR hS => ?_)
  refine lv_aload_n hx hb dX3_punch_4 rfl (lv_at hl 0 rfl) ?_
  refine lv_iload_n hx hb dX3_punch_5 rfl (lv_at hl 1 rfl) ?_
  obtain ⟨_, hc2, hF⟩ := xb1_some hF
  refine x_cVv (C := RX3) (T := TX3) (N := 9) (ci := 3) (As := [.int (jI a1)]) (rest := []) hx hb hml hown hts hK hR hS (c_X3_needNode ha1 hc2) ok0 rfl rfl wd346 wd348 ws5 wd1 wd349 hyX3_needNode ⟨rfl, rfl⟩ ⟨Nat.le_of_ble_eq_true rfl, Nat.le_of_ble_eq_true rfl⟩ hl.1 (Nat.le_of_ble_eq_true rfl) dX3_punch_6 ⟨Nat.zero_le _, Nat.zero_le _⟩ rfl (fun H locs hR hS => ?_)
  refine lv_aload_n hx hb dX3_punch_9 rfl (lv_at hl 0 rfl) ?_
  refine lv_iload_n hx hb dX3_punch_10 rfl (lv_at hl 2 rfl) ?_
  refine x_iconst hx hb dX3_punch_11 ?_
  refine x_bipush hx hb (by decide +kernel) dX3_punch_12 ?_
  obtain ⟨_, hc3, hF⟩ := xb1_some hF
  refine x_cVv (C := RX3) (T := TX3) (N := 9) (ci := 3) (As := [.int (jI a2), .int (jI (0 : Int)), .int (jI (19 : Int))]) (rest := []) hx hb hml hown hts hK hR hS (c_X3_needRange ha2 (by decide : rg (0 : Int)) (by decide : rg (19 : Int)) hc3) ok0 rfl rfl wd419 wd421 ws6 wd1 wd422 hyX3_needRange ⟨rfl, rfl⟩ ⟨Nat.le_of_ble_eq_true rfl, Nat.le_of_ble_eq_true rfl⟩ hl.1 (Nat.le_of_ble_eq_true rfl) dX3_punch_14 ⟨Nat.zero_le _, Nat.zero_le _⟩ rfl (fun H locs hR hS => ?_)
  refine lv_aload_n hx hb dX3_punch_17 rfl (lv_at hl 0 rfl) ?_
  refine gf_3_0 hx hb hts hown hK hR wd138 dX3_punch_18 ?_
  obtain ⟨ht4, hF⟩ := xk_some hF
  have hj5 : (M 0 0 0).toNat < 3 := by omega
  refine lv_iload_n hx hb dX3_punch_21 rfl (lv_at hl 1 rfl) ?_
  obtain ⟨y7, hc6, hF⟩ := xb1_some hF
  refine x_cVr (C := RX2) (T := TX2) (N := 8) (ci := 2) (As := [.int (jI a1)]) (rest := []) hx hb hml hown hts hK hR hS (c_X2_at hj5 ha1 hc6) (ok1 hj5) rfl rfl wd337 wd255 wd256 wd2 wd257 hyX2_at ⟨rfl, rfl⟩ ⟨Nat.le_of_ble_eq_true rfl, Nat.le_of_ble_eq_true rfl⟩ hl.1 (Nat.le_of_ble_eq_true rfl) dX3_punch_22 ⟨Nat.zero_le _, Nat.zero_le _⟩ rfl (fun hg8 H locs hR hS => ?_)
  have hj9 : y7 < 99 := lt2 hg8
  refine gf_1_0 hx hb hts hown hK hR hj9 wd36 dX3_punch_25 ?_
  have hg10 : rg (M 2 y7 0) := hR.2 2 y7 0 (by decide)
  refine x_iconst hx hb dX3_punch_28 ?_
  refine x_icmp_eq (tgt := 35) hx hb hg10 (by decide : rg (1 : Int)) dX3_punch_29 (by decide) (fun ci11 => ?_) (fun ci11 => ?_)
  · rw [if_pos ci11] at hF
    refine lv_aload_n hx hb dX3_punch_35 rfl (lv_at hl 0 rfl) ?_
    obtain ⟨M13, hc12, hF⟩ := xb1_some hF
    refine x_cVv (C := RX3) (T := TX3) (N := 9) (ci := 3) (As := []) (rest := []) hx hb hml hown hts hK hR hS (c_X3_startDraft  hc12) ok0 rfl rfl wd633 wd635 ws14 wd1 wd636 hyX3_startDraft ⟨rfl, rfl⟩ ⟨Nat.le_of_ble_eq_true rfl, Nat.le_of_ble_eq_true rfl⟩ hl.1 (Nat.le_of_ble_eq_true rfl) dX3_punch_36 ⟨Nat.zero_le _, Nat.zero_le _⟩ rfl (fun H locs hR hS => ?_)
    refine lv_aload_n hx hb dX3_punch_39 rfl (lv_at hl 0 rfl) ?_
    refine gf_3_1 hx hb hts hown hK hR wd139 dX3_punch_40 ?_
    obtain ⟨ht14, hF⟩ := xk_some hF
    have hj15 : (M13 0 0 1).toNat < 3 := by omega
    refine lv_aload_n hx hb dX3_punch_43 rfl (lv_at hl 0 rfl) ?_
    refine gf_3_1 hx hb hts hown hK hR wd139 dX3_punch_44 ?_
    obtain ⟨ht16, hF⟩ := xk_some hF
    have hj17 : (M13 0 0 1).toNat < 3 := by omega
    refine lv_iload_n hx hb dX3_punch_47 rfl (lv_at hl 1 rfl) ?_
    obtain ⟨y19, hc18, hF⟩ := xb1_some hF
    refine x_cVr (C := RX2) (T := TX2) (N := 8) (ci := 2) (As := [.int (jI a1)]) (rest := [.ref (adr b 1 ((M13 0 0 1).toNat))]) hx hb hml hown hts hK hR hS (c_X2_at hj17 ha1 hc18) (ok1 hj17) rfl rfl wd337 wd255 wd256 wd2 wd257 hyX2_at ⟨rfl, rfl⟩ ⟨Nat.le_of_ble_eq_true rfl, Nat.le_of_ble_eq_true rfl⟩ hl.1 (Nat.le_of_ble_eq_true rfl) dX3_punch_48 ⟨Nat.zero_le _, Nat.zero_le _⟩ rfl (fun hg20 H locs hR hS => ?_)
    have hj21 : y19 < 99 := lt2 hg20
    refine lv_iload_n hx hb dX3_punch_51 rfl (lv_at hl 2 rfl) ?_
    refine x_iconst hx hb dX3_punch_52 ?_
    obtain ⟨M23, hc22, hF⟩ := xb1_some hF
    refine x_cVv (C := RX2) (T := TX2) (N := 8) (ci := 2) (As := [.ref (adr b 2 y19), .int (jI a2), .int (jI (0 : Int))]) (rest := []) hx hb hml hown hts hK hR hS (c_X2_put hj15 hj21 ha2 (by decide : rg (0 : Int)) hc22) (ok1 hj15) rfl rfl wd765 wd307 wd308 wd2 wd309 hyX2_put ⟨rfl, rfl⟩ ⟨Nat.le_of_ble_eq_true rfl, Nat.le_of_ble_eq_true rfl⟩ hl.1 (Nat.le_of_ble_eq_true rfl) dX3_punch_53 ⟨Nat.zero_le _, Nat.zero_le _⟩ rfl (fun H locs hR hS => ?_)
    refine lv_aload_n hx hb dX3_punch_56 rfl (lv_at hl 0 rfl) ?_
    refine lv_aload_n hx hb dX3_punch_57 rfl (lv_at hl 0 rfl) ?_
    refine gf_3_0 hx hb hts hown hK hR wd138 dX3_punch_58 ?_
    obtain ⟨ht24, hF⟩ := xk_some hF
    have hj25 : (M23 0 0 0).toNat < 3 := by omega
    refine lv_iload_n hx hb dX3_punch_61 rfl (lv_at hl 1 rfl) ?_
    obtain ⟨y27, hc26, hF⟩ := xb1_some hF
    refine x_cVr (C := RX2) (T := TX2) (N := 8) (ci := 2) (As := [.int (jI a1)]) (rest := [.ref (adr b 0 0)]) hx hb hml hown hts hK hR hS (c_X2_at hj25 ha1 hc26) (ok1 hj25) rfl rfl wd337 wd255 wd256 wd2 wd257 hyX2_at ⟨rfl, rfl⟩ ⟨Nat.le_of_ble_eq_true rfl, Nat.le_of_ble_eq_true rfl⟩ hl.1 (Nat.le_of_ble_eq_true rfl) dX3_punch_62 ⟨Nat.zero_le _, Nat.zero_le _⟩ rfl (fun hg28 H locs hR hS => ?_)
    have hj29 : y27 < 99 := lt2 hg28
    refine lv_iload_n hx hb dX3_punch_65 rfl (lv_at hl 2 rfl) ?_
    obtain ⟨y31, hc30, hF⟩ := xb1_some hF
    refine x_cVi (C := RX1) (T := TX1) (N := 12) (ci := 1) (As := [.int (jI a2)]) (rest := [.ref (adr b 0 0)]) hx hb hml hown hts hK hR hS (c_X1_blockAt hj29 ha2 hc30) (ok2 hj29) rfl rfl wd766 wd311 wd312 wd3 wd313 hyX1_blockAt ⟨rfl, rfl⟩ ⟨Nat.le_of_ble_eq_true rfl, Nat.le_of_ble_eq_true rfl⟩ hl.1 (Nat.le_of_ble_eq_true rfl) dX3_punch_66 ⟨Nat.zero_le _, Nat.zero_le _⟩ rfl (fun hg32 H locs hR hS => ?_)
    refine x_if_ne (tgt := 76) hx hb hg32 dX3_punch_69 (by decide) (fun ci33 => ?_) (fun ci33 => ?_)
    · rw [if_neg ci33] at hF
      refine x_iconst hx hb dX3_punch_76 ?_
      obtain ⟨y35, M36, hc34, hF⟩ := xb2_some hF
      refine x_cVi (C := RX3) (T := TX3) (N := 9) (ci := 3) (As := [.int (jI (1 : Int))]) (rest := []) hx hb hml hown hts hK hR hS (c_X3_settle (by decide : rg (1 : Int)) hc34) ok0 rfl rfl wd653 wd655 ws15 wd1 wd656 hyX3_settle ⟨rfl, rfl⟩ ⟨Nat.le_of_ble_eq_true rfl, Nat.le_of_ble_eq_true rfl⟩ hl.1 (Nat.le_of_ble_eq_true rfl) dX3_punch_77 ⟨Nat.zero_le _, Nat.zero_le _⟩ rfl (fun hg37 H locs hR hS => ?_)
      cases hF
      exact x_iret hx hb hlocks hK hR hS hr hg37 dX3_punch_80
    · rw [if_pos ci33] at hF
      refine x_iconst hx hb dX3_punch_72 ?_
      refine lv_goto (tgt := 77) hx hb dX3_punch_73 (by decide) ?_
      obtain ⟨y39, M40, hc38, hF⟩ := xb2_some hF
      refine x_cVi (C := RX3) (T := TX3) (N := 9) (ci := 3) (As := [.int (jI (0 : Int))]) (rest := []) hx hb hml hown hts hK hR hS (c_X3_settle (by decide : rg (0 : Int)) hc38) ok0 rfl rfl wd653 wd655 ws15 wd1 wd656 hyX3_settle ⟨rfl, rfl⟩ ⟨Nat.le_of_ble_eq_true rfl, Nat.le_of_ble_eq_true rfl⟩ hl.1 (Nat.le_of_ble_eq_true rfl) dX3_punch_77 ⟨Nat.zero_le _, Nat.zero_le _⟩ rfl (fun hg41 H locs hR hS => ?_)
      cases hF
      exact x_iret hx hb hlocks hK hR hS hr hg41 dX3_punch_80
  · rw [if_neg ci11] at hF
    refine x_bipush hx hb (by decide +kernel) dX3_punch_32 ?_
    cases hF
    exact x_iret hx hb hlocks hK hR hS hr (by decide : rg (-3 : Int)) dX3_punch_34
abbrev rmX3_share : Room := { frames := 6, cells := 0, slots := 0, locals := 131 }
theorem hyX3_share : yX3_share.cls = RX3 ∧ yX3_share.cls ≠ "java/lang/invoke/MethodHandle" ∧ yX3_share.cls ≠ "java/lang/invoke/VarHandle" ∧ (parseMethodDescriptor yX3_share.desc).map (fun d => d.parameters.length) = some 4 := by decide +kernel
def F_X3_share_94  (M : Mm) (v1 : Int) (v2 : Int) (v5 : Nat) (v6 : Int) : Option (Int × Mm) := (xb1 (F_X1_hasElsewhere M v5 v6 v2) fun y2 => (if y2 = 0 then (xk (rg (v2 + (1 : Int))) (xk (rg ((v2 + (1 : Int)) * (16 : Int))) (if ((v2 + (1 : Int)) * (16 : Int)) ≤ (M 2 v5 3) then (xb1 (F_X3_startDraft M ) fun M10 => (xk (M10 0 0 1 = 0 ∨ M10 0 0 1 = 1) (xk (M10 0 0 1 = 0 ∨ M10 0 0 1 = 1) (xb1 (F_X2_at M10 ((M10 0 0 1).toNat) v1) fun y16 => (xb1 (F_X2_put M10 ((M10 0 0 1).toNat) y16 v2 v6) fun M20 => (if v6 = 0 then (xb2 (F_X3_settle M20 (0 : Int)) fun y27 M28 => (some (y27, M28))) else (xb2 (F_X3_settle M20 (1 : Int)) fun y23 M24 => (some (y23, M24))))))))) else (some ((-5 : Int), M))))) else (some ((-6 : Int), M))))
set_option maxHeartbeats 4000000 in
set_option maxRecDepth 100000 in
theorem w_X3_share_94 {p : Program} {l : Launch} {e : Env} {s : State} {m : MethodId} {args : Array Value} {below : List Frame} {meth : Method} {c : Code} {g : Gx} {b : Nat} (C0 : XA p s m meth c args RX3 cX3_share 7 (some .int) g) {r : Int} {M' : Mm} : ∀ (M : Mm) (v1 : Int) (v2 : Int) (v5 : Nat) (v6 : Int) (hv1 : rg v1) (hv2 : rg v2) (hv5 : v5 < 99) (hv6 : rg v6) (H : Heap) (locs : List Loc), Rel g b M H → va_S (AA b s.heap.size) s.heap H locs → ∀ ls : Array Slot, lv_has ls 7 [(0, .ref (adr b 0 0)), (1, .int (jI v1)), (2, .int (jI v2)), (5, .ref (adr b 2 v5)), (6, .int (jI v6))] → F_X3_share_94  M v1 v2 v5 v6 = some (r, M') → W p l e rmX3_share s m args below meth c H locs 0 0 (MQ below (qI g b r M' s.heap.size) args s 0 0 (AA b s.heap.size)) (F0 m 94 ls []) := by
  obtain ⟨hx, hb, hr, hlocks, hml, hown, hts, hK⟩ := id C0
  intro M v1 v2 v5 v6 hv1 hv2 hv5 hv6 H locs hR hS ls hl hF
  rw [F_X3_share_94] at hF
  refine lv_aload hx hb dX3_share_94 (lv_at hl 3 rfl) ?_
  refine lv_iload hx hb dX3_share_96 (lv_at hl 4 rfl) ?_
  refine lv_iload_n hx hb dX3_share_98 rfl (lv_at hl 2 rfl) ?_
  obtain ⟨y2, hc1, hF⟩ := xb1_some hF
  refine x_cVi (C := RX1) (T := TX1) (N := 12) (ci := 1) (As := [.int (jI v6), .int (jI v2)]) (rest := []) hx hb hml hown hts hK hR hS (c_X1_hasElsewhere hv5 hv6 hv2 hc1) (ok2 hv5) rfl rfl wd771 wd772 wd773 wd3 wd774 hyX1_hasElsewhere ⟨rfl, rfl⟩ ⟨Nat.le_of_ble_eq_true rfl, Nat.le_of_ble_eq_true rfl⟩ hl.1 (Nat.le_of_ble_eq_true rfl) dX3_share_99 ⟨Nat.zero_le _, Nat.zero_le _⟩ rfl (fun hg3 H locs hR hS => ?_)
  refine x_if_eq (tgt := 108) hx hb hg3 dX3_share_102 (by decide) (fun ci4 => ?_) (fun ci4 => ?_)
  · rw [if_pos ci4] at hF
    refine lv_iload_n hx hb dX3_share_108 rfl (lv_at hl 2 rfl) ?_
    refine x_iconst hx hb dX3_share_109 ?_
    obtain ⟨hq5, hF⟩ := xk_some hF
    refine x_iadd hx hb dX3_share_110 ?_
    refine x_bipush hx hb (by decide +kernel) dX3_share_111 ?_
    obtain ⟨hq6, hF⟩ := xk_some hF
    refine x_imul hx hb dX3_share_113 ?_
    refine lv_aload hx hb dX3_share_114 (lv_at hl 3 rfl) ?_
    refine gf_1_3 hx hb hts hown hK hR hv5 wd44 dX3_share_116 ?_
    have hg7 : rg (M 2 v5 3) := hR.2 2 v5 3 (by decide)
    refine x_icmp_le (tgt := 125) hx hb hq6 hg7 dX3_share_119 (by decide) (fun ci8 => ?_) (fun ci8 => ?_)
    · rw [if_pos ci8] at hF
      refine lv_aload_n hx hb dX3_share_125 rfl (lv_at hl 0 rfl) ?_
      obtain ⟨M10, hc9, hF⟩ := xb1_some hF
      refine x_cVv (C := RX3) (T := TX3) (N := 9) (ci := 3) (As := []) (rest := []) hx hb hml hown hts hK hR hS (c_X3_startDraft  hc9) ok0 rfl rfl wd633 wd635 ws14 wd1 wd636 hyX3_startDraft ⟨rfl, rfl⟩ ⟨Nat.le_of_ble_eq_true rfl, Nat.le_of_ble_eq_true rfl⟩ hl.1 (Nat.le_of_ble_eq_true rfl) dX3_share_126 ⟨Nat.zero_le _, Nat.zero_le _⟩ rfl (fun H locs hR hS => ?_)
      refine lv_aload_n hx hb dX3_share_129 rfl (lv_at hl 0 rfl) ?_
      refine gf_3_1 hx hb hts hown hK hR wd139 dX3_share_130 ?_
      obtain ⟨ht11, hF⟩ := xk_some hF
      have hj12 : (M10 0 0 1).toNat < 3 := by omega
      refine lv_aload_n hx hb dX3_share_133 rfl (lv_at hl 0 rfl) ?_
      refine gf_3_1 hx hb hts hown hK hR wd139 dX3_share_134 ?_
      obtain ⟨ht13, hF⟩ := xk_some hF
      have hj14 : (M10 0 0 1).toNat < 3 := by omega
      refine lv_iload_n hx hb dX3_share_137 rfl (lv_at hl 1 rfl) ?_
      obtain ⟨y16, hc15, hF⟩ := xb1_some hF
      refine x_cVr (C := RX2) (T := TX2) (N := 8) (ci := 2) (As := [.int (jI v1)]) (rest := [.ref (adr b 1 ((M10 0 0 1).toNat))]) hx hb hml hown hts hK hR hS (c_X2_at hj14 hv1 hc15) (ok1 hj14) rfl rfl wd337 wd255 wd256 wd2 wd257 hyX2_at ⟨rfl, rfl⟩ ⟨Nat.le_of_ble_eq_true rfl, Nat.le_of_ble_eq_true rfl⟩ hl.1 (Nat.le_of_ble_eq_true rfl) dX3_share_138 ⟨Nat.zero_le _, Nat.zero_le _⟩ rfl (fun hg17 H locs hR hS => ?_)
      have hj18 : y16 < 99 := lt2 hg17
      refine lv_iload_n hx hb dX3_share_141 rfl (lv_at hl 2 rfl) ?_
      refine lv_iload hx hb dX3_share_142 (lv_at hl 4 rfl) ?_
      obtain ⟨M20, hc19, hF⟩ := xb1_some hF
      refine x_cVv (C := RX2) (T := TX2) (N := 8) (ci := 2) (As := [.ref (adr b 2 y16), .int (jI v2), .int (jI v6)]) (rest := []) hx hb hml hown hts hK hR hS (c_X2_put hj12 hj18 hv2 hv6 hc19) (ok1 hj12) rfl rfl wd765 wd307 wd308 wd2 wd309 hyX2_put ⟨rfl, rfl⟩ ⟨Nat.le_of_ble_eq_true rfl, Nat.le_of_ble_eq_true rfl⟩ hl.1 (Nat.le_of_ble_eq_true rfl) dX3_share_144 ⟨Nat.zero_le _, Nat.zero_le _⟩ rfl (fun H locs hR hS => ?_)
      refine lv_aload_n hx hb dX3_share_147 rfl (lv_at hl 0 rfl) ?_
      refine lv_iload hx hb dX3_share_148 (lv_at hl 4 rfl) ?_
      refine x_if_ne (tgt := 157) hx hb hv6 dX3_share_150 (by decide) (fun ci21 => ?_) (fun ci21 => ?_)
      · rw [if_neg ci21] at hF
        refine x_iconst hx hb dX3_share_157 ?_
        obtain ⟨y23, M24, hc22, hF⟩ := xb2_some hF
        refine x_cVi (C := RX3) (T := TX3) (N := 9) (ci := 3) (As := [.int (jI (1 : Int))]) (rest := []) hx hb hml hown hts hK hR hS (c_X3_settle (by decide : rg (1 : Int)) hc22) ok0 rfl rfl wd653 wd655 ws15 wd1 wd656 hyX3_settle ⟨rfl, rfl⟩ ⟨Nat.le_of_ble_eq_true rfl, Nat.le_of_ble_eq_true rfl⟩ hl.1 (Nat.le_of_ble_eq_true rfl) dX3_share_158 ⟨Nat.zero_le _, Nat.zero_le _⟩ rfl (fun hg25 H locs hR hS => ?_)
        cases hF
        exact x_iret hx hb hlocks hK hR hS hr hg25 dX3_share_161
      · rw [if_pos ci21] at hF
        refine x_iconst hx hb dX3_share_153 ?_
        refine lv_goto (tgt := 158) hx hb dX3_share_154 (by decide) ?_
        obtain ⟨y27, M28, hc26, hF⟩ := xb2_some hF
        refine x_cVi (C := RX3) (T := TX3) (N := 9) (ci := 3) (As := [.int (jI (0 : Int))]) (rest := []) hx hb hml hown hts hK hR hS (c_X3_settle (by decide : rg (0 : Int)) hc26) ok0 rfl rfl wd653 wd655 ws15 wd1 wd656 hyX3_settle ⟨rfl, rfl⟩ ⟨Nat.le_of_ble_eq_true rfl, Nat.le_of_ble_eq_true rfl⟩ hl.1 (Nat.le_of_ble_eq_true rfl) dX3_share_158 ⟨Nat.zero_le _, Nat.zero_le _⟩ rfl (fun hg29 H locs hR hS => ?_)
        cases hF
        exact x_iret hx hb hlocks hK hR hS hr hg29 dX3_share_161
    · rw [if_neg ci8] at hF
      refine x_bipush hx hb (by decide +kernel) dX3_share_122 ?_
      cases hF
      exact x_iret hx hb hlocks hK hR hS hr (by decide : rg (-5 : Int)) dX3_share_124
  · rw [if_neg ci4] at hF
    refine x_bipush hx hb (by decide +kernel) dX3_share_105 ?_
    cases hF
    exact x_iret hx hb hlocks hK hR hS hr (by decide : rg (-6 : Int)) dX3_share_107
def F_X3_share (M : Mm) (a1 : Int) (a2 : Int) (a3 : Int) (a4 : Int) : Option (Int × Mm) := (xb1 (F_X3_needPower M ) fun _ => (xb1 (F_X3_needNode M a1) fun _ => (xb1 (F_X3_needNode M a3) fun _ => (xb1 (F_X3_needRange M a2 (0 : Int) (19 : Int)) fun _ => (xb1 (F_X3_needRange M a4 (0 : Int) (19 : Int)) fun _ => (xk (M 0 0 0 = 0 ∨ M 0 0 0 = 1) (xb1 (F_X2_at M ((M 0 0 0).toNat) a1) fun y9 => (if (M 2 y9 0) = (1 : Int) then (xk (M 0 0 0 = 0 ∨ M 0 0 0 = 1) (xb1 (F_X2_at M ((M 0 0 0).toNat) a3) fun y17 => (if (M 2 y17 0) = (1 : Int) then (xk (M 0 0 0 = 0 ∨ M 0 0 0 = 1) (xb1 (F_X2_at M ((M 0 0 0).toNat) a3) fun y25 => (xb1 (F_X1_blockAt M y25 a4) fun y29 => (if a1 = a3 then (if a2 = a4 then (F_X3_share_94  M a1 a2 y9 y29) else (some ((-6 : Int), M))) else (F_X3_share_94  M a1 a2 y9 y29))))) else (some ((-3 : Int), M))))) else (some ((-3 : Int), M))))))))))
set_option maxHeartbeats 4000000 in
set_option maxRecDepth 100000 in
theorem c_X3_share {l : Launch} {g : Gx} {b : Nat} {M : Mm} {a1 : Int} {a2 : Int} {a3 : Int} {a4 : Int} {r : Int} {M' : Mm} (ha1 : rg a1) (ha2 : rg a2) (ha3 : rg a3) (ha4 : rg a4) (hF : F_X3_share M a1 a2 a3 a4 = some (r, M')) : Ct l yX3_share cX3_share 7 (some .int) rmX3_share g b [.ref (adr b 0 0), .int (jI a1), .int (jI a2), .int (jI a3), .int (jI a4)] M (qI g b r M') := by
  refine ct_of (by decide +kernel) (Nat.le_of_ble_eq_true rfl) ?_
  intro p e s m args below meth c C0 hR ls hl
  obtain ⟨hx, hb, hr, hlocks, hml, hown, hts, hK⟩ := id C0
  have hS : va_S (AA b s.heap.size) s.heap s.heap [] := va_S.rf
  have hl : lv_has ls 7 [(0, .ref (adr b 0 0)), (1, .int (jI a1)), (2, .int (jI a2)), (3, .int (jI a3)), (4, .int (jI a4))] := hl
  obtain ⟨H, hH⟩ : ∃ z, z = s.heap := ⟨_, rfl⟩
  obtain ⟨locs, hlo⟩ : ∃ z : List Loc, z = [] := ⟨_, rfl⟩
  have hR : Rel g b M H := by rw [hH]; exact hR
  have hS : va_S (AA b s.heap.size) s.heap H locs := by rw [hH, hlo]; exact hS
  suffices hW : W p l e rmX3_share s m args below meth c H locs 0 0 (MQ below (qI g b r M' s.heap.size) args s 0 0 (AA b s.heap.size)) (F0 m 0 ls []) by rw [hH, hlo] at hW; exact hW
  rw [F_X3_share] at hF
  refine lv_aload_n hx hb dX3_share_0 rfl (lv_at hl 0 rfl) ?_
  obtain ⟨_, hc1, hF⟩ := xb1_some hF
  refine x_cVv (C := RX3) (T := TX3) (N := 9) (ci := 3) (As := []) (rest := []) hx hb hml hown hts hK hR hS (c_X3_needPower  hc1) ok0 rfl rfl wd170 wd172 ws0 wd1 wd173 hyX3_needPower ⟨rfl, rfl⟩ ⟨Nat.le_of_ble_eq_true rfl, Nat.le_of_ble_eq_true rfl⟩ hl.1 (Nat.le_of_ble_eq_true rfl) dX3_share_1 ⟨Nat.zero_le _, Nat.zero_le _⟩ rfl (fun H locs hR hS => ?_)
  refine lv_aload_n hx hb dX3_share_4 rfl (lv_at hl 0 rfl) ?_
  refine lv_iload_n hx hb dX3_share_5 rfl (lv_at hl 1 rfl) ?_
  obtain ⟨_, hc2, hF⟩ := xb1_some hF
  refine x_cVv (C := RX3) (T := TX3) (N := 9) (ci := 3) (As := [.int (jI a1)]) (rest := []) hx hb hml hown hts hK hR hS (c_X3_needNode ha1 hc2) ok0 rfl rfl wd346 wd348 ws5 wd1 wd349 hyX3_needNode ⟨rfl, rfl⟩ ⟨Nat.le_of_ble_eq_true rfl, Nat.le_of_ble_eq_true rfl⟩ hl.1 (Nat.le_of_ble_eq_true rfl) dX3_share_6 ⟨Nat.zero_le _, Nat.zero_le _⟩ rfl (fun H locs hR hS => ?_)
  refine lv_aload_n hx hb dX3_share_9 rfl (lv_at hl 0 rfl) ?_
  refine lv_iload_n hx hb dX3_share_10 rfl (lv_at hl 3 rfl) ?_
  obtain ⟨_, hc3, hF⟩ := xb1_some hF
  refine x_cVv (C := RX3) (T := TX3) (N := 9) (ci := 3) (As := [.int (jI a3)]) (rest := []) hx hb hml hown hts hK hR hS (c_X3_needNode ha3 hc3) ok0 rfl rfl wd346 wd348 ws5 wd1 wd349 hyX3_needNode ⟨rfl, rfl⟩ ⟨Nat.le_of_ble_eq_true rfl, Nat.le_of_ble_eq_true rfl⟩ hl.1 (Nat.le_of_ble_eq_true rfl) dX3_share_11 ⟨Nat.zero_le _, Nat.zero_le _⟩ rfl (fun H locs hR hS => ?_)
  refine lv_aload_n hx hb dX3_share_14 rfl (lv_at hl 0 rfl) ?_
  refine lv_iload_n hx hb dX3_share_15 rfl (lv_at hl 2 rfl) ?_
  refine x_iconst hx hb dX3_share_16 ?_
  refine x_bipush hx hb (by decide +kernel) dX3_share_17 ?_
  obtain ⟨_, hc4, hF⟩ := xb1_some hF
  refine x_cVv (C := RX3) (T := TX3) (N := 9) (ci := 3) (As := [.int (jI a2), .int (jI (0 : Int)), .int (jI (19 : Int))]) (rest := []) hx hb hml hown hts hK hR hS (c_X3_needRange ha2 (by decide : rg (0 : Int)) (by decide : rg (19 : Int)) hc4) ok0 rfl rfl wd419 wd421 ws6 wd1 wd422 hyX3_needRange ⟨rfl, rfl⟩ ⟨Nat.le_of_ble_eq_true rfl, Nat.le_of_ble_eq_true rfl⟩ hl.1 (Nat.le_of_ble_eq_true rfl) dX3_share_19 ⟨Nat.zero_le _, Nat.zero_le _⟩ rfl (fun H locs hR hS => ?_)
  refine lv_aload_n hx hb dX3_share_22 rfl (lv_at hl 0 rfl) ?_
  refine lv_iload hx hb dX3_share_23 (lv_at hl 4 rfl) ?_
  refine x_iconst hx hb dX3_share_25 ?_
  refine x_bipush hx hb (by decide +kernel) dX3_share_26 ?_
  obtain ⟨_, hc5, hF⟩ := xb1_some hF
  refine x_cVv (C := RX3) (T := TX3) (N := 9) (ci := 3) (As := [.int (jI a4), .int (jI (0 : Int)), .int (jI (19 : Int))]) (rest := []) hx hb hml hown hts hK hR hS (c_X3_needRange ha4 (by decide : rg (0 : Int)) (by decide : rg (19 : Int)) hc5) ok0 rfl rfl wd419 wd421 ws6 wd1 wd422 hyX3_needRange ⟨rfl, rfl⟩ ⟨Nat.le_of_ble_eq_true rfl, Nat.le_of_ble_eq_true rfl⟩ hl.1 (Nat.le_of_ble_eq_true rfl) dX3_share_28 ⟨Nat.zero_le _, Nat.zero_le _⟩ rfl (fun H locs hR hS => ?_)
  refine lv_aload_n hx hb dX3_share_31 rfl (lv_at hl 0 rfl) ?_
  refine gf_3_0 hx hb hts hown hK hR wd138 dX3_share_32 ?_
  obtain ⟨ht6, hF⟩ := xk_some hF
  have hj7 : (M 0 0 0).toNat < 3 := by omega
  refine lv_iload_n hx hb dX3_share_35 rfl (lv_at hl 1 rfl) ?_
  obtain ⟨y9, hc8, hF⟩ := xb1_some hF
  refine x_cVr (C := RX2) (T := TX2) (N := 8) (ci := 2) (As := [.int (jI a1)]) (rest := []) hx hb hml hown hts hK hR hS (c_X2_at hj7 ha1 hc8) (ok1 hj7) rfl rfl wd337 wd255 wd256 wd2 wd257 hyX2_at ⟨rfl, rfl⟩ ⟨Nat.le_of_ble_eq_true rfl, Nat.le_of_ble_eq_true rfl⟩ hl.1 (Nat.le_of_ble_eq_true rfl) dX3_share_36 ⟨Nat.zero_le _, Nat.zero_le _⟩ rfl (fun hg10 H locs hR hS => ?_)
  have hj11 : y9 < 99 := lt2 hg10
  refine lv_astore (lv' := [(5, .ref (adr b 2 y9)), (0, .ref (adr b 0 0)), (1, .int (jI a1)), (2, .int (jI a2)), (3, .int (jI a3)), (4, .int (jI a4))]) hx hb dX3_share_39 hl (by decide) rfl (fun ls hl => ?_)
  refine lv_aload hx hb dX3_share_41 (lv_at hl 0 rfl) ?_
  refine gf_1_0 hx hb hts hown hK hR hj11 wd36 dX3_share_43 ?_
  have hg12 : rg (M 2 y9 0) := hR.2 2 y9 0 (by decide)
  refine x_iconst hx hb dX3_share_46 ?_
  refine x_icmp_ne (tgt := 65) hx hb hg12 (by decide : rg (1 : Int)) dX3_share_47 (by decide) (fun ci13 => ?_) (fun ci13 => ?_)
  · rw [if_neg ci13] at hF
    refine x_bipush hx hb (by decide +kernel) dX3_share_65 ?_
    cases hF
    exact x_iret hx hb hlocks hK hR hS hr (by decide : rg (-3 : Int)) dX3_share_67
  · rw [if_pos ci13] at hF
    refine lv_aload_n hx hb dX3_share_50 rfl (lv_at hl 1 rfl) ?_
    refine gf_3_0 hx hb hts hown hK hR wd138 dX3_share_51 ?_
    obtain ⟨ht14, hF⟩ := xk_some hF
    have hj15 : (M 0 0 0).toNat < 3 := by omega
    refine lv_iload_n hx hb dX3_share_54 rfl (lv_at hl 4 rfl) ?_
    obtain ⟨y17, hc16, hF⟩ := xb1_some hF
    refine x_cVr (C := RX2) (T := TX2) (N := 8) (ci := 2) (As := [.int (jI a3)]) (rest := []) hx hb hml hown hts hK hR hS (c_X2_at hj15 ha3 hc16) (ok1 hj15) rfl rfl wd337 wd255 wd256 wd2 wd257 hyX2_at ⟨rfl, rfl⟩ ⟨Nat.le_of_ble_eq_true rfl, Nat.le_of_ble_eq_true rfl⟩ hl.1 (Nat.le_of_ble_eq_true rfl) dX3_share_55 ⟨Nat.zero_le _, Nat.zero_le _⟩ rfl (fun hg18 H locs hR hS => ?_)
    have hj19 : y17 < 99 := lt2 hg18
    refine gf_1_0 hx hb hts hown hK hR hj19 wd36 dX3_share_58 ?_
    have hg20 : rg (M 2 y17 0) := hR.2 2 y17 0 (by decide)
    refine x_iconst hx hb dX3_share_61 ?_
    refine x_icmp_eq (tgt := 68) hx hb hg20 (by decide : rg (1 : Int)) dX3_share_62 (by decide) (fun ci21 => ?_) (fun ci21 => ?_)
    · rw [if_pos ci21] at hF
      refine lv_aload_n hx hb dX3_share_68 rfl (lv_at hl 1 rfl) ?_
      refine gf_3_0 hx hb hts hown hK hR wd138 dX3_share_69 ?_
      obtain ⟨ht22, hF⟩ := xk_some hF
      have hj23 : (M 0 0 0).toNat < 3 := by omega
      refine lv_iload_n hx hb dX3_share_72 rfl (lv_at hl 4 rfl) ?_
      obtain ⟨y25, hc24, hF⟩ := xb1_some hF
      refine x_cVr (C := RX2) (T := TX2) (N := 8) (ci := 2) (As := [.int (jI a3)]) (rest := []) hx hb hml hown hts hK hR hS (c_X2_at hj23 ha3 hc24) (ok1 hj23) rfl rfl wd337 wd255 wd256 wd2 wd257 hyX2_at ⟨rfl, rfl⟩ ⟨Nat.le_of_ble_eq_true rfl, Nat.le_of_ble_eq_true rfl⟩ hl.1 (Nat.le_of_ble_eq_true rfl) dX3_share_73 ⟨Nat.zero_le _, Nat.zero_le _⟩ rfl (fun hg26 H locs hR hS => ?_)
      have hj27 : y25 < 99 := lt2 hg26
      refine lv_iload hx hb dX3_share_76 (lv_at hl 5 rfl) ?_
      obtain ⟨y29, hc28, hF⟩ := xb1_some hF
      refine x_cVi (C := RX1) (T := TX1) (N := 12) (ci := 1) (As := [.int (jI a4)]) (rest := []) hx hb hml hown hts hK hR hS (c_X1_blockAt hj27 ha4 hc28) (ok2 hj27) rfl rfl wd766 wd311 wd312 wd3 wd313 hyX1_blockAt ⟨rfl, rfl⟩ ⟨Nat.le_of_ble_eq_true rfl, Nat.le_of_ble_eq_true rfl⟩ hl.1 (Nat.le_of_ble_eq_true rfl) dX3_share_78 ⟨Nat.zero_le _, Nat.zero_le _⟩ rfl (fun hg30 H locs hR hS => ?_)
      refine lv_istore (lv' := [(6, .int (jI y29)), (5, .ref (adr b 2 y9)), (0, .ref (adr b 0 0)), (1, .int (jI a1)), (2, .int (jI a2)), (3, .int (jI a3)), (4, .int (jI a4))]) hx hb dX3_share_81 hl (by decide) rfl (fun ls hl => ?_)
      refine lv_iload_n hx hb dX3_share_83 rfl (lv_at hl 3 rfl) ?_
      refine lv_iload_n hx hb dX3_share_84 rfl (lv_at hl 5 rfl) ?_
      refine x_icmp_ne (tgt := 94) hx hb ha1 ha3 dX3_share_85 (by decide) (fun ci31 => ?_) (fun ci31 => ?_)
      · rw [if_neg ci31] at hF
        exact w_X3_share_94 C0  M a1 a2 y9 y29 ha1 ha2 hj11 hg30 H locs hR hS ls (lv_sub hl [2, 3, 4, 1, 0] rfl) hF
      · rw [if_pos ci31] at hF
        refine lv_iload_n hx hb dX3_share_88 rfl (lv_at hl 4 rfl) ?_
        refine lv_iload hx hb dX3_share_89 (lv_at hl 6 rfl) ?_
        refine x_icmp_ne (tgt := 105) hx hb ha2 ha4 dX3_share_91 (by decide) (fun ci32 => ?_) (fun ci32 => ?_)
        · rw [if_neg ci32] at hF
          refine x_bipush hx hb (by decide +kernel) dX3_share_105 ?_
          cases hF
          exact x_iret hx hb hlocks hK hR hS hr (by decide : rg (-6 : Int)) dX3_share_107
        · rw [if_pos ci32] at hF
          exact w_X3_share_94 C0  M a1 a2 y9 y29 ha1 ha2 hj11 hg30 H locs hR hS ls (lv_sub hl [2, 3, 4, 1, 0] rfl) hF
    · rw [if_neg ci21] at hF
      refine x_bipush hx hb (by decide +kernel) dX3_share_65 ?_
      cases hF
      exact x_iret hx hb hlocks hK hR hS hr (by decide : rg (-3 : Int)) dX3_share_67
abbrev rmX3_setOwner : Room := { frames := 6, cells := 0, slots := 0, locals := 131 }
theorem hyX3_setOwner : yX3_setOwner.cls = RX3 ∧ yX3_setOwner.cls ≠ "java/lang/invoke/MethodHandle" ∧ yX3_setOwner.cls ≠ "java/lang/invoke/VarHandle" ∧ (parseMethodDescriptor yX3_setOwner.desc).map (fun d => d.parameters.length) = some 2 := by decide +kernel
def F_X3_setOwner (M : Mm) (a1 : Int) (a2 : Int) : Option (Int × Mm) := (xb1 (F_X3_needPower M ) fun _ => (xb1 (F_X3_needNode M a1) fun _ => (xb1 (F_X3_needRange M a2 (0 : Int) (3 : Int)) fun _ => (xb1 (F_X3_startDraft M ) fun M5 => (xk (M5 0 0 1 = 0 ∨ M5 0 0 1 = 1) (xb1 (F_X2_at M5 ((M5 0 0 1).toNat) a1) fun y9 => (xl (mup M5 2 y9 1 a2) fun M12 => (xk (M12 0 0 0 = 0 ∨ M12 0 0 0 = 1) (xb1 (F_X2_at M12 ((M12 0 0 0).toNat) a1) fun y16 => (xb2 (F_X3_settle M12 (M12 2 y16 1)) fun y21 M22 => (some (y21, M22))))))))))))
set_option maxHeartbeats 4000000 in
set_option maxRecDepth 100000 in
theorem c_X3_setOwner {l : Launch} {g : Gx} {b : Nat} {M : Mm} {a1 : Int} {a2 : Int} {r : Int} {M' : Mm} (ha1 : rg a1) (ha2 : rg a2) (hF : F_X3_setOwner M a1 a2 = some (r, M')) : Ct l yX3_setOwner cX3_setOwner 3 (some .int) rmX3_setOwner g b [.ref (adr b 0 0), .int (jI a1), .int (jI a2)] M (qI g b r M') := by
  refine ct_of (by decide +kernel) (Nat.le_of_ble_eq_true rfl) ?_
  intro p e s m args below meth c C0 hR ls hl
  obtain ⟨hx, hb, hr, hlocks, hml, hown, hts, hK⟩ := id C0
  have hS : va_S (AA b s.heap.size) s.heap s.heap [] := va_S.rf
  have hl : lv_has ls 3 [(0, .ref (adr b 0 0)), (1, .int (jI a1)), (2, .int (jI a2))] := hl
  obtain ⟨H, hH⟩ : ∃ z, z = s.heap := ⟨_, rfl⟩
  obtain ⟨locs, hlo⟩ : ∃ z : List Loc, z = [] := ⟨_, rfl⟩
  have hR : Rel g b M H := by rw [hH]; exact hR
  have hS : va_S (AA b s.heap.size) s.heap H locs := by rw [hH, hlo]; exact hS
  suffices hW : W p l e rmX3_setOwner s m args below meth c H locs 0 0 (MQ below (qI g b r M' s.heap.size) args s 0 0 (AA b s.heap.size)) (F0 m 0 ls []) by rw [hH, hlo] at hW; exact hW
  rw [F_X3_setOwner] at hF
  refine lv_aload_n hx hb dX3_setOwner_0 rfl (lv_at hl 0 rfl) ?_
  obtain ⟨_, hc1, hF⟩ := xb1_some hF
  refine x_cVv (C := RX3) (T := TX3) (N := 9) (ci := 3) (As := []) (rest := []) hx hb hml hown hts hK hR hS (c_X3_needPower  hc1) ok0 rfl rfl wd170 wd172 ws0 wd1 wd173 hyX3_needPower ⟨rfl, rfl⟩ ⟨Nat.le_of_ble_eq_true rfl, Nat.le_of_ble_eq_true rfl⟩ hl.1 (Nat.le_of_ble_eq_true rfl) dX3_setOwner_1 ⟨Nat.zero_le _, Nat.zero_le _⟩ rfl (fun H locs hR hS => ?_)
  refine lv_aload_n hx hb dX3_setOwner_4 rfl (lv_at hl 0 rfl) ?_
  refine lv_iload_n hx hb dX3_setOwner_5 rfl (lv_at hl 1 rfl) ?_
  obtain ⟨_, hc2, hF⟩ := xb1_some hF
  refine x_cVv (C := RX3) (T := TX3) (N := 9) (ci := 3) (As := [.int (jI a1)]) (rest := []) hx hb hml hown hts hK hR hS (c_X3_needNode ha1 hc2) ok0 rfl rfl wd346 wd348 ws5 wd1 wd349 hyX3_needNode ⟨rfl, rfl⟩ ⟨Nat.le_of_ble_eq_true rfl, Nat.le_of_ble_eq_true rfl⟩ hl.1 (Nat.le_of_ble_eq_true rfl) dX3_setOwner_6 ⟨Nat.zero_le _, Nat.zero_le _⟩ rfl (fun H locs hR hS => ?_)
  refine lv_aload_n hx hb dX3_setOwner_9 rfl (lv_at hl 0 rfl) ?_
  refine lv_iload_n hx hb dX3_setOwner_10 rfl (lv_at hl 2 rfl) ?_
  refine x_iconst hx hb dX3_setOwner_11 ?_
  refine x_iconst hx hb dX3_setOwner_12 ?_
  obtain ⟨_, hc3, hF⟩ := xb1_some hF
  refine x_cVv (C := RX3) (T := TX3) (N := 9) (ci := 3) (As := [.int (jI a2), .int (jI (0 : Int)), .int (jI (3 : Int))]) (rest := []) hx hb hml hown hts hK hR hS (c_X3_needRange ha2 (by decide : rg (0 : Int)) (by decide : rg (3 : Int)) hc3) ok0 rfl rfl wd419 wd421 ws6 wd1 wd422 hyX3_needRange ⟨rfl, rfl⟩ ⟨Nat.le_of_ble_eq_true rfl, Nat.le_of_ble_eq_true rfl⟩ hl.1 (Nat.le_of_ble_eq_true rfl) dX3_setOwner_13 ⟨Nat.zero_le _, Nat.zero_le _⟩ rfl (fun H locs hR hS => ?_)
  refine lv_aload_n hx hb dX3_setOwner_16 rfl (lv_at hl 0 rfl) ?_
  obtain ⟨M5, hc4, hF⟩ := xb1_some hF
  refine x_cVv (C := RX3) (T := TX3) (N := 9) (ci := 3) (As := []) (rest := []) hx hb hml hown hts hK hR hS (c_X3_startDraft  hc4) ok0 rfl rfl wd633 wd635 ws14 wd1 wd636 hyX3_startDraft ⟨rfl, rfl⟩ ⟨Nat.le_of_ble_eq_true rfl, Nat.le_of_ble_eq_true rfl⟩ hl.1 (Nat.le_of_ble_eq_true rfl) dX3_setOwner_17 ⟨Nat.zero_le _, Nat.zero_le _⟩ rfl (fun H locs hR hS => ?_)
  refine lv_aload_n hx hb dX3_setOwner_20 rfl (lv_at hl 0 rfl) ?_
  refine gf_3_1 hx hb hts hown hK hR wd139 dX3_setOwner_21 ?_
  obtain ⟨ht6, hF⟩ := xk_some hF
  have hj7 : (M5 0 0 1).toNat < 3 := by omega
  refine lv_iload_n hx hb dX3_setOwner_24 rfl (lv_at hl 1 rfl) ?_
  obtain ⟨y9, hc8, hF⟩ := xb1_some hF
  refine x_cVr (C := RX2) (T := TX2) (N := 8) (ci := 2) (As := [.int (jI a1)]) (rest := []) hx hb hml hown hts hK hR hS (c_X2_at hj7 ha1 hc8) (ok1 hj7) rfl rfl wd337 wd255 wd256 wd2 wd257 hyX2_at ⟨rfl, rfl⟩ ⟨Nat.le_of_ble_eq_true rfl, Nat.le_of_ble_eq_true rfl⟩ hl.1 (Nat.le_of_ble_eq_true rfl) dX3_setOwner_25 ⟨Nat.zero_le _, Nat.zero_le _⟩ rfl (fun hg10 H locs hR hS => ?_)
  have hj11 : y9 < 99 := lt2 hg10
  refine lv_iload_n hx hb dX3_setOwner_28 rfl (lv_at hl 2 rfl) ?_
  refine pf_1_1 hx hb hts hown hK hR hS hj11 ha2 wd39 dX3_setOwner_29 (fun H locs hR hS => ?_)
  obtain ⟨M12, eM, hF⟩ := xl_some hF
  rw [eM] at hR
  clear eM
  refine lv_aload_n hx hb dX3_setOwner_32 rfl (lv_at hl 0 rfl) ?_
  refine lv_aload_n hx hb dX3_setOwner_33 rfl (lv_at hl 0 rfl) ?_
  refine gf_3_0 hx hb hts hown hK hR wd138 dX3_setOwner_34 ?_
  obtain ⟨ht13, hF⟩ := xk_some hF
  have hj14 : (M12 0 0 0).toNat < 3 := by omega
  refine lv_iload_n hx hb dX3_setOwner_37 rfl (lv_at hl 1 rfl) ?_
  obtain ⟨y16, hc15, hF⟩ := xb1_some hF
  refine x_cVr (C := RX2) (T := TX2) (N := 8) (ci := 2) (As := [.int (jI a1)]) (rest := [.ref (adr b 0 0)]) hx hb hml hown hts hK hR hS (c_X2_at hj14 ha1 hc15) (ok1 hj14) rfl rfl wd337 wd255 wd256 wd2 wd257 hyX2_at ⟨rfl, rfl⟩ ⟨Nat.le_of_ble_eq_true rfl, Nat.le_of_ble_eq_true rfl⟩ hl.1 (Nat.le_of_ble_eq_true rfl) dX3_setOwner_38 ⟨Nat.zero_le _, Nat.zero_le _⟩ rfl (fun hg17 H locs hR hS => ?_)
  have hj18 : y16 < 99 := lt2 hg17
  refine gf_1_1 hx hb hts hown hK hR hj18 wd39 dX3_setOwner_41 ?_
  have hg19 : rg (M12 2 y16 1) := hR.2 2 y16 1 (by decide)
  obtain ⟨y21, M22, hc20, hF⟩ := xb2_some hF
  refine x_cVi (C := RX3) (T := TX3) (N := 9) (ci := 3) (As := [.int (jI (M12 2 y16 1))]) (rest := []) hx hb hml hown hts hK hR hS (c_X3_settle hg19 hc20) ok0 rfl rfl wd653 wd655 ws15 wd1 wd656 hyX3_settle ⟨rfl, rfl⟩ ⟨Nat.le_of_ble_eq_true rfl, Nat.le_of_ble_eq_true rfl⟩ hl.1 (Nat.le_of_ble_eq_true rfl) dX3_setOwner_44 ⟨Nat.zero_le _, Nat.zero_le _⟩ rfl (fun hg23 H locs hR hS => ?_)
  cases hF
  exact x_iret hx hb hlocks hK hR hS hr hg23 dX3_setOwner_47
abbrev rmX3_setQuota : Room := { frames := 6, cells := 0, slots := 0, locals := 131 }
theorem hyX3_setQuota : yX3_setQuota.cls = RX3 ∧ yX3_setQuota.cls ≠ "java/lang/invoke/MethodHandle" ∧ yX3_setQuota.cls ≠ "java/lang/invoke/VarHandle" ∧ (parseMethodDescriptor yX3_setQuota.desc).map (fun d => d.parameters.length) = some 2 := by decide +kernel
def F_X3_setQuota (M : Mm) (a1 : Int) (a2 : Int) : Option (Int × Mm) := (xb1 (F_X3_needPower M ) fun _ => (xb1 (F_X3_needRange M a1 (0 : Int) (3 : Int)) fun _ => (xb1 (F_X3_needRange M a2 (0 : Int) (120 : Int)) fun _ => (xb1 (F_X3_startDraft M ) fun M5 => (xk (M5 0 0 1 = 0 ∨ M5 0 0 1 = 1) (xb1 (F_X2_limit M5 ((M5 0 0 1).toNat) a1 a2) fun M9 => (xk (M9 0 0 0 = 0 ∨ M9 0 0 0 = 1) (xb1 (F_X2_limitOf M9 ((M9 0 0 0).toNat) a1) fun y13 => (xb2 (F_X3_settle M9 y13) fun y16 M17 => (some (y16, M17)))))))))))
set_option maxHeartbeats 4000000 in
set_option maxRecDepth 100000 in
theorem c_X3_setQuota {l : Launch} {g : Gx} {b : Nat} {M : Mm} {a1 : Int} {a2 : Int} {r : Int} {M' : Mm} (ha1 : rg a1) (ha2 : rg a2) (hF : F_X3_setQuota M a1 a2 = some (r, M')) : Ct l yX3_setQuota cX3_setQuota 3 (some .int) rmX3_setQuota g b [.ref (adr b 0 0), .int (jI a1), .int (jI a2)] M (qI g b r M') := by
  refine ct_of (by decide +kernel) (Nat.le_of_ble_eq_true rfl) ?_
  intro p e s m args below meth c C0 hR ls hl
  obtain ⟨hx, hb, hr, hlocks, hml, hown, hts, hK⟩ := id C0
  have hS : va_S (AA b s.heap.size) s.heap s.heap [] := va_S.rf
  have hl : lv_has ls 3 [(0, .ref (adr b 0 0)), (1, .int (jI a1)), (2, .int (jI a2))] := hl
  obtain ⟨H, hH⟩ : ∃ z, z = s.heap := ⟨_, rfl⟩
  obtain ⟨locs, hlo⟩ : ∃ z : List Loc, z = [] := ⟨_, rfl⟩
  have hR : Rel g b M H := by rw [hH]; exact hR
  have hS : va_S (AA b s.heap.size) s.heap H locs := by rw [hH, hlo]; exact hS
  suffices hW : W p l e rmX3_setQuota s m args below meth c H locs 0 0 (MQ below (qI g b r M' s.heap.size) args s 0 0 (AA b s.heap.size)) (F0 m 0 ls []) by rw [hH, hlo] at hW; exact hW
  rw [F_X3_setQuota] at hF
  refine lv_aload_n hx hb dX3_setQuota_0 rfl (lv_at hl 0 rfl) ?_
  obtain ⟨_, hc1, hF⟩ := xb1_some hF
  refine x_cVv (C := RX3) (T := TX3) (N := 9) (ci := 3) (As := []) (rest := []) hx hb hml hown hts hK hR hS (c_X3_needPower  hc1) ok0 rfl rfl wd170 wd172 ws0 wd1 wd173 hyX3_needPower ⟨rfl, rfl⟩ ⟨Nat.le_of_ble_eq_true rfl, Nat.le_of_ble_eq_true rfl⟩ hl.1 (Nat.le_of_ble_eq_true rfl) dX3_setQuota_1 ⟨Nat.zero_le _, Nat.zero_le _⟩ rfl (fun H locs hR hS => ?_)
  refine lv_aload_n hx hb dX3_setQuota_4 rfl (lv_at hl 0 rfl) ?_
  refine lv_iload_n hx hb dX3_setQuota_5 rfl (lv_at hl 1 rfl) ?_
  refine x_iconst hx hb dX3_setQuota_6 ?_
  refine x_iconst hx hb dX3_setQuota_7 ?_
  obtain ⟨_, hc2, hF⟩ := xb1_some hF
  refine x_cVv (C := RX3) (T := TX3) (N := 9) (ci := 3) (As := [.int (jI a1), .int (jI (0 : Int)), .int (jI (3 : Int))]) (rest := []) hx hb hml hown hts hK hR hS (c_X3_needRange ha1 (by decide : rg (0 : Int)) (by decide : rg (3 : Int)) hc2) ok0 rfl rfl wd419 wd421 ws6 wd1 wd422 hyX3_needRange ⟨rfl, rfl⟩ ⟨Nat.le_of_ble_eq_true rfl, Nat.le_of_ble_eq_true rfl⟩ hl.1 (Nat.le_of_ble_eq_true rfl) dX3_setQuota_8 ⟨Nat.zero_le _, Nat.zero_le _⟩ rfl (fun H locs hR hS => ?_)
  refine lv_aload_n hx hb dX3_setQuota_11 rfl (lv_at hl 0 rfl) ?_
  refine lv_iload_n hx hb dX3_setQuota_12 rfl (lv_at hl 2 rfl) ?_
  refine x_iconst hx hb dX3_setQuota_13 ?_
  refine x_bipush hx hb (by decide +kernel) dX3_setQuota_14 ?_
  obtain ⟨_, hc3, hF⟩ := xb1_some hF
  refine x_cVv (C := RX3) (T := TX3) (N := 9) (ci := 3) (As := [.int (jI a2), .int (jI (0 : Int)), .int (jI (120 : Int))]) (rest := []) hx hb hml hown hts hK hR hS (c_X3_needRange ha2 (by decide : rg (0 : Int)) (by decide : rg (120 : Int)) hc3) ok0 rfl rfl wd419 wd421 ws6 wd1 wd422 hyX3_needRange ⟨rfl, rfl⟩ ⟨Nat.le_of_ble_eq_true rfl, Nat.le_of_ble_eq_true rfl⟩ hl.1 (Nat.le_of_ble_eq_true rfl) dX3_setQuota_16 ⟨Nat.zero_le _, Nat.zero_le _⟩ rfl (fun H locs hR hS => ?_)
  refine lv_aload_n hx hb dX3_setQuota_19 rfl (lv_at hl 0 rfl) ?_
  obtain ⟨M5, hc4, hF⟩ := xb1_some hF
  refine x_cVv (C := RX3) (T := TX3) (N := 9) (ci := 3) (As := []) (rest := []) hx hb hml hown hts hK hR hS (c_X3_startDraft  hc4) ok0 rfl rfl wd633 wd635 ws14 wd1 wd636 hyX3_startDraft ⟨rfl, rfl⟩ ⟨Nat.le_of_ble_eq_true rfl, Nat.le_of_ble_eq_true rfl⟩ hl.1 (Nat.le_of_ble_eq_true rfl) dX3_setQuota_20 ⟨Nat.zero_le _, Nat.zero_le _⟩ rfl (fun H locs hR hS => ?_)
  refine lv_aload_n hx hb dX3_setQuota_23 rfl (lv_at hl 0 rfl) ?_
  refine gf_3_1 hx hb hts hown hK hR wd139 dX3_setQuota_24 ?_
  obtain ⟨ht6, hF⟩ := xk_some hF
  have hj7 : (M5 0 0 1).toNat < 3 := by omega
  refine lv_iload_n hx hb dX3_setQuota_27 rfl (lv_at hl 1 rfl) ?_
  refine lv_iload_n hx hb dX3_setQuota_28 rfl (lv_at hl 2 rfl) ?_
  obtain ⟨M9, hc8, hF⟩ := xb1_some hF
  refine x_cVv (C := RX2) (T := TX2) (N := 8) (ci := 2) (As := [.int (jI a1), .int (jI a2)]) (rest := []) hx hb hml hown hts hK hR hS (c_X2_limit hj7 ha1 ha2 hc8) (ok1 hj7) rfl rfl wd783 wd784 wd785 wd2 wd786 hyX2_limit ⟨rfl, rfl⟩ ⟨Nat.le_of_ble_eq_true rfl, Nat.le_of_ble_eq_true rfl⟩ hl.1 (Nat.le_of_ble_eq_true rfl) dX3_setQuota_29 ⟨Nat.zero_le _, Nat.zero_le _⟩ rfl (fun H locs hR hS => ?_)
  refine lv_aload_n hx hb dX3_setQuota_32 rfl (lv_at hl 0 rfl) ?_
  refine lv_aload_n hx hb dX3_setQuota_33 rfl (lv_at hl 0 rfl) ?_
  refine gf_3_0 hx hb hts hown hK hR wd138 dX3_setQuota_34 ?_
  obtain ⟨ht10, hF⟩ := xk_some hF
  have hj11 : (M9 0 0 0).toNat < 3 := by omega
  refine lv_iload_n hx hb dX3_setQuota_37 rfl (lv_at hl 1 rfl) ?_
  obtain ⟨y13, hc12, hF⟩ := xb1_some hF
  refine x_cVi (C := RX2) (T := TX2) (N := 8) (ci := 2) (As := [.int (jI a1)]) (rest := [.ref (adr b 0 0)]) hx hb hml hown hts hK hR hS (c_X2_limitOf hj11 ha1 hc12) (ok1 hj11) rfl rfl wd447 wd448 wd449 wd2 wd450 hyX2_limitOf ⟨rfl, rfl⟩ ⟨Nat.le_of_ble_eq_true rfl, Nat.le_of_ble_eq_true rfl⟩ hl.1 (Nat.le_of_ble_eq_true rfl) dX3_setQuota_38 ⟨Nat.zero_le _, Nat.zero_le _⟩ rfl (fun hg14 H locs hR hS => ?_)
  obtain ⟨y16, M17, hc15, hF⟩ := xb2_some hF
  refine x_cVi (C := RX3) (T := TX3) (N := 9) (ci := 3) (As := [.int (jI y13)]) (rest := []) hx hb hml hown hts hK hR hS (c_X3_settle hg14 hc15) ok0 rfl rfl wd653 wd655 ws15 wd1 wd656 hyX3_settle ⟨rfl, rfl⟩ ⟨Nat.le_of_ble_eq_true rfl, Nat.le_of_ble_eq_true rfl⟩ hl.1 (Nat.le_of_ble_eq_true rfl) dX3_setQuota_41 ⟨Nat.zero_le _, Nat.zero_le _⟩ rfl (fun hg18 H locs hR hS => ?_)
  cases hF
  exact x_iret hx hb hlocks hK hR hS hr hg18 dX3_setQuota_44
abbrev rmX3_open : Room := { frames := 2, cells := 0, slots := 0, locals := 42 }
theorem hyX3_open : yX3_open.cls = RX3 ∧ yX3_open.cls ≠ "java/lang/invoke/MethodHandle" ∧ yX3_open.cls ≠ "java/lang/invoke/VarHandle" ∧ (parseMethodDescriptor yX3_open.desc).map (fun d => d.parameters.length) = some 1 := by decide +kernel
def F_X3_open_29  : Nat → Mm → Int → Int → Option (Int × Mm)
  | 0, _, _, _ => none
  | n + 1, M, v1, v2 => (if (6 : Int) ≤ v2 then (some ((-5 : Int), M)) else (xk (0 ≤ v2 ∧ v2 < 6) (if (M 11 (v2.toNat) 0) = 0 then (xk (0 ≤ v2 ∧ v2 < 6) (xb1 (F_X0_take M (v2.toNat) v1) fun M10 => (some (v2, M10)))) else (xk (rg (v2 + (1 : Int))) (F_X3_open_29  n M v1 (v2 + (1 : Int)))))))
set_option maxHeartbeats 4000000 in
set_option maxRecDepth 100000 in
theorem w_X3_open_29 {p : Program} {l : Launch} {e : Env} {s : State} {m : MethodId} {args : Array Value} {below : List Frame} {meth : Method} {c : Code} {g : Gx} {b : Nat} (C0 : XA p s m meth c args RX3 cX3_open 3 (some .int) g) {r : Int} {M' : Mm} : ∀ n : Nat, ∀ (M : Mm) (v1 : Int) (v2 : Int) (hv1 : rg v1) (hv2 : rg v2) (H : Heap) (locs : List Loc), Rel g b M H → va_S (AA b s.heap.size) s.heap H locs → ∀ ls : Array Slot, lv_has ls 3 [(0, .ref (adr b 0 0)), (1, .int (jI v1)), (2, .int (jI v2))] → F_X3_open_29  n M v1 v2 = some (r, M') → W p l e rmX3_open s m args below meth c H locs 0 0 (MQ below (qI g b r M' s.heap.size) args s 0 0 (AA b s.heap.size)) (F0 m 29 ls []) := by
  obtain ⟨hx, hb, hr, hlocks, hml, hown, hts, hK⟩ := id C0
  intro n
  induction n with
  | zero =>
    intro M v1 v2 hv1 hv2 H locs hR hS ls hl hF
    rw [F_X3_open_29] at hF
    cases hF
  | succ n ih =>
    intro M v1 v2 hv1 hv2 H locs hR hS ls hl hF
    rw [F_X3_open_29] at hF
    refine lv_iload_n hx hb dX3_open_29 rfl (lv_at hl 2 rfl) ?_
    refine lv_aload_n hx hb dX3_open_30 rfl (lv_at hl 0 rfl) ?_
    refine gf_3_3 hx hb hts hown hK hR wd141 dX3_open_31 ?_
    refine x_alenH hx hb hK hR dX3_open_34 ?_
    refine x_icmp_ge (tgt := 68) hx hb hv2 (by decide : rg (6 : Int)) dX3_open_35 (by decide) (fun ci1 => ?_) (fun ci1 => ?_)
    · rw [if_pos ci1] at hF
      refine x_bipush hx hb (by decide +kernel) dX3_open_68 ?_
      cases hF
      exact x_iret hx hb hlocks hK hR hS hr (by decide : rg (-5 : Int)) dX3_open_70
    · rw [if_neg ci1] at hF
      refine lv_aload_n hx hb dX3_open_38 rfl (lv_at hl 0 rfl) ?_
      refine gf_3_3 hx hb hts hown hK hR wd141 dX3_open_39 ?_
      refine lv_iload_n hx hb dX3_open_42 rfl (lv_at hl 2 rfl) ?_
      obtain ⟨hi2, hF⟩ := xk_some hF
      refine x_aldH hx hb hK hR hv2 hi2 dX3_open_43 ?_
      have hj3 : v2.toNat < 6 := by omega
      refine gf_0_0 hx hb hts hown hK hR hj3 wd123 dX3_open_44 ?_
      have hg4 : rg (M 11 (v2.toNat) 0) := hR.2 11 (v2.toNat) 0 (by decide)
      refine x_if_ne (tgt := 62) hx hb hg4 dX3_open_47 (by decide) (fun ci5 => ?_) (fun ci5 => ?_)
      · rw [if_neg ci5] at hF
        obtain ⟨hq6, hF⟩ := xk_some hF
        refine x_iinc (lv' := [(2, .int (jI (v2 + (1 : Int)))), (0, .ref (adr b 0 0)), (1, .int (jI v1))]) hx hb dX3_open_62 hl (k := 2) rfl (by decide) rfl (fun ls hl => ?_)
        refine lv_goto (tgt := 29) hx hb dX3_open_65 (by decide) ?_
        exact ih M v1 (v2 + (1 : Int)) hv1 hq6 H locs hR hS ls (lv_sub hl [1, 2, 0] rfl) hF
      · rw [if_pos ci5] at hF
        refine lv_aload_n hx hb dX3_open_50 rfl (lv_at hl 0 rfl) ?_
        refine gf_3_3 hx hb hts hown hK hR wd141 dX3_open_51 ?_
        refine lv_iload_n hx hb dX3_open_54 rfl (lv_at hl 2 rfl) ?_
        obtain ⟨hi7, hF⟩ := xk_some hF
        refine x_aldH hx hb hK hR hv2 hi7 dX3_open_55 ?_
        have hj8 : v2.toNat < 6 := by omega
        refine lv_iload_n hx hb dX3_open_56 rfl (lv_at hl 1 rfl) ?_
        obtain ⟨M10, hc9, hF⟩ := xb1_some hF
        refine x_cVv (C := RX0) (T := TX0) (N := 4) (ci := 0) (As := [.int (jI v1)]) (rest := []) hx hb hml hown hts hK hR hS (c_X0_take hj8 hv1 hc9) (ok11 hj8) rfl rfl wd794 wd795 wd796 wd4 wd797 hyX0_take ⟨rfl, rfl⟩ ⟨Nat.le_of_ble_eq_true rfl, Nat.le_of_ble_eq_true rfl⟩ hl.1 (Nat.le_of_ble_eq_true rfl) dX3_open_57 ⟨Nat.zero_le _, Nat.zero_le _⟩ rfl (fun H locs hR hS => ?_)
        refine lv_iload_n hx hb dX3_open_60 rfl (lv_at hl 2 rfl) ?_
        cases hF
        exact x_iret hx hb hlocks hK hR hS hr hv2 dX3_open_61
def F_X3_open (M : Mm) (a1 : Int) : Option (Int × Mm) := (xb1 (F_X3_needPower M ) fun _ => (xb1 (F_X3_needNode M a1) fun _ => (xk (M 0 0 0 = 0 ∨ M 0 0 0 = 1) (xb1 (F_X2_at M ((M 0 0 0).toNat) a1) fun y6 => (if (M 2 y6 0) = (1 : Int) then (F_X3_open_29  FU M a1 (0 : Int)) else (some ((-3 : Int), M)))))))
set_option maxHeartbeats 4000000 in
set_option maxRecDepth 100000 in
theorem c_X3_open {l : Launch} {g : Gx} {b : Nat} {M : Mm} {a1 : Int} {r : Int} {M' : Mm} (ha1 : rg a1) (hF : F_X3_open M a1 = some (r, M')) : Ct l yX3_open cX3_open 3 (some .int) rmX3_open g b [.ref (adr b 0 0), .int (jI a1)] M (qI g b r M') := by
  refine ct_of (by decide +kernel) (Nat.le_of_ble_eq_true rfl) ?_
  intro p e s m args below meth c C0 hR ls hl
  obtain ⟨hx, hb, hr, hlocks, hml, hown, hts, hK⟩ := id C0
  have hS : va_S (AA b s.heap.size) s.heap s.heap [] := va_S.rf
  have hl : lv_has ls 3 [(0, .ref (adr b 0 0)), (1, .int (jI a1))] := hl
  obtain ⟨H, hH⟩ : ∃ z, z = s.heap := ⟨_, rfl⟩
  obtain ⟨locs, hlo⟩ : ∃ z : List Loc, z = [] := ⟨_, rfl⟩
  have hR : Rel g b M H := by rw [hH]; exact hR
  have hS : va_S (AA b s.heap.size) s.heap H locs := by rw [hH, hlo]; exact hS
  suffices hW : W p l e rmX3_open s m args below meth c H locs 0 0 (MQ below (qI g b r M' s.heap.size) args s 0 0 (AA b s.heap.size)) (F0 m 0 ls []) by rw [hH, hlo] at hW; exact hW
  rw [F_X3_open] at hF
  refine lv_aload_n hx hb dX3_open_0 rfl (lv_at hl 0 rfl) ?_
  obtain ⟨_, hc1, hF⟩ := xb1_some hF
  refine x_cVv (C := RX3) (T := TX3) (N := 9) (ci := 3) (As := []) (rest := []) hx hb hml hown hts hK hR hS (c_X3_needPower  hc1) ok0 rfl rfl wd170 wd172 ws0 wd1 wd173 hyX3_needPower ⟨rfl, rfl⟩ ⟨Nat.le_of_ble_eq_true rfl, Nat.le_of_ble_eq_true rfl⟩ hl.1 (Nat.le_of_ble_eq_true rfl) dX3_open_1 ⟨Nat.zero_le _, Nat.zero_le _⟩ rfl (fun H locs hR hS => ?_)
  refine lv_aload_n hx hb dX3_open_4 rfl (lv_at hl 0 rfl) ?_
  refine lv_iload_n hx hb dX3_open_5 rfl (lv_at hl 1 rfl) ?_
  obtain ⟨_, hc2, hF⟩ := xb1_some hF
  refine x_cVv (C := RX3) (T := TX3) (N := 9) (ci := 3) (As := [.int (jI a1)]) (rest := []) hx hb hml hown hts hK hR hS (c_X3_needNode ha1 hc2) ok0 rfl rfl wd346 wd348 ws5 wd1 wd349 hyX3_needNode ⟨rfl, rfl⟩ ⟨Nat.le_of_ble_eq_true rfl, Nat.le_of_ble_eq_true rfl⟩ hl.1 (Nat.le_of_ble_eq_true rfl) dX3_open_6 ⟨Nat.zero_le _, Nat.zero_le _⟩ rfl (fun H locs hR hS => ?_)
  refine lv_aload_n hx hb dX3_open_9 rfl (lv_at hl 0 rfl) ?_
  refine gf_3_0 hx hb hts hown hK hR wd138 dX3_open_10 ?_
  obtain ⟨ht3, hF⟩ := xk_some hF
  have hj4 : (M 0 0 0).toNat < 3 := by omega
  refine lv_iload_n hx hb dX3_open_13 rfl (lv_at hl 1 rfl) ?_
  obtain ⟨y6, hc5, hF⟩ := xb1_some hF
  refine x_cVr (C := RX2) (T := TX2) (N := 8) (ci := 2) (As := [.int (jI a1)]) (rest := []) hx hb hml hown hts hK hR hS (c_X2_at hj4 ha1 hc5) (ok1 hj4) rfl rfl wd337 wd255 wd256 wd2 wd257 hyX2_at ⟨rfl, rfl⟩ ⟨Nat.le_of_ble_eq_true rfl, Nat.le_of_ble_eq_true rfl⟩ hl.1 (Nat.le_of_ble_eq_true rfl) dX3_open_14 ⟨Nat.zero_le _, Nat.zero_le _⟩ rfl (fun hg7 H locs hR hS => ?_)
  have hj8 : y6 < 99 := lt2 hg7
  refine gf_1_0 hx hb hts hown hK hR hj8 wd36 dX3_open_17 ?_
  have hg9 : rg (M 2 y6 0) := hR.2 2 y6 0 (by decide)
  refine x_iconst hx hb dX3_open_20 ?_
  refine x_icmp_eq (tgt := 27) hx hb hg9 (by decide : rg (1 : Int)) dX3_open_21 (by decide) (fun ci10 => ?_) (fun ci10 => ?_)
  · rw [if_pos ci10] at hF
    refine x_iconst hx hb dX3_open_27 ?_
    refine lv_istore_n (lv' := [(2, .int (jI (0 : Int))), (0, .ref (adr b 0 0)), (1, .int (jI a1))]) hx hb dX3_open_28 rfl hl (by decide) rfl (fun ls hl => ?_)
    exact w_X3_open_29 C0  FU M a1 (0 : Int) ha1 (by decide : rg (0 : Int)) H locs hR hS ls (lv_sub hl [1, 2, 0] rfl) hF
  · rw [if_neg ci10] at hF
    refine x_bipush hx hb (by decide +kernel) dX3_open_24 ?_
    cases hF
    exact x_iret hx hb hlocks hK hR hS hr (by decide : rg (-3 : Int)) dX3_open_26
abbrev rmX3_close : Room := { frames := 6, cells := 0, slots := 0, locals := 131 }
theorem hyX3_close : yX3_close.cls = RX3 ∧ yX3_close.cls ≠ "java/lang/invoke/MethodHandle" ∧ yX3_close.cls ≠ "java/lang/invoke/VarHandle" ∧ (parseMethodDescriptor yX3_close.desc).map (fun d => d.parameters.length) = some 1 := by decide +kernel
def F_X3_close (M : Mm) (a1 : Int) : Option (Int × Mm) := (xb1 (F_X3_needPower M ) fun _ => (xb1 (F_X3_needOpen M a1) fun y3 => (xb1 (F_X0_leave M y3) fun M8 => (xk (M8 0 0 0 = 0 ∨ M8 0 0 0 = 1) (xb1 (F_X2_at M8 ((M8 0 0 0).toNat) (M 11 y3 1)) fun y12 => (xb1 (F_X1_isForsaken M8 y12) fun y16 => (if y16 = 0 then (some ((M 11 y3 1), M8)) else (xb1 (F_X3_isHeld M8 (M 11 y3 1)) fun y20 => (if y20 = 0 then (xb1 (F_X3_startDraft M8 ) fun M24 => (xk (M24 0 0 1 = 0 ∨ M24 0 0 1 = 1) (xb1 (F_X2_drop M24 ((M24 0 0 1).toNat) (M 11 y3 1)) fun M28 => (xb2 (F_X3_settle M28 (M 11 y3 1)) fun y30 M31 => (some (y30, M31)))))) else (some ((M 11 y3 1), M8)))))))))))
set_option maxHeartbeats 4000000 in
set_option maxRecDepth 100000 in
theorem c_X3_close {l : Launch} {g : Gx} {b : Nat} {M : Mm} {a1 : Int} {r : Int} {M' : Mm} (ha1 : rg a1) (hF : F_X3_close M a1 = some (r, M')) : Ct l yX3_close cX3_close 4 (some .int) rmX3_close g b [.ref (adr b 0 0), .int (jI a1)] M (qI g b r M') := by
  refine ct_of (by decide +kernel) (Nat.le_of_ble_eq_true rfl) ?_
  intro p e s m args below meth c C0 hR ls hl
  obtain ⟨hx, hb, hr, hlocks, hml, hown, hts, hK⟩ := id C0
  have hS : va_S (AA b s.heap.size) s.heap s.heap [] := va_S.rf
  have hl : lv_has ls 4 [(0, .ref (adr b 0 0)), (1, .int (jI a1))] := hl
  obtain ⟨H, hH⟩ : ∃ z, z = s.heap := ⟨_, rfl⟩
  obtain ⟨locs, hlo⟩ : ∃ z : List Loc, z = [] := ⟨_, rfl⟩
  have hR : Rel g b M H := by rw [hH]; exact hR
  have hS : va_S (AA b s.heap.size) s.heap H locs := by rw [hH, hlo]; exact hS
  suffices hW : W p l e rmX3_close s m args below meth c H locs 0 0 (MQ below (qI g b r M' s.heap.size) args s 0 0 (AA b s.heap.size)) (F0 m 0 ls []) by rw [hH, hlo] at hW; exact hW
  rw [F_X3_close] at hF
  refine lv_aload_n hx hb dX3_close_0 rfl (lv_at hl 0 rfl) ?_
  obtain ⟨_, hc1, hF⟩ := xb1_some hF
  refine x_cVv (C := RX3) (T := TX3) (N := 9) (ci := 3) (As := []) (rest := []) hx hb hml hown hts hK hR hS (c_X3_needPower  hc1) ok0 rfl rfl wd170 wd172 ws0 wd1 wd173 hyX3_needPower ⟨rfl, rfl⟩ ⟨Nat.le_of_ble_eq_true rfl, Nat.le_of_ble_eq_true rfl⟩ hl.1 (Nat.le_of_ble_eq_true rfl) dX3_close_1 ⟨Nat.zero_le _, Nat.zero_le _⟩ rfl (fun H locs hR hS => ?_)
  refine lv_aload_n hx hb dX3_close_4 rfl (lv_at hl 0 rfl) ?_
  refine lv_iload_n hx hb dX3_close_5 rfl (lv_at hl 1 rfl) ?_
  obtain ⟨y3, hc2, hF⟩ := xb1_some hF
  refine x_cVr (C := RX3) (T := TX3) (N := 9) (ci := 3) (As := [.int (jI a1)]) (rest := []) hx hb hml hown hts hK hR hS (c_X3_needOpen ha1 hc2) ok0 rfl rfl wd586 wd588 ws10 wd1 wd589 hyX3_needOpen ⟨rfl, rfl⟩ ⟨Nat.le_of_ble_eq_true rfl, Nat.le_of_ble_eq_true rfl⟩ hl.1 (Nat.le_of_ble_eq_true rfl) dX3_close_6 ⟨Nat.zero_le _, Nat.zero_le _⟩ rfl (fun hg4 H locs hR hS => ?_)
  have hj5 : y3 < 6 := lt11 hg4
  refine lv_astore_n (lv' := [(2, .ref (adr b 11 y3)), (0, .ref (adr b 0 0)), (1, .int (jI a1))]) hx hb dX3_close_9 rfl hl (by decide) rfl (fun ls hl => ?_)
  refine lv_aload_n hx hb dX3_close_10 rfl (lv_at hl 0 rfl) ?_
  refine gf_0_1 hx hb hts hown hK hR hj5 wd125 dX3_close_11 ?_
  have hg6 : rg (M 11 y3 1) := hR.2 11 y3 1 (by decide)
  refine lv_istore_n (lv' := [(3, .int (jI (M 11 y3 1))), (2, .ref (adr b 11 y3)), (0, .ref (adr b 0 0)), (1, .int (jI a1))]) hx hb dX3_close_14 rfl hl (by decide) rfl (fun ls hl => ?_)
  refine lv_aload_n hx hb dX3_close_15 rfl (lv_at hl 1 rfl) ?_
  obtain ⟨M8, hc7, hF⟩ := xb1_some hF
  refine x_cVv (C := RX0) (T := TX0) (N := 4) (ci := 0) (As := []) (rest := []) hx hb hml hown hts hK hR hS (c_X0_leave hj5 hc7) (ok11 hj5) rfl rfl wd274 wd275 wd276 wd4 wd277 hyX0_leave ⟨rfl, rfl⟩ ⟨Nat.le_of_ble_eq_true rfl, Nat.le_of_ble_eq_true rfl⟩ hl.1 (Nat.le_of_ble_eq_true rfl) dX3_close_16 ⟨Nat.zero_le _, Nat.zero_le _⟩ rfl (fun H locs hR hS => ?_)
  refine lv_aload_n hx hb dX3_close_19 rfl (lv_at hl 2 rfl) ?_
  refine gf_3_0 hx hb hts hown hK hR wd138 dX3_close_20 ?_
  obtain ⟨ht9, hF⟩ := xk_some hF
  have hj10 : (M8 0 0 0).toNat < 3 := by omega
  refine lv_iload_n hx hb dX3_close_23 rfl (lv_at hl 0 rfl) ?_
  obtain ⟨y12, hc11, hF⟩ := xb1_some hF
  refine x_cVr (C := RX2) (T := TX2) (N := 8) (ci := 2) (As := [.int (jI (M 11 y3 1))]) (rest := []) hx hb hml hown hts hK hR hS (c_X2_at hj10 hg6 hc11) (ok1 hj10) rfl rfl wd337 wd255 wd256 wd2 wd257 hyX2_at ⟨rfl, rfl⟩ ⟨Nat.le_of_ble_eq_true rfl, Nat.le_of_ble_eq_true rfl⟩ hl.1 (Nat.le_of_ble_eq_true rfl) dX3_close_24 ⟨Nat.zero_le _, Nat.zero_le _⟩ rfl (fun hg13 H locs hR hS => ?_)
  have hj14 : y12 < 99 := lt2 hg13
  obtain ⟨y16, hc15, hF⟩ := xb1_some hF
  refine x_cVi (C := RX1) (T := TX1) (N := 12) (ci := 1) (As := []) (rest := []) hx hb hml hown hts hK hR hS (c_X1_isForsaken hj14 hc15) (ok2 hj14) rfl rfl wd374 wd299 wd300 wd3 wd301 hyX1_isForsaken ⟨rfl, rfl⟩ ⟨Nat.le_of_ble_eq_true rfl, Nat.le_of_ble_eq_true rfl⟩ hl.1 (Nat.le_of_ble_eq_true rfl) dX3_close_27 ⟨Nat.zero_le _, Nat.zero_le _⟩ rfl (fun hg17 H locs hR hS => ?_)
  refine x_if_eq (tgt := 41) hx hb hg17 dX3_close_30 (by decide) (fun ci18 => ?_) (fun ci18 => ?_)
  · rw [if_pos ci18] at hF
    refine lv_iload_n hx hb dX3_close_41 rfl (lv_at hl 0 rfl) ?_
    cases hF
    exact x_iret hx hb hlocks hK hR hS hr hg6 dX3_close_42
  · rw [if_neg ci18] at hF
    refine lv_aload_n hx hb dX3_close_33 rfl (lv_at hl 2 rfl) ?_
    refine lv_iload_n hx hb dX3_close_34 rfl (lv_at hl 0 rfl) ?_
    obtain ⟨y20, hc19, hF⟩ := xb1_some hF
    refine x_cVi (C := RX3) (T := TX3) (N := 9) (ci := 3) (As := [.int (jI (M 11 y3 1))]) (rest := []) hx hb hml hown hts hK hR hS (c_X3_isHeld hg6 hc19) ok0 rfl rfl wd700 wd702 ws18 wd1 wd703 hyX3_isHeld ⟨rfl, rfl⟩ ⟨Nat.le_of_ble_eq_true rfl, Nat.le_of_ble_eq_true rfl⟩ hl.1 (Nat.le_of_ble_eq_true rfl) dX3_close_35 ⟨Nat.zero_le _, Nat.zero_le _⟩ rfl (fun hg21 H locs hR hS => ?_)
    refine x_if_eq (tgt := 43) hx hb hg21 dX3_close_38 (by decide) (fun ci22 => ?_) (fun ci22 => ?_)
    · rw [if_pos ci22] at hF
      refine lv_aload_n hx hb dX3_close_43 rfl (lv_at hl 2 rfl) ?_
      obtain ⟨M24, hc23, hF⟩ := xb1_some hF
      refine x_cVv (C := RX3) (T := TX3) (N := 9) (ci := 3) (As := []) (rest := []) hx hb hml hown hts hK hR hS (c_X3_startDraft  hc23) ok0 rfl rfl wd633 wd635 ws14 wd1 wd636 hyX3_startDraft ⟨rfl, rfl⟩ ⟨Nat.le_of_ble_eq_true rfl, Nat.le_of_ble_eq_true rfl⟩ hl.1 (Nat.le_of_ble_eq_true rfl) dX3_close_44 ⟨Nat.zero_le _, Nat.zero_le _⟩ rfl (fun H locs hR hS => ?_)
      refine lv_aload_n hx hb dX3_close_47 rfl (lv_at hl 2 rfl) ?_
      refine gf_3_1 hx hb hts hown hK hR wd139 dX3_close_48 ?_
      obtain ⟨ht25, hF⟩ := xk_some hF
      have hj26 : (M24 0 0 1).toNat < 3 := by omega
      refine lv_iload_n hx hb dX3_close_51 rfl (lv_at hl 0 rfl) ?_
      obtain ⟨M28, hc27, hF⟩ := xb1_some hF
      refine x_cVv (C := RX2) (T := TX2) (N := 8) (ci := 2) (As := [.int (jI (M 11 y3 1))]) (rest := []) hx hb hml hown hts hK hR hS (c_X2_drop hj26 hg6 hc27) (ok1 hj26) rfl rfl wd708 wd303 wd304 wd2 wd305 hyX2_drop ⟨rfl, rfl⟩ ⟨Nat.le_of_ble_eq_true rfl, Nat.le_of_ble_eq_true rfl⟩ hl.1 (Nat.le_of_ble_eq_true rfl) dX3_close_52 ⟨Nat.zero_le _, Nat.zero_le _⟩ rfl (fun H locs hR hS => ?_)
      refine lv_aload_n hx hb dX3_close_55 rfl (lv_at hl 2 rfl) ?_
      refine lv_iload_n hx hb dX3_close_56 rfl (lv_at hl 0 rfl) ?_
      obtain ⟨y30, M31, hc29, hF⟩ := xb2_some hF
      refine x_cVi (C := RX3) (T := TX3) (N := 9) (ci := 3) (As := [.int (jI (M 11 y3 1))]) (rest := []) hx hb hml hown hts hK hR hS (c_X3_settle hg6 hc29) ok0 rfl rfl wd653 wd655 ws15 wd1 wd656 hyX3_settle ⟨rfl, rfl⟩ ⟨Nat.le_of_ble_eq_true rfl, Nat.le_of_ble_eq_true rfl⟩ hl.1 (Nat.le_of_ble_eq_true rfl) dX3_close_57 ⟨Nat.zero_le _, Nat.zero_le _⟩ rfl (fun hg32 H locs hR hS => ?_)
      cases hF
      exact x_iret hx hb hlocks hK hR hS hr hg32 dX3_close_60
    · rw [if_neg ci22] at hF
      refine lv_iload_n hx hb dX3_close_41 rfl (lv_at hl 0 rfl) ?_
      cases hF
      exact x_iret hx hb hlocks hK hR hS hr hg6 dX3_close_42
abbrev rmX3_seek : Room := { frames := 1, cells := 0, slots := 0, locals := 23 }
theorem hyX3_seek : yX3_seek.cls = RX3 ∧ yX3_seek.cls ≠ "java/lang/invoke/MethodHandle" ∧ yX3_seek.cls ≠ "java/lang/invoke/VarHandle" ∧ (parseMethodDescriptor yX3_seek.desc).map (fun d => d.parameters.length) = some 2 := by decide +kernel
def F_X3_seek (M : Mm) (a1 : Int) (a2 : Int) : Option (Int × Mm) := (xb1 (F_X3_needPower M ) fun _ => (xb1 (F_X3_needOpen M a1) fun y3 => (xb1 (F_X3_needRange M a2 (0 : Int) (320 : Int)) fun _ => (xl (mup M 11 y3 2 a2) fun M8 => (some ((M 11 y3 2), M8))))))
set_option maxHeartbeats 4000000 in
set_option maxRecDepth 100000 in
theorem c_X3_seek {l : Launch} {g : Gx} {b : Nat} {M : Mm} {a1 : Int} {a2 : Int} {r : Int} {M' : Mm} (ha1 : rg a1) (ha2 : rg a2) (hF : F_X3_seek M a1 a2 = some (r, M')) : Ct l yX3_seek cX3_seek 5 (some .int) rmX3_seek g b [.ref (adr b 0 0), .int (jI a1), .int (jI a2)] M (qI g b r M') := by
  refine ct_of (by decide +kernel) (Nat.le_of_ble_eq_true rfl) ?_
  intro p e s m args below meth c C0 hR ls hl
  obtain ⟨hx, hb, hr, hlocks, hml, hown, hts, hK⟩ := id C0
  have hS : va_S (AA b s.heap.size) s.heap s.heap [] := va_S.rf
  have hl : lv_has ls 5 [(0, .ref (adr b 0 0)), (1, .int (jI a1)), (2, .int (jI a2))] := hl
  obtain ⟨H, hH⟩ : ∃ z, z = s.heap := ⟨_, rfl⟩
  obtain ⟨locs, hlo⟩ : ∃ z : List Loc, z = [] := ⟨_, rfl⟩
  have hR : Rel g b M H := by rw [hH]; exact hR
  have hS : va_S (AA b s.heap.size) s.heap H locs := by rw [hH, hlo]; exact hS
  suffices hW : W p l e rmX3_seek s m args below meth c H locs 0 0 (MQ below (qI g b r M' s.heap.size) args s 0 0 (AA b s.heap.size)) (F0 m 0 ls []) by rw [hH, hlo] at hW; exact hW
  rw [F_X3_seek] at hF
  refine lv_aload_n hx hb dX3_seek_0 rfl (lv_at hl 0 rfl) ?_
  obtain ⟨_, hc1, hF⟩ := xb1_some hF
  refine x_cVv (C := RX3) (T := TX3) (N := 9) (ci := 3) (As := []) (rest := []) hx hb hml hown hts hK hR hS (c_X3_needPower  hc1) ok0 rfl rfl wd170 wd172 ws0 wd1 wd173 hyX3_needPower ⟨rfl, rfl⟩ ⟨Nat.le_of_ble_eq_true rfl, Nat.le_of_ble_eq_true rfl⟩ hl.1 (Nat.le_of_ble_eq_true rfl) dX3_seek_1 ⟨Nat.zero_le _, Nat.zero_le _⟩ rfl (fun H locs hR hS => ?_)
  refine lv_aload_n hx hb dX3_seek_4 rfl (lv_at hl 0 rfl) ?_
  refine lv_iload_n hx hb dX3_seek_5 rfl (lv_at hl 1 rfl) ?_
  obtain ⟨y3, hc2, hF⟩ := xb1_some hF
  refine x_cVr (C := RX3) (T := TX3) (N := 9) (ci := 3) (As := [.int (jI a1)]) (rest := []) hx hb hml hown hts hK hR hS (c_X3_needOpen ha1 hc2) ok0 rfl rfl wd586 wd588 ws10 wd1 wd589 hyX3_needOpen ⟨rfl, rfl⟩ ⟨Nat.le_of_ble_eq_true rfl, Nat.le_of_ble_eq_true rfl⟩ hl.1 (Nat.le_of_ble_eq_true rfl) dX3_seek_6 ⟨Nat.zero_le _, Nat.zero_le _⟩ rfl (fun hg4 H locs hR hS => ?_)
  have hj5 : y3 < 6 := lt11 hg4
  refine lv_astore_n (lv' := [(3, .ref (adr b 11 y3)), (0, .ref (adr b 0 0)), (1, .int (jI a1)), (2, .int (jI a2))]) hx hb dX3_seek_9 rfl hl (by decide) rfl (fun ls hl => ?_)
  refine lv_aload_n hx hb dX3_seek_10 rfl (lv_at hl 1 rfl) ?_
  refine lv_iload_n hx hb dX3_seek_11 rfl (lv_at hl 3 rfl) ?_
  refine x_iconst hx hb dX3_seek_12 ?_
  refine x_sipush hx hb (by decide +kernel) dX3_seek_13 ?_
  obtain ⟨_, hc6, hF⟩ := xb1_some hF
  refine x_cVv (C := RX3) (T := TX3) (N := 9) (ci := 3) (As := [.int (jI a2), .int (jI (0 : Int)), .int (jI (320 : Int))]) (rest := []) hx hb hml hown hts hK hR hS (c_X3_needRange ha2 (by decide : rg (0 : Int)) (by decide : rg (320 : Int)) hc6) ok0 rfl rfl wd419 wd421 ws6 wd1 wd422 hyX3_needRange ⟨rfl, rfl⟩ ⟨Nat.le_of_ble_eq_true rfl, Nat.le_of_ble_eq_true rfl⟩ hl.1 (Nat.le_of_ble_eq_true rfl) dX3_seek_16 ⟨Nat.zero_le _, Nat.zero_le _⟩ rfl (fun H locs hR hS => ?_)
  refine lv_aload_n hx hb dX3_seek_19 rfl (lv_at hl 0 rfl) ?_
  refine gf_0_2 hx hb hts hown hK hR hj5 wd127 dX3_seek_20 ?_
  have hg7 : rg (M 11 y3 2) := hR.2 11 y3 2 (by decide)
  refine lv_istore (lv' := [(4, .int (jI (M 11 y3 2))), (3, .ref (adr b 11 y3)), (0, .ref (adr b 0 0)), (1, .int (jI a1)), (2, .int (jI a2))]) hx hb dX3_seek_23 hl (by decide) rfl (fun ls hl => ?_)
  refine lv_aload_n hx hb dX3_seek_25 rfl (lv_at hl 1 rfl) ?_
  refine lv_iload_n hx hb dX3_seek_26 rfl (lv_at hl 4 rfl) ?_
  refine pf_0_2 hx hb hts hown hK hR hS hj5 ha2 wd127 dX3_seek_27 (fun H locs hR hS => ?_)
  obtain ⟨M8, eM, hF⟩ := xl_some hF
  rw [eM] at hR
  clear eM
  refine lv_iload hx hb dX3_seek_30 (lv_at hl 0 rfl) ?_
  cases hF
  exact x_iret hx hb hlocks hK hR hS hr hg7 dX3_seek_32
abbrev rmX3_lockRows : Room := { frames := 1, cells := 0, slots := 0, locals := 23 }
theorem hyX3_lockRows : yX3_lockRows.cls = RX3 ∧ yX3_lockRows.cls ≠ "java/lang/invoke/MethodHandle" ∧ yX3_lockRows.cls ≠ "java/lang/invoke/VarHandle" ∧ (parseMethodDescriptor yX3_lockRows.desc).map (fun d => d.parameters.length) = some 1 := by decide +kernel
def F_X3_lockRows (M : Mm) (a1 : Int) : Option (Int) := (xb1 (F_X3_needPower M ) fun _ => (xb1 (F_X3_needOpen M a1) fun y3 => (xb1 (F_X0_rows M y3) fun y7 => (some y7))))
set_option maxHeartbeats 4000000 in
set_option maxRecDepth 100000 in
theorem c_X3_lockRows {l : Launch} {g : Gx} {b : Nat} {M : Mm} {a1 : Int} {r : Int} (ha1 : rg a1) (hF : F_X3_lockRows M a1 = some r) : Ct l yX3_lockRows cX3_lockRows 2 (some .int) rmX3_lockRows g b [.ref (adr b 0 0), .int (jI a1)] M (qI g b r M) := by
  refine ct_of (by decide +kernel) (Nat.le_of_ble_eq_true rfl) ?_
  intro p e s m args below meth c C0 hR ls hl
  obtain ⟨hx, hb, hr, hlocks, hml, hown, hts, hK⟩ := id C0
  have hS : va_S (AA b s.heap.size) s.heap s.heap [] := va_S.rf
  have hl : lv_has ls 2 [(0, .ref (adr b 0 0)), (1, .int (jI a1))] := hl
  obtain ⟨H, hH⟩ : ∃ z, z = s.heap := ⟨_, rfl⟩
  obtain ⟨locs, hlo⟩ : ∃ z : List Loc, z = [] := ⟨_, rfl⟩
  have hR : Rel g b M H := by rw [hH]; exact hR
  have hS : va_S (AA b s.heap.size) s.heap H locs := by rw [hH, hlo]; exact hS
  suffices hW : W p l e rmX3_lockRows s m args below meth c H locs 0 0 (MQ below (qI g b r M s.heap.size) args s 0 0 (AA b s.heap.size)) (F0 m 0 ls []) by rw [hH, hlo] at hW; exact hW
  rw [F_X3_lockRows] at hF
  refine lv_aload_n hx hb dX3_lockRows_0 rfl (lv_at hl 0 rfl) ?_
  obtain ⟨_, hc1, hF⟩ := xb1_some hF
  refine x_cVv (C := RX3) (T := TX3) (N := 9) (ci := 3) (As := []) (rest := []) hx hb hml hown hts hK hR hS (c_X3_needPower  hc1) ok0 rfl rfl wd170 wd172 ws0 wd1 wd173 hyX3_needPower ⟨rfl, rfl⟩ ⟨Nat.le_of_ble_eq_true rfl, Nat.le_of_ble_eq_true rfl⟩ hl.1 (Nat.le_of_ble_eq_true rfl) dX3_lockRows_1 ⟨Nat.zero_le _, Nat.zero_le _⟩ rfl (fun H locs hR hS => ?_)
  refine lv_aload_n hx hb dX3_lockRows_4 rfl (lv_at hl 0 rfl) ?_
  refine lv_iload_n hx hb dX3_lockRows_5 rfl (lv_at hl 1 rfl) ?_
  obtain ⟨y3, hc2, hF⟩ := xb1_some hF
  refine x_cVr (C := RX3) (T := TX3) (N := 9) (ci := 3) (As := [.int (jI a1)]) (rest := []) hx hb hml hown hts hK hR hS (c_X3_needOpen ha1 hc2) ok0 rfl rfl wd586 wd588 ws10 wd1 wd589 hyX3_needOpen ⟨rfl, rfl⟩ ⟨Nat.le_of_ble_eq_true rfl, Nat.le_of_ble_eq_true rfl⟩ hl.1 (Nat.le_of_ble_eq_true rfl) dX3_lockRows_6 ⟨Nat.zero_le _, Nat.zero_le _⟩ rfl (fun hg4 H locs hR hS => ?_)
  have hj5 : y3 < 6 := lt11 hg4
  obtain ⟨y7, hc6, hF⟩ := xb1_some hF
  refine x_cVi (C := RX0) (T := TX0) (N := 4) (ci := 0) (As := []) (rest := []) hx hb hml hown hts hK hR hS (c_X0_rows hj5 hc6) (ok11 hj5) rfl rfl wd599 wd600 wd601 wd4 wd602 hyX0_rows ⟨rfl, rfl⟩ ⟨Nat.le_of_ble_eq_true rfl, Nat.le_of_ble_eq_true rfl⟩ hl.1 (Nat.le_of_ble_eq_true rfl) dX3_lockRows_9 ⟨Nat.zero_le _, Nat.zero_le _⟩ rfl (fun hg8 H locs hR hS => ?_)
  cases hF
  exact x_iret hx hb hlocks hK hR hS hr hg8 dX3_lockRows_12
abbrev rmX3_nodeOf : Room := { frames := 1, cells := 0, slots := 0, locals := 21 }
theorem hyX3_nodeOf : yX3_nodeOf.cls = RX3 ∧ yX3_nodeOf.cls ≠ "java/lang/invoke/MethodHandle" ∧ yX3_nodeOf.cls ≠ "java/lang/invoke/VarHandle" ∧ (parseMethodDescriptor yX3_nodeOf.desc).map (fun d => d.parameters.length) = some 1 := by decide +kernel
def F_X3_nodeOf (M : Mm) (a1 : Int) : Option (Int) := (xb1 (F_X3_needPower M ) fun _ => (xb1 (F_X3_needOpen M a1) fun y3 => (some (M 11 y3 1))))
set_option maxHeartbeats 4000000 in
set_option maxRecDepth 100000 in
theorem c_X3_nodeOf {l : Launch} {g : Gx} {b : Nat} {M : Mm} {a1 : Int} {r : Int} (ha1 : rg a1) (hF : F_X3_nodeOf M a1 = some r) : Ct l yX3_nodeOf cX3_nodeOf 2 (some .int) rmX3_nodeOf g b [.ref (adr b 0 0), .int (jI a1)] M (qI g b r M) := by
  refine ct_of (by decide +kernel) (Nat.le_of_ble_eq_true rfl) ?_
  intro p e s m args below meth c C0 hR ls hl
  obtain ⟨hx, hb, hr, hlocks, hml, hown, hts, hK⟩ := id C0
  have hS : va_S (AA b s.heap.size) s.heap s.heap [] := va_S.rf
  have hl : lv_has ls 2 [(0, .ref (adr b 0 0)), (1, .int (jI a1))] := hl
  obtain ⟨H, hH⟩ : ∃ z, z = s.heap := ⟨_, rfl⟩
  obtain ⟨locs, hlo⟩ : ∃ z : List Loc, z = [] := ⟨_, rfl⟩
  have hR : Rel g b M H := by rw [hH]; exact hR
  have hS : va_S (AA b s.heap.size) s.heap H locs := by rw [hH, hlo]; exact hS
  suffices hW : W p l e rmX3_nodeOf s m args below meth c H locs 0 0 (MQ below (qI g b r M s.heap.size) args s 0 0 (AA b s.heap.size)) (F0 m 0 ls []) by rw [hH, hlo] at hW; exact hW
  rw [F_X3_nodeOf] at hF
  refine lv_aload_n hx hb dX3_nodeOf_0 rfl (lv_at hl 0 rfl) ?_
  obtain ⟨_, hc1, hF⟩ := xb1_some hF
  refine x_cVv (C := RX3) (T := TX3) (N := 9) (ci := 3) (As := []) (rest := []) hx hb hml hown hts hK hR hS (c_X3_needPower  hc1) ok0 rfl rfl wd170 wd172 ws0 wd1 wd173 hyX3_needPower ⟨rfl, rfl⟩ ⟨Nat.le_of_ble_eq_true rfl, Nat.le_of_ble_eq_true rfl⟩ hl.1 (Nat.le_of_ble_eq_true rfl) dX3_nodeOf_1 ⟨Nat.zero_le _, Nat.zero_le _⟩ rfl (fun H locs hR hS => ?_)
  refine lv_aload_n hx hb dX3_nodeOf_4 rfl (lv_at hl 0 rfl) ?_
  refine lv_iload_n hx hb dX3_nodeOf_5 rfl (lv_at hl 1 rfl) ?_
  obtain ⟨y3, hc2, hF⟩ := xb1_some hF
  refine x_cVr (C := RX3) (T := TX3) (N := 9) (ci := 3) (As := [.int (jI a1)]) (rest := []) hx hb hml hown hts hK hR hS (c_X3_needOpen ha1 hc2) ok0 rfl rfl wd586 wd588 ws10 wd1 wd589 hyX3_needOpen ⟨rfl, rfl⟩ ⟨Nat.le_of_ble_eq_true rfl, Nat.le_of_ble_eq_true rfl⟩ hl.1 (Nat.le_of_ble_eq_true rfl) dX3_nodeOf_6 ⟨Nat.zero_le _, Nat.zero_le _⟩ rfl (fun hg4 H locs hR hS => ?_)
  have hj5 : y3 < 6 := lt11 hg4
  refine gf_0_1 hx hb hts hown hK hR hj5 wd125 dX3_nodeOf_9 ?_
  have hg6 : rg (M 11 y3 1) := hR.2 11 y3 1 (by decide)
  cases hF
  exact x_iret hx hb hlocks hK hR hS hr hg6 dX3_nodeOf_12
abbrev rmX3_positionOf : Room := { frames := 1, cells := 0, slots := 0, locals := 21 }
theorem hyX3_positionOf : yX3_positionOf.cls = RX3 ∧ yX3_positionOf.cls ≠ "java/lang/invoke/MethodHandle" ∧ yX3_positionOf.cls ≠ "java/lang/invoke/VarHandle" ∧ (parseMethodDescriptor yX3_positionOf.desc).map (fun d => d.parameters.length) = some 1 := by decide +kernel
def F_X3_positionOf (M : Mm) (a1 : Int) : Option (Int) := (xb1 (F_X3_needPower M ) fun _ => (xb1 (F_X3_needOpen M a1) fun y3 => (some (M 11 y3 2))))
set_option maxHeartbeats 4000000 in
set_option maxRecDepth 100000 in
theorem c_X3_positionOf {l : Launch} {g : Gx} {b : Nat} {M : Mm} {a1 : Int} {r : Int} (ha1 : rg a1) (hF : F_X3_positionOf M a1 = some r) : Ct l yX3_positionOf cX3_positionOf 2 (some .int) rmX3_positionOf g b [.ref (adr b 0 0), .int (jI a1)] M (qI g b r M) := by
  refine ct_of (by decide +kernel) (Nat.le_of_ble_eq_true rfl) ?_
  intro p e s m args below meth c C0 hR ls hl
  obtain ⟨hx, hb, hr, hlocks, hml, hown, hts, hK⟩ := id C0
  have hS : va_S (AA b s.heap.size) s.heap s.heap [] := va_S.rf
  have hl : lv_has ls 2 [(0, .ref (adr b 0 0)), (1, .int (jI a1))] := hl
  obtain ⟨H, hH⟩ : ∃ z, z = s.heap := ⟨_, rfl⟩
  obtain ⟨locs, hlo⟩ : ∃ z : List Loc, z = [] := ⟨_, rfl⟩
  have hR : Rel g b M H := by rw [hH]; exact hR
  have hS : va_S (AA b s.heap.size) s.heap H locs := by rw [hH, hlo]; exact hS
  suffices hW : W p l e rmX3_positionOf s m args below meth c H locs 0 0 (MQ below (qI g b r M s.heap.size) args s 0 0 (AA b s.heap.size)) (F0 m 0 ls []) by rw [hH, hlo] at hW; exact hW
  rw [F_X3_positionOf] at hF
  refine lv_aload_n hx hb dX3_positionOf_0 rfl (lv_at hl 0 rfl) ?_
  obtain ⟨_, hc1, hF⟩ := xb1_some hF
  refine x_cVv (C := RX3) (T := TX3) (N := 9) (ci := 3) (As := []) (rest := []) hx hb hml hown hts hK hR hS (c_X3_needPower  hc1) ok0 rfl rfl wd170 wd172 ws0 wd1 wd173 hyX3_needPower ⟨rfl, rfl⟩ ⟨Nat.le_of_ble_eq_true rfl, Nat.le_of_ble_eq_true rfl⟩ hl.1 (Nat.le_of_ble_eq_true rfl) dX3_positionOf_1 ⟨Nat.zero_le _, Nat.zero_le _⟩ rfl (fun H locs hR hS => ?_)
  refine lv_aload_n hx hb dX3_positionOf_4 rfl (lv_at hl 0 rfl) ?_
  refine lv_iload_n hx hb dX3_positionOf_5 rfl (lv_at hl 1 rfl) ?_
  obtain ⟨y3, hc2, hF⟩ := xb1_some hF
  refine x_cVr (C := RX3) (T := TX3) (N := 9) (ci := 3) (As := [.int (jI a1)]) (rest := []) hx hb hml hown hts hK hR hS (c_X3_needOpen ha1 hc2) ok0 rfl rfl wd586 wd588 ws10 wd1 wd589 hyX3_needOpen ⟨rfl, rfl⟩ ⟨Nat.le_of_ble_eq_true rfl, Nat.le_of_ble_eq_true rfl⟩ hl.1 (Nat.le_of_ble_eq_true rfl) dX3_positionOf_6 ⟨Nat.zero_le _, Nat.zero_le _⟩ rfl (fun hg4 H locs hR hS => ?_)
  have hj5 : y3 < 6 := lt11 hg4
  refine gf_0_2 hx hb hts hown hK hR hj5 wd127 dX3_positionOf_9 ?_
  have hg6 : rg (M 11 y3 2) := hR.2 11 y3 2 (by decide)
  cases hF
  exact x_iret hx hb hlocks hK hR hS hr hg6 dX3_positionOf_12
abbrev rmX3_handles : Room := { frames := 1, cells := 0, slots := 0, locals := 20 }
theorem hyX3_handles : yX3_handles.cls = RX3 ∧ yX3_handles.cls ≠ "java/lang/invoke/MethodHandle" ∧ yX3_handles.cls ≠ "java/lang/invoke/VarHandle" ∧ (parseMethodDescriptor yX3_handles.desc).map (fun d => d.parameters.length) = some 0 := by decide +kernel
def F_X3_handles_8 (M : Mm)  : Nat → Int → Int → Option (Int)
  | 0, _, _ => none
  | n + 1, v1, v2 => (if (6 : Int) ≤ v2 then (some v1) else (xk (0 ≤ v2 ∧ v2 < 6) (if (M 11 (v2.toNat) 0) = 0 then (xk (rg (v2 + (1 : Int))) (F_X3_handles_8 M  n v1 (v2 + (1 : Int)))) else (xk (rg (v1 + (1 : Int))) (xk (rg (v2 + (1 : Int))) (F_X3_handles_8 M  n (v1 + (1 : Int)) (v2 + (1 : Int))))))))
set_option maxHeartbeats 4000000 in
set_option maxRecDepth 100000 in
theorem w_X3_handles_8 {p : Program} {l : Launch} {e : Env} {s : State} {m : MethodId} {args : Array Value} {below : List Frame} {meth : Method} {c : Code} {g : Gx} {b : Nat} (C0 : XA p s m meth c args RX3 cX3_handles 3 (some .int) g) {r : Int} {M : Mm} : ∀ n : Nat, ∀ (v1 : Int) (v2 : Int) (hv1 : rg v1) (hv2 : rg v2) (H : Heap) (locs : List Loc), Rel g b M H → va_S (AA b s.heap.size) s.heap H locs → ∀ ls : Array Slot, lv_has ls 3 [(0, .ref (adr b 0 0)), (1, .int (jI v1)), (2, .int (jI v2))] → F_X3_handles_8 M  n v1 v2 = some r → W p l e rmX3_handles s m args below meth c H locs 0 0 (MQ below (qI g b r M s.heap.size) args s 0 0 (AA b s.heap.size)) (F0 m 8 ls []) := by
  obtain ⟨hx, hb, hr, hlocks, hml, hown, hts, hK⟩ := id C0
  intro n
  induction n with
  | zero =>
    intro v1 v2 hv1 hv2 H locs hR hS ls hl hF
    rw [F_X3_handles_8] at hF
    cases hF
  | succ n ih =>
    intro v1 v2 hv1 hv2 H locs hR hS ls hl hF
    rw [F_X3_handles_8] at hF
    refine lv_iload_n hx hb dX3_handles_8 rfl (lv_at hl 2 rfl) ?_
    refine lv_aload_n hx hb dX3_handles_9 rfl (lv_at hl 0 rfl) ?_
    refine gf_3_3 hx hb hts hown hK hR wd141 dX3_handles_10 ?_
    refine x_alenH hx hb hK hR dX3_handles_13 ?_
    refine x_icmp_ge (tgt := 38) hx hb hv2 (by decide : rg (6 : Int)) dX3_handles_14 (by decide) (fun ci1 => ?_) (fun ci1 => ?_)
    · rw [if_pos ci1] at hF
      refine lv_iload_n hx hb dX3_handles_38 rfl (lv_at hl 1 rfl) ?_
      cases hF
      exact x_iret hx hb hlocks hK hR hS hr hv1 dX3_handles_39
    · rw [if_neg ci1] at hF
      refine lv_aload_n hx hb dX3_handles_17 rfl (lv_at hl 0 rfl) ?_
      refine gf_3_3 hx hb hts hown hK hR wd141 dX3_handles_18 ?_
      refine lv_iload_n hx hb dX3_handles_21 rfl (lv_at hl 2 rfl) ?_
      obtain ⟨hi2, hF⟩ := xk_some hF
      refine x_aldH hx hb hK hR hv2 hi2 dX3_handles_22 ?_
      have hj3 : v2.toNat < 6 := by omega
      refine gf_0_0 hx hb hts hown hK hR hj3 wd123 dX3_handles_23 ?_
      have hg4 : rg (M 11 (v2.toNat) 0) := hR.2 11 (v2.toNat) 0 (by decide)
      refine x_if_eq (tgt := 32) hx hb hg4 dX3_handles_26 (by decide) (fun ci5 => ?_) (fun ci5 => ?_)
      · rw [if_pos ci5] at hF
        obtain ⟨hq6, hF⟩ := xk_some hF
        refine x_iinc (lv' := [(2, .int (jI (v2 + (1 : Int)))), (0, .ref (adr b 0 0)), (1, .int (jI v1))]) hx hb dX3_handles_32 hl (k := 2) rfl (by decide) rfl (fun ls hl => ?_)
        refine lv_goto (tgt := 8) hx hb dX3_handles_35 (by decide) ?_
        exact ih v1 (v2 + (1 : Int)) hv1 hq6 H locs hR hS ls (lv_sub hl [1, 2, 0] rfl) hF
      · rw [if_neg ci5] at hF
        obtain ⟨hq7, hF⟩ := xk_some hF
        refine x_iinc (lv' := [(1, .int (jI (v1 + (1 : Int)))), (0, .ref (adr b 0 0)), (2, .int (jI v2))]) hx hb dX3_handles_29 hl (k := 1) rfl (by decide) rfl (fun ls hl => ?_)
        obtain ⟨hq8, hF⟩ := xk_some hF
        refine x_iinc (lv' := [(2, .int (jI (v2 + (1 : Int)))), (1, .int (jI (v1 + (1 : Int)))), (0, .ref (adr b 0 0))]) hx hb dX3_handles_32 hl (k := 2) rfl (by decide) rfl (fun ls hl => ?_)
        refine lv_goto (tgt := 8) hx hb dX3_handles_35 (by decide) ?_
        exact ih (v1 + (1 : Int)) (v2 + (1 : Int)) hq7 hq8 H locs hR hS ls (lv_sub hl [2, 1, 0] rfl) hF
def F_X3_handles (M : Mm) : Option (Int) := (xb1 (F_X3_needPower M ) fun _ => (F_X3_handles_8 M  FU (0 : Int) (0 : Int)))
set_option maxHeartbeats 4000000 in
set_option maxRecDepth 100000 in
theorem c_X3_handles {l : Launch} {g : Gx} {b : Nat} {M : Mm} {r : Int} (hF : F_X3_handles M  = some r) : Ct l yX3_handles cX3_handles 3 (some .int) rmX3_handles g b [.ref (adr b 0 0)] M (qI g b r M) := by
  refine ct_of (by decide +kernel) (Nat.le_of_ble_eq_true rfl) ?_
  intro p e s m args below meth c C0 hR ls hl
  obtain ⟨hx, hb, hr, hlocks, hml, hown, hts, hK⟩ := id C0
  have hS : va_S (AA b s.heap.size) s.heap s.heap [] := va_S.rf
  have hl : lv_has ls 3 [(0, .ref (adr b 0 0))] := hl
  obtain ⟨H, hH⟩ : ∃ z, z = s.heap := ⟨_, rfl⟩
  obtain ⟨locs, hlo⟩ : ∃ z : List Loc, z = [] := ⟨_, rfl⟩
  have hR : Rel g b M H := by rw [hH]; exact hR
  have hS : va_S (AA b s.heap.size) s.heap H locs := by rw [hH, hlo]; exact hS
  suffices hW : W p l e rmX3_handles s m args below meth c H locs 0 0 (MQ below (qI g b r M s.heap.size) args s 0 0 (AA b s.heap.size)) (F0 m 0 ls []) by rw [hH, hlo] at hW; exact hW
  rw [F_X3_handles] at hF
  refine lv_aload_n hx hb dX3_handles_0 rfl (lv_at hl 0 rfl) ?_
  obtain ⟨_, hc1, hF⟩ := xb1_some hF
  refine x_cVv (C := RX3) (T := TX3) (N := 9) (ci := 3) (As := []) (rest := []) hx hb hml hown hts hK hR hS (c_X3_needPower  hc1) ok0 rfl rfl wd170 wd172 ws0 wd1 wd173 hyX3_needPower ⟨rfl, rfl⟩ ⟨Nat.le_of_ble_eq_true rfl, Nat.le_of_ble_eq_true rfl⟩ hl.1 (Nat.le_of_ble_eq_true rfl) dX3_handles_1 ⟨Nat.zero_le _, Nat.zero_le _⟩ rfl (fun H locs hR hS => ?_)
  refine x_iconst hx hb dX3_handles_4 ?_
  refine lv_istore_n (lv' := [(1, .int (jI (0 : Int))), (0, .ref (adr b 0 0))]) hx hb dX3_handles_5 rfl hl (by decide) rfl (fun ls hl => ?_)
  refine x_iconst hx hb dX3_handles_6 ?_
  refine lv_istore_n (lv' := [(2, .int (jI (0 : Int))), (1, .int (jI (0 : Int))), (0, .ref (adr b 0 0))]) hx hb dX3_handles_7 rfl hl (by decide) rfl (fun ls hl => ?_)
  exact w_X3_handles_8 C0  FU (0 : Int) (0 : Int) (by decide : rg (0 : Int)) (by decide : rg (0 : Int)) H locs hR hS ls (lv_sub hl [2, 1, 0] rfl) hF
abbrev rmX3_sync : Room := { frames := 5, cells := 0, slots := 0, locals := 108 }
theorem hyX3_sync : yX3_sync.cls = RX3 ∧ yX3_sync.cls ≠ "java/lang/invoke/MethodHandle" ∧ yX3_sync.cls ≠ "java/lang/invoke/VarHandle" ∧ (parseMethodDescriptor yX3_sync.desc).map (fun d => d.parameters.length) = some 0 := by decide +kernel
def F_X3_sync (M : Mm) : Option (Int × Mm) := (xb1 (F_X3_needPower M ) fun _ => (if (M 0 0 4) = 0 then (some ((1 : Int), M)) else (xb2 (F_X3_commit M ) fun y5 M6 => (if y5 = 0 then (some ((0 : Int), M6)) else (some ((1 : Int), M6))))))
set_option maxHeartbeats 4000000 in
set_option maxRecDepth 100000 in
theorem c_X3_sync {l : Launch} {g : Gx} {b : Nat} {M : Mm} {r : Int} {M' : Mm} (hF : F_X3_sync M  = some (r, M')) : Ct l yX3_sync cX3_sync 1 (some .boolean) rmX3_sync g b [.ref (adr b 0 0)] M (qI g b r M') := by
  refine ct_of (by decide +kernel) (Nat.le_of_ble_eq_true rfl) ?_
  intro p e s m args below meth c C0 hR ls hl
  obtain ⟨hx, hb, hr, hlocks, hml, hown, hts, hK⟩ := id C0
  have hS : va_S (AA b s.heap.size) s.heap s.heap [] := va_S.rf
  have hl : lv_has ls 1 [(0, .ref (adr b 0 0))] := hl
  obtain ⟨H, hH⟩ : ∃ z, z = s.heap := ⟨_, rfl⟩
  obtain ⟨locs, hlo⟩ : ∃ z : List Loc, z = [] := ⟨_, rfl⟩
  have hR : Rel g b M H := by rw [hH]; exact hR
  have hS : va_S (AA b s.heap.size) s.heap H locs := by rw [hH, hlo]; exact hS
  suffices hW : W p l e rmX3_sync s m args below meth c H locs 0 0 (MQ below (qI g b r M' s.heap.size) args s 0 0 (AA b s.heap.size)) (F0 m 0 ls []) by rw [hH, hlo] at hW; exact hW
  rw [F_X3_sync] at hF
  refine lv_aload_n hx hb dX3_sync_0 rfl (lv_at hl 0 rfl) ?_
  obtain ⟨_, hc1, hF⟩ := xb1_some hF
  refine x_cVv (C := RX3) (T := TX3) (N := 9) (ci := 3) (As := []) (rest := []) hx hb hml hown hts hK hR hS (c_X3_needPower  hc1) ok0 rfl rfl wd170 wd172 ws0 wd1 wd173 hyX3_needPower ⟨rfl, rfl⟩ ⟨Nat.le_of_ble_eq_true rfl, Nat.le_of_ble_eq_true rfl⟩ hl.1 (Nat.le_of_ble_eq_true rfl) dX3_sync_1 ⟨Nat.zero_le _, Nat.zero_le _⟩ rfl (fun H locs hR hS => ?_)
  refine lv_aload_n hx hb dX3_sync_4 rfl (lv_at hl 0 rfl) ?_
  refine gf_3_4 hx hb hts hown hK hR wd142 dX3_sync_5 ?_
  have hg2 : rg (M 0 0 4) := hR.2 0 0 4 (by decide)
  refine x_if_eq (tgt := 18) hx hb hg2 dX3_sync_8 (by decide) (fun ci3 => ?_) (fun ci3 => ?_)
  · rw [if_pos ci3] at hF
    refine x_iconst hx hb dX3_sync_18 ?_
    refine lv_goto (tgt := 23) hx hb dX3_sync_19 (by decide) ?_
    cases hF
    exact x_zret hx hb hlocks hK hR hS hr (by decide) dX3_sync_23
  · rw [if_neg ci3] at hF
    refine lv_aload_n hx hb dX3_sync_11 rfl (lv_at hl 0 rfl) ?_
    obtain ⟨y5, M6, hc4, hF⟩ := xb2_some hF
    refine x_cVi (C := RX3) (T := TX3) (N := 9) (ci := 3) (As := []) (rest := []) hx hb hml hown hts hK hR hS (c_X3_commit  hc4) ok0 rfl rfl wd246 wd248 ws2 wd1 wd249 hyX3_commit ⟨rfl, rfl⟩ ⟨Nat.le_of_ble_eq_true rfl, Nat.le_of_ble_eq_true rfl⟩ hl.1 (Nat.le_of_ble_eq_true rfl) dX3_sync_12 ⟨Nat.zero_le _, Nat.zero_le _⟩ rfl (fun hg7 H locs hR hS => ?_)
    refine x_if_eq (tgt := 22) hx hb hg7 dX3_sync_15 (by decide) (fun ci8 => ?_) (fun ci8 => ?_)
    · rw [if_pos ci8] at hF
      refine x_iconst hx hb dX3_sync_22 ?_
      cases hF
      exact x_zret hx hb hlocks hK hR hS hr (by decide) dX3_sync_23
    · rw [if_neg ci8] at hF
      refine x_iconst hx hb dX3_sync_18 ?_
      refine lv_goto (tgt := 23) hx hb dX3_sync_19 (by decide) ?_
      cases hF
      exact x_zret hx hb hlocks hK hR hS hr (by decide) dX3_sync_23
abbrev rmX3_flush : Room := { frames := 5, cells := 0, slots := 0, locals := 108 }
theorem hyX3_flush : yX3_flush.cls = RX3 ∧ yX3_flush.cls ≠ "java/lang/invoke/MethodHandle" ∧ yX3_flush.cls ≠ "java/lang/invoke/VarHandle" ∧ (parseMethodDescriptor yX3_flush.desc).map (fun d => d.parameters.length) = some 0 := by decide +kernel
def F_X3_flush_20  (M : Mm) : Option (Int × Mm) := (if (M 0 0 7) = (2 : Int) then (xl (mup M 0 0 7 (-1 : Int)) fun M3 => (xb1 (F_X3_fall M3 ) fun M5 => (some ((0 : Int), M5)))) else (some ((1 : Int), M)))
set_option maxHeartbeats 4000000 in
set_option maxRecDepth 100000 in
theorem w_X3_flush_20 {p : Program} {l : Launch} {e : Env} {s : State} {m : MethodId} {args : Array Value} {below : List Frame} {meth : Method} {c : Code} {g : Gx} {b : Nat} (C0 : XA p s m meth c args RX3 cX3_flush 1 (some .boolean) g) {r : Int} {M' : Mm} : ∀ (M : Mm)   (H : Heap) (locs : List Loc), Rel g b M H → va_S (AA b s.heap.size) s.heap H locs → ∀ ls : Array Slot, lv_has ls 1 [(0, .ref (adr b 0 0))] → F_X3_flush_20  M  = some (r, M') → W p l e rmX3_flush s m args below meth c H locs 0 0 (MQ below (qI g b r M' s.heap.size) args s 0 0 (AA b s.heap.size)) (F0 m 20 ls []) := by
  obtain ⟨hx, hb, hr, hlocks, hml, hown, hts, hK⟩ := id C0
  intro M H locs hR hS ls hl hF
  rw [F_X3_flush_20] at hF
  refine lv_aload_n hx hb dX3_flush_20 rfl (lv_at hl 0 rfl) ?_
  refine gf_3_7 hx hb hts hown hK hR wd145 dX3_flush_21 ?_
  have hg1 : rg (M 0 0 7) := hR.2 0 0 7 (by decide)
  refine x_iconst hx hb dX3_flush_24 ?_
  refine x_icmp_ne (tgt := 39) hx hb hg1 (by decide : rg (2 : Int)) dX3_flush_25 (by decide) (fun ci2 => ?_) (fun ci2 => ?_)
  · rw [if_neg ci2] at hF
    refine x_iconst hx hb dX3_flush_39 ?_
    cases hF
    exact x_zret hx hb hlocks hK hR hS hr (by decide) dX3_flush_40
  · rw [if_pos ci2] at hF
    refine lv_aload_n hx hb dX3_flush_28 rfl (lv_at hl 0 rfl) ?_
    refine x_iconst hx hb dX3_flush_29 ?_
    refine pf_3_7 hx hb hts hown hK hR hS (by decide : rg (-1 : Int)) wd145 dX3_flush_30 (fun H locs hR hS => ?_)
    obtain ⟨M3, eM, hF⟩ := xl_some hF
    rw [eM] at hR
    clear eM
    refine lv_aload_n hx hb dX3_flush_33 rfl (lv_at hl 0 rfl) ?_
    obtain ⟨M5, hc4, hF⟩ := xb1_some hF
    refine x_cVv (C := RX3) (T := TX3) (N := 9) (ci := 3) (As := []) (rest := []) hx hb hml hown hts hK hR hS (c_X3_fall  hc4) ok0 rfl rfl wd270 wd272 ws3 wd1 wd273 hyX3_fall ⟨rfl, rfl⟩ ⟨Nat.le_of_ble_eq_true rfl, Nat.le_of_ble_eq_true rfl⟩ hl.1 (Nat.le_of_ble_eq_true rfl) dX3_flush_34 ⟨Nat.zero_le _, Nat.zero_le _⟩ rfl (fun H locs hR hS => ?_)
    refine x_iconst hx hb dX3_flush_37 ?_
    cases hF
    exact x_zret hx hb hlocks hK hR hS hr (by decide) dX3_flush_38
def F_X3_flush (M : Mm) : Option (Int × Mm) := (xb1 (F_X3_needPower M ) fun _ => (if (M 0 0 4) ≤ 0 then (F_X3_flush_20  M) else (xb2 (F_X3_commit M ) fun y7 M8 => (if y7 = 0 then (some ((0 : Int), M8)) else (F_X3_flush_20  M8)))))
set_option maxHeartbeats 4000000 in
set_option maxRecDepth 100000 in
theorem c_X3_flush {l : Launch} {g : Gx} {b : Nat} {M : Mm} {r : Int} {M' : Mm} (hF : F_X3_flush M  = some (r, M')) : Ct l yX3_flush cX3_flush 1 (some .boolean) rmX3_flush g b [.ref (adr b 0 0)] M (qI g b r M') := by
  refine ct_of (by decide +kernel) (Nat.le_of_ble_eq_true rfl) ?_
  intro p e s m args below meth c C0 hR ls hl
  obtain ⟨hx, hb, hr, hlocks, hml, hown, hts, hK⟩ := id C0
  have hS : va_S (AA b s.heap.size) s.heap s.heap [] := va_S.rf
  have hl : lv_has ls 1 [(0, .ref (adr b 0 0))] := hl
  obtain ⟨H, hH⟩ : ∃ z, z = s.heap := ⟨_, rfl⟩
  obtain ⟨locs, hlo⟩ : ∃ z : List Loc, z = [] := ⟨_, rfl⟩
  have hR : Rel g b M H := by rw [hH]; exact hR
  have hS : va_S (AA b s.heap.size) s.heap H locs := by rw [hH, hlo]; exact hS
  suffices hW : W p l e rmX3_flush s m args below meth c H locs 0 0 (MQ below (qI g b r M' s.heap.size) args s 0 0 (AA b s.heap.size)) (F0 m 0 ls []) by rw [hH, hlo] at hW; exact hW
  rw [F_X3_flush] at hF
  refine lv_aload_n hx hb dX3_flush_0 rfl (lv_at hl 0 rfl) ?_
  obtain ⟨_, hc1, hF⟩ := xb1_some hF
  refine x_cVv (C := RX3) (T := TX3) (N := 9) (ci := 3) (As := []) (rest := []) hx hb hml hown hts hK hR hS (c_X3_needPower  hc1) ok0 rfl rfl wd170 wd172 ws0 wd1 wd173 hyX3_needPower ⟨rfl, rfl⟩ ⟨Nat.le_of_ble_eq_true rfl, Nat.le_of_ble_eq_true rfl⟩ hl.1 (Nat.le_of_ble_eq_true rfl) dX3_flush_1 ⟨Nat.zero_le _, Nat.zero_le _⟩ rfl (fun H locs hR hS => ?_)
  refine lv_aload_n hx hb dX3_flush_4 rfl (lv_at hl 0 rfl) ?_
  refine gf_3_4 hx hb hts hown hK hR wd142 dX3_flush_5 ?_
  have hg2 : rg (M 0 0 4) := hR.2 0 0 4 (by decide)
  refine x_if_le (tgt := 20) hx hb hg2 dX3_flush_8 (by decide) (fun ci3 => ?_) (fun ci3 => ?_)
  · rw [if_pos ci3] at hF
    exact w_X3_flush_20 C0  M H locs hR hS ls (lv_sub hl [0] rfl) hF
  · rw [if_neg ci3] at hF
    refine lv_aload_n hx hb dX3_flush_11 rfl (lv_at hl 0 rfl) ?_
    obtain ⟨y7, M8, hc6, hF⟩ := xb2_some hF
    refine x_cVi (C := RX3) (T := TX3) (N := 9) (ci := 3) (As := []) (rest := []) hx hb hml hown hts hK hR hS (c_X3_commit  hc6) ok0 rfl rfl wd246 wd248 ws2 wd1 wd249 hyX3_commit ⟨rfl, rfl⟩ ⟨Nat.le_of_ble_eq_true rfl, Nat.le_of_ble_eq_true rfl⟩ hl.1 (Nat.le_of_ble_eq_true rfl) dX3_flush_12 ⟨Nat.zero_le _, Nat.zero_le _⟩ rfl (fun hg9 H locs hR hS => ?_)
    refine x_if_ne (tgt := 20) hx hb hg9 dX3_flush_15 (by decide) (fun ci10 => ?_) (fun ci10 => ?_)
    · rw [if_neg ci10] at hF
      exact w_X3_flush_20 C0  M8 H locs hR hS ls (lv_sub hl [0] rfl) hF
    · rw [if_pos ci10] at hF
      refine x_iconst hx hb dX3_flush_18 ?_
      cases hF
      exact x_zret hx hb hlocks hK hR hS hr (by decide) dX3_flush_19
abbrev rmX3_cut : Room := { frames := 4, cells := 0, slots := 0, locals := 87 }
theorem hyX3_cut : yX3_cut.cls = RX3 ∧ yX3_cut.cls ≠ "java/lang/invoke/MethodHandle" ∧ yX3_cut.cls ≠ "java/lang/invoke/VarHandle" ∧ (parseMethodDescriptor yX3_cut.desc).map (fun d => d.parameters.length) = some 0 := by decide +kernel
def F_X3_cut (M : Mm) : Option (Mm) := (xb1 (F_X3_needPower M ) fun _ => (xb1 (F_X3_fall M ) fun M3 => (some M3)))
set_option maxHeartbeats 4000000 in
set_option maxRecDepth 100000 in
theorem c_X3_cut {l : Launch} {g : Gx} {b : Nat} {M : Mm} {M' : Mm} (hF : F_X3_cut M  = some M') : Ct l yX3_cut cX3_cut 1 none rmX3_cut g b [.ref (adr b 0 0)] M (qV g b M') := by
  refine ct_of (by decide +kernel) (Nat.le_of_ble_eq_true rfl) ?_
  intro p e s m args below meth c C0 hR ls hl
  obtain ⟨hx, hb, hr, hlocks, hml, hown, hts, hK⟩ := id C0
  have hS : va_S (AA b s.heap.size) s.heap s.heap [] := va_S.rf
  have hl : lv_has ls 1 [(0, .ref (adr b 0 0))] := hl
  obtain ⟨H, hH⟩ : ∃ z, z = s.heap := ⟨_, rfl⟩
  obtain ⟨locs, hlo⟩ : ∃ z : List Loc, z = [] := ⟨_, rfl⟩
  have hR : Rel g b M H := by rw [hH]; exact hR
  have hS : va_S (AA b s.heap.size) s.heap H locs := by rw [hH, hlo]; exact hS
  suffices hW : W p l e rmX3_cut s m args below meth c H locs 0 0 (MQ below (qV g b M' s.heap.size) args s 0 0 (AA b s.heap.size)) (F0 m 0 ls []) by rw [hH, hlo] at hW; exact hW
  rw [F_X3_cut] at hF
  refine lv_aload_n hx hb dX3_cut_0 rfl (lv_at hl 0 rfl) ?_
  obtain ⟨_, hc1, hF⟩ := xb1_some hF
  refine x_cVv (C := RX3) (T := TX3) (N := 9) (ci := 3) (As := []) (rest := []) hx hb hml hown hts hK hR hS (c_X3_needPower  hc1) ok0 rfl rfl wd170 wd172 ws0 wd1 wd173 hyX3_needPower ⟨rfl, rfl⟩ ⟨Nat.le_of_ble_eq_true rfl, Nat.le_of_ble_eq_true rfl⟩ hl.1 (Nat.le_of_ble_eq_true rfl) dX3_cut_1 ⟨Nat.zero_le _, Nat.zero_le _⟩ rfl (fun H locs hR hS => ?_)
  refine lv_aload_n hx hb dX3_cut_4 rfl (lv_at hl 0 rfl) ?_
  obtain ⟨M3, hc2, hF⟩ := xb1_some hF
  refine x_cVv (C := RX3) (T := TX3) (N := 9) (ci := 3) (As := []) (rest := []) hx hb hml hown hts hK hR hS (c_X3_fall  hc2) ok0 rfl rfl wd270 wd272 ws3 wd1 wd273 hyX3_fall ⟨rfl, rfl⟩ ⟨Nat.le_of_ble_eq_true rfl, Nat.le_of_ble_eq_true rfl⟩ hl.1 (Nat.le_of_ble_eq_true rfl) dX3_cut_5 ⟨Nat.zero_le _, Nat.zero_le _⟩ rfl (fun H locs hR hS => ?_)
  cases hF
  exact x_vret hx hb hlocks hK hR hS hr dX3_cut_8
abbrev rmX3_fail : Room := { frames := 1, cells := 0, slots := 0, locals := 23 }
theorem hyX3_fail : yX3_fail.cls = RX3 ∧ yX3_fail.cls ≠ "java/lang/invoke/MethodHandle" ∧ yX3_fail.cls ≠ "java/lang/invoke/VarHandle" ∧ (parseMethodDescriptor yX3_fail.desc).map (fun d => d.parameters.length) = some 3 := by decide +kernel
def F_X3_fail (M : Mm) (a1 : Int) (a2 : Int) (a3 : Int) : Option (Mm) := (xb1 (F_X3_needRange M a1 (0 : Int) (3 : Int)) fun _ => (xb1 (F_X3_needRange M a2 (1 : Int) (40 : Int)) fun _ => (xb1 (F_X3_needRange M a3 (0 : Int) (40 : Int)) fun _ => (xl (mup M 0 0 7 a1) fun M4 => (xl (mup M4 0 0 8 a3) fun M5 => (some M5))))))
set_option maxHeartbeats 4000000 in
set_option maxRecDepth 100000 in
theorem c_X3_fail {l : Launch} {g : Gx} {b : Nat} {M : Mm} {a1 : Int} {a2 : Int} {a3 : Int} {M' : Mm} (ha1 : rg a1) (ha2 : rg a2) (ha3 : rg a3) (hF : F_X3_fail M a1 a2 a3 = some M') : Ct l yX3_fail cX3_fail 4 none rmX3_fail g b [.ref (adr b 0 0), .int (jI a1), .int (jI a2), .int (jI a3)] M (qV g b M') := by
  refine ct_of (by decide +kernel) (Nat.le_of_ble_eq_true rfl) ?_
  intro p e s m args below meth c C0 hR ls hl
  obtain ⟨hx, hb, hr, hlocks, hml, hown, hts, hK⟩ := id C0
  have hS : va_S (AA b s.heap.size) s.heap s.heap [] := va_S.rf
  have hl : lv_has ls 4 [(0, .ref (adr b 0 0)), (1, .int (jI a1)), (2, .int (jI a2)), (3, .int (jI a3))] := hl
  obtain ⟨H, hH⟩ : ∃ z, z = s.heap := ⟨_, rfl⟩
  obtain ⟨locs, hlo⟩ : ∃ z : List Loc, z = [] := ⟨_, rfl⟩
  have hR : Rel g b M H := by rw [hH]; exact hR
  have hS : va_S (AA b s.heap.size) s.heap H locs := by rw [hH, hlo]; exact hS
  suffices hW : W p l e rmX3_fail s m args below meth c H locs 0 0 (MQ below (qV g b M' s.heap.size) args s 0 0 (AA b s.heap.size)) (F0 m 0 ls []) by rw [hH, hlo] at hW; exact hW
  rw [F_X3_fail] at hF
  refine lv_aload_n hx hb dX3_fail_0 rfl (lv_at hl 0 rfl) ?_
  refine lv_iload_n hx hb dX3_fail_1 rfl (lv_at hl 1 rfl) ?_
  refine x_iconst hx hb dX3_fail_2 ?_
  refine x_iconst hx hb dX3_fail_3 ?_
  obtain ⟨_, hc1, hF⟩ := xb1_some hF
  refine x_cVv (C := RX3) (T := TX3) (N := 9) (ci := 3) (As := [.int (jI a1), .int (jI (0 : Int)), .int (jI (3 : Int))]) (rest := []) hx hb hml hown hts hK hR hS (c_X3_needRange ha1 (by decide : rg (0 : Int)) (by decide : rg (3 : Int)) hc1) ok0 rfl rfl wd419 wd421 ws6 wd1 wd422 hyX3_needRange ⟨rfl, rfl⟩ ⟨Nat.le_of_ble_eq_true rfl, Nat.le_of_ble_eq_true rfl⟩ hl.1 (Nat.le_of_ble_eq_true rfl) dX3_fail_4 ⟨Nat.zero_le _, Nat.zero_le _⟩ rfl (fun H locs hR hS => ?_)
  refine lv_aload_n hx hb dX3_fail_7 rfl (lv_at hl 0 rfl) ?_
  refine lv_iload_n hx hb dX3_fail_8 rfl (lv_at hl 2 rfl) ?_
  refine x_iconst hx hb dX3_fail_9 ?_
  refine x_bipush hx hb (by decide +kernel) dX3_fail_10 ?_
  obtain ⟨_, hc2, hF⟩ := xb1_some hF
  refine x_cVv (C := RX3) (T := TX3) (N := 9) (ci := 3) (As := [.int (jI a2), .int (jI (1 : Int)), .int (jI (40 : Int))]) (rest := []) hx hb hml hown hts hK hR hS (c_X3_needRange ha2 (by decide : rg (1 : Int)) (by decide : rg (40 : Int)) hc2) ok0 rfl rfl wd419 wd421 ws6 wd1 wd422 hyX3_needRange ⟨rfl, rfl⟩ ⟨Nat.le_of_ble_eq_true rfl, Nat.le_of_ble_eq_true rfl⟩ hl.1 (Nat.le_of_ble_eq_true rfl) dX3_fail_12 ⟨Nat.zero_le _, Nat.zero_le _⟩ rfl (fun H locs hR hS => ?_)
  refine lv_aload_n hx hb dX3_fail_15 rfl (lv_at hl 0 rfl) ?_
  refine lv_iload_n hx hb dX3_fail_16 rfl (lv_at hl 3 rfl) ?_
  refine x_iconst hx hb dX3_fail_17 ?_
  refine x_bipush hx hb (by decide +kernel) dX3_fail_18 ?_
  obtain ⟨_, hc3, hF⟩ := xb1_some hF
  refine x_cVv (C := RX3) (T := TX3) (N := 9) (ci := 3) (As := [.int (jI a3), .int (jI (0 : Int)), .int (jI (40 : Int))]) (rest := []) hx hb hml hown hts hK hR hS (c_X3_needRange ha3 (by decide : rg (0 : Int)) (by decide : rg (40 : Int)) hc3) ok0 rfl rfl wd419 wd421 ws6 wd1 wd422 hyX3_needRange ⟨rfl, rfl⟩ ⟨Nat.le_of_ble_eq_true rfl, Nat.le_of_ble_eq_true rfl⟩ hl.1 (Nat.le_of_ble_eq_true rfl) dX3_fail_20 ⟨Nat.zero_le _, Nat.zero_le _⟩ rfl (fun H locs hR hS => ?_)
  refine lv_aload_n hx hb dX3_fail_23 rfl (lv_at hl 0 rfl) ?_
  refine lv_iload_n hx hb dX3_fail_24 rfl (lv_at hl 1 rfl) ?_
  refine pf_3_7 hx hb hts hown hK hR hS ha1 wd145 dX3_fail_25 (fun H locs hR hS => ?_)
  obtain ⟨M4, eM, hF⟩ := xl_some hF
  rw [eM] at hR
  clear eM
  refine lv_aload_n hx hb dX3_fail_28 rfl (lv_at hl 0 rfl) ?_
  refine lv_iload_n hx hb dX3_fail_29 rfl (lv_at hl 3 rfl) ?_
  refine pf_3_8 hx hb hts hown hK hR hS ha3 wd146 dX3_fail_30 (fun H locs hR hS => ?_)
  obtain ⟨M5, eM, hF⟩ := xl_some hF
  rw [eM] at hR
  clear eM
  cases hF
  exact x_vret hx hb hlocks hK hR hS hr dX3_fail_33
abbrev rmX3_mount : Room := { frames := 4, cells := 0, slots := 0, locals := 91 }
theorem hyX3_mount : yX3_mount.cls = RX3 ∧ yX3_mount.cls ≠ "java/lang/invoke/MethodHandle" ∧ yX3_mount.cls ≠ "java/lang/invoke/VarHandle" ∧ (parseMethodDescriptor yX3_mount.desc).map (fun d => d.parameters.length) = some 0 := by decide +kernel
def F_X3_mount (M : Mm) : Option (Int × Mm) := (if (M 0 0 5) = 0 then none else (if (M 0 0 7) = (3 : Int) then (xl (mup M 0 0 7 (-1 : Int)) fun M17 => (some ((-9 : Int), M17))) else (xb2 (F_X2_dropForsaken M 2) fun y6 M7 => (xk (M7 0 0 0 = 0 ∨ M7 0 0 0 = 1) (xb1 (F_X2_copyFrom M7 ((M7 0 0 0).toNat) 2) fun M12 => (xl (mup M12 0 0 5 (0 : Int)) fun M13 => (xk (rg ((M13 0 0 6) + (1 : Int))) (xl (mup M13 0 0 6 ((M13 0 0 6) + (1 : Int))) fun M16 => (some (y6, M16))))))))))
set_option maxHeartbeats 4000000 in
set_option maxRecDepth 100000 in
theorem c_X3_mount {l : Launch} {g : Gx} {b : Nat} {M : Mm} {r : Int} {M' : Mm} (hF : F_X3_mount M  = some (r, M')) : Ct l yX3_mount cX3_mount 2 (some .int) rmX3_mount g b [.ref (adr b 0 0)] M (qI g b r M') := by
  refine ct_of (by decide +kernel) (Nat.le_of_ble_eq_true rfl) ?_
  intro p e s m args below meth c C0 hR ls hl
  obtain ⟨hx, hb, hr, hlocks, hml, hown, hts, hK⟩ := id C0
  have hS : va_S (AA b s.heap.size) s.heap s.heap [] := va_S.rf
  have hl : lv_has ls 2 [(0, .ref (adr b 0 0))] := hl
  obtain ⟨H, hH⟩ : ∃ z, z = s.heap := ⟨_, rfl⟩
  obtain ⟨locs, hlo⟩ : ∃ z : List Loc, z = [] := ⟨_, rfl⟩
  have hR : Rel g b M H := by rw [hH]; exact hR
  have hS : va_S (AA b s.heap.size) s.heap H locs := by rw [hH, hlo]; exact hS
  suffices hW : W p l e rmX3_mount s m args below meth c H locs 0 0 (MQ below (qI g b r M' s.heap.size) args s 0 0 (AA b s.heap.size)) (F0 m 0 ls []) by rw [hH, hlo] at hW; exact hW
  rw [F_X3_mount] at hF
  refine lv_aload_n hx hb dX3_mount_0 rfl (lv_at hl 0 rfl) ?_
  refine gf_3_5 hx hb hts hown hK hR wd143 dX3_mount_1 ?_
  have hg1 : rg (M 0 0 5) := hR.2 0 0 5 (by decide)
  refine x_if_ne (tgt := 17) hx hb hg1 dX3_mount_4 (by decide) (fun ci2 => ?_) (fun ci2 => ?_)
  · rw [if_neg ci2] at hF
    refine lv_aload_n hx hb dX3_mount_17 rfl (lv_at hl 0 rfl) ?_
    refine gf_3_7 hx hb hts hown hK hR wd145 dX3_mount_18 ?_
    have hg3 : rg (M 0 0 7) := hR.2 0 0 7 (by decide)
    refine x_iconst hx hb dX3_mount_21 ?_
    refine x_icmp_ne (tgt := 33) hx hb hg3 (by decide : rg (3 : Int)) dX3_mount_22 (by decide) (fun ci4 => ?_) (fun ci4 => ?_)
    · rw [if_neg ci4] at hF
      refine lv_aload_n hx hb dX3_mount_33 rfl (lv_at hl 0 rfl) ?_
      refine gf_3_2 hx hb hts hown hK hR wd140 dX3_mount_34 ?_
      obtain ⟨y6, M7, hc5, hF⟩ := xb2_some hF
      refine x_cVi (C := RX2) (T := TX2) (N := 8) (ci := 2) (As := []) (rest := []) hx hb hml hown hts hK hR hS (c_X2_dropForsaken (by decide) hc5) (ok1 (by decide)) rfl rfl wd294 wd295 wd296 wd2 wd297 hyX2_dropForsaken ⟨rfl, rfl⟩ ⟨Nat.le_of_ble_eq_true rfl, Nat.le_of_ble_eq_true rfl⟩ hl.1 (Nat.le_of_ble_eq_true rfl) dX3_mount_37 ⟨Nat.zero_le _, Nat.zero_le _⟩ rfl (fun hg8 H locs hR hS => ?_)
      refine lv_istore_n (lv' := [(1, .int (jI y6)), (0, .ref (adr b 0 0))]) hx hb dX3_mount_40 rfl hl (by decide) rfl (fun ls hl => ?_)
      refine lv_aload_n hx hb dX3_mount_41 rfl (lv_at hl 1 rfl) ?_
      refine gf_3_0 hx hb hts hown hK hR wd138 dX3_mount_42 ?_
      obtain ⟨ht9, hF⟩ := xk_some hF
      have hj10 : (M7 0 0 0).toNat < 3 := by omega
      refine lv_aload_n hx hb dX3_mount_45 rfl (lv_at hl 1 rfl) ?_
      refine gf_3_2 hx hb hts hown hK hR wd140 dX3_mount_46 ?_
      obtain ⟨M12, hc11, hF⟩ := xb1_some hF
      refine x_cVv (C := RX2) (T := TX2) (N := 8) (ci := 2) (As := [.ref (adr b 1 2)]) (rest := []) hx hb hml hown hts hK hR hS (c_X2_copyFrom hj10 (by decide) hc11) (ok1 hj10) rfl rfl wd250 wd251 wd252 wd2 wd253 hyX2_copyFrom ⟨rfl, rfl⟩ ⟨Nat.le_of_ble_eq_true rfl, Nat.le_of_ble_eq_true rfl⟩ hl.1 (Nat.le_of_ble_eq_true rfl) dX3_mount_49 ⟨Nat.zero_le _, Nat.zero_le _⟩ rfl (fun H locs hR hS => ?_)
      refine lv_aload_n hx hb dX3_mount_52 rfl (lv_at hl 1 rfl) ?_
      refine x_iconst hx hb dX3_mount_53 ?_
      refine pf_3_5 hx hb hts hown hK hR hS (by decide : rg (0 : Int)) (by decide) wd143 dX3_mount_54 (fun H locs hR hS => ?_)
      obtain ⟨M13, eM, hF⟩ := xl_some hF
      rw [eM] at hR
      clear eM
      refine lv_aload_n hx hb dX3_mount_57 rfl (lv_at hl 1 rfl) ?_
      refine lv_dup hx hb dX3_mount_58 rfl ?_
      refine gf_3_6 hx hb hts hown hK hR wd144 dX3_mount_59 ?_
      have hg14 : rg (M13 0 0 6) := hR.2 0 0 6 (by decide)
      refine x_iconst hx hb dX3_mount_62 ?_
      obtain ⟨hq15, hF⟩ := xk_some hF
      refine x_iadd hx hb dX3_mount_63 ?_
      refine pf_3_6 hx hb hts hown hK hR hS hq15 wd144 dX3_mount_64 (fun H locs hR hS => ?_)
      obtain ⟨M16, eM, hF⟩ := xl_some hF
      rw [eM] at hR
      clear eM
      refine lv_iload_n hx hb dX3_mount_67 rfl (lv_at hl 0 rfl) ?_
      cases hF
      exact x_iret hx hb hlocks hK hR hS hr hg8 dX3_mount_68
    · rw [if_pos ci4] at hF
      refine lv_aload_n hx hb dX3_mount_25 rfl (lv_at hl 0 rfl) ?_
      refine x_iconst hx hb dX3_mount_26 ?_
      refine pf_3_7 hx hb hts hown hK hR hS (by decide : rg (-1 : Int)) wd145 dX3_mount_27 (fun H locs hR hS => ?_)
      obtain ⟨M17, eM, hF⟩ := xl_some hF
      rw [eM] at hR
      clear eM
      refine x_bipush hx hb (by decide +kernel) dX3_mount_30 ?_
      cases hF
      exact x_iret hx hb hlocks hK hR hS hr (by decide : rg (-9 : Int)) dX3_mount_32
  · rw [if_pos ci2] at hF
    cases hF
abbrev rmX3_isDown : Room := { frames := 0, cells := 0, slots := 0, locals := 0 }
theorem hyX3_isDown : yX3_isDown.cls = RX3 ∧ yX3_isDown.cls ≠ "java/lang/invoke/MethodHandle" ∧ yX3_isDown.cls ≠ "java/lang/invoke/VarHandle" ∧ (parseMethodDescriptor yX3_isDown.desc).map (fun d => d.parameters.length) = some 0 := by decide +kernel
def F_X3_isDown (M : Mm) : Option (Int) := (xk ((M 0 0 5) = 0 ∨ (M 0 0 5) = 1) (some (M 0 0 5)))
set_option maxHeartbeats 4000000 in
set_option maxRecDepth 100000 in
theorem c_X3_isDown {l : Launch} {g : Gx} {b : Nat} {M : Mm} {r : Int} (hF : F_X3_isDown M  = some r) : Ct l yX3_isDown cX3_isDown 1 (some .boolean) rmX3_isDown g b [.ref (adr b 0 0)] M (qI g b r M) := by
  refine ct_of (by decide +kernel) (Nat.le_of_ble_eq_true rfl) ?_
  intro p e s m args below meth c C0 hR ls hl
  obtain ⟨hx, hb, hr, hlocks, hml, hown, hts, hK⟩ := id C0
  have hS : va_S (AA b s.heap.size) s.heap s.heap [] := va_S.rf
  have hl : lv_has ls 1 [(0, .ref (adr b 0 0))] := hl
  obtain ⟨H, hH⟩ : ∃ z, z = s.heap := ⟨_, rfl⟩
  obtain ⟨locs, hlo⟩ : ∃ z : List Loc, z = [] := ⟨_, rfl⟩
  have hR : Rel g b M H := by rw [hH]; exact hR
  have hS : va_S (AA b s.heap.size) s.heap H locs := by rw [hH, hlo]; exact hS
  suffices hW : W p l e rmX3_isDown s m args below meth c H locs 0 0 (MQ below (qI g b r M s.heap.size) args s 0 0 (AA b s.heap.size)) (F0 m 0 ls []) by rw [hH, hlo] at hW; exact hW
  rw [F_X3_isDown] at hF
  refine lv_aload_n hx hb dX3_isDown_0 rfl (lv_at hl 0 rfl) ?_
  refine gf_3_5 hx hb hts hown hK hR wd143 dX3_isDown_1 ?_
  have hg1 : rg (M 0 0 5) := hR.2 0 0 5 (by decide)
  obtain ⟨hz2, hF⟩ := xk_some hF
  cases hF
  exact x_zret hx hb hlocks hK hR hS hr hz2 dX3_isDown_4
abbrev rmX3_mounts : Room := { frames := 0, cells := 0, slots := 0, locals := 0 }
theorem hyX3_mounts : yX3_mounts.cls = RX3 ∧ yX3_mounts.cls ≠ "java/lang/invoke/MethodHandle" ∧ yX3_mounts.cls ≠ "java/lang/invoke/VarHandle" ∧ (parseMethodDescriptor yX3_mounts.desc).map (fun d => d.parameters.length) = some 0 := by decide +kernel
def F_X3_mounts (M : Mm) : Option (Int) := (some (M 0 0 6))
set_option maxHeartbeats 4000000 in
set_option maxRecDepth 100000 in
theorem c_X3_mounts {l : Launch} {g : Gx} {b : Nat} {M : Mm} {r : Int} (hF : F_X3_mounts M  = some r) : Ct l yX3_mounts cX3_mounts 1 (some .int) rmX3_mounts g b [.ref (adr b 0 0)] M (qI g b r M) := by
  refine ct_of (by decide +kernel) (Nat.le_of_ble_eq_true rfl) ?_
  intro p e s m args below meth c C0 hR ls hl
  obtain ⟨hx, hb, hr, hlocks, hml, hown, hts, hK⟩ := id C0
  have hS : va_S (AA b s.heap.size) s.heap s.heap [] := va_S.rf
  have hl : lv_has ls 1 [(0, .ref (adr b 0 0))] := hl
  obtain ⟨H, hH⟩ : ∃ z, z = s.heap := ⟨_, rfl⟩
  obtain ⟨locs, hlo⟩ : ∃ z : List Loc, z = [] := ⟨_, rfl⟩
  have hR : Rel g b M H := by rw [hH]; exact hR
  have hS : va_S (AA b s.heap.size) s.heap H locs := by rw [hH, hlo]; exact hS
  suffices hW : W p l e rmX3_mounts s m args below meth c H locs 0 0 (MQ below (qI g b r M s.heap.size) args s 0 0 (AA b s.heap.size)) (F0 m 0 ls []) by rw [hH, hlo] at hW; exact hW
  rw [F_X3_mounts] at hF
  refine lv_aload_n hx hb dX3_mounts_0 rfl (lv_at hl 0 rfl) ?_
  refine gf_3_6 hx hb hts hown hK hR wd144 dX3_mounts_1 ?_
  have hg1 : rg (M 0 0 6) := hR.2 0 0 6 (by decide)
  cases hF
  exact x_iret hx hb hlocks hK hR hS hr hg1 dX3_mounts_4
abbrev rmX3_waiting : Room := { frames := 1, cells := 0, slots := 0, locals := 20 }
theorem hyX3_waiting : yX3_waiting.cls = RX3 ∧ yX3_waiting.cls ≠ "java/lang/invoke/MethodHandle" ∧ yX3_waiting.cls ≠ "java/lang/invoke/VarHandle" ∧ (parseMethodDescriptor yX3_waiting.desc).map (fun d => d.parameters.length) = some 0 := by decide +kernel
def F_X3_waiting (M : Mm) : Option (Int) := (xb1 (F_X3_needPower M ) fun _ => (some (M 0 0 4)))
set_option maxHeartbeats 4000000 in
set_option maxRecDepth 100000 in
theorem c_X3_waiting {l : Launch} {g : Gx} {b : Nat} {M : Mm} {r : Int} (hF : F_X3_waiting M  = some r) : Ct l yX3_waiting cX3_waiting 1 (some .int) rmX3_waiting g b [.ref (adr b 0 0)] M (qI g b r M) := by
  refine ct_of (by decide +kernel) (Nat.le_of_ble_eq_true rfl) ?_
  intro p e s m args below meth c C0 hR ls hl
  obtain ⟨hx, hb, hr, hlocks, hml, hown, hts, hK⟩ := id C0
  have hS : va_S (AA b s.heap.size) s.heap s.heap [] := va_S.rf
  have hl : lv_has ls 1 [(0, .ref (adr b 0 0))] := hl
  obtain ⟨H, hH⟩ : ∃ z, z = s.heap := ⟨_, rfl⟩
  obtain ⟨locs, hlo⟩ : ∃ z : List Loc, z = [] := ⟨_, rfl⟩
  have hR : Rel g b M H := by rw [hH]; exact hR
  have hS : va_S (AA b s.heap.size) s.heap H locs := by rw [hH, hlo]; exact hS
  suffices hW : W p l e rmX3_waiting s m args below meth c H locs 0 0 (MQ below (qI g b r M s.heap.size) args s 0 0 (AA b s.heap.size)) (F0 m 0 ls []) by rw [hH, hlo] at hW; exact hW
  rw [F_X3_waiting] at hF
  refine lv_aload_n hx hb dX3_waiting_0 rfl (lv_at hl 0 rfl) ?_
  obtain ⟨_, hc1, hF⟩ := xb1_some hF
  refine x_cVv (C := RX3) (T := TX3) (N := 9) (ci := 3) (As := []) (rest := []) hx hb hml hown hts hK hR hS (c_X3_needPower  hc1) ok0 rfl rfl wd170 wd172 ws0 wd1 wd173 hyX3_needPower ⟨rfl, rfl⟩ ⟨Nat.le_of_ble_eq_true rfl, Nat.le_of_ble_eq_true rfl⟩ hl.1 (Nat.le_of_ble_eq_true rfl) dX3_waiting_1 ⟨Nat.zero_le _, Nat.zero_le _⟩ rfl (fun H locs hR hS => ?_)
  refine lv_aload_n hx hb dX3_waiting_4 rfl (lv_at hl 0 rfl) ?_
  refine gf_3_4 hx hb hts hown hK hR wd142 dX3_waiting_5 ?_
  have hg2 : rg (M 0 0 4) := hR.2 0 0 4 (by decide)
  cases hF
  exact x_iret hx hb hlocks hK hR hS hr hg2 dX3_waiting_8
abbrev rmX3_changes : Room := { frames := 1, cells := 0, slots := 0, locals := 20 }
theorem hyX3_changes : yX3_changes.cls = RX3 ∧ yX3_changes.cls ≠ "java/lang/invoke/MethodHandle" ∧ yX3_changes.cls ≠ "java/lang/invoke/VarHandle" ∧ (parseMethodDescriptor yX3_changes.desc).map (fun d => d.parameters.length) = some 0 := by decide +kernel
def F_X3_changes (M : Mm) : Option (Int) := (xb1 (F_X3_needPower M ) fun _ => (xk (M 0 0 0 = 0 ∨ M 0 0 0 = 1) (some (M 1 ((M 0 0 0).toNat) 5))))
set_option maxHeartbeats 4000000 in
set_option maxRecDepth 100000 in
theorem c_X3_changes {l : Launch} {g : Gx} {b : Nat} {M : Mm} {r : Int} (hF : F_X3_changes M  = some r) : Ct l yX3_changes cX3_changes 1 (some .int) rmX3_changes g b [.ref (adr b 0 0)] M (qI g b r M) := by
  refine ct_of (by decide +kernel) (Nat.le_of_ble_eq_true rfl) ?_
  intro p e s m args below meth c C0 hR ls hl
  obtain ⟨hx, hb, hr, hlocks, hml, hown, hts, hK⟩ := id C0
  have hS : va_S (AA b s.heap.size) s.heap s.heap [] := va_S.rf
  have hl : lv_has ls 1 [(0, .ref (adr b 0 0))] := hl
  obtain ⟨H, hH⟩ : ∃ z, z = s.heap := ⟨_, rfl⟩
  obtain ⟨locs, hlo⟩ : ∃ z : List Loc, z = [] := ⟨_, rfl⟩
  have hR : Rel g b M H := by rw [hH]; exact hR
  have hS : va_S (AA b s.heap.size) s.heap H locs := by rw [hH, hlo]; exact hS
  suffices hW : W p l e rmX3_changes s m args below meth c H locs 0 0 (MQ below (qI g b r M s.heap.size) args s 0 0 (AA b s.heap.size)) (F0 m 0 ls []) by rw [hH, hlo] at hW; exact hW
  rw [F_X3_changes] at hF
  refine lv_aload_n hx hb dX3_changes_0 rfl (lv_at hl 0 rfl) ?_
  obtain ⟨_, hc1, hF⟩ := xb1_some hF
  refine x_cVv (C := RX3) (T := TX3) (N := 9) (ci := 3) (As := []) (rest := []) hx hb hml hown hts hK hR hS (c_X3_needPower  hc1) ok0 rfl rfl wd170 wd172 ws0 wd1 wd173 hyX3_needPower ⟨rfl, rfl⟩ ⟨Nat.le_of_ble_eq_true rfl, Nat.le_of_ble_eq_true rfl⟩ hl.1 (Nat.le_of_ble_eq_true rfl) dX3_changes_1 ⟨Nat.zero_le _, Nat.zero_le _⟩ rfl (fun H locs hR hS => ?_)
  refine lv_aload_n hx hb dX3_changes_4 rfl (lv_at hl 0 rfl) ?_
  refine gf_3_0 hx hb hts hown hK hR wd138 dX3_changes_5 ?_
  obtain ⟨ht2, hF⟩ := xk_some hF
  have hj3 : (M 0 0 0).toNat < 3 := by omega
  refine gf_2_5 hx hb hts hown hK hR hj3 wd94 dX3_changes_8 ?_
  have hg4 : rg (M 1 ((M 0 0 0).toNat) 5) := hR.2 1 ((M 0 0 0).toNat) 5 (by decide)
  cases hF
  exact x_iret hx hb hlocks hK hR hS hr hg4 dX3_changes_11
abbrev rmX3_nodes : Room := { frames := 1, cells := 0, slots := 0, locals := 22 }
theorem hyX3_nodes : yX3_nodes.cls = RX3 ∧ yX3_nodes.cls ≠ "java/lang/invoke/MethodHandle" ∧ yX3_nodes.cls ≠ "java/lang/invoke/VarHandle" ∧ (parseMethodDescriptor yX3_nodes.desc).map (fun d => d.parameters.length) = some 0 := by decide +kernel
def F_X3_nodes (M : Mm) : Option (Int) := (xb1 (F_X3_needPower M ) fun _ => (xk (M 0 0 0 = 0 ∨ M 0 0 0 = 1) (xb1 (F_X2_count M ((M 0 0 0).toNat)) fun y5 => (some y5))))
set_option maxHeartbeats 4000000 in
set_option maxRecDepth 100000 in
theorem c_X3_nodes {l : Launch} {g : Gx} {b : Nat} {M : Mm} {r : Int} (hF : F_X3_nodes M  = some r) : Ct l yX3_nodes cX3_nodes 1 (some .int) rmX3_nodes g b [.ref (adr b 0 0)] M (qI g b r M) := by
  refine ct_of (by decide +kernel) (Nat.le_of_ble_eq_true rfl) ?_
  intro p e s m args below meth c C0 hR ls hl
  obtain ⟨hx, hb, hr, hlocks, hml, hown, hts, hK⟩ := id C0
  have hS : va_S (AA b s.heap.size) s.heap s.heap [] := va_S.rf
  have hl : lv_has ls 1 [(0, .ref (adr b 0 0))] := hl
  obtain ⟨H, hH⟩ : ∃ z, z = s.heap := ⟨_, rfl⟩
  obtain ⟨locs, hlo⟩ : ∃ z : List Loc, z = [] := ⟨_, rfl⟩
  have hR : Rel g b M H := by rw [hH]; exact hR
  have hS : va_S (AA b s.heap.size) s.heap H locs := by rw [hH, hlo]; exact hS
  suffices hW : W p l e rmX3_nodes s m args below meth c H locs 0 0 (MQ below (qI g b r M s.heap.size) args s 0 0 (AA b s.heap.size)) (F0 m 0 ls []) by rw [hH, hlo] at hW; exact hW
  rw [F_X3_nodes] at hF
  refine lv_aload_n hx hb dX3_nodes_0 rfl (lv_at hl 0 rfl) ?_
  obtain ⟨_, hc1, hF⟩ := xb1_some hF
  refine x_cVv (C := RX3) (T := TX3) (N := 9) (ci := 3) (As := []) (rest := []) hx hb hml hown hts hK hR hS (c_X3_needPower  hc1) ok0 rfl rfl wd170 wd172 ws0 wd1 wd173 hyX3_needPower ⟨rfl, rfl⟩ ⟨Nat.le_of_ble_eq_true rfl, Nat.le_of_ble_eq_true rfl⟩ hl.1 (Nat.le_of_ble_eq_true rfl) dX3_nodes_1 ⟨Nat.zero_le _, Nat.zero_le _⟩ rfl (fun H locs hR hS => ?_)
  refine lv_aload_n hx hb dX3_nodes_4 rfl (lv_at hl 0 rfl) ?_
  refine gf_3_0 hx hb hts hown hK hR wd138 dX3_nodes_5 ?_
  obtain ⟨ht2, hF⟩ := xk_some hF
  have hj3 : (M 0 0 0).toNat < 3 := by omega
  obtain ⟨y5, hc4, hF⟩ := xb1_some hF
  refine x_cVi (C := RX2) (T := TX2) (N := 8) (ci := 2) (As := []) (rest := []) hx hb hml hown hts hK hR hS (c_X2_count hj3 hc4) (ok1 hj3) rfl rfl wd389 wd390 wd391 wd2 wd392 hyX2_count ⟨rfl, rfl⟩ ⟨Nat.le_of_ble_eq_true rfl, Nat.le_of_ble_eq_true rfl⟩ hl.1 (Nat.le_of_ble_eq_true rfl) dX3_nodes_8 ⟨Nat.zero_le _, Nat.zero_le _⟩ rfl (fun hg6 H locs hR hS => ?_)
  cases hF
  exact x_iret hx hb hlocks hK hR hS hr hg6 dX3_nodes_11
abbrev rmX3_typeOf : Room := { frames := 1, cells := 0, slots := 0, locals := 21 }
theorem hyX3_typeOf : yX3_typeOf.cls = RX3 ∧ yX3_typeOf.cls ≠ "java/lang/invoke/MethodHandle" ∧ yX3_typeOf.cls ≠ "java/lang/invoke/VarHandle" ∧ (parseMethodDescriptor yX3_typeOf.desc).map (fun d => d.parameters.length) = some 1 := by decide +kernel
def F_X3_typeOf (M : Mm) (a1 : Int) : Option (Int) := (xb1 (F_X3_needPower M ) fun _ => (xk (M 0 0 0 = 0 ∨ M 0 0 0 = 1) (xb1 (F_X2_at M ((M 0 0 0).toNat) a1) fun y5 => (some (M 2 y5 0)))))
set_option maxHeartbeats 4000000 in
set_option maxRecDepth 100000 in
theorem c_X3_typeOf {l : Launch} {g : Gx} {b : Nat} {M : Mm} {a1 : Int} {r : Int} (ha1 : rg a1) (hF : F_X3_typeOf M a1 = some r) : Ct l yX3_typeOf cX3_typeOf 2 (some .int) rmX3_typeOf g b [.ref (adr b 0 0), .int (jI a1)] M (qI g b r M) := by
  refine ct_of (by decide +kernel) (Nat.le_of_ble_eq_true rfl) ?_
  intro p e s m args below meth c C0 hR ls hl
  obtain ⟨hx, hb, hr, hlocks, hml, hown, hts, hK⟩ := id C0
  have hS : va_S (AA b s.heap.size) s.heap s.heap [] := va_S.rf
  have hl : lv_has ls 2 [(0, .ref (adr b 0 0)), (1, .int (jI a1))] := hl
  obtain ⟨H, hH⟩ : ∃ z, z = s.heap := ⟨_, rfl⟩
  obtain ⟨locs, hlo⟩ : ∃ z : List Loc, z = [] := ⟨_, rfl⟩
  have hR : Rel g b M H := by rw [hH]; exact hR
  have hS : va_S (AA b s.heap.size) s.heap H locs := by rw [hH, hlo]; exact hS
  suffices hW : W p l e rmX3_typeOf s m args below meth c H locs 0 0 (MQ below (qI g b r M s.heap.size) args s 0 0 (AA b s.heap.size)) (F0 m 0 ls []) by rw [hH, hlo] at hW; exact hW
  rw [F_X3_typeOf] at hF
  refine lv_aload_n hx hb dX3_typeOf_0 rfl (lv_at hl 0 rfl) ?_
  obtain ⟨_, hc1, hF⟩ := xb1_some hF
  refine x_cVv (C := RX3) (T := TX3) (N := 9) (ci := 3) (As := []) (rest := []) hx hb hml hown hts hK hR hS (c_X3_needPower  hc1) ok0 rfl rfl wd170 wd172 ws0 wd1 wd173 hyX3_needPower ⟨rfl, rfl⟩ ⟨Nat.le_of_ble_eq_true rfl, Nat.le_of_ble_eq_true rfl⟩ hl.1 (Nat.le_of_ble_eq_true rfl) dX3_typeOf_1 ⟨Nat.zero_le _, Nat.zero_le _⟩ rfl (fun H locs hR hS => ?_)
  refine lv_aload_n hx hb dX3_typeOf_4 rfl (lv_at hl 0 rfl) ?_
  refine gf_3_0 hx hb hts hown hK hR wd138 dX3_typeOf_5 ?_
  obtain ⟨ht2, hF⟩ := xk_some hF
  have hj3 : (M 0 0 0).toNat < 3 := by omega
  refine lv_iload_n hx hb dX3_typeOf_8 rfl (lv_at hl 1 rfl) ?_
  obtain ⟨y5, hc4, hF⟩ := xb1_some hF
  refine x_cVr (C := RX2) (T := TX2) (N := 8) (ci := 2) (As := [.int (jI a1)]) (rest := []) hx hb hml hown hts hK hR hS (c_X2_at hj3 ha1 hc4) (ok1 hj3) rfl rfl wd337 wd255 wd256 wd2 wd257 hyX2_at ⟨rfl, rfl⟩ ⟨Nat.le_of_ble_eq_true rfl, Nat.le_of_ble_eq_true rfl⟩ hl.1 (Nat.le_of_ble_eq_true rfl) dX3_typeOf_9 ⟨Nat.zero_le _, Nat.zero_le _⟩ rfl (fun hg6 H locs hR hS => ?_)
  have hj7 : y5 < 99 := lt2 hg6
  refine gf_1_0 hx hb hts hown hK hR hj7 wd36 dX3_typeOf_12 ?_
  have hg8 : rg (M 2 y5 0) := hR.2 2 y5 0 (by decide)
  cases hF
  exact x_iret hx hb hlocks hK hR hS hr hg8 dX3_typeOf_15
abbrev rmX3_needLive : Room := { frames := 2, cells := 0, slots := 0, locals := 42 }
theorem hyX3_needLive : yX3_needLive.cls = RX3 ∧ yX3_needLive.cls ≠ "java/lang/invoke/MethodHandle" ∧ yX3_needLive.cls ≠ "java/lang/invoke/VarHandle" ∧ (parseMethodDescriptor yX3_needLive.desc).map (fun d => d.parameters.length) = some 1 := by decide +kernel
def F_X3_needLive (M : Mm) (a1 : Int) : Option (Nat) := (xb1 (F_X3_needPower M ) fun _ => (xb1 (F_X3_needNode M a1) fun _ => (xk (M 0 0 0 = 0 ∨ M 0 0 0 = 1) (xb1 (F_X2_at M ((M 0 0 0).toNat) a1) fun y6 => (some y6)))))
set_option maxHeartbeats 4000000 in
set_option maxRecDepth 100000 in
theorem c_X3_needLive {l : Launch} {g : Gx} {b : Nat} {M : Mm} {a1 : Int} {r : Nat} (ha1 : rg a1) (hF : F_X3_needLive M a1 = some r) : Ct l yX3_needLive cX3_needLive 2 (some (.object "JournalDisk$Node")) rmX3_needLive g b [.ref (adr b 0 0), .int (jI a1)] M (qR g b 2 r M) := by
  refine ct_of (by decide +kernel) (Nat.le_of_ble_eq_true rfl) ?_
  intro p e s m args below meth c C0 hR ls hl
  obtain ⟨hx, hb, hr, hlocks, hml, hown, hts, hK⟩ := id C0
  have hS : va_S (AA b s.heap.size) s.heap s.heap [] := va_S.rf
  have hl : lv_has ls 2 [(0, .ref (adr b 0 0)), (1, .int (jI a1))] := hl
  obtain ⟨H, hH⟩ : ∃ z, z = s.heap := ⟨_, rfl⟩
  obtain ⟨locs, hlo⟩ : ∃ z : List Loc, z = [] := ⟨_, rfl⟩
  have hR : Rel g b M H := by rw [hH]; exact hR
  have hS : va_S (AA b s.heap.size) s.heap H locs := by rw [hH, hlo]; exact hS
  suffices hW : W p l e rmX3_needLive s m args below meth c H locs 0 0 (MQ below (qR g b 2 r M s.heap.size) args s 0 0 (AA b s.heap.size)) (F0 m 0 ls []) by rw [hH, hlo] at hW; exact hW
  rw [F_X3_needLive] at hF
  refine lv_aload_n hx hb dX3_needLive_0 rfl (lv_at hl 0 rfl) ?_
  obtain ⟨_, hc1, hF⟩ := xb1_some hF
  refine x_cVv (C := RX3) (T := TX3) (N := 9) (ci := 3) (As := []) (rest := []) hx hb hml hown hts hK hR hS (c_X3_needPower  hc1) ok0 rfl rfl wd170 wd172 ws0 wd1 wd173 hyX3_needPower ⟨rfl, rfl⟩ ⟨Nat.le_of_ble_eq_true rfl, Nat.le_of_ble_eq_true rfl⟩ hl.1 (Nat.le_of_ble_eq_true rfl) dX3_needLive_1 ⟨Nat.zero_le _, Nat.zero_le _⟩ rfl (fun H locs hR hS => ?_)
  refine lv_aload_n hx hb dX3_needLive_4 rfl (lv_at hl 0 rfl) ?_
  refine lv_iload_n hx hb dX3_needLive_5 rfl (lv_at hl 1 rfl) ?_
  obtain ⟨_, hc2, hF⟩ := xb1_some hF
  refine x_cVv (C := RX3) (T := TX3) (N := 9) (ci := 3) (As := [.int (jI a1)]) (rest := []) hx hb hml hown hts hK hR hS (c_X3_needNode ha1 hc2) ok0 rfl rfl wd346 wd348 ws5 wd1 wd349 hyX3_needNode ⟨rfl, rfl⟩ ⟨Nat.le_of_ble_eq_true rfl, Nat.le_of_ble_eq_true rfl⟩ hl.1 (Nat.le_of_ble_eq_true rfl) dX3_needLive_6 ⟨Nat.zero_le _, Nat.zero_le _⟩ rfl (fun H locs hR hS => ?_)
  refine lv_aload_n hx hb dX3_needLive_9 rfl (lv_at hl 0 rfl) ?_
  refine gf_3_0 hx hb hts hown hK hR wd138 dX3_needLive_10 ?_
  obtain ⟨ht3, hF⟩ := xk_some hF
  have hj4 : (M 0 0 0).toNat < 3 := by omega
  refine lv_iload_n hx hb dX3_needLive_13 rfl (lv_at hl 1 rfl) ?_
  obtain ⟨y6, hc5, hF⟩ := xb1_some hF
  refine x_cVr (C := RX2) (T := TX2) (N := 8) (ci := 2) (As := [.int (jI a1)]) (rest := []) hx hb hml hown hts hK hR hS (c_X2_at hj4 ha1 hc5) (ok1 hj4) rfl rfl wd337 wd255 wd256 wd2 wd257 hyX2_at ⟨rfl, rfl⟩ ⟨Nat.le_of_ble_eq_true rfl, Nat.le_of_ble_eq_true rfl⟩ hl.1 (Nat.le_of_ble_eq_true rfl) dX3_needLive_14 ⟨Nat.zero_le _, Nat.zero_le _⟩ rfl (fun hg7 H locs hR hS => ?_)
  have hj8 : y6 < 99 := lt2 hg7
  cases hF
  exact x_aret hx hb hlocks hK hR hS hr (ok2 hj8) dX3_needLive_17
abbrev rmX3_linksOf : Room := { frames := 3, cells := 0, slots := 0, locals := 63 }
theorem hyX3_linksOf : yX3_linksOf.cls = RX3 ∧ yX3_linksOf.cls ≠ "java/lang/invoke/MethodHandle" ∧ yX3_linksOf.cls ≠ "java/lang/invoke/VarHandle" ∧ (parseMethodDescriptor yX3_linksOf.desc).map (fun d => d.parameters.length) = some 1 := by decide +kernel
def F_X3_linksOf (M : Mm) (a1 : Int) : Option (Int) := (xb1 (F_X3_needLive M a1) fun y2 => (some (M 2 y2 2)))
set_option maxHeartbeats 4000000 in
set_option maxRecDepth 100000 in
theorem c_X3_linksOf {l : Launch} {g : Gx} {b : Nat} {M : Mm} {a1 : Int} {r : Int} (ha1 : rg a1) (hF : F_X3_linksOf M a1 = some r) : Ct l yX3_linksOf cX3_linksOf 2 (some .int) rmX3_linksOf g b [.ref (adr b 0 0), .int (jI a1)] M (qI g b r M) := by
  refine ct_of (by decide +kernel) (Nat.le_of_ble_eq_true rfl) ?_
  intro p e s m args below meth c C0 hR ls hl
  obtain ⟨hx, hb, hr, hlocks, hml, hown, hts, hK⟩ := id C0
  have hS : va_S (AA b s.heap.size) s.heap s.heap [] := va_S.rf
  have hl : lv_has ls 2 [(0, .ref (adr b 0 0)), (1, .int (jI a1))] := hl
  obtain ⟨H, hH⟩ : ∃ z, z = s.heap := ⟨_, rfl⟩
  obtain ⟨locs, hlo⟩ : ∃ z : List Loc, z = [] := ⟨_, rfl⟩
  have hR : Rel g b M H := by rw [hH]; exact hR
  have hS : va_S (AA b s.heap.size) s.heap H locs := by rw [hH, hlo]; exact hS
  suffices hW : W p l e rmX3_linksOf s m args below meth c H locs 0 0 (MQ below (qI g b r M s.heap.size) args s 0 0 (AA b s.heap.size)) (F0 m 0 ls []) by rw [hH, hlo] at hW; exact hW
  rw [F_X3_linksOf] at hF
  refine lv_aload_n hx hb dX3_linksOf_0 rfl (lv_at hl 0 rfl) ?_
  refine lv_iload_n hx hb dX3_linksOf_1 rfl (lv_at hl 1 rfl) ?_
  obtain ⟨y2, hc1, hF⟩ := xb1_some hF
  refine x_cVr (C := RX3) (T := TX3) (N := 9) (ci := 3) (As := [.int (jI a1)]) (rest := []) hx hb hml hown hts hK hR hS (c_X3_needLive ha1 hc1) ok0 rfl rfl wd342 wd344 ws4 wd1 wd345 hyX3_needLive ⟨rfl, rfl⟩ ⟨Nat.le_of_ble_eq_true rfl, Nat.le_of_ble_eq_true rfl⟩ hl.1 (Nat.le_of_ble_eq_true rfl) dX3_linksOf_2 ⟨Nat.zero_le _, Nat.zero_le _⟩ rfl (fun hg3 H locs hR hS => ?_)
  have hj4 : y2 < 99 := lt2 hg3
  refine gf_1_2 hx hb hts hown hK hR hj4 wd41 dX3_linksOf_5 ?_
  have hg5 : rg (M 2 y2 2) := hR.2 2 y2 2 (by decide)
  cases hF
  exact x_iret hx hb hlocks hK hR hS hr hg5 dX3_linksOf_8
abbrev rmX3_ownerOf : Room := { frames := 3, cells := 0, slots := 0, locals := 63 }
theorem hyX3_ownerOf : yX3_ownerOf.cls = RX3 ∧ yX3_ownerOf.cls ≠ "java/lang/invoke/MethodHandle" ∧ yX3_ownerOf.cls ≠ "java/lang/invoke/VarHandle" ∧ (parseMethodDescriptor yX3_ownerOf.desc).map (fun d => d.parameters.length) = some 1 := by decide +kernel
def F_X3_ownerOf (M : Mm) (a1 : Int) : Option (Int) := (xb1 (F_X3_needLive M a1) fun y2 => (some (M 2 y2 1)))
set_option maxHeartbeats 4000000 in
set_option maxRecDepth 100000 in
theorem c_X3_ownerOf {l : Launch} {g : Gx} {b : Nat} {M : Mm} {a1 : Int} {r : Int} (ha1 : rg a1) (hF : F_X3_ownerOf M a1 = some r) : Ct l yX3_ownerOf cX3_ownerOf 2 (some .int) rmX3_ownerOf g b [.ref (adr b 0 0), .int (jI a1)] M (qI g b r M) := by
  refine ct_of (by decide +kernel) (Nat.le_of_ble_eq_true rfl) ?_
  intro p e s m args below meth c C0 hR ls hl
  obtain ⟨hx, hb, hr, hlocks, hml, hown, hts, hK⟩ := id C0
  have hS : va_S (AA b s.heap.size) s.heap s.heap [] := va_S.rf
  have hl : lv_has ls 2 [(0, .ref (adr b 0 0)), (1, .int (jI a1))] := hl
  obtain ⟨H, hH⟩ : ∃ z, z = s.heap := ⟨_, rfl⟩
  obtain ⟨locs, hlo⟩ : ∃ z : List Loc, z = [] := ⟨_, rfl⟩
  have hR : Rel g b M H := by rw [hH]; exact hR
  have hS : va_S (AA b s.heap.size) s.heap H locs := by rw [hH, hlo]; exact hS
  suffices hW : W p l e rmX3_ownerOf s m args below meth c H locs 0 0 (MQ below (qI g b r M s.heap.size) args s 0 0 (AA b s.heap.size)) (F0 m 0 ls []) by rw [hH, hlo] at hW; exact hW
  rw [F_X3_ownerOf] at hF
  refine lv_aload_n hx hb dX3_ownerOf_0 rfl (lv_at hl 0 rfl) ?_
  refine lv_iload_n hx hb dX3_ownerOf_1 rfl (lv_at hl 1 rfl) ?_
  obtain ⟨y2, hc1, hF⟩ := xb1_some hF
  refine x_cVr (C := RX3) (T := TX3) (N := 9) (ci := 3) (As := [.int (jI a1)]) (rest := []) hx hb hml hown hts hK hR hS (c_X3_needLive ha1 hc1) ok0 rfl rfl wd342 wd344 ws4 wd1 wd345 hyX3_needLive ⟨rfl, rfl⟩ ⟨Nat.le_of_ble_eq_true rfl, Nat.le_of_ble_eq_true rfl⟩ hl.1 (Nat.le_of_ble_eq_true rfl) dX3_ownerOf_2 ⟨Nat.zero_le _, Nat.zero_le _⟩ rfl (fun hg3 H locs hR hS => ?_)
  have hj4 : y2 < 99 := lt2 hg3
  refine gf_1_1 hx hb hts hown hK hR hj4 wd39 dX3_ownerOf_5 ?_
  have hg5 : rg (M 2 y2 1) := hR.2 2 y2 1 (by decide)
  cases hF
  exact x_iret hx hb hlocks hK hR hS hr hg5 dX3_ownerOf_8
abbrev rmX3_sizeOf : Room := { frames := 3, cells := 0, slots := 0, locals := 63 }
theorem hyX3_sizeOf : yX3_sizeOf.cls = RX3 ∧ yX3_sizeOf.cls ≠ "java/lang/invoke/MethodHandle" ∧ yX3_sizeOf.cls ≠ "java/lang/invoke/VarHandle" ∧ (parseMethodDescriptor yX3_sizeOf.desc).map (fun d => d.parameters.length) = some 1 := by decide +kernel
def F_X3_sizeOf (M : Mm) (a1 : Int) : Option (Int) := (xb1 (F_X3_needLive M a1) fun y2 => (xb1 (F_X1_extent M y2) fun y6 => (some y6)))
set_option maxHeartbeats 4000000 in
set_option maxRecDepth 100000 in
theorem c_X3_sizeOf {l : Launch} {g : Gx} {b : Nat} {M : Mm} {a1 : Int} {r : Int} (ha1 : rg a1) (hF : F_X3_sizeOf M a1 = some r) : Ct l yX3_sizeOf cX3_sizeOf 2 (some .int) rmX3_sizeOf g b [.ref (adr b 0 0), .int (jI a1)] M (qI g b r M) := by
  refine ct_of (by decide +kernel) (Nat.le_of_ble_eq_true rfl) ?_
  intro p e s m args below meth c C0 hR ls hl
  obtain ⟨hx, hb, hr, hlocks, hml, hown, hts, hK⟩ := id C0
  have hS : va_S (AA b s.heap.size) s.heap s.heap [] := va_S.rf
  have hl : lv_has ls 2 [(0, .ref (adr b 0 0)), (1, .int (jI a1))] := hl
  obtain ⟨H, hH⟩ : ∃ z, z = s.heap := ⟨_, rfl⟩
  obtain ⟨locs, hlo⟩ : ∃ z : List Loc, z = [] := ⟨_, rfl⟩
  have hR : Rel g b M H := by rw [hH]; exact hR
  have hS : va_S (AA b s.heap.size) s.heap H locs := by rw [hH, hlo]; exact hS
  suffices hW : W p l e rmX3_sizeOf s m args below meth c H locs 0 0 (MQ below (qI g b r M s.heap.size) args s 0 0 (AA b s.heap.size)) (F0 m 0 ls []) by rw [hH, hlo] at hW; exact hW
  rw [F_X3_sizeOf] at hF
  refine lv_aload_n hx hb dX3_sizeOf_0 rfl (lv_at hl 0 rfl) ?_
  refine lv_iload_n hx hb dX3_sizeOf_1 rfl (lv_at hl 1 rfl) ?_
  obtain ⟨y2, hc1, hF⟩ := xb1_some hF
  refine x_cVr (C := RX3) (T := TX3) (N := 9) (ci := 3) (As := [.int (jI a1)]) (rest := []) hx hb hml hown hts hK hR hS (c_X3_needLive ha1 hc1) ok0 rfl rfl wd342 wd344 ws4 wd1 wd345 hyX3_needLive ⟨rfl, rfl⟩ ⟨Nat.le_of_ble_eq_true rfl, Nat.le_of_ble_eq_true rfl⟩ hl.1 (Nat.le_of_ble_eq_true rfl) dX3_sizeOf_2 ⟨Nat.zero_le _, Nat.zero_le _⟩ rfl (fun hg3 H locs hR hS => ?_)
  have hj4 : y2 < 99 := lt2 hg3
  obtain ⟨y6, hc5, hF⟩ := xb1_some hF
  refine x_cVi (C := RX1) (T := TX1) (N := 12) (ci := 1) (As := []) (rest := []) hx hb hml hown hts hK hR hS (c_X1_extent hj4 hc5) (ok2 hj4) rfl rfl wd366 wd367 wd368 wd3 wd369 hyX1_extent ⟨rfl, rfl⟩ ⟨Nat.le_of_ble_eq_true rfl, Nat.le_of_ble_eq_true rfl⟩ hl.1 (Nat.le_of_ble_eq_true rfl) dX3_sizeOf_5 ⟨Nat.zero_le _, Nat.zero_le _⟩ rfl (fun hg7 H locs hR hS => ?_)
  cases hF
  exact x_iret hx hb hlocks hK hR hS hr hg7 dX3_sizeOf_8
abbrev rmX3_blocksOf : Room := { frames := 3, cells := 0, slots := 0, locals := 63 }
theorem hyX3_blocksOf : yX3_blocksOf.cls = RX3 ∧ yX3_blocksOf.cls ≠ "java/lang/invoke/MethodHandle" ∧ yX3_blocksOf.cls ≠ "java/lang/invoke/VarHandle" ∧ (parseMethodDescriptor yX3_blocksOf.desc).map (fun d => d.parameters.length) = some 1 := by decide +kernel
def F_X3_blocksOf (M : Mm) (a1 : Int) : Option (Int) := (xb1 (F_X3_needLive M a1) fun y2 => (xb1 (F_X1_ownBlocks M y2) fun y6 => (some y6)))
set_option maxHeartbeats 4000000 in
set_option maxRecDepth 100000 in
theorem c_X3_blocksOf {l : Launch} {g : Gx} {b : Nat} {M : Mm} {a1 : Int} {r : Int} (ha1 : rg a1) (hF : F_X3_blocksOf M a1 = some r) : Ct l yX3_blocksOf cX3_blocksOf 2 (some .int) rmX3_blocksOf g b [.ref (adr b 0 0), .int (jI a1)] M (qI g b r M) := by
  refine ct_of (by decide +kernel) (Nat.le_of_ble_eq_true rfl) ?_
  intro p e s m args below meth c C0 hR ls hl
  obtain ⟨hx, hb, hr, hlocks, hml, hown, hts, hK⟩ := id C0
  have hS : va_S (AA b s.heap.size) s.heap s.heap [] := va_S.rf
  have hl : lv_has ls 2 [(0, .ref (adr b 0 0)), (1, .int (jI a1))] := hl
  obtain ⟨H, hH⟩ : ∃ z, z = s.heap := ⟨_, rfl⟩
  obtain ⟨locs, hlo⟩ : ∃ z : List Loc, z = [] := ⟨_, rfl⟩
  have hR : Rel g b M H := by rw [hH]; exact hR
  have hS : va_S (AA b s.heap.size) s.heap H locs := by rw [hH, hlo]; exact hS
  suffices hW : W p l e rmX3_blocksOf s m args below meth c H locs 0 0 (MQ below (qI g b r M s.heap.size) args s 0 0 (AA b s.heap.size)) (F0 m 0 ls []) by rw [hH, hlo] at hW; exact hW
  rw [F_X3_blocksOf] at hF
  refine lv_aload_n hx hb dX3_blocksOf_0 rfl (lv_at hl 0 rfl) ?_
  refine lv_iload_n hx hb dX3_blocksOf_1 rfl (lv_at hl 1 rfl) ?_
  obtain ⟨y2, hc1, hF⟩ := xb1_some hF
  refine x_cVr (C := RX3) (T := TX3) (N := 9) (ci := 3) (As := [.int (jI a1)]) (rest := []) hx hb hml hown hts hK hR hS (c_X3_needLive ha1 hc1) ok0 rfl rfl wd342 wd344 ws4 wd1 wd345 hyX3_needLive ⟨rfl, rfl⟩ ⟨Nat.le_of_ble_eq_true rfl, Nat.le_of_ble_eq_true rfl⟩ hl.1 (Nat.le_of_ble_eq_true rfl) dX3_blocksOf_2 ⟨Nat.zero_le _, Nat.zero_le _⟩ rfl (fun hg3 H locs hR hS => ?_)
  have hj4 : y2 < 99 := lt2 hg3
  obtain ⟨y6, hc5, hF⟩ := xb1_some hF
  refine x_cVi (C := RX1) (T := TX1) (N := 12) (ci := 1) (As := []) (rest := []) hx hb hml hown hts hK hR hS (c_X1_ownBlocks hj4 hc5) (ok2 hj4) rfl rfl wd477 wd409 wd410 wd3 wd411 hyX1_ownBlocks ⟨rfl, rfl⟩ ⟨Nat.le_of_ble_eq_true rfl, Nat.le_of_ble_eq_true rfl⟩ hl.1 (Nat.le_of_ble_eq_true rfl) dX3_blocksOf_5 ⟨Nat.zero_le _, Nat.zero_le _⟩ rfl (fun hg7 H locs hR hS => ?_)
  cases hF
  exact x_iret hx hb hlocks hK hR hS hr hg7 dX3_blocksOf_8
abbrev rmX3_sharedOf : Room := { frames := 3, cells := 0, slots := 0, locals := 64 }
theorem hyX3_sharedOf : yX3_sharedOf.cls = RX3 ∧ yX3_sharedOf.cls ≠ "java/lang/invoke/MethodHandle" ∧ yX3_sharedOf.cls ≠ "java/lang/invoke/VarHandle" ∧ (parseMethodDescriptor yX3_sharedOf.desc).map (fun d => d.parameters.length) = some 1 := by decide +kernel
def F_X3_sharedOf (M : Mm) (a1 : Int) : Option (Int) := (xk (M 0 0 0 = 0 ∨ M 0 0 0 = 1) (xb1 (F_X3_needLive M a1) fun y4 => (xb1 (F_X2_sharedPlaces M ((M 0 0 0).toNat) y4) fun y8 => (some y8))))
set_option maxHeartbeats 4000000 in
set_option maxRecDepth 100000 in
theorem c_X3_sharedOf {l : Launch} {g : Gx} {b : Nat} {M : Mm} {a1 : Int} {r : Int} (ha1 : rg a1) (hF : F_X3_sharedOf M a1 = some r) : Ct l yX3_sharedOf cX3_sharedOf 2 (some .int) rmX3_sharedOf g b [.ref (adr b 0 0), .int (jI a1)] M (qI g b r M) := by
  refine ct_of (by decide +kernel) (Nat.le_of_ble_eq_true rfl) ?_
  intro p e s m args below meth c C0 hR ls hl
  obtain ⟨hx, hb, hr, hlocks, hml, hown, hts, hK⟩ := id C0
  have hS : va_S (AA b s.heap.size) s.heap s.heap [] := va_S.rf
  have hl : lv_has ls 2 [(0, .ref (adr b 0 0)), (1, .int (jI a1))] := hl
  obtain ⟨H, hH⟩ : ∃ z, z = s.heap := ⟨_, rfl⟩
  obtain ⟨locs, hlo⟩ : ∃ z : List Loc, z = [] := ⟨_, rfl⟩
  have hR : Rel g b M H := by rw [hH]; exact hR
  have hS : va_S (AA b s.heap.size) s.heap H locs := by rw [hH, hlo]; exact hS
  suffices hW : W p l e rmX3_sharedOf s m args below meth c H locs 0 0 (MQ below (qI g b r M s.heap.size) args s 0 0 (AA b s.heap.size)) (F0 m 0 ls []) by rw [hH, hlo] at hW; exact hW
  rw [F_X3_sharedOf] at hF
  refine lv_aload_n hx hb dX3_sharedOf_0 rfl (lv_at hl 0 rfl) ?_
  refine gf_3_0 hx hb hts hown hK hR wd138 dX3_sharedOf_1 ?_
  obtain ⟨ht1, hF⟩ := xk_some hF
  have hj2 : (M 0 0 0).toNat < 3 := by omega
  refine lv_aload_n hx hb dX3_sharedOf_4 rfl (lv_at hl 0 rfl) ?_
  refine lv_iload_n hx hb dX3_sharedOf_5 rfl (lv_at hl 1 rfl) ?_
  obtain ⟨y4, hc3, hF⟩ := xb1_some hF
  refine x_cVr (C := RX3) (T := TX3) (N := 9) (ci := 3) (As := [.int (jI a1)]) (rest := [.ref (adr b 1 ((M 0 0 0).toNat))]) hx hb hml hown hts hK hR hS (c_X3_needLive ha1 hc3) ok0 rfl rfl wd342 wd344 ws4 wd1 wd345 hyX3_needLive ⟨rfl, rfl⟩ ⟨Nat.le_of_ble_eq_true rfl, Nat.le_of_ble_eq_true rfl⟩ hl.1 (Nat.le_of_ble_eq_true rfl) dX3_sharedOf_6 ⟨Nat.zero_le _, Nat.zero_le _⟩ rfl (fun hg5 H locs hR hS => ?_)
  have hj6 : y4 < 99 := lt2 hg5
  obtain ⟨y8, hc7, hF⟩ := xb1_some hF
  refine x_cVi (C := RX2) (T := TX2) (N := 8) (ci := 2) (As := [.ref (adr b 2 y4)]) (rest := []) hx hb hml hown hts hK hR hS (c_X2_sharedPlaces hj2 hj6 hc7) (ok1 hj2) rfl rfl wd482 wd483 wd484 wd2 wd485 hyX2_sharedPlaces ⟨rfl, rfl⟩ ⟨Nat.le_of_ble_eq_true rfl, Nat.le_of_ble_eq_true rfl⟩ hl.1 (Nat.le_of_ble_eq_true rfl) dX3_sharedOf_9 ⟨Nat.zero_le _, Nat.zero_le _⟩ rfl (fun hg9 H locs hR hS => ?_)
  cases hF
  exact x_iret hx hb hlocks hK hR hS hr hg9 dX3_sharedOf_12
abbrev rmX3_lookup : Room := { frames := 3, cells := 0, slots := 0, locals := 64 }
theorem hyX3_lookup : yX3_lookup.cls = RX3 ∧ yX3_lookup.cls ≠ "java/lang/invoke/MethodHandle" ∧ yX3_lookup.cls ≠ "java/lang/invoke/VarHandle" ∧ (parseMethodDescriptor yX3_lookup.desc).map (fun d => d.parameters.length) = some 2 := by decide +kernel
def F_X3_lookup (M : Mm) (a1 : Int) (a2 : Int) : Option (Int) := (xb1 (F_X3_needEntry M a1 a2) fun _ => (xk (M 0 0 0 = 0 ∨ M 0 0 0 = 1) (xb1 (F_X2_at M ((M 0 0 0).toNat) a1) fun y5 => (if (M 2 y5 0) = (2 : Int) then (xb1 (F_X1_nodeNamed M y5 a2) fun y11 => (some y11)) else (some (-3 : Int))))))
set_option maxHeartbeats 4000000 in
set_option maxRecDepth 100000 in
theorem c_X3_lookup {l : Launch} {g : Gx} {b : Nat} {M : Mm} {a1 : Int} {a2 : Int} {r : Int} (ha1 : rg a1) (ha2 : rg a2) (hF : F_X3_lookup M a1 a2 = some r) : Ct l yX3_lookup cX3_lookup 4 (some .int) rmX3_lookup g b [.ref (adr b 0 0), .int (jI a1), .int (jI a2)] M (qI g b r M) := by
  refine ct_of (by decide +kernel) (Nat.le_of_ble_eq_true rfl) ?_
  intro p e s m args below meth c C0 hR ls hl
  obtain ⟨hx, hb, hr, hlocks, hml, hown, hts, hK⟩ := id C0
  have hS : va_S (AA b s.heap.size) s.heap s.heap [] := va_S.rf
  have hl : lv_has ls 4 [(0, .ref (adr b 0 0)), (1, .int (jI a1)), (2, .int (jI a2))] := hl
  obtain ⟨H, hH⟩ : ∃ z, z = s.heap := ⟨_, rfl⟩
  obtain ⟨locs, hlo⟩ : ∃ z : List Loc, z = [] := ⟨_, rfl⟩
  have hR : Rel g b M H := by rw [hH]; exact hR
  have hS : va_S (AA b s.heap.size) s.heap H locs := by rw [hH, hlo]; exact hS
  suffices hW : W p l e rmX3_lookup s m args below meth c H locs 0 0 (MQ below (qI g b r M s.heap.size) args s 0 0 (AA b s.heap.size)) (F0 m 0 ls []) by rw [hH, hlo] at hW; exact hW
  rw [F_X3_lookup] at hF
  refine lv_aload_n hx hb dX3_lookup_0 rfl (lv_at hl 0 rfl) ?_
  refine lv_iload_n hx hb dX3_lookup_1 rfl (lv_at hl 1 rfl) ?_
  refine lv_iload_n hx hb dX3_lookup_2 rfl (lv_at hl 2 rfl) ?_
  obtain ⟨_, hc1, hF⟩ := xb1_some hF
  refine x_cVv (C := RX3) (T := TX3) (N := 9) (ci := 3) (As := [.int (jI a1), .int (jI a2)]) (rest := []) hx hb hml hown hts hK hR hS (c_X3_needEntry ha1 ha2 hc1) ok0 rfl rfl wd621 wd623 ws11 wd1 wd624 hyX3_needEntry ⟨rfl, rfl⟩ ⟨Nat.le_of_ble_eq_true rfl, Nat.le_of_ble_eq_true rfl⟩ hl.1 (Nat.le_of_ble_eq_true rfl) dX3_lookup_3 ⟨Nat.zero_le _, Nat.zero_le _⟩ rfl (fun H locs hR hS => ?_)
  refine lv_aload_n hx hb dX3_lookup_6 rfl (lv_at hl 0 rfl) ?_
  refine gf_3_0 hx hb hts hown hK hR wd138 dX3_lookup_7 ?_
  obtain ⟨ht2, hF⟩ := xk_some hF
  have hj3 : (M 0 0 0).toNat < 3 := by omega
  refine lv_iload_n hx hb dX3_lookup_10 rfl (lv_at hl 1 rfl) ?_
  obtain ⟨y5, hc4, hF⟩ := xb1_some hF
  refine x_cVr (C := RX2) (T := TX2) (N := 8) (ci := 2) (As := [.int (jI a1)]) (rest := []) hx hb hml hown hts hK hR hS (c_X2_at hj3 ha1 hc4) (ok1 hj3) rfl rfl wd337 wd255 wd256 wd2 wd257 hyX2_at ⟨rfl, rfl⟩ ⟨Nat.le_of_ble_eq_true rfl, Nat.le_of_ble_eq_true rfl⟩ hl.1 (Nat.le_of_ble_eq_true rfl) dX3_lookup_11 ⟨Nat.zero_le _, Nat.zero_le _⟩ rfl (fun hg6 H locs hR hS => ?_)
  have hj7 : y5 < 99 := lt2 hg6
  refine lv_astore_n (lv' := [(3, .ref (adr b 2 y5)), (0, .ref (adr b 0 0)), (1, .int (jI a1)), (2, .int (jI a2))]) hx hb dX3_lookup_14 rfl hl (by decide) rfl (fun ls hl => ?_)
  refine lv_aload_n hx hb dX3_lookup_15 rfl (lv_at hl 0 rfl) ?_
  refine gf_1_0 hx hb hts hown hK hR hj7 wd36 dX3_lookup_16 ?_
  have hg8 : rg (M 2 y5 0) := hR.2 2 y5 0 (by decide)
  refine x_iconst hx hb dX3_lookup_19 ?_
  refine x_icmp_ne (tgt := 31) hx hb hg8 (by decide : rg (2 : Int)) dX3_lookup_20 (by decide) (fun ci9 => ?_) (fun ci9 => ?_)
  · rw [if_neg ci9] at hF
    refine x_bipush hx hb (by decide +kernel) dX3_lookup_31 ?_
    cases hF
    exact x_iret hx hb hlocks hK hR hS hr (by decide : rg (-3 : Int)) dX3_lookup_33
  · rw [if_pos ci9] at hF
    refine lv_aload_n hx hb dX3_lookup_23 rfl (lv_at hl 0 rfl) ?_
    refine lv_iload_n hx hb dX3_lookup_24 rfl (lv_at hl 3 rfl) ?_
    obtain ⟨y11, hc10, hF⟩ := xb1_some hF
    refine x_cVi (C := RX1) (T := TX1) (N := 12) (ci := 1) (As := [.int (jI a2)]) (rest := []) hx hb hml hown hts hK hR hS (c_X1_nodeNamed hj7 ha2 hc10) (ok2 hj7) rfl rfl wd560 wd561 wd562 wd3 wd563 hyX1_nodeNamed ⟨rfl, rfl⟩ ⟨Nat.le_of_ble_eq_true rfl, Nat.le_of_ble_eq_true rfl⟩ hl.1 (Nat.le_of_ble_eq_true rfl) dX3_lookup_25 ⟨Nat.zero_le _, Nat.zero_le _⟩ rfl (fun hg12 H locs hR hS => ?_)
    refine lv_goto (tgt := 33) hx hb dX3_lookup_28 (by decide) ?_
    cases hF
    exact x_iret hx hb hlocks hK hR hS hr hg12 dX3_lookup_33
abbrev rmX3_nameAt : Room := { frames := 3, cells := 0, slots := 0, locals := 63 }
theorem hyX3_nameAt : yX3_nameAt.cls = RX3 ∧ yX3_nameAt.cls ≠ "java/lang/invoke/MethodHandle" ∧ yX3_nameAt.cls ≠ "java/lang/invoke/VarHandle" ∧ (parseMethodDescriptor yX3_nameAt.desc).map (fun d => d.parameters.length) = some 2 := by decide +kernel
def F_X3_nameAt (M : Mm) (a1 : Int) (a2 : Int) : Option (Int) := (xb1 (F_X3_needLive M a1) fun y2 => (xb1 (F_X1_nameOf M y2 a2) fun y6 => (some y6)))
set_option maxHeartbeats 4000000 in
set_option maxRecDepth 100000 in
theorem c_X3_nameAt {l : Launch} {g : Gx} {b : Nat} {M : Mm} {a1 : Int} {a2 : Int} {r : Int} (ha1 : rg a1) (ha2 : rg a2) (hF : F_X3_nameAt M a1 a2 = some r) : Ct l yX3_nameAt cX3_nameAt 3 (some .int) rmX3_nameAt g b [.ref (adr b 0 0), .int (jI a1), .int (jI a2)] M (qI g b r M) := by
  refine ct_of (by decide +kernel) (Nat.le_of_ble_eq_true rfl) ?_
  intro p e s m args below meth c C0 hR ls hl
  obtain ⟨hx, hb, hr, hlocks, hml, hown, hts, hK⟩ := id C0
  have hS : va_S (AA b s.heap.size) s.heap s.heap [] := va_S.rf
  have hl : lv_has ls 3 [(0, .ref (adr b 0 0)), (1, .int (jI a1)), (2, .int (jI a2))] := hl
  obtain ⟨H, hH⟩ : ∃ z, z = s.heap := ⟨_, rfl⟩
  obtain ⟨locs, hlo⟩ : ∃ z : List Loc, z = [] := ⟨_, rfl⟩
  have hR : Rel g b M H := by rw [hH]; exact hR
  have hS : va_S (AA b s.heap.size) s.heap H locs := by rw [hH, hlo]; exact hS
  suffices hW : W p l e rmX3_nameAt s m args below meth c H locs 0 0 (MQ below (qI g b r M s.heap.size) args s 0 0 (AA b s.heap.size)) (F0 m 0 ls []) by rw [hH, hlo] at hW; exact hW
  rw [F_X3_nameAt] at hF
  refine lv_aload_n hx hb dX3_nameAt_0 rfl (lv_at hl 0 rfl) ?_
  refine lv_iload_n hx hb dX3_nameAt_1 rfl (lv_at hl 1 rfl) ?_
  obtain ⟨y2, hc1, hF⟩ := xb1_some hF
  refine x_cVr (C := RX3) (T := TX3) (N := 9) (ci := 3) (As := [.int (jI a1)]) (rest := []) hx hb hml hown hts hK hR hS (c_X3_needLive ha1 hc1) ok0 rfl rfl wd342 wd344 ws4 wd1 wd345 hyX3_needLive ⟨rfl, rfl⟩ ⟨Nat.le_of_ble_eq_true rfl, Nat.le_of_ble_eq_true rfl⟩ hl.1 (Nat.le_of_ble_eq_true rfl) dX3_nameAt_2 ⟨Nat.zero_le _, Nat.zero_le _⟩ rfl (fun hg3 H locs hR hS => ?_)
  have hj4 : y2 < 99 := lt2 hg3
  refine lv_iload_n hx hb dX3_nameAt_5 rfl (lv_at hl 2 rfl) ?_
  obtain ⟨y6, hc5, hF⟩ := xb1_some hF
  refine x_cVi (C := RX1) (T := TX1) (N := 12) (ci := 1) (As := [.int (jI a2)]) (rest := []) hx hb hml hown hts hK hR hS (c_X1_nameOf hj4 ha2 hc5) (ok2 hj4) rfl rfl wd556 wd557 wd558 wd3 wd559 hyX1_nameOf ⟨rfl, rfl⟩ ⟨Nat.le_of_ble_eq_true rfl, Nat.le_of_ble_eq_true rfl⟩ hl.1 (Nat.le_of_ble_eq_true rfl) dX3_nameAt_6 ⟨Nat.zero_le _, Nat.zero_le _⟩ rfl (fun hg7 H locs hR hS => ?_)
  cases hF
  exact x_iret hx hb hlocks hK hR hS hr hg7 dX3_nameAt_9
abbrev rmX3_parentOf : Room := { frames := 3, cells := 0, slots := 0, locals := 63 }
theorem hyX3_parentOf : yX3_parentOf.cls = RX3 ∧ yX3_parentOf.cls ≠ "java/lang/invoke/MethodHandle" ∧ yX3_parentOf.cls ≠ "java/lang/invoke/VarHandle" ∧ (parseMethodDescriptor yX3_parentOf.desc).map (fun d => d.parameters.length) = some 1 := by decide +kernel
def F_X3_parentOf (M : Mm) (a1 : Int) : Option (Int) := (xb1 (F_X3_needLive M a1) fun y2 => (if (M 2 y2 0) = (2 : Int) then (xk (M 0 0 0 = 0 ∨ M 0 0 0 = 1) (xb1 (F_X2_at M ((M 0 0 0).toNat) a1) fun y10 => (some (M 2 y10 4)))) else (some (-1 : Int))))
set_option maxHeartbeats 4000000 in
set_option maxRecDepth 100000 in
theorem c_X3_parentOf {l : Launch} {g : Gx} {b : Nat} {M : Mm} {a1 : Int} {r : Int} (ha1 : rg a1) (hF : F_X3_parentOf M a1 = some r) : Ct l yX3_parentOf cX3_parentOf 2 (some .int) rmX3_parentOf g b [.ref (adr b 0 0), .int (jI a1)] M (qI g b r M) := by
  refine ct_of (by decide +kernel) (Nat.le_of_ble_eq_true rfl) ?_
  intro p e s m args below meth c C0 hR ls hl
  obtain ⟨hx, hb, hr, hlocks, hml, hown, hts, hK⟩ := id C0
  have hS : va_S (AA b s.heap.size) s.heap s.heap [] := va_S.rf
  have hl : lv_has ls 2 [(0, .ref (adr b 0 0)), (1, .int (jI a1))] := hl
  obtain ⟨H, hH⟩ : ∃ z, z = s.heap := ⟨_, rfl⟩
  obtain ⟨locs, hlo⟩ : ∃ z : List Loc, z = [] := ⟨_, rfl⟩
  have hR : Rel g b M H := by rw [hH]; exact hR
  have hS : va_S (AA b s.heap.size) s.heap H locs := by rw [hH, hlo]; exact hS
  suffices hW : W p l e rmX3_parentOf s m args below meth c H locs 0 0 (MQ below (qI g b r M s.heap.size) args s 0 0 (AA b s.heap.size)) (F0 m 0 ls []) by rw [hH, hlo] at hW; exact hW
  rw [F_X3_parentOf] at hF
  refine lv_aload_n hx hb dX3_parentOf_0 rfl (lv_at hl 0 rfl) ?_
  refine lv_iload_n hx hb dX3_parentOf_1 rfl (lv_at hl 1 rfl) ?_
  obtain ⟨y2, hc1, hF⟩ := xb1_some hF
  refine x_cVr (C := RX3) (T := TX3) (N := 9) (ci := 3) (As := [.int (jI a1)]) (rest := []) hx hb hml hown hts hK hR hS (c_X3_needLive ha1 hc1) ok0 rfl rfl wd342 wd344 ws4 wd1 wd345 hyX3_needLive ⟨rfl, rfl⟩ ⟨Nat.le_of_ble_eq_true rfl, Nat.le_of_ble_eq_true rfl⟩ hl.1 (Nat.le_of_ble_eq_true rfl) dX3_parentOf_2 ⟨Nat.zero_le _, Nat.zero_le _⟩ rfl (fun hg3 H locs hR hS => ?_)
  have hj4 : y2 < 99 := lt2 hg3
  refine gf_1_0 hx hb hts hown hK hR hj4 wd36 dX3_parentOf_5 ?_
  have hg5 : rg (M 2 y2 0) := hR.2 2 y2 0 (by decide)
  refine x_iconst hx hb dX3_parentOf_8 ?_
  refine x_icmp_ne (tgt := 26) hx hb hg5 (by decide : rg (2 : Int)) dX3_parentOf_9 (by decide) (fun ci6 => ?_) (fun ci6 => ?_)
  · rw [if_neg ci6] at hF
    refine x_iconst hx hb dX3_parentOf_26 ?_
    cases hF
    exact x_iret hx hb hlocks hK hR hS hr (by decide : rg (-1 : Int)) dX3_parentOf_27
  · rw [if_pos ci6] at hF
    refine lv_aload_n hx hb dX3_parentOf_12 rfl (lv_at hl 0 rfl) ?_
    refine gf_3_0 hx hb hts hown hK hR wd138 dX3_parentOf_13 ?_
    obtain ⟨ht7, hF⟩ := xk_some hF
    have hj8 : (M 0 0 0).toNat < 3 := by omega
    refine lv_iload_n hx hb dX3_parentOf_16 rfl (lv_at hl 1 rfl) ?_
    obtain ⟨y10, hc9, hF⟩ := xb1_some hF
    refine x_cVr (C := RX2) (T := TX2) (N := 8) (ci := 2) (As := [.int (jI a1)]) (rest := []) hx hb hml hown hts hK hR hS (c_X2_at hj8 ha1 hc9) (ok1 hj8) rfl rfl wd337 wd255 wd256 wd2 wd257 hyX2_at ⟨rfl, rfl⟩ ⟨Nat.le_of_ble_eq_true rfl, Nat.le_of_ble_eq_true rfl⟩ hl.1 (Nat.le_of_ble_eq_true rfl) dX3_parentOf_17 ⟨Nat.zero_le _, Nat.zero_le _⟩ rfl (fun hg11 H locs hR hS => ?_)
    have hj12 : y10 < 99 := lt2 hg11
    refine gf_1_4 hx hb hts hown hK hR hj12 wd48 dX3_parentOf_20 ?_
    have hg13 : rg (M 2 y10 4) := hR.2 2 y10 4 (by decide)
    refine lv_goto (tgt := 27) hx hb dX3_parentOf_23 (by decide) ?_
    cases hF
    exact x_iret hx hb hlocks hK hR hS hr hg13 dX3_parentOf_27
abbrev rmX3_depthOf : Room := { frames := 3, cells := 0, slots := 0, locals := 63 }
theorem hyX3_depthOf : yX3_depthOf.cls = RX3 ∧ yX3_depthOf.cls ≠ "java/lang/invoke/MethodHandle" ∧ yX3_depthOf.cls ≠ "java/lang/invoke/VarHandle" ∧ (parseMethodDescriptor yX3_depthOf.desc).map (fun d => d.parameters.length) = some 1 := by decide +kernel
def F_X3_depthOf (M : Mm) (a1 : Int) : Option (Int) := (xb1 (F_X3_needLive M a1) fun y2 => (if (M 2 y2 0) = (2 : Int) then (xk (M 0 0 0 = 0 ∨ M 0 0 0 = 1) (xb1 (F_X2_depth M ((M 0 0 0).toNat) a1) fun y10 => (some y10))) else (some (-1 : Int))))
set_option maxHeartbeats 4000000 in
set_option maxRecDepth 100000 in
theorem c_X3_depthOf {l : Launch} {g : Gx} {b : Nat} {M : Mm} {a1 : Int} {r : Int} (ha1 : rg a1) (hF : F_X3_depthOf M a1 = some r) : Ct l yX3_depthOf cX3_depthOf 2 (some .int) rmX3_depthOf g b [.ref (adr b 0 0), .int (jI a1)] M (qI g b r M) := by
  refine ct_of (by decide +kernel) (Nat.le_of_ble_eq_true rfl) ?_
  intro p e s m args below meth c C0 hR ls hl
  obtain ⟨hx, hb, hr, hlocks, hml, hown, hts, hK⟩ := id C0
  have hS : va_S (AA b s.heap.size) s.heap s.heap [] := va_S.rf
  have hl : lv_has ls 2 [(0, .ref (adr b 0 0)), (1, .int (jI a1))] := hl
  obtain ⟨H, hH⟩ : ∃ z, z = s.heap := ⟨_, rfl⟩
  obtain ⟨locs, hlo⟩ : ∃ z : List Loc, z = [] := ⟨_, rfl⟩
  have hR : Rel g b M H := by rw [hH]; exact hR
  have hS : va_S (AA b s.heap.size) s.heap H locs := by rw [hH, hlo]; exact hS
  suffices hW : W p l e rmX3_depthOf s m args below meth c H locs 0 0 (MQ below (qI g b r M s.heap.size) args s 0 0 (AA b s.heap.size)) (F0 m 0 ls []) by rw [hH, hlo] at hW; exact hW
  rw [F_X3_depthOf] at hF
  refine lv_aload_n hx hb dX3_depthOf_0 rfl (lv_at hl 0 rfl) ?_
  refine lv_iload_n hx hb dX3_depthOf_1 rfl (lv_at hl 1 rfl) ?_
  obtain ⟨y2, hc1, hF⟩ := xb1_some hF
  refine x_cVr (C := RX3) (T := TX3) (N := 9) (ci := 3) (As := [.int (jI a1)]) (rest := []) hx hb hml hown hts hK hR hS (c_X3_needLive ha1 hc1) ok0 rfl rfl wd342 wd344 ws4 wd1 wd345 hyX3_needLive ⟨rfl, rfl⟩ ⟨Nat.le_of_ble_eq_true rfl, Nat.le_of_ble_eq_true rfl⟩ hl.1 (Nat.le_of_ble_eq_true rfl) dX3_depthOf_2 ⟨Nat.zero_le _, Nat.zero_le _⟩ rfl (fun hg3 H locs hR hS => ?_)
  have hj4 : y2 < 99 := lt2 hg3
  refine gf_1_0 hx hb hts hown hK hR hj4 wd36 dX3_depthOf_5 ?_
  have hg5 : rg (M 2 y2 0) := hR.2 2 y2 0 (by decide)
  refine x_iconst hx hb dX3_depthOf_8 ?_
  refine x_icmp_ne (tgt := 23) hx hb hg5 (by decide : rg (2 : Int)) dX3_depthOf_9 (by decide) (fun ci6 => ?_) (fun ci6 => ?_)
  · rw [if_neg ci6] at hF
    refine x_iconst hx hb dX3_depthOf_23 ?_
    cases hF
    exact x_iret hx hb hlocks hK hR hS hr (by decide : rg (-1 : Int)) dX3_depthOf_24
  · rw [if_pos ci6] at hF
    refine lv_aload_n hx hb dX3_depthOf_12 rfl (lv_at hl 0 rfl) ?_
    refine gf_3_0 hx hb hts hown hK hR wd138 dX3_depthOf_13 ?_
    obtain ⟨ht7, hF⟩ := xk_some hF
    have hj8 : (M 0 0 0).toNat < 3 := by omega
    refine lv_iload_n hx hb dX3_depthOf_16 rfl (lv_at hl 1 rfl) ?_
    obtain ⟨y10, hc9, hF⟩ := xb1_some hF
    refine x_cVi (C := RX2) (T := TX2) (N := 8) (ci := 2) (As := [.int (jI a1)]) (rest := []) hx hb hml hown hts hK hR hS (c_X2_depth hj8 ha1 hc9) (ok1 hj8) rfl rfl wd498 wd499 wd500 wd2 wd501 hyX2_depth ⟨rfl, rfl⟩ ⟨Nat.le_of_ble_eq_true rfl, Nat.le_of_ble_eq_true rfl⟩ hl.1 (Nat.le_of_ble_eq_true rfl) dX3_depthOf_17 ⟨Nat.zero_le _, Nat.zero_le _⟩ rfl (fun hg11 H locs hR hS => ?_)
    refine lv_goto (tgt := 24) hx hb dX3_depthOf_20 (by decide) ?_
    cases hF
    exact x_iret hx hb hlocks hK hR hS hr hg11 dX3_depthOf_24
abbrev rmX3_isOrphan : Room := { frames := 3, cells := 0, slots := 0, locals := 63 }
theorem hyX3_isOrphan : yX3_isOrphan.cls = RX3 ∧ yX3_isOrphan.cls ≠ "java/lang/invoke/MethodHandle" ∧ yX3_isOrphan.cls ≠ "java/lang/invoke/VarHandle" ∧ (parseMethodDescriptor yX3_isOrphan.desc).map (fun d => d.parameters.length) = some 1 := by decide +kernel
def F_X3_isOrphan (M : Mm) (a1 : Int) : Option (Int) := (xb1 (F_X3_needLive M a1) fun y2 => (xb1 (F_X1_isForsaken M y2) fun y6 => (xk (y6 = 0 ∨ y6 = 1) (some y6))))
set_option maxHeartbeats 4000000 in
set_option maxRecDepth 100000 in
theorem c_X3_isOrphan {l : Launch} {g : Gx} {b : Nat} {M : Mm} {a1 : Int} {r : Int} (ha1 : rg a1) (hF : F_X3_isOrphan M a1 = some r) : Ct l yX3_isOrphan cX3_isOrphan 2 (some .boolean) rmX3_isOrphan g b [.ref (adr b 0 0), .int (jI a1)] M (qI g b r M) := by
  refine ct_of (by decide +kernel) (Nat.le_of_ble_eq_true rfl) ?_
  intro p e s m args below meth c C0 hR ls hl
  obtain ⟨hx, hb, hr, hlocks, hml, hown, hts, hK⟩ := id C0
  have hS : va_S (AA b s.heap.size) s.heap s.heap [] := va_S.rf
  have hl : lv_has ls 2 [(0, .ref (adr b 0 0)), (1, .int (jI a1))] := hl
  obtain ⟨H, hH⟩ : ∃ z, z = s.heap := ⟨_, rfl⟩
  obtain ⟨locs, hlo⟩ : ∃ z : List Loc, z = [] := ⟨_, rfl⟩
  have hR : Rel g b M H := by rw [hH]; exact hR
  have hS : va_S (AA b s.heap.size) s.heap H locs := by rw [hH, hlo]; exact hS
  suffices hW : W p l e rmX3_isOrphan s m args below meth c H locs 0 0 (MQ below (qI g b r M s.heap.size) args s 0 0 (AA b s.heap.size)) (F0 m 0 ls []) by rw [hH, hlo] at hW; exact hW
  rw [F_X3_isOrphan] at hF
  refine lv_aload_n hx hb dX3_isOrphan_0 rfl (lv_at hl 0 rfl) ?_
  refine lv_iload_n hx hb dX3_isOrphan_1 rfl (lv_at hl 1 rfl) ?_
  obtain ⟨y2, hc1, hF⟩ := xb1_some hF
  refine x_cVr (C := RX3) (T := TX3) (N := 9) (ci := 3) (As := [.int (jI a1)]) (rest := []) hx hb hml hown hts hK hR hS (c_X3_needLive ha1 hc1) ok0 rfl rfl wd342 wd344 ws4 wd1 wd345 hyX3_needLive ⟨rfl, rfl⟩ ⟨Nat.le_of_ble_eq_true rfl, Nat.le_of_ble_eq_true rfl⟩ hl.1 (Nat.le_of_ble_eq_true rfl) dX3_isOrphan_2 ⟨Nat.zero_le _, Nat.zero_le _⟩ rfl (fun hg3 H locs hR hS => ?_)
  have hj4 : y2 < 99 := lt2 hg3
  obtain ⟨y6, hc5, hF⟩ := xb1_some hF
  refine x_cVi (C := RX1) (T := TX1) (N := 12) (ci := 1) (As := []) (rest := []) hx hb hml hown hts hK hR hS (c_X1_isForsaken hj4 hc5) (ok2 hj4) rfl rfl wd374 wd299 wd300 wd3 wd301 hyX1_isForsaken ⟨rfl, rfl⟩ ⟨Nat.le_of_ble_eq_true rfl, Nat.le_of_ble_eq_true rfl⟩ hl.1 (Nat.le_of_ble_eq_true rfl) dX3_isOrphan_5 ⟨Nat.zero_le _, Nat.zero_le _⟩ rfl (fun hg7 H locs hR hS => ?_)
  obtain ⟨hz8, hF⟩ := xk_some hF
  cases hF
  exact x_zret hx hb hlocks hK hR hS hr hz8 dX3_isOrphan_8
abbrev rmX3_blocksUnder : Room := { frames := 4, cells := 0, slots := 0, locals := 98 }
theorem hyX3_blocksUnder : yX3_blocksUnder.cls = RX3 ∧ yX3_blocksUnder.cls ≠ "java/lang/invoke/MethodHandle" ∧ yX3_blocksUnder.cls ≠ "java/lang/invoke/VarHandle" ∧ (parseMethodDescriptor yX3_blocksUnder.desc).map (fun d => d.parameters.length) = some 1 := by decide +kernel
def F_X3_blocksUnder (M : Mm) (a1 : Int) : Option (Int × Mm) := (xb1 (F_X3_needPower M ) fun _ => (xb1 (F_X3_needNode M a1) fun _ => (xk (M 0 0 0 = 0 ∨ M 0 0 0 = 1) (xb2 (F_X2_blocksWithin M ((M 0 0 0).toNat) a1) fun y6 M7 => (some (y6, M7))))))
set_option maxHeartbeats 4000000 in
set_option maxRecDepth 100000 in
theorem c_X3_blocksUnder {l : Launch} {g : Gx} {b : Nat} {M : Mm} {a1 : Int} {r : Int} {M' : Mm} (ha1 : rg a1) (hF : F_X3_blocksUnder M a1 = some (r, M')) : Ct l yX3_blocksUnder cX3_blocksUnder 2 (some .int) rmX3_blocksUnder g b [.ref (adr b 0 0), .int (jI a1)] M (qI g b r M') := by
  refine ct_of (by decide +kernel) (Nat.le_of_ble_eq_true rfl) ?_
  intro p e s m args below meth c C0 hR ls hl
  obtain ⟨hx, hb, hr, hlocks, hml, hown, hts, hK⟩ := id C0
  have hS : va_S (AA b s.heap.size) s.heap s.heap [] := va_S.rf
  have hl : lv_has ls 2 [(0, .ref (adr b 0 0)), (1, .int (jI a1))] := hl
  obtain ⟨H, hH⟩ : ∃ z, z = s.heap := ⟨_, rfl⟩
  obtain ⟨locs, hlo⟩ : ∃ z : List Loc, z = [] := ⟨_, rfl⟩
  have hR : Rel g b M H := by rw [hH]; exact hR
  have hS : va_S (AA b s.heap.size) s.heap H locs := by rw [hH, hlo]; exact hS
  suffices hW : W p l e rmX3_blocksUnder s m args below meth c H locs 0 0 (MQ below (qI g b r M' s.heap.size) args s 0 0 (AA b s.heap.size)) (F0 m 0 ls []) by rw [hH, hlo] at hW; exact hW
  rw [F_X3_blocksUnder] at hF
  refine lv_aload_n hx hb dX3_blocksUnder_0 rfl (lv_at hl 0 rfl) ?_
  obtain ⟨_, hc1, hF⟩ := xb1_some hF
  refine x_cVv (C := RX3) (T := TX3) (N := 9) (ci := 3) (As := []) (rest := []) hx hb hml hown hts hK hR hS (c_X3_needPower  hc1) ok0 rfl rfl wd170 wd172 ws0 wd1 wd173 hyX3_needPower ⟨rfl, rfl⟩ ⟨Nat.le_of_ble_eq_true rfl, Nat.le_of_ble_eq_true rfl⟩ hl.1 (Nat.le_of_ble_eq_true rfl) dX3_blocksUnder_1 ⟨Nat.zero_le _, Nat.zero_le _⟩ rfl (fun H locs hR hS => ?_)
  refine lv_aload_n hx hb dX3_blocksUnder_4 rfl (lv_at hl 0 rfl) ?_
  refine lv_iload_n hx hb dX3_blocksUnder_5 rfl (lv_at hl 1 rfl) ?_
  obtain ⟨_, hc2, hF⟩ := xb1_some hF
  refine x_cVv (C := RX3) (T := TX3) (N := 9) (ci := 3) (As := [.int (jI a1)]) (rest := []) hx hb hml hown hts hK hR hS (c_X3_needNode ha1 hc2) ok0 rfl rfl wd346 wd348 ws5 wd1 wd349 hyX3_needNode ⟨rfl, rfl⟩ ⟨Nat.le_of_ble_eq_true rfl, Nat.le_of_ble_eq_true rfl⟩ hl.1 (Nat.le_of_ble_eq_true rfl) dX3_blocksUnder_6 ⟨Nat.zero_le _, Nat.zero_le _⟩ rfl (fun H locs hR hS => ?_)
  refine lv_aload_n hx hb dX3_blocksUnder_9 rfl (lv_at hl 0 rfl) ?_
  refine gf_3_0 hx hb hts hown hK hR wd138 dX3_blocksUnder_10 ?_
  obtain ⟨ht3, hF⟩ := xk_some hF
  have hj4 : (M 0 0 0).toNat < 3 := by omega
  refine lv_iload_n hx hb dX3_blocksUnder_13 rfl (lv_at hl 1 rfl) ?_
  obtain ⟨y6, M7, hc5, hF⟩ := xb2_some hF
  refine x_cVi (C := RX2) (T := TX2) (N := 8) (ci := 2) (As := [.int (jI a1)]) (rest := []) hx hb hml hown hts hK hR hS (c_X2_blocksWithin hj4 ha1 hc5) (ok1 hj4) rfl rfl wd506 wd507 wd508 wd2 wd509 hyX2_blocksWithin ⟨rfl, rfl⟩ ⟨Nat.le_of_ble_eq_true rfl, Nat.le_of_ble_eq_true rfl⟩ hl.1 (Nat.le_of_ble_eq_true rfl) dX3_blocksUnder_14 ⟨Nat.zero_le _, Nat.zero_le _⟩ rfl (fun hg8 H locs hR hS => ?_)
  cases hF
  exact x_iret hx hb hlocks hK hR hS hr hg8 dX3_blocksUnder_17
abbrev rmX3_wouldFree : Room := { frames := 4, cells := 0, slots := 0, locals := 99 }
theorem hyX3_wouldFree : yX3_wouldFree.cls = RX3 ∧ yX3_wouldFree.cls ≠ "java/lang/invoke/MethodHandle" ∧ yX3_wouldFree.cls ≠ "java/lang/invoke/VarHandle" ∧ (parseMethodDescriptor yX3_wouldFree.desc).map (fun d => d.parameters.length) = some 1 := by decide +kernel
def F_X3_wouldFree (M : Mm) (a1 : Int) : Option (Int × Mm) := (xb1 (F_X3_needPower M ) fun _ => (xb1 (F_X3_needNode M a1) fun _ => (xk (M 0 0 0 = 0 ∨ M 0 0 0 = 1) (xb2 (F_X2_freedWithout M ((M 0 0 0).toNat) a1) fun y6 M7 => (some (y6, M7))))))
set_option maxHeartbeats 4000000 in
set_option maxRecDepth 100000 in
theorem c_X3_wouldFree {l : Launch} {g : Gx} {b : Nat} {M : Mm} {a1 : Int} {r : Int} {M' : Mm} (ha1 : rg a1) (hF : F_X3_wouldFree M a1 = some (r, M')) : Ct l yX3_wouldFree cX3_wouldFree 2 (some .int) rmX3_wouldFree g b [.ref (adr b 0 0), .int (jI a1)] M (qI g b r M') := by
  refine ct_of (by decide +kernel) (Nat.le_of_ble_eq_true rfl) ?_
  intro p e s m args below meth c C0 hR ls hl
  obtain ⟨hx, hb, hr, hlocks, hml, hown, hts, hK⟩ := id C0
  have hS : va_S (AA b s.heap.size) s.heap s.heap [] := va_S.rf
  have hl : lv_has ls 2 [(0, .ref (adr b 0 0)), (1, .int (jI a1))] := hl
  obtain ⟨H, hH⟩ : ∃ z, z = s.heap := ⟨_, rfl⟩
  obtain ⟨locs, hlo⟩ : ∃ z : List Loc, z = [] := ⟨_, rfl⟩
  have hR : Rel g b M H := by rw [hH]; exact hR
  have hS : va_S (AA b s.heap.size) s.heap H locs := by rw [hH, hlo]; exact hS
  suffices hW : W p l e rmX3_wouldFree s m args below meth c H locs 0 0 (MQ below (qI g b r M' s.heap.size) args s 0 0 (AA b s.heap.size)) (F0 m 0 ls []) by rw [hH, hlo] at hW; exact hW
  rw [F_X3_wouldFree] at hF
  refine lv_aload_n hx hb dX3_wouldFree_0 rfl (lv_at hl 0 rfl) ?_
  obtain ⟨_, hc1, hF⟩ := xb1_some hF
  refine x_cVv (C := RX3) (T := TX3) (N := 9) (ci := 3) (As := []) (rest := []) hx hb hml hown hts hK hR hS (c_X3_needPower  hc1) ok0 rfl rfl wd170 wd172 ws0 wd1 wd173 hyX3_needPower ⟨rfl, rfl⟩ ⟨Nat.le_of_ble_eq_true rfl, Nat.le_of_ble_eq_true rfl⟩ hl.1 (Nat.le_of_ble_eq_true rfl) dX3_wouldFree_1 ⟨Nat.zero_le _, Nat.zero_le _⟩ rfl (fun H locs hR hS => ?_)
  refine lv_aload_n hx hb dX3_wouldFree_4 rfl (lv_at hl 0 rfl) ?_
  refine lv_iload_n hx hb dX3_wouldFree_5 rfl (lv_at hl 1 rfl) ?_
  obtain ⟨_, hc2, hF⟩ := xb1_some hF
  refine x_cVv (C := RX3) (T := TX3) (N := 9) (ci := 3) (As := [.int (jI a1)]) (rest := []) hx hb hml hown hts hK hR hS (c_X3_needNode ha1 hc2) ok0 rfl rfl wd346 wd348 ws5 wd1 wd349 hyX3_needNode ⟨rfl, rfl⟩ ⟨Nat.le_of_ble_eq_true rfl, Nat.le_of_ble_eq_true rfl⟩ hl.1 (Nat.le_of_ble_eq_true rfl) dX3_wouldFree_6 ⟨Nat.zero_le _, Nat.zero_le _⟩ rfl (fun H locs hR hS => ?_)
  refine lv_aload_n hx hb dX3_wouldFree_9 rfl (lv_at hl 0 rfl) ?_
  refine gf_3_0 hx hb hts hown hK hR wd138 dX3_wouldFree_10 ?_
  obtain ⟨ht3, hF⟩ := xk_some hF
  have hj4 : (M 0 0 0).toNat < 3 := by omega
  refine lv_iload_n hx hb dX3_wouldFree_13 rfl (lv_at hl 1 rfl) ?_
  obtain ⟨y6, M7, hc5, hF⟩ := xb2_some hF
  refine x_cVi (C := RX2) (T := TX2) (N := 8) (ci := 2) (As := [.int (jI a1)]) (rest := []) hx hb hml hown hts hK hR hS (c_X2_freedWithout hj4 ha1 hc5) (ok1 hj4) rfl rfl wd533 wd534 wd535 wd2 wd536 hyX2_freedWithout ⟨rfl, rfl⟩ ⟨Nat.le_of_ble_eq_true rfl, Nat.le_of_ble_eq_true rfl⟩ hl.1 (Nat.le_of_ble_eq_true rfl) dX3_wouldFree_14 ⟨Nat.zero_le _, Nat.zero_le _⟩ rfl (fun hg8 H locs hR hS => ?_)
  cases hF
  exact x_iret hx hb hlocks hK hR hS hr hg8 dX3_wouldFree_17
abbrev rmX3_used : Room := { frames := 3, cells := 0, slots := 0, locals := 64 }
theorem hyX3_used : yX3_used.cls = RX3 ∧ yX3_used.cls ≠ "java/lang/invoke/MethodHandle" ∧ yX3_used.cls ≠ "java/lang/invoke/VarHandle" ∧ (parseMethodDescriptor yX3_used.desc).map (fun d => d.parameters.length) = some 0 := by decide +kernel
def F_X3_used (M : Mm) : Option (Int) := (xb1 (F_X3_needPower M ) fun _ => (xk (M 0 0 0 = 0 ∨ M 0 0 0 = 1) (xb1 (F_X2_blocksTaken M ((M 0 0 0).toNat)) fun y5 => (some y5))))
set_option maxHeartbeats 4000000 in
set_option maxRecDepth 100000 in
theorem c_X3_used {l : Launch} {g : Gx} {b : Nat} {M : Mm} {r : Int} (hF : F_X3_used M  = some r) : Ct l yX3_used cX3_used 1 (some .int) rmX3_used g b [.ref (adr b 0 0)] M (qI g b r M) := by
  refine ct_of (by decide +kernel) (Nat.le_of_ble_eq_true rfl) ?_
  intro p e s m args below meth c C0 hR ls hl
  obtain ⟨hx, hb, hr, hlocks, hml, hown, hts, hK⟩ := id C0
  have hS : va_S (AA b s.heap.size) s.heap s.heap [] := va_S.rf
  have hl : lv_has ls 1 [(0, .ref (adr b 0 0))] := hl
  obtain ⟨H, hH⟩ : ∃ z, z = s.heap := ⟨_, rfl⟩
  obtain ⟨locs, hlo⟩ : ∃ z : List Loc, z = [] := ⟨_, rfl⟩
  have hR : Rel g b M H := by rw [hH]; exact hR
  have hS : va_S (AA b s.heap.size) s.heap H locs := by rw [hH, hlo]; exact hS
  suffices hW : W p l e rmX3_used s m args below meth c H locs 0 0 (MQ below (qI g b r M s.heap.size) args s 0 0 (AA b s.heap.size)) (F0 m 0 ls []) by rw [hH, hlo] at hW; exact hW
  rw [F_X3_used] at hF
  refine lv_aload_n hx hb dX3_used_0 rfl (lv_at hl 0 rfl) ?_
  obtain ⟨_, hc1, hF⟩ := xb1_some hF
  refine x_cVv (C := RX3) (T := TX3) (N := 9) (ci := 3) (As := []) (rest := []) hx hb hml hown hts hK hR hS (c_X3_needPower  hc1) ok0 rfl rfl wd170 wd172 ws0 wd1 wd173 hyX3_needPower ⟨rfl, rfl⟩ ⟨Nat.le_of_ble_eq_true rfl, Nat.le_of_ble_eq_true rfl⟩ hl.1 (Nat.le_of_ble_eq_true rfl) dX3_used_1 ⟨Nat.zero_le _, Nat.zero_le _⟩ rfl (fun H locs hR hS => ?_)
  refine lv_aload_n hx hb dX3_used_4 rfl (lv_at hl 0 rfl) ?_
  refine gf_3_0 hx hb hts hown hK hR wd138 dX3_used_5 ?_
  obtain ⟨ht2, hF⟩ := xk_some hF
  have hj3 : (M 0 0 0).toNat < 3 := by omega
  obtain ⟨y5, hc4, hF⟩ := xb1_some hF
  refine x_cVi (C := RX2) (T := TX2) (N := 8) (ci := 2) (As := []) (rest := []) hx hb hml hown hts hK hR hS (c_X2_blocksTaken hj3 hc4) (ok1 hj3) rfl rfl wd404 wd405 wd406 wd2 wd407 hyX2_blocksTaken ⟨rfl, rfl⟩ ⟨Nat.le_of_ble_eq_true rfl, Nat.le_of_ble_eq_true rfl⟩ hl.1 (Nat.le_of_ble_eq_true rfl) dX3_used_8 ⟨Nat.zero_le _, Nat.zero_le _⟩ rfl (fun hg6 H locs hR hS => ?_)
  cases hF
  exact x_iret hx hb hlocks hK hR hS hr hg6 dX3_used_11
abbrev rmX3_usedBy : Room := { frames := 3, cells := 0, slots := 0, locals := 65 }
theorem hyX3_usedBy : yX3_usedBy.cls = RX3 ∧ yX3_usedBy.cls ≠ "java/lang/invoke/MethodHandle" ∧ yX3_usedBy.cls ≠ "java/lang/invoke/VarHandle" ∧ (parseMethodDescriptor yX3_usedBy.desc).map (fun d => d.parameters.length) = some 1 := by decide +kernel
def F_X3_usedBy (M : Mm) (a1 : Int) : Option (Int) := (xb1 (F_X3_needPower M ) fun _ => (xb1 (F_X3_needRange M a1 (0 : Int) (3 : Int)) fun _ => (xk (M 0 0 0 = 0 ∨ M 0 0 0 = 1) (xb1 (F_X2_takenBy M ((M 0 0 0).toNat) a1) fun y6 => (some y6)))))
set_option maxHeartbeats 4000000 in
set_option maxRecDepth 100000 in
theorem c_X3_usedBy {l : Launch} {g : Gx} {b : Nat} {M : Mm} {a1 : Int} {r : Int} (ha1 : rg a1) (hF : F_X3_usedBy M a1 = some r) : Ct l yX3_usedBy cX3_usedBy 2 (some .int) rmX3_usedBy g b [.ref (adr b 0 0), .int (jI a1)] M (qI g b r M) := by
  refine ct_of (by decide +kernel) (Nat.le_of_ble_eq_true rfl) ?_
  intro p e s m args below meth c C0 hR ls hl
  obtain ⟨hx, hb, hr, hlocks, hml, hown, hts, hK⟩ := id C0
  have hS : va_S (AA b s.heap.size) s.heap s.heap [] := va_S.rf
  have hl : lv_has ls 2 [(0, .ref (adr b 0 0)), (1, .int (jI a1))] := hl
  obtain ⟨H, hH⟩ : ∃ z, z = s.heap := ⟨_, rfl⟩
  obtain ⟨locs, hlo⟩ : ∃ z : List Loc, z = [] := ⟨_, rfl⟩
  have hR : Rel g b M H := by rw [hH]; exact hR
  have hS : va_S (AA b s.heap.size) s.heap H locs := by rw [hH, hlo]; exact hS
  suffices hW : W p l e rmX3_usedBy s m args below meth c H locs 0 0 (MQ below (qI g b r M s.heap.size) args s 0 0 (AA b s.heap.size)) (F0 m 0 ls []) by rw [hH, hlo] at hW; exact hW
  rw [F_X3_usedBy] at hF
  refine lv_aload_n hx hb dX3_usedBy_0 rfl (lv_at hl 0 rfl) ?_
  obtain ⟨_, hc1, hF⟩ := xb1_some hF
  refine x_cVv (C := RX3) (T := TX3) (N := 9) (ci := 3) (As := []) (rest := []) hx hb hml hown hts hK hR hS (c_X3_needPower  hc1) ok0 rfl rfl wd170 wd172 ws0 wd1 wd173 hyX3_needPower ⟨rfl, rfl⟩ ⟨Nat.le_of_ble_eq_true rfl, Nat.le_of_ble_eq_true rfl⟩ hl.1 (Nat.le_of_ble_eq_true rfl) dX3_usedBy_1 ⟨Nat.zero_le _, Nat.zero_le _⟩ rfl (fun H locs hR hS => ?_)
  refine lv_aload_n hx hb dX3_usedBy_4 rfl (lv_at hl 0 rfl) ?_
  refine lv_iload_n hx hb dX3_usedBy_5 rfl (lv_at hl 1 rfl) ?_
  refine x_iconst hx hb dX3_usedBy_6 ?_
  refine x_iconst hx hb dX3_usedBy_7 ?_
  obtain ⟨_, hc2, hF⟩ := xb1_some hF
  refine x_cVv (C := RX3) (T := TX3) (N := 9) (ci := 3) (As := [.int (jI a1), .int (jI (0 : Int)), .int (jI (3 : Int))]) (rest := []) hx hb hml hown hts hK hR hS (c_X3_needRange ha1 (by decide : rg (0 : Int)) (by decide : rg (3 : Int)) hc2) ok0 rfl rfl wd419 wd421 ws6 wd1 wd422 hyX3_needRange ⟨rfl, rfl⟩ ⟨Nat.le_of_ble_eq_true rfl, Nat.le_of_ble_eq_true rfl⟩ hl.1 (Nat.le_of_ble_eq_true rfl) dX3_usedBy_8 ⟨Nat.zero_le _, Nat.zero_le _⟩ rfl (fun H locs hR hS => ?_)
  refine lv_aload_n hx hb dX3_usedBy_11 rfl (lv_at hl 0 rfl) ?_
  refine gf_3_0 hx hb hts hown hK hR wd138 dX3_usedBy_12 ?_
  obtain ⟨ht3, hF⟩ := xk_some hF
  have hj4 : (M 0 0 0).toNat < 3 := by omega
  refine lv_iload_n hx hb dX3_usedBy_15 rfl (lv_at hl 1 rfl) ?_
  obtain ⟨y6, hc5, hF⟩ := xb1_some hF
  refine x_cVi (C := RX2) (T := TX2) (N := 8) (ci := 2) (As := [.int (jI a1)]) (rest := []) hx hb hml hown hts hK hR hS (c_X2_takenBy hj4 ha1 hc5) (ok1 hj4) rfl rfl wd439 wd440 wd441 wd2 wd442 hyX2_takenBy ⟨rfl, rfl⟩ ⟨Nat.le_of_ble_eq_true rfl, Nat.le_of_ble_eq_true rfl⟩ hl.1 (Nat.le_of_ble_eq_true rfl) dX3_usedBy_16 ⟨Nat.zero_le _, Nat.zero_le _⟩ rfl (fun hg7 H locs hR hS => ?_)
  cases hF
  exact x_iret hx hb hlocks hK hR hS hr hg7 dX3_usedBy_19
abbrev rmX3_quotaOf : Room := { frames := 1, cells := 0, slots := 0, locals := 23 }
theorem hyX3_quotaOf : yX3_quotaOf.cls = RX3 ∧ yX3_quotaOf.cls ≠ "java/lang/invoke/MethodHandle" ∧ yX3_quotaOf.cls ≠ "java/lang/invoke/VarHandle" ∧ (parseMethodDescriptor yX3_quotaOf.desc).map (fun d => d.parameters.length) = some 1 := by decide +kernel
def F_X3_quotaOf (M : Mm) (a1 : Int) : Option (Int) := (xb1 (F_X3_needPower M ) fun _ => (xb1 (F_X3_needRange M a1 (0 : Int) (3 : Int)) fun _ => (xk (M 0 0 0 = 0 ∨ M 0 0 0 = 1) (xb1 (F_X2_limitOf M ((M 0 0 0).toNat) a1) fun y6 => (some y6)))))
set_option maxHeartbeats 4000000 in
set_option maxRecDepth 100000 in
theorem c_X3_quotaOf {l : Launch} {g : Gx} {b : Nat} {M : Mm} {a1 : Int} {r : Int} (ha1 : rg a1) (hF : F_X3_quotaOf M a1 = some r) : Ct l yX3_quotaOf cX3_quotaOf 2 (some .int) rmX3_quotaOf g b [.ref (adr b 0 0), .int (jI a1)] M (qI g b r M) := by
  refine ct_of (by decide +kernel) (Nat.le_of_ble_eq_true rfl) ?_
  intro p e s m args below meth c C0 hR ls hl
  obtain ⟨hx, hb, hr, hlocks, hml, hown, hts, hK⟩ := id C0
  have hS : va_S (AA b s.heap.size) s.heap s.heap [] := va_S.rf
  have hl : lv_has ls 2 [(0, .ref (adr b 0 0)), (1, .int (jI a1))] := hl
  obtain ⟨H, hH⟩ : ∃ z, z = s.heap := ⟨_, rfl⟩
  obtain ⟨locs, hlo⟩ : ∃ z : List Loc, z = [] := ⟨_, rfl⟩
  have hR : Rel g b M H := by rw [hH]; exact hR
  have hS : va_S (AA b s.heap.size) s.heap H locs := by rw [hH, hlo]; exact hS
  suffices hW : W p l e rmX3_quotaOf s m args below meth c H locs 0 0 (MQ below (qI g b r M s.heap.size) args s 0 0 (AA b s.heap.size)) (F0 m 0 ls []) by rw [hH, hlo] at hW; exact hW
  rw [F_X3_quotaOf] at hF
  refine lv_aload_n hx hb dX3_quotaOf_0 rfl (lv_at hl 0 rfl) ?_
  obtain ⟨_, hc1, hF⟩ := xb1_some hF
  refine x_cVv (C := RX3) (T := TX3) (N := 9) (ci := 3) (As := []) (rest := []) hx hb hml hown hts hK hR hS (c_X3_needPower  hc1) ok0 rfl rfl wd170 wd172 ws0 wd1 wd173 hyX3_needPower ⟨rfl, rfl⟩ ⟨Nat.le_of_ble_eq_true rfl, Nat.le_of_ble_eq_true rfl⟩ hl.1 (Nat.le_of_ble_eq_true rfl) dX3_quotaOf_1 ⟨Nat.zero_le _, Nat.zero_le _⟩ rfl (fun H locs hR hS => ?_)
  refine lv_aload_n hx hb dX3_quotaOf_4 rfl (lv_at hl 0 rfl) ?_
  refine lv_iload_n hx hb dX3_quotaOf_5 rfl (lv_at hl 1 rfl) ?_
  refine x_iconst hx hb dX3_quotaOf_6 ?_
  refine x_iconst hx hb dX3_quotaOf_7 ?_
  obtain ⟨_, hc2, hF⟩ := xb1_some hF
  refine x_cVv (C := RX3) (T := TX3) (N := 9) (ci := 3) (As := [.int (jI a1), .int (jI (0 : Int)), .int (jI (3 : Int))]) (rest := []) hx hb hml hown hts hK hR hS (c_X3_needRange ha1 (by decide : rg (0 : Int)) (by decide : rg (3 : Int)) hc2) ok0 rfl rfl wd419 wd421 ws6 wd1 wd422 hyX3_needRange ⟨rfl, rfl⟩ ⟨Nat.le_of_ble_eq_true rfl, Nat.le_of_ble_eq_true rfl⟩ hl.1 (Nat.le_of_ble_eq_true rfl) dX3_quotaOf_8 ⟨Nat.zero_le _, Nat.zero_le _⟩ rfl (fun H locs hR hS => ?_)
  refine lv_aload_n hx hb dX3_quotaOf_11 rfl (lv_at hl 0 rfl) ?_
  refine gf_3_0 hx hb hts hown hK hR wd138 dX3_quotaOf_12 ?_
  obtain ⟨ht3, hF⟩ := xk_some hF
  have hj4 : (M 0 0 0).toNat < 3 := by omega
  refine lv_iload_n hx hb dX3_quotaOf_15 rfl (lv_at hl 1 rfl) ?_
  obtain ⟨y6, hc5, hF⟩ := xb1_some hF
  refine x_cVi (C := RX2) (T := TX2) (N := 8) (ci := 2) (As := [.int (jI a1)]) (rest := []) hx hb hml hown hts hK hR hS (c_X2_limitOf hj4 ha1 hc5) (ok1 hj4) rfl rfl wd447 wd448 wd449 wd2 wd450 hyX2_limitOf ⟨rfl, rfl⟩ ⟨Nat.le_of_ble_eq_true rfl, Nat.le_of_ble_eq_true rfl⟩ hl.1 (Nat.le_of_ble_eq_true rfl) dX3_quotaOf_16 ⟨Nat.zero_le _, Nat.zero_le _⟩ rfl (fun hg7 H locs hR hS => ?_)
  cases hF
  exact x_iret hx hb hlocks hK hR hS hr hg7 dX3_quotaOf_19
abbrev rmX3_greatestFile : Room := { frames := 3, cells := 0, slots := 0, locals := 65 }
theorem hyX3_greatestFile : yX3_greatestFile.cls = RX3 ∧ yX3_greatestFile.cls ≠ "java/lang/invoke/MethodHandle" ∧ yX3_greatestFile.cls ≠ "java/lang/invoke/VarHandle" ∧ (parseMethodDescriptor yX3_greatestFile.desc).map (fun d => d.parameters.length) = some 0 := by decide +kernel
def F_X3_greatestFile (M : Mm) : Option (Int) := (xb1 (F_X3_needPower M ) fun _ => (xk (M 0 0 0 = 0 ∨ M 0 0 0 = 1) (xb1 (F_X2_greatest M ((M 0 0 0).toNat)) fun y5 => (some y5))))
set_option maxHeartbeats 4000000 in
set_option maxRecDepth 100000 in
theorem c_X3_greatestFile {l : Launch} {g : Gx} {b : Nat} {M : Mm} {r : Int} (hF : F_X3_greatestFile M  = some r) : Ct l yX3_greatestFile cX3_greatestFile 1 (some .int) rmX3_greatestFile g b [.ref (adr b 0 0)] M (qI g b r M) := by
  refine ct_of (by decide +kernel) (Nat.le_of_ble_eq_true rfl) ?_
  intro p e s m args below meth c C0 hR ls hl
  obtain ⟨hx, hb, hr, hlocks, hml, hown, hts, hK⟩ := id C0
  have hS : va_S (AA b s.heap.size) s.heap s.heap [] := va_S.rf
  have hl : lv_has ls 1 [(0, .ref (adr b 0 0))] := hl
  obtain ⟨H, hH⟩ : ∃ z, z = s.heap := ⟨_, rfl⟩
  obtain ⟨locs, hlo⟩ : ∃ z : List Loc, z = [] := ⟨_, rfl⟩
  have hR : Rel g b M H := by rw [hH]; exact hR
  have hS : va_S (AA b s.heap.size) s.heap H locs := by rw [hH, hlo]; exact hS
  suffices hW : W p l e rmX3_greatestFile s m args below meth c H locs 0 0 (MQ below (qI g b r M s.heap.size) args s 0 0 (AA b s.heap.size)) (F0 m 0 ls []) by rw [hH, hlo] at hW; exact hW
  rw [F_X3_greatestFile] at hF
  refine lv_aload_n hx hb dX3_greatestFile_0 rfl (lv_at hl 0 rfl) ?_
  obtain ⟨_, hc1, hF⟩ := xb1_some hF
  refine x_cVv (C := RX3) (T := TX3) (N := 9) (ci := 3) (As := []) (rest := []) hx hb hml hown hts hK hR hS (c_X3_needPower  hc1) ok0 rfl rfl wd170 wd172 ws0 wd1 wd173 hyX3_needPower ⟨rfl, rfl⟩ ⟨Nat.le_of_ble_eq_true rfl, Nat.le_of_ble_eq_true rfl⟩ hl.1 (Nat.le_of_ble_eq_true rfl) dX3_greatestFile_1 ⟨Nat.zero_le _, Nat.zero_le _⟩ rfl (fun H locs hR hS => ?_)
  refine lv_aload_n hx hb dX3_greatestFile_4 rfl (lv_at hl 0 rfl) ?_
  refine gf_3_0 hx hb hts hown hK hR wd138 dX3_greatestFile_5 ?_
  obtain ⟨ht2, hF⟩ := xk_some hF
  have hj3 : (M 0 0 0).toNat < 3 := by omega
  obtain ⟨y5, hc4, hF⟩ := xb1_some hF
  refine x_cVi (C := RX2) (T := TX2) (N := 8) (ci := 2) (As := []) (rest := []) hx hb hml hown hts hK hR hS (c_X2_greatest hj3 hc4) (ok1 hj3) rfl rfl wd455 wd456 wd457 wd2 wd458 hyX2_greatest ⟨rfl, rfl⟩ ⟨Nat.le_of_ble_eq_true rfl, Nat.le_of_ble_eq_true rfl⟩ hl.1 (Nat.le_of_ble_eq_true rfl) dX3_greatestFile_8 ⟨Nat.zero_le _, Nat.zero_le _⟩ rfl (fun hg6 H locs hR hS => ?_)
  cases hF
  exact x_iret hx hb hlocks hK hR hS hr hg6 dX3_greatestFile_11
abbrev rmX3_flaws : Room := { frames := 1, cells := 0, slots := 0, locals := 20 }
theorem hyX3_flaws : yX3_flaws.cls = RX3 ∧ yX3_flaws.cls ≠ "java/lang/invoke/MethodHandle" ∧ yX3_flaws.cls ≠ "java/lang/invoke/VarHandle" ∧ (parseMethodDescriptor yX3_flaws.desc).map (fun d => d.parameters.length) = some 0 := by decide +kernel
def F_X3_flaws (M : Mm) : Option (Int) := (xb1 (F_X3_needPower M ) fun _ => (some (0 : Int)))
set_option maxHeartbeats 4000000 in
set_option maxRecDepth 100000 in
theorem c_X3_flaws {l : Launch} {g : Gx} {b : Nat} {M : Mm} {r : Int} (hF : F_X3_flaws M  = some r) : Ct l yX3_flaws cX3_flaws 1 (some .int) rmX3_flaws g b [.ref (adr b 0 0)] M (qI g b r M) := by
  refine ct_of (by decide +kernel) (Nat.le_of_ble_eq_true rfl) ?_
  intro p e s m args below meth c C0 hR ls hl
  obtain ⟨hx, hb, hr, hlocks, hml, hown, hts, hK⟩ := id C0
  have hS : va_S (AA b s.heap.size) s.heap s.heap [] := va_S.rf
  have hl : lv_has ls 1 [(0, .ref (adr b 0 0))] := hl
  obtain ⟨H, hH⟩ : ∃ z, z = s.heap := ⟨_, rfl⟩
  obtain ⟨locs, hlo⟩ : ∃ z : List Loc, z = [] := ⟨_, rfl⟩
  have hR : Rel g b M H := by rw [hH]; exact hR
  have hS : va_S (AA b s.heap.size) s.heap H locs := by rw [hH, hlo]; exact hS
  suffices hW : W p l e rmX3_flaws s m args below meth c H locs 0 0 (MQ below (qI g b r M s.heap.size) args s 0 0 (AA b s.heap.size)) (F0 m 0 ls []) by rw [hH, hlo] at hW; exact hW
  rw [F_X3_flaws] at hF
  refine lv_aload_n hx hb dX3_flaws_0 rfl (lv_at hl 0 rfl) ?_
  obtain ⟨_, hc1, hF⟩ := xb1_some hF
  refine x_cVv (C := RX3) (T := TX3) (N := 9) (ci := 3) (As := []) (rest := []) hx hb hml hown hts hK hR hS (c_X3_needPower  hc1) ok0 rfl rfl wd170 wd172 ws0 wd1 wd173 hyX3_needPower ⟨rfl, rfl⟩ ⟨Nat.le_of_ble_eq_true rfl, Nat.le_of_ble_eq_true rfl⟩ hl.1 (Nat.le_of_ble_eq_true rfl) dX3_flaws_1 ⟨Nat.zero_le _, Nat.zero_le _⟩ rfl (fun H locs hR hS => ?_)
  refine x_iconst hx hb dX3_flaws_4 ?_
  cases hF
  exact x_iret hx hb hlocks hK hR hS hr (by decide : rg (0 : Int)) dX3_flaws_5
abbrev rmX3_digestNode : Room := { frames := 5, cells := 0, slots := 0, locals := 120 }
theorem hyX3_digestNode : yX3_digestNode.cls = RX3 ∧ yX3_digestNode.cls ≠ "java/lang/invoke/MethodHandle" ∧ yX3_digestNode.cls ≠ "java/lang/invoke/VarHandle" ∧ (parseMethodDescriptor yX3_digestNode.desc).map (fun d => d.parameters.length) = some 2 := by decide +kernel
def F_X3_digestNode (M : Mm) (a1 : Int64) (a2 : Int) : Option (Int64 × Mm) := (xb1 (F_X3_typeOf M a2) fun y2 => (xb1 (F_X3_linksOf M a2) fun y5 => (xb1 (F_X3_ownerOf M a2) fun y8 => (xb1 (F_X3_sizeOf M a2) fun y11 => (xb1 (F_X3_blocksOf M a2) fun y14 => (xb1 (F_X3_sharedOf M a2) fun y17 => (xb1 (F_X3_parentOf M a2) fun y20 => (xb1 (F_X3_depthOf M a2) fun y23 => (xb2 (F_X3_blocksUnder M a2) fun y26 M27 => (xb2 (F_X3_wouldFree M27 a2) fun y30 M31 => (some (((((((((((((((((((((((a1 * (31 : Int64)) + ((jI a2).toInt64)) * (31 : Int64)) + ((jI y2).toInt64)) * (31 : Int64)) + ((jI y5).toInt64)) * (31 : Int64)) + ((jI y8).toInt64)) * (31 : Int64)) + ((jI y11).toInt64)) * (31 : Int64)) + ((jI y14).toInt64)) * (31 : Int64)) + ((jI y17).toInt64)) * (31 : Int64)) + ((jI y20).toInt64)) * (31 : Int64)) + ((jI y23).toInt64)) * (31 : Int64)) + ((jI y26).toInt64)) * (31 : Int64)) + ((jI y30).toInt64)), M31))))))))))))
set_option maxHeartbeats 4000000 in
set_option maxRecDepth 100000 in
theorem c_X3_digestNode {l : Launch} {g : Gx} {b : Nat} {M : Mm} {a1 : Int64} {a2 : Int} {r : Int64} {M' : Mm} (ha2 : rg a2) (hF : F_X3_digestNode M a1 a2 = some (r, M')) : Ct l yX3_digestNode cX3_digestNode 6 (some .long) rmX3_digestNode g b [.ref (adr b 0 0), .long a1, .int (jI a2)] M (qL g b r M') := by
  refine ct_of (by decide +kernel) (Nat.le_of_ble_eq_true rfl) ?_
  intro p e s m args below meth c C0 hR ls hl
  obtain ⟨hx, hb, hr, hlocks, hml, hown, hts, hK⟩ := id C0
  have hS : va_S (AA b s.heap.size) s.heap s.heap [] := va_S.rf
  have hl : lv_has ls 6 [(0, .ref (adr b 0 0)), (1, .long a1), (3, .int (jI a2))] := hl
  obtain ⟨H, hH⟩ : ∃ z, z = s.heap := ⟨_, rfl⟩
  obtain ⟨locs, hlo⟩ : ∃ z : List Loc, z = [] := ⟨_, rfl⟩
  have hR : Rel g b M H := by rw [hH]; exact hR
  have hS : va_S (AA b s.heap.size) s.heap H locs := by rw [hH, hlo]; exact hS
  suffices hW : W p l e rmX3_digestNode s m args below meth c H locs 0 0 (MQ below (qL g b r M' s.heap.size) args s 0 0 (AA b s.heap.size)) (F0 m 0 ls []) by rw [hH, hlo] at hW; exact hW
  rw [F_X3_digestNode] at hF
  refine lv_lload_n hx hb dX3_digestNode_0 rfl (lv_at hl 1 rfl) ?_
  refine lv_ldc2 (v := (31 : Int64)) hx hb hown (hts _ wd384) dX3_digestNode_1 ?_
  refine lv_lmul hx hb dX3_digestNode_4 ?_
  refine lv_iload_n hx hb dX3_digestNode_5 rfl (lv_at hl 2 rfl) ?_
  refine lv_i2l (v := ((jI a2).toInt64)) hx hb dX3_digestNode_6 rfl ?_
  refine lv_ladd hx hb dX3_digestNode_7 ?_
  refine lv_lstore (lv' := [(4, .long ((a1 * (31 : Int64)) + ((jI a2).toInt64))), (0, .ref (adr b 0 0)), (1, .long a1), (3, .int (jI a2))]) hx hb dX3_digestNode_8 hl (by decide) rfl (fun ls hl => ?_)
  refine lv_lload hx hb dX3_digestNode_10 (lv_at hl 0 rfl) ?_
  refine lv_ldc2 (v := (31 : Int64)) hx hb hown (hts _ wd384) dX3_digestNode_12 ?_
  refine lv_lmul hx hb dX3_digestNode_15 ?_
  refine lv_aload_n hx hb dX3_digestNode_16 rfl (lv_at hl 1 rfl) ?_
  refine lv_iload_n hx hb dX3_digestNode_17 rfl (lv_at hl 3 rfl) ?_
  obtain ⟨y2, hc1, hF⟩ := xb1_some hF
  refine x_cVi (C := RX3) (T := TX3) (N := 9) (ci := 3) (As := [.int (jI a2)]) (rest := [.long (((a1 * (31 : Int64)) + ((jI a2).toInt64)) * (31 : Int64))]) hx hb hml hown hts hK hR hS (c_X3_typeOf ha2 hc1) ok0 rfl rfl wd463 wd334 wd335 wd1 wd336 hyX3_typeOf ⟨rfl, rfl⟩ ⟨Nat.le_of_ble_eq_true rfl, Nat.le_of_ble_eq_true rfl⟩ hl.1 (Nat.le_of_ble_eq_true rfl) dX3_digestNode_18 ⟨Nat.zero_le _, Nat.zero_le _⟩ rfl (fun hg3 H locs hR hS => ?_)
  refine lv_i2l (v := ((jI y2).toInt64)) hx hb dX3_digestNode_21 rfl ?_
  refine lv_ladd hx hb dX3_digestNode_22 ?_
  refine lv_lstore (lv' := [(4, .long ((((a1 * (31 : Int64)) + ((jI a2).toInt64)) * (31 : Int64)) + ((jI y2).toInt64))), (0, .ref (adr b 0 0)), (1, .long a1), (3, .int (jI a2))]) hx hb dX3_digestNode_23 hl (by decide) rfl (fun ls hl => ?_)
  refine lv_lload hx hb dX3_digestNode_25 (lv_at hl 0 rfl) ?_
  refine lv_ldc2 (v := (31 : Int64)) hx hb hown (hts _ wd384) dX3_digestNode_27 ?_
  refine lv_lmul hx hb dX3_digestNode_30 ?_
  refine lv_aload_n hx hb dX3_digestNode_31 rfl (lv_at hl 1 rfl) ?_
  refine lv_iload_n hx hb dX3_digestNode_32 rfl (lv_at hl 3 rfl) ?_
  obtain ⟨y5, hc4, hF⟩ := xb1_some hF
  refine x_cVi (C := RX3) (T := TX3) (N := 9) (ci := 3) (As := [.int (jI a2)]) (rest := [.long (((((a1 * (31 : Int64)) + ((jI a2).toInt64)) * (31 : Int64)) + ((jI y2).toInt64)) * (31 : Int64))]) hx hb hml hown hts hK hR hS (c_X3_linksOf ha2 hc4) ok0 rfl rfl wd464 wd465 wd466 wd1 wd467 hyX3_linksOf ⟨rfl, rfl⟩ ⟨Nat.le_of_ble_eq_true rfl, Nat.le_of_ble_eq_true rfl⟩ hl.1 (Nat.le_of_ble_eq_true rfl) dX3_digestNode_33 ⟨Nat.zero_le _, Nat.zero_le _⟩ rfl (fun hg6 H locs hR hS => ?_)
  refine lv_i2l (v := ((jI y5).toInt64)) hx hb dX3_digestNode_36 rfl ?_
  refine lv_ladd hx hb dX3_digestNode_37 ?_
  refine lv_lstore (lv' := [(4, .long ((((((a1 * (31 : Int64)) + ((jI a2).toInt64)) * (31 : Int64)) + ((jI y2).toInt64)) * (31 : Int64)) + ((jI y5).toInt64))), (0, .ref (adr b 0 0)), (1, .long a1), (3, .int (jI a2))]) hx hb dX3_digestNode_38 hl (by decide) rfl (fun ls hl => ?_)
  refine lv_lload hx hb dX3_digestNode_40 (lv_at hl 0 rfl) ?_
  refine lv_ldc2 (v := (31 : Int64)) hx hb hown (hts _ wd384) dX3_digestNode_42 ?_
  refine lv_lmul hx hb dX3_digestNode_45 ?_
  refine lv_aload_n hx hb dX3_digestNode_46 rfl (lv_at hl 1 rfl) ?_
  refine lv_iload_n hx hb dX3_digestNode_47 rfl (lv_at hl 3 rfl) ?_
  obtain ⟨y8, hc7, hF⟩ := xb1_some hF
  refine x_cVi (C := RX3) (T := TX3) (N := 9) (ci := 3) (As := [.int (jI a2)]) (rest := [.long (((((((a1 * (31 : Int64)) + ((jI a2).toInt64)) * (31 : Int64)) + ((jI y2).toInt64)) * (31 : Int64)) + ((jI y5).toInt64)) * (31 : Int64))]) hx hb hml hown hts hK hR hS (c_X3_ownerOf ha2 hc7) ok0 rfl rfl wd468 wd469 wd470 wd1 wd471 hyX3_ownerOf ⟨rfl, rfl⟩ ⟨Nat.le_of_ble_eq_true rfl, Nat.le_of_ble_eq_true rfl⟩ hl.1 (Nat.le_of_ble_eq_true rfl) dX3_digestNode_48 ⟨Nat.zero_le _, Nat.zero_le _⟩ rfl (fun hg9 H locs hR hS => ?_)
  refine lv_i2l (v := ((jI y8).toInt64)) hx hb dX3_digestNode_51 rfl ?_
  refine lv_ladd hx hb dX3_digestNode_52 ?_
  refine lv_lstore (lv' := [(4, .long ((((((((a1 * (31 : Int64)) + ((jI a2).toInt64)) * (31 : Int64)) + ((jI y2).toInt64)) * (31 : Int64)) + ((jI y5).toInt64)) * (31 : Int64)) + ((jI y8).toInt64))), (0, .ref (adr b 0 0)), (1, .long a1), (3, .int (jI a2))]) hx hb dX3_digestNode_53 hl (by decide) rfl (fun ls hl => ?_)
  refine lv_lload hx hb dX3_digestNode_55 (lv_at hl 0 rfl) ?_
  refine lv_ldc2 (v := (31 : Int64)) hx hb hown (hts _ wd384) dX3_digestNode_57 ?_
  refine lv_lmul hx hb dX3_digestNode_60 ?_
  refine lv_aload_n hx hb dX3_digestNode_61 rfl (lv_at hl 1 rfl) ?_
  refine lv_iload_n hx hb dX3_digestNode_62 rfl (lv_at hl 3 rfl) ?_
  obtain ⟨y11, hc10, hF⟩ := xb1_some hF
  refine x_cVi (C := RX3) (T := TX3) (N := 9) (ci := 3) (As := [.int (jI a2)]) (rest := [.long (((((((((a1 * (31 : Int64)) + ((jI a2).toInt64)) * (31 : Int64)) + ((jI y2).toInt64)) * (31 : Int64)) + ((jI y5).toInt64)) * (31 : Int64)) + ((jI y8).toInt64)) * (31 : Int64))]) hx hb hml hown hts hK hR hS (c_X3_sizeOf ha2 hc10) ok0 rfl rfl wd472 wd339 wd340 wd1 wd341 hyX3_sizeOf ⟨rfl, rfl⟩ ⟨Nat.le_of_ble_eq_true rfl, Nat.le_of_ble_eq_true rfl⟩ hl.1 (Nat.le_of_ble_eq_true rfl) dX3_digestNode_63 ⟨Nat.zero_le _, Nat.zero_le _⟩ rfl (fun hg12 H locs hR hS => ?_)
  refine lv_i2l (v := ((jI y11).toInt64)) hx hb dX3_digestNode_66 rfl ?_
  refine lv_ladd hx hb dX3_digestNode_67 ?_
  refine lv_lstore (lv' := [(4, .long ((((((((((a1 * (31 : Int64)) + ((jI a2).toInt64)) * (31 : Int64)) + ((jI y2).toInt64)) * (31 : Int64)) + ((jI y5).toInt64)) * (31 : Int64)) + ((jI y8).toInt64)) * (31 : Int64)) + ((jI y11).toInt64))), (0, .ref (adr b 0 0)), (1, .long a1), (3, .int (jI a2))]) hx hb dX3_digestNode_68 hl (by decide) rfl (fun ls hl => ?_)
  refine lv_lload hx hb dX3_digestNode_70 (lv_at hl 0 rfl) ?_
  refine lv_ldc2 (v := (31 : Int64)) hx hb hown (hts _ wd384) dX3_digestNode_72 ?_
  refine lv_lmul hx hb dX3_digestNode_75 ?_
  refine lv_aload_n hx hb dX3_digestNode_76 rfl (lv_at hl 1 rfl) ?_
  refine lv_iload_n hx hb dX3_digestNode_77 rfl (lv_at hl 3 rfl) ?_
  obtain ⟨y14, hc13, hF⟩ := xb1_some hF
  refine x_cVi (C := RX3) (T := TX3) (N := 9) (ci := 3) (As := [.int (jI a2)]) (rest := [.long (((((((((((a1 * (31 : Int64)) + ((jI a2).toInt64)) * (31 : Int64)) + ((jI y2).toInt64)) * (31 : Int64)) + ((jI y5).toInt64)) * (31 : Int64)) + ((jI y8).toInt64)) * (31 : Int64)) + ((jI y11).toInt64)) * (31 : Int64))]) hx hb hml hown hts hK hR hS (c_X3_blocksOf ha2 hc13) ok0 rfl rfl wd473 wd474 wd475 wd1 wd476 hyX3_blocksOf ⟨rfl, rfl⟩ ⟨Nat.le_of_ble_eq_true rfl, Nat.le_of_ble_eq_true rfl⟩ hl.1 (Nat.le_of_ble_eq_true rfl) dX3_digestNode_78 ⟨Nat.zero_le _, Nat.zero_le _⟩ rfl (fun hg15 H locs hR hS => ?_)
  refine lv_i2l (v := ((jI y14).toInt64)) hx hb dX3_digestNode_81 rfl ?_
  refine lv_ladd hx hb dX3_digestNode_82 ?_
  refine lv_lstore (lv' := [(4, .long ((((((((((((a1 * (31 : Int64)) + ((jI a2).toInt64)) * (31 : Int64)) + ((jI y2).toInt64)) * (31 : Int64)) + ((jI y5).toInt64)) * (31 : Int64)) + ((jI y8).toInt64)) * (31 : Int64)) + ((jI y11).toInt64)) * (31 : Int64)) + ((jI y14).toInt64))), (0, .ref (adr b 0 0)), (1, .long a1), (3, .int (jI a2))]) hx hb dX3_digestNode_83 hl (by decide) rfl (fun ls hl => ?_)
  refine lv_lload hx hb dX3_digestNode_85 (lv_at hl 0 rfl) ?_
  refine lv_ldc2 (v := (31 : Int64)) hx hb hown (hts _ wd384) dX3_digestNode_87 ?_
  refine lv_lmul hx hb dX3_digestNode_90 ?_
  refine lv_aload_n hx hb dX3_digestNode_91 rfl (lv_at hl 1 rfl) ?_
  refine lv_iload_n hx hb dX3_digestNode_92 rfl (lv_at hl 3 rfl) ?_
  obtain ⟨y17, hc16, hF⟩ := xb1_some hF
  refine x_cVi (C := RX3) (T := TX3) (N := 9) (ci := 3) (As := [.int (jI a2)]) (rest := [.long (((((((((((((a1 * (31 : Int64)) + ((jI a2).toInt64)) * (31 : Int64)) + ((jI y2).toInt64)) * (31 : Int64)) + ((jI y5).toInt64)) * (31 : Int64)) + ((jI y8).toInt64)) * (31 : Int64)) + ((jI y11).toInt64)) * (31 : Int64)) + ((jI y14).toInt64)) * (31 : Int64))]) hx hb hml hown hts hK hR hS (c_X3_sharedOf ha2 hc16) ok0 rfl rfl wd478 wd479 wd480 wd1 wd481 hyX3_sharedOf ⟨rfl, rfl⟩ ⟨Nat.le_of_ble_eq_true rfl, Nat.le_of_ble_eq_true rfl⟩ hl.1 (Nat.le_of_ble_eq_true rfl) dX3_digestNode_93 ⟨Nat.zero_le _, Nat.zero_le _⟩ rfl (fun hg18 H locs hR hS => ?_)
  refine lv_i2l (v := ((jI y17).toInt64)) hx hb dX3_digestNode_96 rfl ?_
  refine lv_ladd hx hb dX3_digestNode_97 ?_
  refine lv_lstore (lv' := [(4, .long ((((((((((((((a1 * (31 : Int64)) + ((jI a2).toInt64)) * (31 : Int64)) + ((jI y2).toInt64)) * (31 : Int64)) + ((jI y5).toInt64)) * (31 : Int64)) + ((jI y8).toInt64)) * (31 : Int64)) + ((jI y11).toInt64)) * (31 : Int64)) + ((jI y14).toInt64)) * (31 : Int64)) + ((jI y17).toInt64))), (0, .ref (adr b 0 0)), (1, .long a1), (3, .int (jI a2))]) hx hb dX3_digestNode_98 hl (by decide) rfl (fun ls hl => ?_)
  refine lv_lload hx hb dX3_digestNode_100 (lv_at hl 0 rfl) ?_
  refine lv_ldc2 (v := (31 : Int64)) hx hb hown (hts _ wd384) dX3_digestNode_102 ?_
  refine lv_lmul hx hb dX3_digestNode_105 ?_
  refine lv_aload_n hx hb dX3_digestNode_106 rfl (lv_at hl 1 rfl) ?_
  refine lv_iload_n hx hb dX3_digestNode_107 rfl (lv_at hl 3 rfl) ?_
  obtain ⟨y20, hc19, hF⟩ := xb1_some hF
  refine x_cVi (C := RX3) (T := TX3) (N := 9) (ci := 3) (As := [.int (jI a2)]) (rest := [.long (((((((((((((((a1 * (31 : Int64)) + ((jI a2).toInt64)) * (31 : Int64)) + ((jI y2).toInt64)) * (31 : Int64)) + ((jI y5).toInt64)) * (31 : Int64)) + ((jI y8).toInt64)) * (31 : Int64)) + ((jI y11).toInt64)) * (31 : Int64)) + ((jI y14).toInt64)) * (31 : Int64)) + ((jI y17).toInt64)) * (31 : Int64))]) hx hb hml hown hts hK hR hS (c_X3_parentOf ha2 hc19) ok0 rfl rfl wd490 wd491 wd492 wd1 wd493 hyX3_parentOf ⟨rfl, rfl⟩ ⟨Nat.le_of_ble_eq_true rfl, Nat.le_of_ble_eq_true rfl⟩ hl.1 (Nat.le_of_ble_eq_true rfl) dX3_digestNode_108 ⟨Nat.zero_le _, Nat.zero_le _⟩ rfl (fun hg21 H locs hR hS => ?_)
  refine lv_i2l (v := ((jI y20).toInt64)) hx hb dX3_digestNode_111 rfl ?_
  refine lv_ladd hx hb dX3_digestNode_112 ?_
  refine lv_lstore (lv' := [(4, .long ((((((((((((((((a1 * (31 : Int64)) + ((jI a2).toInt64)) * (31 : Int64)) + ((jI y2).toInt64)) * (31 : Int64)) + ((jI y5).toInt64)) * (31 : Int64)) + ((jI y8).toInt64)) * (31 : Int64)) + ((jI y11).toInt64)) * (31 : Int64)) + ((jI y14).toInt64)) * (31 : Int64)) + ((jI y17).toInt64)) * (31 : Int64)) + ((jI y20).toInt64))), (0, .ref (adr b 0 0)), (1, .long a1), (3, .int (jI a2))]) hx hb dX3_digestNode_113 hl (by decide) rfl (fun ls hl => ?_)
  refine lv_lload hx hb dX3_digestNode_115 (lv_at hl 0 rfl) ?_
  refine lv_ldc2 (v := (31 : Int64)) hx hb hown (hts _ wd384) dX3_digestNode_117 ?_
  refine lv_lmul hx hb dX3_digestNode_120 ?_
  refine lv_aload_n hx hb dX3_digestNode_121 rfl (lv_at hl 1 rfl) ?_
  refine lv_iload_n hx hb dX3_digestNode_122 rfl (lv_at hl 3 rfl) ?_
  obtain ⟨y23, hc22, hF⟩ := xb1_some hF
  refine x_cVi (C := RX3) (T := TX3) (N := 9) (ci := 3) (As := [.int (jI a2)]) (rest := [.long (((((((((((((((((a1 * (31 : Int64)) + ((jI a2).toInt64)) * (31 : Int64)) + ((jI y2).toInt64)) * (31 : Int64)) + ((jI y5).toInt64)) * (31 : Int64)) + ((jI y8).toInt64)) * (31 : Int64)) + ((jI y11).toInt64)) * (31 : Int64)) + ((jI y14).toInt64)) * (31 : Int64)) + ((jI y17).toInt64)) * (31 : Int64)) + ((jI y20).toInt64)) * (31 : Int64))]) hx hb hml hown hts hK hR hS (c_X3_depthOf ha2 hc22) ok0 rfl rfl wd494 wd495 wd496 wd1 wd497 hyX3_depthOf ⟨rfl, rfl⟩ ⟨Nat.le_of_ble_eq_true rfl, Nat.le_of_ble_eq_true rfl⟩ hl.1 (Nat.le_of_ble_eq_true rfl) dX3_digestNode_123 ⟨Nat.zero_le _, Nat.zero_le _⟩ rfl (fun hg24 H locs hR hS => ?_)
  refine lv_i2l (v := ((jI y23).toInt64)) hx hb dX3_digestNode_126 rfl ?_
  refine lv_ladd hx hb dX3_digestNode_127 ?_
  refine lv_lstore (lv' := [(4, .long ((((((((((((((((((a1 * (31 : Int64)) + ((jI a2).toInt64)) * (31 : Int64)) + ((jI y2).toInt64)) * (31 : Int64)) + ((jI y5).toInt64)) * (31 : Int64)) + ((jI y8).toInt64)) * (31 : Int64)) + ((jI y11).toInt64)) * (31 : Int64)) + ((jI y14).toInt64)) * (31 : Int64)) + ((jI y17).toInt64)) * (31 : Int64)) + ((jI y20).toInt64)) * (31 : Int64)) + ((jI y23).toInt64))), (0, .ref (adr b 0 0)), (1, .long a1), (3, .int (jI a2))]) hx hb dX3_digestNode_128 hl (by decide) rfl (fun ls hl => ?_)
  refine lv_lload hx hb dX3_digestNode_130 (lv_at hl 0 rfl) ?_
  refine lv_ldc2 (v := (31 : Int64)) hx hb hown (hts _ wd384) dX3_digestNode_132 ?_
  refine lv_lmul hx hb dX3_digestNode_135 ?_
  refine lv_aload_n hx hb dX3_digestNode_136 rfl (lv_at hl 1 rfl) ?_
  refine lv_iload_n hx hb dX3_digestNode_137 rfl (lv_at hl 3 rfl) ?_
  obtain ⟨y26, M27, hc25, hF⟩ := xb2_some hF
  refine x_cVi (C := RX3) (T := TX3) (N := 9) (ci := 3) (As := [.int (jI a2)]) (rest := [.long (((((((((((((((((((a1 * (31 : Int64)) + ((jI a2).toInt64)) * (31 : Int64)) + ((jI y2).toInt64)) * (31 : Int64)) + ((jI y5).toInt64)) * (31 : Int64)) + ((jI y8).toInt64)) * (31 : Int64)) + ((jI y11).toInt64)) * (31 : Int64)) + ((jI y14).toInt64)) * (31 : Int64)) + ((jI y17).toInt64)) * (31 : Int64)) + ((jI y20).toInt64)) * (31 : Int64)) + ((jI y23).toInt64)) * (31 : Int64))]) hx hb hml hown hts hK hR hS (c_X3_blocksUnder ha2 hc25) ok0 rfl rfl wd502 wd503 wd504 wd1 wd505 hyX3_blocksUnder ⟨rfl, rfl⟩ ⟨Nat.le_of_ble_eq_true rfl, Nat.le_of_ble_eq_true rfl⟩ hl.1 (Nat.le_of_ble_eq_true rfl) dX3_digestNode_138 ⟨Nat.zero_le _, Nat.zero_le _⟩ rfl (fun hg28 H locs hR hS => ?_)
  refine lv_i2l (v := ((jI y26).toInt64)) hx hb dX3_digestNode_141 rfl ?_
  refine lv_ladd hx hb dX3_digestNode_142 ?_
  refine lv_lstore (lv' := [(4, .long ((((((((((((((((((((a1 * (31 : Int64)) + ((jI a2).toInt64)) * (31 : Int64)) + ((jI y2).toInt64)) * (31 : Int64)) + ((jI y5).toInt64)) * (31 : Int64)) + ((jI y8).toInt64)) * (31 : Int64)) + ((jI y11).toInt64)) * (31 : Int64)) + ((jI y14).toInt64)) * (31 : Int64)) + ((jI y17).toInt64)) * (31 : Int64)) + ((jI y20).toInt64)) * (31 : Int64)) + ((jI y23).toInt64)) * (31 : Int64)) + ((jI y26).toInt64))), (0, .ref (adr b 0 0)), (1, .long a1), (3, .int (jI a2))]) hx hb dX3_digestNode_143 hl (by decide) rfl (fun ls hl => ?_)
  refine lv_lload hx hb dX3_digestNode_145 (lv_at hl 0 rfl) ?_
  refine lv_ldc2 (v := (31 : Int64)) hx hb hown (hts _ wd384) dX3_digestNode_147 ?_
  refine lv_lmul hx hb dX3_digestNode_150 ?_
  refine lv_aload_n hx hb dX3_digestNode_151 rfl (lv_at hl 1 rfl) ?_
  refine lv_iload_n hx hb dX3_digestNode_152 rfl (lv_at hl 3 rfl) ?_
  obtain ⟨y30, M31, hc29, hF⟩ := xb2_some hF
  refine x_cVi (C := RX3) (T := TX3) (N := 9) (ci := 3) (As := [.int (jI a2)]) (rest := [.long (((((((((((((((((((((a1 * (31 : Int64)) + ((jI a2).toInt64)) * (31 : Int64)) + ((jI y2).toInt64)) * (31 : Int64)) + ((jI y5).toInt64)) * (31 : Int64)) + ((jI y8).toInt64)) * (31 : Int64)) + ((jI y11).toInt64)) * (31 : Int64)) + ((jI y14).toInt64)) * (31 : Int64)) + ((jI y17).toInt64)) * (31 : Int64)) + ((jI y20).toInt64)) * (31 : Int64)) + ((jI y23).toInt64)) * (31 : Int64)) + ((jI y26).toInt64)) * (31 : Int64))]) hx hb hml hown hts hK hR hS (c_X3_wouldFree ha2 hc29) ok0 rfl rfl wd529 wd530 wd531 wd1 wd532 hyX3_wouldFree ⟨rfl, rfl⟩ ⟨Nat.le_of_ble_eq_true rfl, Nat.le_of_ble_eq_true rfl⟩ hl.1 (Nat.le_of_ble_eq_true rfl) dX3_digestNode_153 ⟨Nat.zero_le _, Nat.zero_le _⟩ rfl (fun hg32 H locs hR hS => ?_)
  refine lv_i2l (v := ((jI y30).toInt64)) hx hb dX3_digestNode_156 rfl ?_
  refine lv_ladd hx hb dX3_digestNode_157 ?_
  cases hF
  exact x_lret hx hb hlocks hK hR hS hr dX3_digestNode_158
abbrev rmX3_digestContent : Room := { frames := 3, cells := 0, slots := 0, locals := 74 }
theorem hyX3_digestContent : yX3_digestContent.cls = RX3 ∧ yX3_digestContent.cls ≠ "java/lang/invoke/MethodHandle" ∧ yX3_digestContent.cls ≠ "java/lang/invoke/VarHandle" ∧ (parseMethodDescriptor yX3_digestContent.desc).map (fun d => d.parameters.length) = some 2 := by decide +kernel
def F_X3_digestContent_56  : Nat → Mm → Int → Nat → Int64 → Int → Option (Int64 × Mm)
  | 0, _, _, _, _, _ => none
  | n + 1, M, v3, v4, v5, v7 => (if (M 2 v4 8) ≤ v7 then (some (v5, M)) else (xb1 (F_X1_nameOf M v4 v7) fun y4 => (xb1 (F_X1_nodeNamed M v4 y4) fun y7 => (xk (M 0 0 0 = 0 ∨ M 0 0 0 = 1) (xb2 (F_X2_found M ((M 0 0 0).toNat) v3 y4) fun y12 M13 => (xk (rg (v7 + (1 : Int))) (F_X3_digestContent_56  n M13 v3 v4 ((((((v5 * (31 : Int64)) + ((jI y4).toInt64)) * (31 : Int64)) + ((jI y7).toInt64)) * (31 : Int64)) + ((jI y12).toInt64)) (v7 + (1 : Int)))))))))
set_option maxHeartbeats 4000000 in
set_option maxRecDepth 100000 in
theorem w_X3_digestContent_56 {p : Program} {l : Launch} {e : Env} {s : State} {m : MethodId} {args : Array Value} {below : List Frame} {meth : Method} {c : Code} {g : Gx} {b : Nat} (C0 : XA p s m meth c args RX3 cX3_digestContent 9 (some .long) g) {r : Int64} {M' : Mm} : ∀ n : Nat, ∀ (M : Mm) (v3 : Int) (v4 : Nat) (v5 : Int64) (v7 : Int) (hv3 : rg v3) (hv4 : v4 < 99) (hv7 : rg v7) (H : Heap) (locs : List Loc), Rel g b M H → va_S (AA b s.heap.size) s.heap H locs → ∀ ls : Array Slot, lv_has ls 9 [(0, .ref (adr b 0 0)), (3, .int (jI v3)), (4, .ref (adr b 2 v4)), (5, .long v5), (7, .int (jI v7))] → F_X3_digestContent_56  n M v3 v4 v5 v7 = some (r, M') → W p l e rmX3_digestContent s m args below meth c H locs 0 0 (MQ below (qL g b r M' s.heap.size) args s 0 0 (AA b s.heap.size)) (F0 m 56 ls []) := by
  obtain ⟨hx, hb, hr, hlocks, hml, hown, hts, hK⟩ := id C0
  intro n
  induction n with
  | zero =>
    intro M v3 v4 v5 v7 hv3 hv4 hv7 H locs hR hS ls hl hF
    rw [F_X3_digestContent_56] at hF
    cases hF
  | succ n ih =>
    intro M v3 v4 v5 v7 hv3 hv4 hv7 H locs hR hS ls hl hF
    rw [F_X3_digestContent_56] at hF
    refine lv_iload hx hb dX3_digestContent_56 (lv_at hl 4 rfl) ?_
    refine lv_aload hx hb dX3_digestContent_58 (lv_at hl 2 rfl) ?_
    refine gf_1_8 hx hb hts hown hK hR hv4 wd56 dX3_digestContent_60 ?_
    have hg1 : rg (M 2 v4 8) := hR.2 2 v4 8 (by decide)
    refine x_icmp_ge (tgt := 130) hx hb hv7 hg1 dX3_digestContent_63 (by decide) (fun ci2 => ?_) (fun ci2 => ?_)
    · rw [if_pos ci2] at hF
      refine lv_lload hx hb dX3_digestContent_130 (lv_at hl 3 rfl) ?_
      cases hF
      exact x_lret hx hb hlocks hK hR hS hr dX3_digestContent_132
    · rw [if_neg ci2] at hF
      refine lv_aload hx hb dX3_digestContent_66 (lv_at hl 2 rfl) ?_
      refine lv_iload hx hb dX3_digestContent_68 (lv_at hl 4 rfl) ?_
      obtain ⟨y4, hc3, hF⟩ := xb1_some hF
      refine x_cVi (C := RX1) (T := TX1) (N := 12) (ci := 1) (As := [.int (jI v7)]) (rest := []) hx hb hml hown hts hK hR hS (c_X1_nameOf hv4 hv7 hc3) (ok2 hv4) rfl rfl wd556 wd557 wd558 wd3 wd559 hyX1_nameOf ⟨rfl, rfl⟩ ⟨Nat.le_of_ble_eq_true rfl, Nat.le_of_ble_eq_true rfl⟩ hl.1 (Nat.le_of_ble_eq_true rfl) dX3_digestContent_70 ⟨Nat.zero_le _, Nat.zero_le _⟩ rfl (fun hg5 H locs hR hS => ?_)
      refine lv_istore (lv' := [(8, .int (jI y4)), (0, .ref (adr b 0 0)), (3, .int (jI v3)), (4, .ref (adr b 2 v4)), (5, .long v5), (7, .int (jI v7))]) hx hb dX3_digestContent_73 hl (by decide) rfl (fun ls hl => ?_)
      refine lv_lload hx hb dX3_digestContent_75 (lv_at hl 4 rfl) ?_
      refine lv_ldc2 (v := (31 : Int64)) hx hb hown (hts _ wd384) dX3_digestContent_77 ?_
      refine lv_lmul hx hb dX3_digestContent_80 ?_
      refine lv_iload hx hb dX3_digestContent_81 (lv_at hl 0 rfl) ?_
      refine lv_i2l (v := ((jI y4).toInt64)) hx hb dX3_digestContent_83 rfl ?_
      refine lv_ladd hx hb dX3_digestContent_84 ?_
      refine lv_lstore (lv' := [(5, .long ((v5 * (31 : Int64)) + ((jI y4).toInt64))), (8, .int (jI y4)), (0, .ref (adr b 0 0)), (3, .int (jI v3)), (4, .ref (adr b 2 v4)), (7, .int (jI v7))]) hx hb dX3_digestContent_85 hl (by decide) rfl (fun ls hl => ?_)
      refine lv_lload hx hb dX3_digestContent_87 (lv_at hl 0 rfl) ?_
      refine lv_ldc2 (v := (31 : Int64)) hx hb hown (hts _ wd384) dX3_digestContent_89 ?_
      refine lv_lmul hx hb dX3_digestContent_92 ?_
      refine lv_aload hx hb dX3_digestContent_93 (lv_at hl 4 rfl) ?_
      refine lv_iload hx hb dX3_digestContent_95 (lv_at hl 1 rfl) ?_
      obtain ⟨y7, hc6, hF⟩ := xb1_some hF
      refine x_cVi (C := RX1) (T := TX1) (N := 12) (ci := 1) (As := [.int (jI y4)]) (rest := [.long (((v5 * (31 : Int64)) + ((jI y4).toInt64)) * (31 : Int64))]) hx hb hml hown hts hK hR hS (c_X1_nodeNamed hv4 hg5 hc6) (ok2 hv4) rfl rfl wd560 wd561 wd562 wd3 wd563 hyX1_nodeNamed ⟨rfl, rfl⟩ ⟨Nat.le_of_ble_eq_true rfl, Nat.le_of_ble_eq_true rfl⟩ hl.1 (Nat.le_of_ble_eq_true rfl) dX3_digestContent_97 ⟨Nat.zero_le _, Nat.zero_le _⟩ rfl (fun hg8 H locs hR hS => ?_)
      refine lv_i2l (v := ((jI y7).toInt64)) hx hb dX3_digestContent_100 rfl ?_
      refine lv_ladd hx hb dX3_digestContent_101 ?_
      refine lv_lstore (lv' := [(5, .long ((((v5 * (31 : Int64)) + ((jI y4).toInt64)) * (31 : Int64)) + ((jI y7).toInt64))), (8, .int (jI y4)), (0, .ref (adr b 0 0)), (3, .int (jI v3)), (4, .ref (adr b 2 v4)), (7, .int (jI v7))]) hx hb dX3_digestContent_102 hl (by decide) rfl (fun ls hl => ?_)
      refine lv_lload hx hb dX3_digestContent_104 (lv_at hl 0 rfl) ?_
      refine lv_ldc2 (v := (31 : Int64)) hx hb hown (hts _ wd384) dX3_digestContent_106 ?_
      refine lv_lmul hx hb dX3_digestContent_109 ?_
      refine lv_aload_n hx hb dX3_digestContent_110 rfl (lv_at hl 2 rfl) ?_
      refine gf_3_0 hx hb hts hown hK hR wd138 dX3_digestContent_111 ?_
      obtain ⟨ht9, hF⟩ := xk_some hF
      have hj10 : (M 0 0 0).toNat < 3 := by omega
      refine lv_iload_n hx hb dX3_digestContent_114 rfl (lv_at hl 3 rfl) ?_
      refine lv_iload hx hb dX3_digestContent_115 (lv_at hl 1 rfl) ?_
      obtain ⟨y12, M13, hc11, hF⟩ := xb2_some hF
      refine x_cVi (C := RX2) (T := TX2) (N := 8) (ci := 2) (As := [.int (jI v3), .int (jI y4)]) (rest := [.long (((((v5 * (31 : Int64)) + ((jI y4).toInt64)) * (31 : Int64)) + ((jI y7).toInt64)) * (31 : Int64))]) hx hb hml hown hts hK hR hS (c_X2_found hj10 hv3 hg5 hc11) (ok1 hj10) rfl rfl wd569 wd570 wd571 wd2 wd572 hyX2_found ⟨rfl, rfl⟩ ⟨Nat.le_of_ble_eq_true rfl, Nat.le_of_ble_eq_true rfl⟩ hl.1 (Nat.le_of_ble_eq_true rfl) dX3_digestContent_117 ⟨Nat.zero_le _, Nat.zero_le _⟩ rfl (fun hg14 H locs hR hS => ?_)
      refine lv_i2l (v := ((jI y12).toInt64)) hx hb dX3_digestContent_120 rfl ?_
      refine lv_ladd hx hb dX3_digestContent_121 ?_
      refine lv_lstore (lv' := [(5, .long ((((((v5 * (31 : Int64)) + ((jI y4).toInt64)) * (31 : Int64)) + ((jI y7).toInt64)) * (31 : Int64)) + ((jI y12).toInt64))), (8, .int (jI y4)), (0, .ref (adr b 0 0)), (3, .int (jI v3)), (4, .ref (adr b 2 v4)), (7, .int (jI v7))]) hx hb dX3_digestContent_122 hl (by decide) rfl (fun ls hl => ?_)
      obtain ⟨hq15, hF⟩ := xk_some hF
      refine x_iinc (lv' := [(7, .int (jI (v7 + (1 : Int)))), (5, .long ((((((v5 * (31 : Int64)) + ((jI y4).toInt64)) * (31 : Int64)) + ((jI y7).toInt64)) * (31 : Int64)) + ((jI y12).toInt64))), (8, .int (jI y4)), (0, .ref (adr b 0 0)), (3, .int (jI v3)), (4, .ref (adr b 2 v4))]) hx hb dX3_digestContent_124 hl (k := 5) rfl (by decide) rfl (fun ls hl => ?_)
      refine lv_goto (tgt := 56) hx hb dX3_digestContent_127 (by decide) ?_
      exact ih M13 v3 v4 ((((((v5 * (31 : Int64)) + ((jI y4).toInt64)) * (31 : Int64)) + ((jI y7).toInt64)) * (31 : Int64)) + ((jI y12).toInt64)) (v7 + (1 : Int)) hv3 hv4 hq15 H locs hR hS ls (lv_sub hl [3, 4, 5, 1, 0] rfl) hF
def F_X3_digestContent_16  : Nat → Mm → Int → Nat → Int64 → Int → Option (Int64 × Mm)
  | 0, _, _, _, _, _ => none
  | n + 1, M, v3, v4, v5, v7 => (if (M 2 v4 3) ≤ v7 then (F_X3_digestContent_56  FU M v3 v4 v5 (0 : Int)) else (xk (M 0 0 0 = 0 ∨ M 0 0 0 = 1) (xb1 (F_X2_byteOf M ((M 0 0 0).toNat) v4 v7) fun y19 => (xk (rg (v7 + (1 : Int))) (F_X3_digestContent_16  n M v3 v4 ((v5 * (31 : Int64)) + ((jI y19).toInt64)) (v7 + (1 : Int)))))))
set_option maxHeartbeats 4000000 in
set_option maxRecDepth 100000 in
theorem w_X3_digestContent_16 {p : Program} {l : Launch} {e : Env} {s : State} {m : MethodId} {args : Array Value} {below : List Frame} {meth : Method} {c : Code} {g : Gx} {b : Nat} (C0 : XA p s m meth c args RX3 cX3_digestContent 9 (some .long) g) {r : Int64} {M' : Mm} : ∀ n : Nat, ∀ (M : Mm) (v3 : Int) (v4 : Nat) (v5 : Int64) (v7 : Int) (hv3 : rg v3) (hv4 : v4 < 99) (hv7 : rg v7) (H : Heap) (locs : List Loc), Rel g b M H → va_S (AA b s.heap.size) s.heap H locs → ∀ ls : Array Slot, lv_has ls 9 [(0, .ref (adr b 0 0)), (3, .int (jI v3)), (4, .ref (adr b 2 v4)), (5, .long v5), (7, .int (jI v7))] → F_X3_digestContent_16  n M v3 v4 v5 v7 = some (r, M') → W p l e rmX3_digestContent s m args below meth c H locs 0 0 (MQ below (qL g b r M' s.heap.size) args s 0 0 (AA b s.heap.size)) (F0 m 16 ls []) := by
  obtain ⟨hx, hb, hr, hlocks, hml, hown, hts, hK⟩ := id C0
  intro n
  induction n with
  | zero =>
    intro M v3 v4 v5 v7 hv3 hv4 hv7 H locs hR hS ls hl hF
    rw [F_X3_digestContent_16] at hF
    cases hF
  | succ n ih =>
    intro M v3 v4 v5 v7 hv3 hv4 hv7 H locs hR hS ls hl hF
    rw [F_X3_digestContent_16] at hF
    refine lv_iload hx hb dX3_digestContent_16 (lv_at hl 4 rfl) ?_
    refine lv_aload hx hb dX3_digestContent_18 (lv_at hl 2 rfl) ?_
    refine gf_1_3 hx hb hts hown hK hR hv4 wd44 dX3_digestContent_20 ?_
    have hg1 : rg (M 2 v4 3) := hR.2 2 v4 3 (by decide)
    refine x_icmp_ge (tgt := 53) hx hb hv7 hg1 dX3_digestContent_23 (by decide) (fun ci2 => ?_) (fun ci2 => ?_)
    · rw [if_pos ci2] at hF
      refine x_iconst hx hb dX3_digestContent_53 ?_
      refine lv_istore (lv' := [(7, .int (jI (0 : Int))), (0, .ref (adr b 0 0)), (3, .int (jI v3)), (4, .ref (adr b 2 v4)), (5, .long v5)]) hx hb dX3_digestContent_54 hl (by decide) rfl (fun ls hl => ?_)
      exact w_X3_digestContent_56 C0  FU M v3 v4 v5 (0 : Int) hv3 hv4 (by decide : rg (0 : Int)) H locs hR hS ls (lv_sub hl [1, 2, 3, 4, 0] rfl) hF
    · rw [if_neg ci2] at hF
      refine lv_lload hx hb dX3_digestContent_26 (lv_at hl 3 rfl) ?_
      refine lv_ldc2 (v := (31 : Int64)) hx hb hown (hts _ wd384) dX3_digestContent_28 ?_
      refine lv_lmul hx hb dX3_digestContent_31 ?_
      refine lv_aload_n hx hb dX3_digestContent_32 rfl (lv_at hl 0 rfl) ?_
      refine gf_3_0 hx hb hts hown hK hR wd138 dX3_digestContent_33 ?_
      obtain ⟨ht16, hF⟩ := xk_some hF
      have hj17 : (M 0 0 0).toNat < 3 := by omega
      refine lv_aload hx hb dX3_digestContent_36 (lv_at hl 2 rfl) ?_
      refine lv_iload hx hb dX3_digestContent_38 (lv_at hl 4 rfl) ?_
      obtain ⟨y19, hc18, hF⟩ := xb1_some hF
      refine x_cVi (C := RX2) (T := TX2) (N := 8) (ci := 2) (As := [.ref (adr b 2 v4), .int (jI v7)]) (rest := [.long (v5 * (31 : Int64))]) hx hb hml hown hts hK hR hS (c_X2_byteOf hj17 hv4 hv7 hc18) (ok1 hj17) rfl rfl wd545 wd546 wd547 wd2 wd548 hyX2_byteOf ⟨rfl, rfl⟩ ⟨Nat.le_of_ble_eq_true rfl, Nat.le_of_ble_eq_true rfl⟩ hl.1 (Nat.le_of_ble_eq_true rfl) dX3_digestContent_40 ⟨Nat.zero_le _, Nat.zero_le _⟩ rfl (fun hg20 H locs hR hS => ?_)
      refine lv_i2l (v := ((jI y19).toInt64)) hx hb dX3_digestContent_43 rfl ?_
      refine lv_ladd hx hb dX3_digestContent_44 ?_
      refine lv_lstore (lv' := [(5, .long ((v5 * (31 : Int64)) + ((jI y19).toInt64))), (0, .ref (adr b 0 0)), (3, .int (jI v3)), (4, .ref (adr b 2 v4)), (7, .int (jI v7))]) hx hb dX3_digestContent_45 hl (by decide) rfl (fun ls hl => ?_)
      obtain ⟨hq21, hF⟩ := xk_some hF
      refine x_iinc (lv' := [(7, .int (jI (v7 + (1 : Int)))), (5, .long ((v5 * (31 : Int64)) + ((jI y19).toInt64))), (0, .ref (adr b 0 0)), (3, .int (jI v3)), (4, .ref (adr b 2 v4))]) hx hb dX3_digestContent_47 hl (k := 4) rfl (by decide) rfl (fun ls hl => ?_)
      refine lv_goto (tgt := 16) hx hb dX3_digestContent_50 (by decide) ?_
      exact ih M v3 v4 ((v5 * (31 : Int64)) + ((jI y19).toInt64)) (v7 + (1 : Int)) hv3 hv4 hq21 H locs hR hS ls (lv_sub hl [2, 3, 4, 1, 0] rfl) hF
def F_X3_digestContent (M : Mm) (a1 : Int64) (a2 : Int) : Option (Int64 × Mm) := (xk (M 0 0 0 = 0 ∨ M 0 0 0 = 1) (xb1 (F_X2_at M ((M 0 0 0).toNat) a2) fun y4 => (F_X3_digestContent_16  FU M a2 y4 a1 (0 : Int))))
set_option maxHeartbeats 4000000 in
set_option maxRecDepth 100000 in
theorem c_X3_digestContent {l : Launch} {g : Gx} {b : Nat} {M : Mm} {a1 : Int64} {a2 : Int} {r : Int64} {M' : Mm} (ha2 : rg a2) (hF : F_X3_digestContent M a1 a2 = some (r, M')) : Ct l yX3_digestContent cX3_digestContent 9 (some .long) rmX3_digestContent g b [.ref (adr b 0 0), .long a1, .int (jI a2)] M (qL g b r M') := by
  refine ct_of (by decide +kernel) (Nat.le_of_ble_eq_true rfl) ?_
  intro p e s m args below meth c C0 hR ls hl
  obtain ⟨hx, hb, hr, hlocks, hml, hown, hts, hK⟩ := id C0
  have hS : va_S (AA b s.heap.size) s.heap s.heap [] := va_S.rf
  have hl : lv_has ls 9 [(0, .ref (adr b 0 0)), (1, .long a1), (3, .int (jI a2))] := hl
  obtain ⟨H, hH⟩ : ∃ z, z = s.heap := ⟨_, rfl⟩
  obtain ⟨locs, hlo⟩ : ∃ z : List Loc, z = [] := ⟨_, rfl⟩
  have hR : Rel g b M H := by rw [hH]; exact hR
  have hS : va_S (AA b s.heap.size) s.heap H locs := by rw [hH, hlo]; exact hS
  suffices hW : W p l e rmX3_digestContent s m args below meth c H locs 0 0 (MQ below (qL g b r M' s.heap.size) args s 0 0 (AA b s.heap.size)) (F0 m 0 ls []) by rw [hH, hlo] at hW; exact hW
  rw [F_X3_digestContent] at hF
  refine lv_aload_n hx hb dX3_digestContent_0 rfl (lv_at hl 0 rfl) ?_
  refine gf_3_0 hx hb hts hown hK hR wd138 dX3_digestContent_1 ?_
  obtain ⟨ht1, hF⟩ := xk_some hF
  have hj2 : (M 0 0 0).toNat < 3 := by omega
  refine lv_iload_n hx hb dX3_digestContent_4 rfl (lv_at hl 2 rfl) ?_
  obtain ⟨y4, hc3, hF⟩ := xb1_some hF
  refine x_cVr (C := RX2) (T := TX2) (N := 8) (ci := 2) (As := [.int (jI a2)]) (rest := []) hx hb hml hown hts hK hR hS (c_X2_at hj2 ha2 hc3) (ok1 hj2) rfl rfl wd337 wd255 wd256 wd2 wd257 hyX2_at ⟨rfl, rfl⟩ ⟨Nat.le_of_ble_eq_true rfl, Nat.le_of_ble_eq_true rfl⟩ hl.1 (Nat.le_of_ble_eq_true rfl) dX3_digestContent_5 ⟨Nat.zero_le _, Nat.zero_le _⟩ rfl (fun hg5 H locs hR hS => ?_)
  have hj6 : y4 < 99 := lt2 hg5
  refine lv_astore (lv' := [(4, .ref (adr b 2 y4)), (0, .ref (adr b 0 0)), (1, .long a1), (3, .int (jI a2))]) hx hb dX3_digestContent_8 hl (by decide) rfl (fun ls hl => ?_)
  refine lv_lload_n hx hb dX3_digestContent_10 rfl (lv_at hl 2 rfl) ?_
  refine lv_lstore (lv' := [(5, .long a1), (4, .ref (adr b 2 y4)), (0, .ref (adr b 0 0)), (1, .long a1), (3, .int (jI a2))]) hx hb dX3_digestContent_11 hl (by decide) rfl (fun ls hl => ?_)
  refine x_iconst hx hb dX3_digestContent_13 ?_
  refine lv_istore (lv' := [(7, .int (jI (0 : Int))), (5, .long a1), (4, .ref (adr b 2 y4)), (0, .ref (adr b 0 0)), (1, .long a1), (3, .int (jI a2))]) hx hb dX3_digestContent_14 hl (by decide) rfl (fun ls hl => ?_)
  exact w_X3_digestContent_16 C0  FU M a2 y4 a1 (0 : Int) ha2 hj6 (by decide : rg (0 : Int)) H locs hR hS ls (lv_sub hl [3, 5, 2, 1, 0] rfl) hF
abbrev rmX3_digestHandle : Room := { frames := 2, cells := 0, slots := 0, locals := 44 }
theorem hyX3_digestHandle : yX3_digestHandle.cls = RX3 ∧ yX3_digestHandle.cls ≠ "java/lang/invoke/MethodHandle" ∧ yX3_digestHandle.cls ≠ "java/lang/invoke/VarHandle" ∧ (parseMethodDescriptor yX3_digestHandle.desc).map (fun d => d.parameters.length) = some 2 := by decide +kernel
def F_X3_digestHandle (M : Mm) (a1 : Int64) (a2 : Int) : Option (Int64) := (xb1 (F_X3_nodeOf M a2) fun y2 => (xb1 (F_X3_positionOf M a2) fun y5 => (xb1 (F_X3_lockRows M a2) fun y8 => (some ((((((((a1 * (31 : Int64)) + ((jI a2).toInt64)) * (31 : Int64)) + ((jI y2).toInt64)) * (31 : Int64)) + ((jI y5).toInt64)) * (31 : Int64)) + ((jI y8).toInt64))))))
set_option maxHeartbeats 4000000 in
set_option maxRecDepth 100000 in
theorem c_X3_digestHandle {l : Launch} {g : Gx} {b : Nat} {M : Mm} {a1 : Int64} {a2 : Int} {r : Int64} (ha2 : rg a2) (hF : F_X3_digestHandle M a1 a2 = some r) : Ct l yX3_digestHandle cX3_digestHandle 6 (some .long) rmX3_digestHandle g b [.ref (adr b 0 0), .long a1, .int (jI a2)] M (qL g b r M) := by
  refine ct_of (by decide +kernel) (Nat.le_of_ble_eq_true rfl) ?_
  intro p e s m args below meth c C0 hR ls hl
  obtain ⟨hx, hb, hr, hlocks, hml, hown, hts, hK⟩ := id C0
  have hS : va_S (AA b s.heap.size) s.heap s.heap [] := va_S.rf
  have hl : lv_has ls 6 [(0, .ref (adr b 0 0)), (1, .long a1), (3, .int (jI a2))] := hl
  obtain ⟨H, hH⟩ : ∃ z, z = s.heap := ⟨_, rfl⟩
  obtain ⟨locs, hlo⟩ : ∃ z : List Loc, z = [] := ⟨_, rfl⟩
  have hR : Rel g b M H := by rw [hH]; exact hR
  have hS : va_S (AA b s.heap.size) s.heap H locs := by rw [hH, hlo]; exact hS
  suffices hW : W p l e rmX3_digestHandle s m args below meth c H locs 0 0 (MQ below (qL g b r M s.heap.size) args s 0 0 (AA b s.heap.size)) (F0 m 0 ls []) by rw [hH, hlo] at hW; exact hW
  rw [F_X3_digestHandle] at hF
  refine lv_lload_n hx hb dX3_digestHandle_0 rfl (lv_at hl 1 rfl) ?_
  refine lv_ldc2 (v := (31 : Int64)) hx hb hown (hts _ wd384) dX3_digestHandle_1 ?_
  refine lv_lmul hx hb dX3_digestHandle_4 ?_
  refine lv_iload_n hx hb dX3_digestHandle_5 rfl (lv_at hl 2 rfl) ?_
  refine lv_i2l (v := ((jI a2).toInt64)) hx hb dX3_digestHandle_6 rfl ?_
  refine lv_ladd hx hb dX3_digestHandle_7 ?_
  refine lv_lstore (lv' := [(4, .long ((a1 * (31 : Int64)) + ((jI a2).toInt64))), (0, .ref (adr b 0 0)), (1, .long a1), (3, .int (jI a2))]) hx hb dX3_digestHandle_8 hl (by decide) rfl (fun ls hl => ?_)
  refine lv_lload hx hb dX3_digestHandle_10 (lv_at hl 0 rfl) ?_
  refine lv_ldc2 (v := (31 : Int64)) hx hb hown (hts _ wd384) dX3_digestHandle_12 ?_
  refine lv_lmul hx hb dX3_digestHandle_15 ?_
  refine lv_aload_n hx hb dX3_digestHandle_16 rfl (lv_at hl 1 rfl) ?_
  refine lv_iload_n hx hb dX3_digestHandle_17 rfl (lv_at hl 3 rfl) ?_
  obtain ⟨y2, hc1, hF⟩ := xb1_some hF
  refine x_cVi (C := RX3) (T := TX3) (N := 9) (ci := 3) (As := [.int (jI a2)]) (rest := [.long (((a1 * (31 : Int64)) + ((jI a2).toInt64)) * (31 : Int64))]) hx hb hml hown hts hK hR hS (c_X3_nodeOf ha2 hc1) ok0 rfl rfl wd582 wd583 wd584 wd1 wd585 hyX3_nodeOf ⟨rfl, rfl⟩ ⟨Nat.le_of_ble_eq_true rfl, Nat.le_of_ble_eq_true rfl⟩ hl.1 (Nat.le_of_ble_eq_true rfl) dX3_digestHandle_18 ⟨Nat.zero_le _, Nat.zero_le _⟩ rfl (fun hg3 H locs hR hS => ?_)
  refine lv_i2l (v := ((jI y2).toInt64)) hx hb dX3_digestHandle_21 rfl ?_
  refine lv_ladd hx hb dX3_digestHandle_22 ?_
  refine lv_lstore (lv' := [(4, .long ((((a1 * (31 : Int64)) + ((jI a2).toInt64)) * (31 : Int64)) + ((jI y2).toInt64))), (0, .ref (adr b 0 0)), (1, .long a1), (3, .int (jI a2))]) hx hb dX3_digestHandle_23 hl (by decide) rfl (fun ls hl => ?_)
  refine lv_lload hx hb dX3_digestHandle_25 (lv_at hl 0 rfl) ?_
  refine lv_ldc2 (v := (31 : Int64)) hx hb hown (hts _ wd384) dX3_digestHandle_27 ?_
  refine lv_lmul hx hb dX3_digestHandle_30 ?_
  refine lv_aload_n hx hb dX3_digestHandle_31 rfl (lv_at hl 1 rfl) ?_
  refine lv_iload_n hx hb dX3_digestHandle_32 rfl (lv_at hl 3 rfl) ?_
  obtain ⟨y5, hc4, hF⟩ := xb1_some hF
  refine x_cVi (C := RX3) (T := TX3) (N := 9) (ci := 3) (As := [.int (jI a2)]) (rest := [.long (((((a1 * (31 : Int64)) + ((jI a2).toInt64)) * (31 : Int64)) + ((jI y2).toInt64)) * (31 : Int64))]) hx hb hml hown hts hK hR hS (c_X3_positionOf ha2 hc4) ok0 rfl rfl wd591 wd592 wd593 wd1 wd594 hyX3_positionOf ⟨rfl, rfl⟩ ⟨Nat.le_of_ble_eq_true rfl, Nat.le_of_ble_eq_true rfl⟩ hl.1 (Nat.le_of_ble_eq_true rfl) dX3_digestHandle_33 ⟨Nat.zero_le _, Nat.zero_le _⟩ rfl (fun hg6 H locs hR hS => ?_)
  refine lv_i2l (v := ((jI y5).toInt64)) hx hb dX3_digestHandle_36 rfl ?_
  refine lv_ladd hx hb dX3_digestHandle_37 ?_
  refine lv_lstore (lv' := [(4, .long ((((((a1 * (31 : Int64)) + ((jI a2).toInt64)) * (31 : Int64)) + ((jI y2).toInt64)) * (31 : Int64)) + ((jI y5).toInt64))), (0, .ref (adr b 0 0)), (1, .long a1), (3, .int (jI a2))]) hx hb dX3_digestHandle_38 hl (by decide) rfl (fun ls hl => ?_)
  refine lv_lload hx hb dX3_digestHandle_40 (lv_at hl 0 rfl) ?_
  refine lv_ldc2 (v := (31 : Int64)) hx hb hown (hts _ wd384) dX3_digestHandle_42 ?_
  refine lv_lmul hx hb dX3_digestHandle_45 ?_
  refine lv_aload_n hx hb dX3_digestHandle_46 rfl (lv_at hl 1 rfl) ?_
  refine lv_iload_n hx hb dX3_digestHandle_47 rfl (lv_at hl 3 rfl) ?_
  obtain ⟨y8, hc7, hF⟩ := xb1_some hF
  refine x_cVi (C := RX3) (T := TX3) (N := 9) (ci := 3) (As := [.int (jI a2)]) (rest := [.long (((((((a1 * (31 : Int64)) + ((jI a2).toInt64)) * (31 : Int64)) + ((jI y2).toInt64)) * (31 : Int64)) + ((jI y5).toInt64)) * (31 : Int64))]) hx hb hml hown hts hK hR hS (c_X3_lockRows ha2 hc7) ok0 rfl rfl wd595 wd596 wd597 wd1 wd598 hyX3_lockRows ⟨rfl, rfl⟩ ⟨Nat.le_of_ble_eq_true rfl, Nat.le_of_ble_eq_true rfl⟩ hl.1 (Nat.le_of_ble_eq_true rfl) dX3_digestHandle_48 ⟨Nat.zero_le _, Nat.zero_le _⟩ rfl (fun hg9 H locs hR hS => ?_)
  refine lv_i2l (v := ((jI y8).toInt64)) hx hb dX3_digestHandle_51 rfl ?_
  refine lv_ladd hx hb dX3_digestHandle_52 ?_
  cases hF
  exact x_lret hx hb hlocks hK hR hS hr dX3_digestHandle_53
abbrev rmX3_digest : Room := { frames := 6, cells := 0, slots := 0, locals := 145 }
theorem hyX3_digest : yX3_digest.cls = RX3 ∧ yX3_digest.cls ≠ "java/lang/invoke/MethodHandle" ∧ yX3_digest.cls ≠ "java/lang/invoke/VarHandle" ∧ (parseMethodDescriptor yX3_digest.desc).map (fun d => d.parameters.length) = some 0 := by decide +kernel
def F_X3_digest_173  : Nat → Mm → Int64 → Int → Option (Int64 × Mm)
  | 0, _, _, _ => none
  | n + 1, M, v1, v3 => (if (6 : Int) ≤ v3 then (some (v1, M)) else (xk (0 ≤ v3 ∧ v3 < 6) (if (M 11 (v3.toNat) 0) = 0 then (xk (rg (v3 + (1 : Int))) (F_X3_digest_173  n M v1 (v3 + (1 : Int)))) else (xb1 (F_X3_digestHandle M v1 v3) fun y8 => (xk (rg (v3 + (1 : Int))) (F_X3_digest_173  n M y8 (v3 + (1 : Int))))))))
set_option maxHeartbeats 4000000 in
set_option maxRecDepth 100000 in
theorem w_X3_digest_173 {p : Program} {l : Launch} {e : Env} {s : State} {m : MethodId} {args : Array Value} {below : List Frame} {meth : Method} {c : Code} {g : Gx} {b : Nat} (C0 : XA p s m meth c args RX3 cX3_digest 4 (some .long) g) {r : Int64} {M' : Mm} : ∀ n : Nat, ∀ (M : Mm) (v1 : Int64) (v3 : Int) (hv3 : rg v3) (H : Heap) (locs : List Loc), Rel g b M H → va_S (AA b s.heap.size) s.heap H locs → ∀ ls : Array Slot, lv_has ls 4 [(0, .ref (adr b 0 0)), (1, .long v1), (3, .int (jI v3))] → F_X3_digest_173  n M v1 v3 = some (r, M') → W p l e rmX3_digest s m args below meth c H locs 0 0 (MQ below (qL g b r M' s.heap.size) args s 0 0 (AA b s.heap.size)) (F0 m 173 ls []) := by
  obtain ⟨hx, hb, hr, hlocks, hml, hown, hts, hK⟩ := id C0
  intro n
  induction n with
  | zero =>
    intro M v1 v3 hv3 H locs hR hS ls hl hF
    rw [F_X3_digest_173] at hF
    cases hF
  | succ n ih =>
    intro M v1 v3 hv3 H locs hR hS ls hl hF
    rw [F_X3_digest_173] at hF
    refine lv_iload_n hx hb dX3_digest_173 rfl (lv_at hl 2 rfl) ?_
    refine lv_aload_n hx hb dX3_digest_174 rfl (lv_at hl 0 rfl) ?_
    refine gf_3_3 hx hb hts hown hK hR wd141 dX3_digest_175 ?_
    refine x_alenH hx hb hK hR dX3_digest_178 ?_
    refine x_icmp_ge (tgt := 207) hx hb hv3 (by decide : rg (6 : Int)) dX3_digest_179 (by decide) (fun ci1 => ?_) (fun ci1 => ?_)
    · rw [if_pos ci1] at hF
      refine lv_lload_n hx hb dX3_digest_207 rfl (lv_at hl 1 rfl) ?_
      cases hF
      exact x_lret hx hb hlocks hK hR hS hr dX3_digest_208
    · rw [if_neg ci1] at hF
      refine lv_aload_n hx hb dX3_digest_182 rfl (lv_at hl 0 rfl) ?_
      refine gf_3_3 hx hb hts hown hK hR wd141 dX3_digest_183 ?_
      refine lv_iload_n hx hb dX3_digest_186 rfl (lv_at hl 2 rfl) ?_
      obtain ⟨hi2, hF⟩ := xk_some hF
      refine x_aldH hx hb hK hR hv3 hi2 dX3_digest_187 ?_
      have hj3 : v3.toNat < 6 := by omega
      refine gf_0_0 hx hb hts hown hK hR hj3 wd123 dX3_digest_188 ?_
      have hg4 : rg (M 11 (v3.toNat) 0) := hR.2 11 (v3.toNat) 0 (by decide)
      refine x_if_eq (tgt := 201) hx hb hg4 dX3_digest_191 (by decide) (fun ci5 => ?_) (fun ci5 => ?_)
      · rw [if_pos ci5] at hF
        obtain ⟨hq6, hF⟩ := xk_some hF
        refine x_iinc (lv' := [(3, .int (jI (v3 + (1 : Int)))), (0, .ref (adr b 0 0)), (1, .long v1)]) hx hb dX3_digest_201 hl (k := 2) rfl (by decide) rfl (fun ls hl => ?_)
        refine lv_goto (tgt := 173) hx hb dX3_digest_204 (by decide) ?_
        exact ih M v1 (v3 + (1 : Int)) hq6 H locs hR hS ls (lv_sub hl [1, 2, 0] rfl) hF
      · rw [if_neg ci5] at hF
        refine lv_aload_n hx hb dX3_digest_194 rfl (lv_at hl 0 rfl) ?_
        refine lv_lload_n hx hb dX3_digest_195 rfl (lv_at hl 1 rfl) ?_
        refine lv_iload_n hx hb dX3_digest_196 rfl (lv_at hl 2 rfl) ?_
        obtain ⟨y8, hc7, hF⟩ := xb1_some hF
        refine x_cVl (C := RX3) (T := TX3) (N := 9) (ci := 3) (As := [.long v1, .int (jI v3)]) (rest := []) hx hb hml hown hts hK hR hS (c_X3_digestHandle hv3 hc7) ok0 rfl rfl wd578 wd580 ws9 wd1 wd581 hyX3_digestHandle ⟨rfl, rfl⟩ ⟨Nat.le_of_ble_eq_true rfl, Nat.le_of_ble_eq_true rfl⟩ hl.1 (Nat.le_of_ble_eq_true rfl) dX3_digest_197 ⟨Nat.zero_le _, Nat.zero_le _⟩ rfl (fun H locs hR hS => ?_)
        refine lv_lstore_n (lv' := [(1, .long y8), (0, .ref (adr b 0 0)), (3, .int (jI v3))]) hx hb dX3_digest_200 rfl hl (by decide) rfl (fun ls hl => ?_)
        obtain ⟨hq9, hF⟩ := xk_some hF
        refine x_iinc (lv' := [(3, .int (jI (v3 + (1 : Int)))), (1, .long y8), (0, .ref (adr b 0 0))]) hx hb dX3_digest_201 hl (k := 2) rfl (by decide) rfl (fun ls hl => ?_)
        refine lv_goto (tgt := 173) hx hb dX3_digest_204 (by decide) ?_
        exact ih M y8 (v3 + (1 : Int)) hq9 H locs hR hS ls (lv_sub hl [2, 1, 0] rfl) hF
def F_X3_digest_133  : Nat → Mm → Int64 → Int → Option (Int64 × Mm)
  | 0, _, _, _ => none
  | n + 1, M, v1, v3 => (if (32 : Int) ≤ v3 then (F_X3_digest_173  FU M v1 (0 : Int)) else (xk (M 0 0 0 = 0 ∨ M 0 0 0 = 1) (xb1 (F_X2_at M ((M 0 0 0).toNat) v3) fun y13 => (if (M 2 y13 0) = 0 then (xk (rg (v3 + (1 : Int))) (F_X3_digest_133  n M v1 (v3 + (1 : Int)))) else (xb2 (F_X3_digestNode M v1 v3) fun y20 M21 => (xb2 (F_X3_digestContent M21 y20 v3) fun y23 M24 => (xk (rg (v3 + (1 : Int))) (F_X3_digest_133  n M24 y23 (v3 + (1 : Int))))))))))
set_option maxHeartbeats 4000000 in
set_option maxRecDepth 100000 in
theorem w_X3_digest_133 {p : Program} {l : Launch} {e : Env} {s : State} {m : MethodId} {args : Array Value} {below : List Frame} {meth : Method} {c : Code} {g : Gx} {b : Nat} (C0 : XA p s m meth c args RX3 cX3_digest 4 (some .long) g) {r : Int64} {M' : Mm} : ∀ n : Nat, ∀ (M : Mm) (v1 : Int64) (v3 : Int) (hv3 : rg v3) (H : Heap) (locs : List Loc), Rel g b M H → va_S (AA b s.heap.size) s.heap H locs → ∀ ls : Array Slot, lv_has ls 4 [(0, .ref (adr b 0 0)), (1, .long v1), (3, .int (jI v3))] → F_X3_digest_133  n M v1 v3 = some (r, M') → W p l e rmX3_digest s m args below meth c H locs 0 0 (MQ below (qL g b r M' s.heap.size) args s 0 0 (AA b s.heap.size)) (F0 m 133 ls []) := by
  obtain ⟨hx, hb, hr, hlocks, hml, hown, hts, hK⟩ := id C0
  intro n
  induction n with
  | zero =>
    intro M v1 v3 hv3 H locs hR hS ls hl hF
    rw [F_X3_digest_133] at hF
    cases hF
  | succ n ih =>
    intro M v1 v3 hv3 H locs hR hS ls hl hF
    rw [F_X3_digest_133] at hF
    refine lv_iload_n hx hb dX3_digest_133 rfl (lv_at hl 2 rfl) ?_
    refine x_bipush hx hb (by decide +kernel) dX3_digest_134 ?_
    refine x_icmp_ge (tgt := 171) hx hb hv3 (by decide : rg (32 : Int)) dX3_digest_136 (by decide) (fun ci1 => ?_) (fun ci1 => ?_)
    · rw [if_pos ci1] at hF
      refine x_iconst hx hb dX3_digest_171 ?_
      refine lv_istore_n (lv' := [(3, .int (jI (0 : Int))), (0, .ref (adr b 0 0)), (1, .long v1)]) hx hb dX3_digest_172 rfl hl (by decide) rfl (fun ls hl => ?_)
      exact w_X3_digest_173 C0  FU M v1 (0 : Int) (by decide : rg (0 : Int)) H locs hR hS ls (lv_sub hl [1, 2, 0] rfl) hF
    · rw [if_neg ci1] at hF
      refine lv_aload_n hx hb dX3_digest_139 rfl (lv_at hl 0 rfl) ?_
      refine gf_3_0 hx hb hts hown hK hR wd138 dX3_digest_140 ?_
      obtain ⟨ht10, hF⟩ := xk_some hF
      have hj11 : (M 0 0 0).toNat < 3 := by omega
      refine lv_iload_n hx hb dX3_digest_143 rfl (lv_at hl 2 rfl) ?_
      obtain ⟨y13, hc12, hF⟩ := xb1_some hF
      refine x_cVr (C := RX2) (T := TX2) (N := 8) (ci := 2) (As := [.int (jI v3)]) (rest := []) hx hb hml hown hts hK hR hS (c_X2_at hj11 hv3 hc12) (ok1 hj11) rfl rfl wd337 wd255 wd256 wd2 wd257 hyX2_at ⟨rfl, rfl⟩ ⟨Nat.le_of_ble_eq_true rfl, Nat.le_of_ble_eq_true rfl⟩ hl.1 (Nat.le_of_ble_eq_true rfl) dX3_digest_144 ⟨Nat.zero_le _, Nat.zero_le _⟩ rfl (fun hg14 H locs hR hS => ?_)
      have hj15 : y13 < 99 := lt2 hg14
      refine gf_1_0 hx hb hts hown hK hR hj15 wd36 dX3_digest_147 ?_
      have hg16 : rg (M 2 y13 0) := hR.2 2 y13 0 (by decide)
      refine x_if_eq (tgt := 165) hx hb hg16 dX3_digest_150 (by decide) (fun ci17 => ?_) (fun ci17 => ?_)
      · rw [if_pos ci17] at hF
        obtain ⟨hq18, hF⟩ := xk_some hF
        refine x_iinc (lv' := [(3, .int (jI (v3 + (1 : Int)))), (0, .ref (adr b 0 0)), (1, .long v1)]) hx hb dX3_digest_165 hl (k := 2) rfl (by decide) rfl (fun ls hl => ?_)
        refine lv_goto (tgt := 133) hx hb dX3_digest_168 (by decide) ?_
        exact ih M v1 (v3 + (1 : Int)) hq18 H locs hR hS ls (lv_sub hl [1, 2, 0] rfl) hF
      · rw [if_neg ci17] at hF
        refine lv_aload_n hx hb dX3_digest_153 rfl (lv_at hl 0 rfl) ?_
        refine lv_aload_n hx hb dX3_digest_154 rfl (lv_at hl 0 rfl) ?_
        refine lv_lload_n hx hb dX3_digest_155 rfl (lv_at hl 1 rfl) ?_
        refine lv_iload_n hx hb dX3_digest_156 rfl (lv_at hl 2 rfl) ?_
        obtain ⟨y20, M21, hc19, hF⟩ := xb2_some hF
        refine x_cVl (C := RX3) (T := TX3) (N := 9) (ci := 3) (As := [.long v1, .int (jI v3)]) (rest := [.ref (adr b 0 0)]) hx hb hml hown hts hK hR hS (c_X3_digestNode hv3 hc19) ok0 rfl rfl wd459 wd461 ws7 wd1 wd462 hyX3_digestNode ⟨rfl, rfl⟩ ⟨Nat.le_of_ble_eq_true rfl, Nat.le_of_ble_eq_true rfl⟩ hl.1 (Nat.le_of_ble_eq_true rfl) dX3_digest_157 ⟨Nat.zero_le _, Nat.zero_le _⟩ rfl (fun H locs hR hS => ?_)
        refine lv_iload_n hx hb dX3_digest_160 rfl (lv_at hl 2 rfl) ?_
        obtain ⟨y23, M24, hc22, hF⟩ := xb2_some hF
        refine x_cVl (C := RX3) (T := TX3) (N := 9) (ci := 3) (As := [.long y20, .int (jI v3)]) (rest := []) hx hb hml hown hts hK hR hS (c_X3_digestContent hv3 hc22) ok0 rfl rfl wd541 wd543 ws8 wd1 wd544 hyX3_digestContent ⟨rfl, rfl⟩ ⟨Nat.le_of_ble_eq_true rfl, Nat.le_of_ble_eq_true rfl⟩ hl.1 (Nat.le_of_ble_eq_true rfl) dX3_digest_161 ⟨Nat.zero_le _, Nat.zero_le _⟩ rfl (fun H locs hR hS => ?_)
        refine lv_lstore_n (lv' := [(1, .long y23), (0, .ref (adr b 0 0)), (3, .int (jI v3))]) hx hb dX3_digest_164 rfl hl (by decide) rfl (fun ls hl => ?_)
        obtain ⟨hq25, hF⟩ := xk_some hF
        refine x_iinc (lv' := [(3, .int (jI (v3 + (1 : Int)))), (1, .long y23), (0, .ref (adr b 0 0))]) hx hb dX3_digest_165 hl (k := 2) rfl (by decide) rfl (fun ls hl => ?_)
        refine lv_goto (tgt := 133) hx hb dX3_digest_168 (by decide) ?_
        exact ih M24 y23 (v3 + (1 : Int)) hq25 H locs hR hS ls (lv_sub hl [2, 1, 0] rfl) hF
def F_X3_digest_82  : Nat → Mm → Int64 → Int → Option (Int64 × Mm)
  | 0, _, _, _ => none
  | n + 1, M, v1, v3 => (if (4 : Int) ≤ v3 then (xb1 (F_X3_greatestFile M ) fun y3 => (F_X3_digest_133  FU M ((v1 * (31 : Int64)) + ((jI y3).toInt64)) (0 : Int))) else (xb1 (F_X3_usedBy M v3) fun y27 => (xb1 (F_X3_quotaOf M v3) fun y30 => (xk (rg (v3 + (1 : Int))) (F_X3_digest_82  n M ((((v1 * (31 : Int64)) + ((jI y27).toInt64)) * (31 : Int64)) + ((jI y30).toInt64)) (v3 + (1 : Int)))))))
set_option maxHeartbeats 4000000 in
set_option maxRecDepth 100000 in
theorem w_X3_digest_82 {p : Program} {l : Launch} {e : Env} {s : State} {m : MethodId} {args : Array Value} {below : List Frame} {meth : Method} {c : Code} {g : Gx} {b : Nat} (C0 : XA p s m meth c args RX3 cX3_digest 4 (some .long) g) {r : Int64} {M' : Mm} : ∀ n : Nat, ∀ (M : Mm) (v1 : Int64) (v3 : Int) (hv3 : rg v3) (H : Heap) (locs : List Loc), Rel g b M H → va_S (AA b s.heap.size) s.heap H locs → ∀ ls : Array Slot, lv_has ls 4 [(0, .ref (adr b 0 0)), (1, .long v1), (3, .int (jI v3))] → F_X3_digest_82  n M v1 v3 = some (r, M') → W p l e rmX3_digest s m args below meth c H locs 0 0 (MQ below (qL g b r M' s.heap.size) args s 0 0 (AA b s.heap.size)) (F0 m 82 ls []) := by
  obtain ⟨hx, hb, hr, hlocks, hml, hown, hts, hK⟩ := id C0
  intro n
  induction n with
  | zero =>
    intro M v1 v3 hv3 H locs hR hS ls hl hF
    rw [F_X3_digest_82] at hF
    cases hF
  | succ n ih =>
    intro M v1 v3 hv3 H locs hR hS ls hl hF
    rw [F_X3_digest_82] at hF
    refine lv_iload_n hx hb dX3_digest_82 rfl (lv_at hl 2 rfl) ?_
    refine x_iconst hx hb dX3_digest_83 ?_
    refine x_icmp_ge (tgt := 119) hx hb hv3 (by decide : rg (4 : Int)) dX3_digest_84 (by decide) (fun ci1 => ?_) (fun ci1 => ?_)
    · rw [if_pos ci1] at hF
      refine lv_lload_n hx hb dX3_digest_119 rfl (lv_at hl 1 rfl) ?_
      refine lv_ldc2 (v := (31 : Int64)) hx hb hown (hts _ wd384) dX3_digest_120 ?_
      refine lv_lmul hx hb dX3_digest_123 ?_
      refine lv_aload_n hx hb dX3_digest_124 rfl (lv_at hl 0 rfl) ?_
      obtain ⟨y3, hc2, hF⟩ := xb1_some hF
      refine x_cVi (C := RX3) (T := TX3) (N := 9) (ci := 3) (As := []) (rest := [.long (v1 * (31 : Int64))]) hx hb hml hown hts hK hR hS (c_X3_greatestFile  hc2) ok0 rfl rfl wd451 wd452 wd453 wd1 wd454 hyX3_greatestFile ⟨rfl, rfl⟩ ⟨Nat.le_of_ble_eq_true rfl, Nat.le_of_ble_eq_true rfl⟩ hl.1 (Nat.le_of_ble_eq_true rfl) dX3_digest_125 ⟨Nat.zero_le _, Nat.zero_le _⟩ rfl (fun hg4 H locs hR hS => ?_)
      refine lv_i2l (v := ((jI y3).toInt64)) hx hb dX3_digest_128 rfl ?_
      refine lv_ladd hx hb dX3_digest_129 ?_
      refine lv_lstore_n (lv' := [(1, .long ((v1 * (31 : Int64)) + ((jI y3).toInt64))), (0, .ref (adr b 0 0)), (3, .int (jI v3))]) hx hb dX3_digest_130 rfl hl (by decide) rfl (fun ls hl => ?_)
      refine x_iconst hx hb dX3_digest_131 ?_
      refine lv_istore_n (lv' := [(3, .int (jI (0 : Int))), (1, .long ((v1 * (31 : Int64)) + ((jI y3).toInt64))), (0, .ref (adr b 0 0))]) hx hb dX3_digest_132 rfl hl (by decide) rfl (fun ls hl => ?_)
      exact w_X3_digest_133 C0  FU M ((v1 * (31 : Int64)) + ((jI y3).toInt64)) (0 : Int) (by decide : rg (0 : Int)) H locs hR hS ls (lv_sub hl [2, 1, 0] rfl) hF
    · rw [if_neg ci1] at hF
      refine lv_lload_n hx hb dX3_digest_87 rfl (lv_at hl 1 rfl) ?_
      refine lv_ldc2 (v := (31 : Int64)) hx hb hown (hts _ wd384) dX3_digest_88 ?_
      refine lv_lmul hx hb dX3_digest_91 ?_
      refine lv_aload_n hx hb dX3_digest_92 rfl (lv_at hl 0 rfl) ?_
      refine lv_iload_n hx hb dX3_digest_93 rfl (lv_at hl 2 rfl) ?_
      obtain ⟨y27, hc26, hF⟩ := xb1_some hF
      refine x_cVi (C := RX3) (T := TX3) (N := 9) (ci := 3) (As := [.int (jI v3)]) (rest := [.long (v1 * (31 : Int64))]) hx hb hml hown hts hK hR hS (c_X3_usedBy hv3 hc26) ok0 rfl rfl wd415 wd416 wd417 wd1 wd418 hyX3_usedBy ⟨rfl, rfl⟩ ⟨Nat.le_of_ble_eq_true rfl, Nat.le_of_ble_eq_true rfl⟩ hl.1 (Nat.le_of_ble_eq_true rfl) dX3_digest_94 ⟨Nat.zero_le _, Nat.zero_le _⟩ rfl (fun hg28 H locs hR hS => ?_)
      refine lv_i2l (v := ((jI y27).toInt64)) hx hb dX3_digest_97 rfl ?_
      refine lv_ladd hx hb dX3_digest_98 ?_
      refine lv_lstore_n (lv' := [(1, .long ((v1 * (31 : Int64)) + ((jI y27).toInt64))), (0, .ref (adr b 0 0)), (3, .int (jI v3))]) hx hb dX3_digest_99 rfl hl (by decide) rfl (fun ls hl => ?_)
      refine lv_lload_n hx hb dX3_digest_100 rfl (lv_at hl 0 rfl) ?_
      refine lv_ldc2 (v := (31 : Int64)) hx hb hown (hts _ wd384) dX3_digest_101 ?_
      refine lv_lmul hx hb dX3_digest_104 ?_
      refine lv_aload_n hx hb dX3_digest_105 rfl (lv_at hl 1 rfl) ?_
      refine lv_iload_n hx hb dX3_digest_106 rfl (lv_at hl 2 rfl) ?_
      obtain ⟨y30, hc29, hF⟩ := xb1_some hF
      refine x_cVi (C := RX3) (T := TX3) (N := 9) (ci := 3) (As := [.int (jI v3)]) (rest := [.long (((v1 * (31 : Int64)) + ((jI y27).toInt64)) * (31 : Int64))]) hx hb hml hown hts hK hR hS (c_X3_quotaOf hv3 hc29) ok0 rfl rfl wd443 wd444 wd445 wd1 wd446 hyX3_quotaOf ⟨rfl, rfl⟩ ⟨Nat.le_of_ble_eq_true rfl, Nat.le_of_ble_eq_true rfl⟩ hl.1 (Nat.le_of_ble_eq_true rfl) dX3_digest_107 ⟨Nat.zero_le _, Nat.zero_le _⟩ rfl (fun hg31 H locs hR hS => ?_)
      refine lv_i2l (v := ((jI y30).toInt64)) hx hb dX3_digest_110 rfl ?_
      refine lv_ladd hx hb dX3_digest_111 ?_
      refine lv_lstore_n (lv' := [(1, .long ((((v1 * (31 : Int64)) + ((jI y27).toInt64)) * (31 : Int64)) + ((jI y30).toInt64))), (0, .ref (adr b 0 0)), (3, .int (jI v3))]) hx hb dX3_digest_112 rfl hl (by decide) rfl (fun ls hl => ?_)
      obtain ⟨hq32, hF⟩ := xk_some hF
      refine x_iinc (lv' := [(3, .int (jI (v3 + (1 : Int)))), (1, .long ((((v1 * (31 : Int64)) + ((jI y27).toInt64)) * (31 : Int64)) + ((jI y30).toInt64))), (0, .ref (adr b 0 0))]) hx hb dX3_digest_113 hl (k := 2) rfl (by decide) rfl (fun ls hl => ?_)
      refine lv_goto (tgt := 82) hx hb dX3_digest_116 (by decide) ?_
      exact ih M ((((v1 * (31 : Int64)) + ((jI y27).toInt64)) * (31 : Int64)) + ((jI y30).toInt64)) (v3 + (1 : Int)) hq32 H locs hR hS ls (lv_sub hl [2, 1, 0] rfl) hF
def F_X3_digest (M : Mm) : Option (Int64 × Mm) := (xb1 (F_X3_needPower M ) fun _ => (xb1 (F_X3_nodes M ) fun y3 => (xb1 (F_X3_changes M ) fun y6 => (xb1 (F_X3_waiting M ) fun y9 => (xb1 (F_X3_handles M ) fun y12 => (xb1 (F_X3_mounts M ) fun y15 => (xb1 (F_X3_used M ) fun y18 => (F_X3_digest_82  FU M (((((((((((((58004 : Int64) * (31 : Int64)) + ((jI y3).toInt64)) * (31 : Int64)) + ((jI y6).toInt64)) * (31 : Int64)) + ((jI y9).toInt64)) * (31 : Int64)) + ((jI y12).toInt64)) * (31 : Int64)) + ((jI y15).toInt64)) * (31 : Int64)) + ((jI y18).toInt64)) (0 : Int)))))))))
set_option maxHeartbeats 4000000 in
set_option maxRecDepth 100000 in
theorem c_X3_digest {l : Launch} {g : Gx} {b : Nat} {M : Mm} {r : Int64} {M' : Mm} (hF : F_X3_digest M  = some (r, M')) : Ct l yX3_digest cX3_digest 4 (some .long) rmX3_digest g b [.ref (adr b 0 0)] M (qL g b r M') := by
  refine ct_of (by decide +kernel) (Nat.le_of_ble_eq_true rfl) ?_
  intro p e s m args below meth c C0 hR ls hl
  obtain ⟨hx, hb, hr, hlocks, hml, hown, hts, hK⟩ := id C0
  have hS : va_S (AA b s.heap.size) s.heap s.heap [] := va_S.rf
  have hl : lv_has ls 4 [(0, .ref (adr b 0 0))] := hl
  obtain ⟨H, hH⟩ : ∃ z, z = s.heap := ⟨_, rfl⟩
  obtain ⟨locs, hlo⟩ : ∃ z : List Loc, z = [] := ⟨_, rfl⟩
  have hR : Rel g b M H := by rw [hH]; exact hR
  have hS : va_S (AA b s.heap.size) s.heap H locs := by rw [hH, hlo]; exact hS
  suffices hW : W p l e rmX3_digest s m args below meth c H locs 0 0 (MQ below (qL g b r M' s.heap.size) args s 0 0 (AA b s.heap.size)) (F0 m 0 ls []) by rw [hH, hlo] at hW; exact hW
  rw [F_X3_digest] at hF
  refine lv_aload_n hx hb dX3_digest_0 rfl (lv_at hl 0 rfl) ?_
  obtain ⟨_, hc1, hF⟩ := xb1_some hF
  refine x_cVv (C := RX3) (T := TX3) (N := 9) (ci := 3) (As := []) (rest := []) hx hb hml hown hts hK hR hS (c_X3_needPower  hc1) ok0 rfl rfl wd170 wd172 ws0 wd1 wd173 hyX3_needPower ⟨rfl, rfl⟩ ⟨Nat.le_of_ble_eq_true rfl, Nat.le_of_ble_eq_true rfl⟩ hl.1 (Nat.le_of_ble_eq_true rfl) dX3_digest_1 ⟨Nat.zero_le _, Nat.zero_le _⟩ rfl (fun H locs hR hS => ?_)
  refine lv_ldc2 (v := (58004 : Int64)) hx hb hown (hts _ wd383) dX3_digest_4 ?_
  refine lv_lstore_n (lv' := [(1, .long (58004 : Int64)), (0, .ref (adr b 0 0))]) hx hb dX3_digest_7 rfl hl (by decide) rfl (fun ls hl => ?_)
  refine lv_lload_n hx hb dX3_digest_8 rfl (lv_at hl 0 rfl) ?_
  refine lv_ldc2 (v := (31 : Int64)) hx hb hown (hts _ wd384) dX3_digest_9 ?_
  refine lv_lmul hx hb dX3_digest_12 ?_
  refine lv_aload_n hx hb dX3_digest_13 rfl (lv_at hl 1 rfl) ?_
  obtain ⟨y3, hc2, hF⟩ := xb1_some hF
  refine x_cVi (C := RX3) (T := TX3) (N := 9) (ci := 3) (As := []) (rest := [.long ((58004 : Int64) * (31 : Int64))]) hx hb hml hown hts hK hR hS (c_X3_nodes  hc2) ok0 rfl rfl wd385 wd386 wd387 wd1 wd388 hyX3_nodes ⟨rfl, rfl⟩ ⟨Nat.le_of_ble_eq_true rfl, Nat.le_of_ble_eq_true rfl⟩ hl.1 (Nat.le_of_ble_eq_true rfl) dX3_digest_14 ⟨Nat.zero_le _, Nat.zero_le _⟩ rfl (fun hg4 H locs hR hS => ?_)
  refine lv_i2l (v := ((jI y3).toInt64)) hx hb dX3_digest_17 rfl ?_
  refine lv_ladd hx hb dX3_digest_18 ?_
  refine lv_lstore_n (lv' := [(1, .long (((58004 : Int64) * (31 : Int64)) + ((jI y3).toInt64))), (0, .ref (adr b 0 0))]) hx hb dX3_digest_19 rfl hl (by decide) rfl (fun ls hl => ?_)
  refine lv_lload_n hx hb dX3_digest_20 rfl (lv_at hl 0 rfl) ?_
  refine lv_ldc2 (v := (31 : Int64)) hx hb hown (hts _ wd384) dX3_digest_21 ?_
  refine lv_lmul hx hb dX3_digest_24 ?_
  refine lv_aload_n hx hb dX3_digest_25 rfl (lv_at hl 1 rfl) ?_
  obtain ⟨y6, hc5, hF⟩ := xb1_some hF
  refine x_cVi (C := RX3) (T := TX3) (N := 9) (ci := 3) (As := []) (rest := [.long ((((58004 : Int64) * (31 : Int64)) + ((jI y3).toInt64)) * (31 : Int64))]) hx hb hml hown hts hK hR hS (c_X3_changes  hc5) ok0 rfl rfl wd393 wd330 wd331 wd1 wd332 hyX3_changes ⟨rfl, rfl⟩ ⟨Nat.le_of_ble_eq_true rfl, Nat.le_of_ble_eq_true rfl⟩ hl.1 (Nat.le_of_ble_eq_true rfl) dX3_digest_26 ⟨Nat.zero_le _, Nat.zero_le _⟩ rfl (fun hg7 H locs hR hS => ?_)
  refine lv_i2l (v := ((jI y6).toInt64)) hx hb dX3_digest_29 rfl ?_
  refine lv_ladd hx hb dX3_digest_30 ?_
  refine lv_lstore_n (lv' := [(1, .long (((((58004 : Int64) * (31 : Int64)) + ((jI y3).toInt64)) * (31 : Int64)) + ((jI y6).toInt64))), (0, .ref (adr b 0 0))]) hx hb dX3_digest_31 rfl hl (by decide) rfl (fun ls hl => ?_)
  refine lv_lload_n hx hb dX3_digest_32 rfl (lv_at hl 0 rfl) ?_
  refine lv_ldc2 (v := (31 : Int64)) hx hb hown (hts _ wd384) dX3_digest_33 ?_
  refine lv_lmul hx hb dX3_digest_36 ?_
  refine lv_aload_n hx hb dX3_digest_37 rfl (lv_at hl 1 rfl) ?_
  obtain ⟨y9, hc8, hF⟩ := xb1_some hF
  refine x_cVi (C := RX3) (T := TX3) (N := 9) (ci := 3) (As := []) (rest := [.long ((((((58004 : Int64) * (31 : Int64)) + ((jI y3).toInt64)) * (31 : Int64)) + ((jI y6).toInt64)) * (31 : Int64))]) hx hb hml hown hts hK hR hS (c_X3_waiting  hc8) ok0 rfl rfl wd394 wd326 wd327 wd1 wd328 hyX3_waiting ⟨rfl, rfl⟩ ⟨Nat.le_of_ble_eq_true rfl, Nat.le_of_ble_eq_true rfl⟩ hl.1 (Nat.le_of_ble_eq_true rfl) dX3_digest_38 ⟨Nat.zero_le _, Nat.zero_le _⟩ rfl (fun hg10 H locs hR hS => ?_)
  refine lv_i2l (v := ((jI y9).toInt64)) hx hb dX3_digest_41 rfl ?_
  refine lv_ladd hx hb dX3_digest_42 ?_
  refine lv_lstore_n (lv' := [(1, .long (((((((58004 : Int64) * (31 : Int64)) + ((jI y3).toInt64)) * (31 : Int64)) + ((jI y6).toInt64)) * (31 : Int64)) + ((jI y9).toInt64))), (0, .ref (adr b 0 0))]) hx hb dX3_digest_43 rfl hl (by decide) rfl (fun ls hl => ?_)
  refine lv_lload_n hx hb dX3_digest_44 rfl (lv_at hl 0 rfl) ?_
  refine lv_ldc2 (v := (31 : Int64)) hx hb hown (hts _ wd384) dX3_digest_45 ?_
  refine lv_lmul hx hb dX3_digest_48 ?_
  refine lv_aload_n hx hb dX3_digest_49 rfl (lv_at hl 1 rfl) ?_
  obtain ⟨y12, hc11, hF⟩ := xb1_some hF
  refine x_cVi (C := RX3) (T := TX3) (N := 9) (ci := 3) (As := []) (rest := [.long ((((((((58004 : Int64) * (31 : Int64)) + ((jI y3).toInt64)) * (31 : Int64)) + ((jI y6).toInt64)) * (31 : Int64)) + ((jI y9).toInt64)) * (31 : Int64))]) hx hb hml hown hts hK hR hS (c_X3_handles  hc11) ok0 rfl rfl wd395 wd167 wd168 wd1 wd169 hyX3_handles ⟨rfl, rfl⟩ ⟨Nat.le_of_ble_eq_true rfl, Nat.le_of_ble_eq_true rfl⟩ hl.1 (Nat.le_of_ble_eq_true rfl) dX3_digest_50 ⟨Nat.zero_le _, Nat.zero_le _⟩ rfl (fun hg13 H locs hR hS => ?_)
  refine lv_i2l (v := ((jI y12).toInt64)) hx hb dX3_digest_53 rfl ?_
  refine lv_ladd hx hb dX3_digest_54 ?_
  refine lv_lstore_n (lv' := [(1, .long (((((((((58004 : Int64) * (31 : Int64)) + ((jI y3).toInt64)) * (31 : Int64)) + ((jI y6).toInt64)) * (31 : Int64)) + ((jI y9).toInt64)) * (31 : Int64)) + ((jI y12).toInt64))), (0, .ref (adr b 0 0))]) hx hb dX3_digest_55 rfl hl (by decide) rfl (fun ls hl => ?_)
  refine lv_lload_n hx hb dX3_digest_56 rfl (lv_at hl 0 rfl) ?_
  refine lv_ldc2 (v := (31 : Int64)) hx hb hown (hts _ wd384) dX3_digest_57 ?_
  refine lv_lmul hx hb dX3_digest_60 ?_
  refine lv_aload_n hx hb dX3_digest_61 rfl (lv_at hl 1 rfl) ?_
  obtain ⟨y15, hc14, hF⟩ := xb1_some hF
  refine x_cVi (C := RX3) (T := TX3) (N := 9) (ci := 3) (As := []) (rest := [.long ((((((((((58004 : Int64) * (31 : Int64)) + ((jI y3).toInt64)) * (31 : Int64)) + ((jI y6).toInt64)) * (31 : Int64)) + ((jI y9).toInt64)) * (31 : Int64)) + ((jI y12).toInt64)) * (31 : Int64))]) hx hb hml hown hts hK hR hS (c_X3_mounts  hc14) ok0 rfl rfl wd396 wd397 wd398 wd1 wd399 hyX3_mounts ⟨rfl, rfl⟩ ⟨Nat.le_of_ble_eq_true rfl, Nat.le_of_ble_eq_true rfl⟩ hl.1 (Nat.le_of_ble_eq_true rfl) dX3_digest_62 ⟨Nat.zero_le _, Nat.zero_le _⟩ rfl (fun hg16 H locs hR hS => ?_)
  refine lv_i2l (v := ((jI y15).toInt64)) hx hb dX3_digest_65 rfl ?_
  refine lv_ladd hx hb dX3_digest_66 ?_
  refine lv_lstore_n (lv' := [(1, .long (((((((((((58004 : Int64) * (31 : Int64)) + ((jI y3).toInt64)) * (31 : Int64)) + ((jI y6).toInt64)) * (31 : Int64)) + ((jI y9).toInt64)) * (31 : Int64)) + ((jI y12).toInt64)) * (31 : Int64)) + ((jI y15).toInt64))), (0, .ref (adr b 0 0))]) hx hb dX3_digest_67 rfl hl (by decide) rfl (fun ls hl => ?_)
  refine lv_lload_n hx hb dX3_digest_68 rfl (lv_at hl 0 rfl) ?_
  refine lv_ldc2 (v := (31 : Int64)) hx hb hown (hts _ wd384) dX3_digest_69 ?_
  refine lv_lmul hx hb dX3_digest_72 ?_
  refine lv_aload_n hx hb dX3_digest_73 rfl (lv_at hl 1 rfl) ?_
  obtain ⟨y18, hc17, hF⟩ := xb1_some hF
  refine x_cVi (C := RX3) (T := TX3) (N := 9) (ci := 3) (As := []) (rest := [.long ((((((((((((58004 : Int64) * (31 : Int64)) + ((jI y3).toInt64)) * (31 : Int64)) + ((jI y6).toInt64)) * (31 : Int64)) + ((jI y9).toInt64)) * (31 : Int64)) + ((jI y12).toInt64)) * (31 : Int64)) + ((jI y15).toInt64)) * (31 : Int64))]) hx hb hml hown hts hK hR hS (c_X3_used  hc17) ok0 rfl rfl wd400 wd401 wd402 wd1 wd403 hyX3_used ⟨rfl, rfl⟩ ⟨Nat.le_of_ble_eq_true rfl, Nat.le_of_ble_eq_true rfl⟩ hl.1 (Nat.le_of_ble_eq_true rfl) dX3_digest_74 ⟨Nat.zero_le _, Nat.zero_le _⟩ rfl (fun hg19 H locs hR hS => ?_)
  refine lv_i2l (v := ((jI y18).toInt64)) hx hb dX3_digest_77 rfl ?_
  refine lv_ladd hx hb dX3_digest_78 ?_
  refine lv_lstore_n (lv' := [(1, .long (((((((((((((58004 : Int64) * (31 : Int64)) + ((jI y3).toInt64)) * (31 : Int64)) + ((jI y6).toInt64)) * (31 : Int64)) + ((jI y9).toInt64)) * (31 : Int64)) + ((jI y12).toInt64)) * (31 : Int64)) + ((jI y15).toInt64)) * (31 : Int64)) + ((jI y18).toInt64))), (0, .ref (adr b 0 0))]) hx hb dX3_digest_79 rfl hl (by decide) rfl (fun ls hl => ?_)
  refine x_iconst hx hb dX3_digest_80 ?_
  refine lv_istore_n (lv' := [(3, .int (jI (0 : Int))), (1, .long (((((((((((((58004 : Int64) * (31 : Int64)) + ((jI y3).toInt64)) * (31 : Int64)) + ((jI y6).toInt64)) * (31 : Int64)) + ((jI y9).toInt64)) * (31 : Int64)) + ((jI y12).toInt64)) * (31 : Int64)) + ((jI y15).toInt64)) * (31 : Int64)) + ((jI y18).toInt64))), (0, .ref (adr b 0 0))]) hx hb dX3_digest_81 rfl hl (by decide) rfl (fun ls hl => ?_)
  exact w_X3_digest_82 C0  FU M (((((((((((((58004 : Int64) * (31 : Int64)) + ((jI y3).toInt64)) * (31 : Int64)) + ((jI y6).toInt64)) * (31 : Int64)) + ((jI y9).toInt64)) * (31 : Int64)) + ((jI y12).toInt64)) * (31 : Int64)) + ((jI y15).toInt64)) * (31 : Int64)) + ((jI y18).toInt64)) (0 : Int) (by decide : rg (0 : Int)) H locs hR hS ls (lv_sub hl [2, 1, 0] rfl) hF
