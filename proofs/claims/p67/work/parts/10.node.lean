abbrev rmX1_aim : Room := { frames := 0, cells := 0, slots := 0, locals := 0 }
theorem hyX1_aim : yX1_aim.cls = RX1 ∧ yX1_aim.cls ≠ "java/lang/invoke/MethodHandle" ∧ yX1_aim.cls ≠ "java/lang/invoke/VarHandle" ∧ (parseMethodDescriptor yX1_aim.desc).map (fun d => d.parameters.length) = some 3 := by decide +kernel
def F_X1_aim (M : Mm) (o : Nat) (a1 : Int) (a2 : Int) (a3 : Int) : Option (Mm) := (xl (mup M 2 o 5 a1) fun M1 => (xl (mup M1 2 o 6 a2) fun M2 => (xl (mup M2 2 o 7 a3) fun M3 => (some M3))))
set_option maxHeartbeats 4000000 in
set_option maxRecDepth 100000 in
theorem c_X1_aim {l : Launch} {g : Gx} {b : Nat} {M : Mm} {o : Nat} {a1 : Int} {a2 : Int} {a3 : Int} {M' : Mm} (ho : o < 99) (ha1 : rg a1) (ha2 : rg a2) (ha3 : rg a3) (hF : F_X1_aim M o a1 a2 a3 = some M') : Ct l yX1_aim cX1_aim 4 none rmX1_aim g b [.ref (adr b 2 o), .int (jI a1), .int (jI a2), .int (jI a3)] M (qV g b M') := by
  refine ct_of (by decide +kernel) (Nat.le_of_ble_eq_true rfl) ?_
  intro p e s m args below meth c C0 hR ls hl
  obtain ⟨hx, hb, hr, hlocks, hml, hown, hts, hK⟩ := id C0
  have hS : va_S (AA b s.heap.size) s.heap s.heap [] := va_S.rf
  have hl : lv_has ls 4 [(0, .ref (adr b 2 o)), (1, .int (jI a1)), (2, .int (jI a2)), (3, .int (jI a3))] := hl
  obtain ⟨H, hH⟩ : ∃ z, z = s.heap := ⟨_, rfl⟩
  obtain ⟨locs, hlo⟩ : ∃ z : List Loc, z = [] := ⟨_, rfl⟩
  have hR : Rel g b M H := by rw [hH]; exact hR
  have hS : va_S (AA b s.heap.size) s.heap H locs := by rw [hH, hlo]; exact hS
  suffices hW : W p l e rmX1_aim s m args below meth c H locs 0 0 (MQ below (qV g b M' s.heap.size) args s 0 0 (AA b s.heap.size)) (F0 m 0 ls []) by rw [hH, hlo] at hW; exact hW
  rw [F_X1_aim] at hF
  refine lv_aload_n hx hb dX1_aim_0 rfl (lv_at hl 0 rfl) ?_
  refine lv_iload_n hx hb dX1_aim_1 rfl (lv_at hl 1 rfl) ?_
  refine pf_1_5 hx hb hts hown hK hR hS ho ha1 wd49 dX1_aim_2 (fun H locs hR hS => ?_)
  obtain ⟨M1, eM, hF⟩ := xl_some hF
  rw [eM] at hR
  clear eM
  refine lv_aload_n hx hb dX1_aim_5 rfl (lv_at hl 0 rfl) ?_
  refine lv_iload_n hx hb dX1_aim_6 rfl (lv_at hl 2 rfl) ?_
  refine pf_1_6 hx hb hts hown hK hR hS ho ha2 wd51 dX1_aim_7 (fun H locs hR hS => ?_)
  obtain ⟨M2, eM, hF⟩ := xl_some hF
  rw [eM] at hR
  clear eM
  refine lv_aload_n hx hb dX1_aim_10 rfl (lv_at hl 0 rfl) ?_
  refine lv_iload_n hx hb dX1_aim_11 rfl (lv_at hl 3 rfl) ?_
  refine pf_1_7 hx hb hts hown hK hR hS ho ha3 wd53 dX1_aim_12 (fun H locs hR hS => ?_)
  obtain ⟨M3, eM, hF⟩ := xl_some hF
  rw [eM] at hR
  clear eM
  cases hF
  exact x_vret hx hb hlocks hK hR hS hr dX1_aim_15
abbrev rmX1_become : Room := { frames := 1, cells := 0, slots := 0, locals := 23 }
theorem hyX1_become : yX1_become.cls = RX1 ∧ yX1_become.cls ≠ "java/lang/invoke/MethodHandle" ∧ yX1_become.cls ≠ "java/lang/invoke/VarHandle" ∧ (parseMethodDescriptor yX1_become.desc).map (fun d => d.parameters.length) = some 2 := by decide +kernel
def F_X1_become_39  : Nat → Mm → Nat → Int → Option (Mm)
  | 0, _, _, _ => none
  | n + 1, M, v0, v3 => (if (20 : Int) ≤ v3 then (some M) else (xk (0 ≤ v3 ∧ v3 < 20) (xl (mup M 5 v0 v3.toNat (0 : Int)) fun M3 => (xk (rg (v3 + (1 : Int))) (F_X1_become_39  n M3 v0 (v3 + (1 : Int)))))))
set_option maxHeartbeats 4000000 in
set_option maxRecDepth 100000 in
theorem w_X1_become_39 {p : Program} {l : Launch} {e : Env} {s : State} {m : MethodId} {args : Array Value} {below : List Frame} {meth : Method} {c : Code} {g : Gx} {b : Nat} (C0 : XA p s m meth c args RX1 cX1_become 4 none g) {M' : Mm} : ∀ n : Nat, ∀ (M : Mm) (v0 : Nat) (v3 : Int) (hv0 : v0 < 99) (hv3 : rg v3) (H : Heap) (locs : List Loc), Rel g b M H → va_S (AA b s.heap.size) s.heap H locs → ∀ ls : Array Slot, lv_has ls 4 [(0, .ref (adr b 2 v0)), (3, .int (jI v3))] → F_X1_become_39  n M v0 v3 = some M' → W p l e rmX1_become s m args below meth c H locs 0 0 (MQ below (qV g b M' s.heap.size) args s 0 0 (AA b s.heap.size)) (F0 m 39 ls []) := by
  obtain ⟨hx, hb, hr, hlocks, hml, hown, hts, hK⟩ := id C0
  intro n
  induction n with
  | zero =>
    intro M v0 v3 hv0 hv3 H locs hR hS ls hl hF
    rw [F_X1_become_39] at hF
    cases hF
  | succ n ih =>
    intro M v0 v3 hv0 hv3 H locs hR hS ls hl hF
    rw [F_X1_become_39] at hF
    refine lv_iload_n hx hb dX1_become_39 rfl (lv_at hl 1 rfl) ?_
    refine lv_aload_n hx hb dX1_become_40 rfl (lv_at hl 0 rfl) ?_
    refine gf_1_11 hx hb hts hown hK hR hv0 wd60 dX1_become_41 ?_
    refine x_alen (K := 5) (n := (20 : Int)) hx hb hK hR (ok5 hv0) (by decide) (by decide +kernel) dX1_become_44 ?_
    refine x_icmp_ge (tgt := 61) hx hb hv3 (by decide : rg (20 : Int)) dX1_become_45 (by decide) (fun ci1 => ?_) (fun ci1 => ?_)
    · rw [if_pos ci1] at hF
      cases hF
      exact x_vret hx hb hlocks hK hR hS hr dX1_become_61
    · rw [if_neg ci1] at hF
      refine lv_aload_n hx hb dX1_become_48 rfl (lv_at hl 0 rfl) ?_
      refine gf_1_11 hx hb hts hown hK hR hv0 wd60 dX1_become_49 ?_
      refine lv_iload_n hx hb dX1_become_52 rfl (lv_at hl 1 rfl) ?_
      refine x_iconst hx hb dX1_become_53 ?_
      obtain ⟨hi2, hF⟩ := xk_some hF
      refine x_iast (K := 5) hx hb hK hR hS (ok5 hv0) (by decide) hv3 (by decide : rg (0 : Int)) hi2 dX1_become_54 (fun H locs hR hS => ?_)
      obtain ⟨M3, eM, hF⟩ := xl_some hF
      rw [eM] at hR
      clear eM
      obtain ⟨hq4, hF⟩ := xk_some hF
      refine x_iinc (lv' := [(3, .int (jI (v3 + (1 : Int)))), (0, .ref (adr b 2 v0))]) hx hb dX1_become_55 hl (k := 1) rfl (by decide) rfl (fun ls hl => ?_)
      refine lv_goto (tgt := 39) hx hb dX1_become_58 (by decide) ?_
      exact ih M3 v0 (v3 + (1 : Int)) hv0 hq4 H locs hR hS ls (lv_sub hl [1, 0] rfl) hF
def F_X1_become (M : Mm) (o : Nat) (a1 : Int) (a2 : Int) : Option (Mm) := (xl (mup M 2 o 0 a1) fun M1 => (xl (mup M1 2 o 1 a2) fun M2 => (xl (mup M2 2 o 2 (0 : Int)) fun M3 => (xl (mup M3 2 o 3 (0 : Int)) fun M4 => (xl (mup M4 2 o 4 (0 : Int)) fun M5 => (xb1 (F_X1_aim M5 o (0 : Int) (0 : Int) (0 : Int)) fun M7 => (xl (mup M7 2 o 8 (0 : Int)) fun M8 => (F_X1_become_39  FU M8 o (0 : Int)))))))))
set_option maxHeartbeats 4000000 in
set_option maxRecDepth 100000 in
theorem c_X1_become {l : Launch} {g : Gx} {b : Nat} {M : Mm} {o : Nat} {a1 : Int} {a2 : Int} {M' : Mm} (ho : o < 99) (ha1 : rg a1) (ha2 : rg a2) (hF : F_X1_become M o a1 a2 = some M') : Ct l yX1_become cX1_become 4 none rmX1_become g b [.ref (adr b 2 o), .int (jI a1), .int (jI a2)] M (qV g b M') := by
  refine ct_of (by decide +kernel) (Nat.le_of_ble_eq_true rfl) ?_
  intro p e s m args below meth c C0 hR ls hl
  obtain ⟨hx, hb, hr, hlocks, hml, hown, hts, hK⟩ := id C0
  have hS : va_S (AA b s.heap.size) s.heap s.heap [] := va_S.rf
  have hl : lv_has ls 4 [(0, .ref (adr b 2 o)), (1, .int (jI a1)), (2, .int (jI a2))] := hl
  obtain ⟨H, hH⟩ : ∃ z, z = s.heap := ⟨_, rfl⟩
  obtain ⟨locs, hlo⟩ : ∃ z : List Loc, z = [] := ⟨_, rfl⟩
  have hR : Rel g b M H := by rw [hH]; exact hR
  have hS : va_S (AA b s.heap.size) s.heap H locs := by rw [hH, hlo]; exact hS
  suffices hW : W p l e rmX1_become s m args below meth c H locs 0 0 (MQ below (qV g b M' s.heap.size) args s 0 0 (AA b s.heap.size)) (F0 m 0 ls []) by rw [hH, hlo] at hW; exact hW
  rw [F_X1_become] at hF
  refine lv_aload_n hx hb dX1_become_0 rfl (lv_at hl 0 rfl) ?_
  refine lv_iload_n hx hb dX1_become_1 rfl (lv_at hl 1 rfl) ?_
  refine pf_1_0 hx hb hts hown hK hR hS ho ha1 wd34 dX1_become_2 (fun H locs hR hS => ?_)
  obtain ⟨M1, eM, hF⟩ := xl_some hF
  rw [eM] at hR
  clear eM
  refine lv_aload_n hx hb dX1_become_5 rfl (lv_at hl 0 rfl) ?_
  refine lv_iload_n hx hb dX1_become_6 rfl (lv_at hl 2 rfl) ?_
  refine pf_1_1 hx hb hts hown hK hR hS ho ha2 wd37 dX1_become_7 (fun H locs hR hS => ?_)
  obtain ⟨M2, eM, hF⟩ := xl_some hF
  rw [eM] at hR
  clear eM
  refine lv_aload_n hx hb dX1_become_10 rfl (lv_at hl 0 rfl) ?_
  refine x_iconst hx hb dX1_become_11 ?_
  refine pf_1_2 hx hb hts hown hK hR hS ho (by decide : rg (0 : Int)) wd40 dX1_become_12 (fun H locs hR hS => ?_)
  obtain ⟨M3, eM, hF⟩ := xl_some hF
  rw [eM] at hR
  clear eM
  refine lv_aload_n hx hb dX1_become_15 rfl (lv_at hl 0 rfl) ?_
  refine x_iconst hx hb dX1_become_16 ?_
  refine pf_1_3 hx hb hts hown hK hR hS ho (by decide : rg (0 : Int)) wd43 dX1_become_17 (fun H locs hR hS => ?_)
  obtain ⟨M4, eM, hF⟩ := xl_some hF
  rw [eM] at hR
  clear eM
  refine lv_aload_n hx hb dX1_become_20 rfl (lv_at hl 0 rfl) ?_
  refine x_iconst hx hb dX1_become_21 ?_
  refine pf_1_4 hx hb hts hown hK hR hS ho (by decide : rg (0 : Int)) wd46 dX1_become_22 (fun H locs hR hS => ?_)
  obtain ⟨M5, eM, hF⟩ := xl_some hF
  rw [eM] at hR
  clear eM
  refine lv_aload_n hx hb dX1_become_25 rfl (lv_at hl 0 rfl) ?_
  refine x_iconst hx hb dX1_become_26 ?_
  refine x_iconst hx hb dX1_become_27 ?_
  refine x_iconst hx hb dX1_become_28 ?_
  obtain ⟨M7, hc6, hF⟩ := xb1_some hF
  refine x_cVv (C := RX1) (T := TX1) (N := 12) (ci := 1) (As := [.int (jI (0 : Int)), .int (jI (0 : Int)), .int (jI (0 : Int))]) (rest := []) hx hb hml hown hts hK hR hS (c_X1_aim ho (by decide : rg (0 : Int)) (by decide : rg (0 : Int)) (by decide : rg (0 : Int)) hc6) (ok2 ho) rfl rfl wd262 wd263 wd264 wd3 wd265 hyX1_aim ⟨rfl, rfl⟩ ⟨Nat.le_of_ble_eq_true rfl, Nat.le_of_ble_eq_true rfl⟩ hl.1 (Nat.le_of_ble_eq_true rfl) dX1_become_29 ⟨Nat.zero_le _, Nat.zero_le _⟩ rfl (fun H locs hR hS => ?_)
  refine lv_aload_n hx hb dX1_become_32 rfl (lv_at hl 0 rfl) ?_
  refine x_iconst hx hb dX1_become_33 ?_
  refine pf_1_8 hx hb hts hown hK hR hS ho (by decide : rg (0 : Int)) wd55 dX1_become_34 (fun H locs hR hS => ?_)
  obtain ⟨M8, eM, hF⟩ := xl_some hF
  rw [eM] at hR
  clear eM
  refine x_iconst hx hb dX1_become_37 ?_
  refine lv_istore_n (lv' := [(3, .int (jI (0 : Int))), (0, .ref (adr b 2 o)), (1, .int (jI a1)), (2, .int (jI a2))]) hx hb dX1_become_38 rfl hl (by decide) rfl (fun ls hl => ?_)
  exact w_X1_become_39 C0  FU M8 o (0 : Int) ho (by decide : rg (0 : Int)) H locs hR hS ls (lv_sub hl [1, 0] rfl) hF
abbrev rmX1_copyFrom : Room := { frames := 1, cells := 0, slots := 0, locals := 35 }
theorem hyX1_copyFrom : yX1_copyFrom.cls = RX1 ∧ yX1_copyFrom.cls ≠ "java/lang/invoke/MethodHandle" ∧ yX1_copyFrom.cls ≠ "java/lang/invoke/VarHandle" ∧ (parseMethodDescriptor yX1_copyFrom.desc).map (fun d => d.parameters.length) = some 1 := by decide +kernel
def F_X1_copyFrom (M : Mm) (o : Nat) (a1 : Nat) : Option (Mm) := (xl (mup M 2 o 0 (M 2 a1 0)) fun M2 => (xl (mup M2 2 o 1 (M2 2 a1 1)) fun M4 => (xl (mup M4 2 o 2 (M4 2 a1 2)) fun M6 => (xl (mup M6 2 o 3 (M6 2 a1 3)) fun M8 => (xl (mup M8 2 o 4 (M8 2 a1 4)) fun M10 => (xb1 (F_X1_aim M10 o (M10 2 a1 5) (M10 2 a1 6) (M10 2 a1 7)) fun M15 => (xl (mup M15 2 o 8 (M15 2 a1 8)) fun M17 => (xl (mcp M17 3 a1 (0 : Int).toNat 3 o (0 : Int).toNat (12 : Int).toNat) fun M18 => (xl (mcp M18 4 a1 (0 : Int).toNat 4 o (0 : Int).toNat (12 : Int).toNat) fun M19 => (xl (mcp M19 5 a1 (0 : Int).toNat 5 o (0 : Int).toNat (20 : Int).toNat) fun M20 => (some M20)))))))))))
set_option maxHeartbeats 4000000 in
set_option maxRecDepth 100000 in
theorem c_X1_copyFrom {l : Launch} {g : Gx} {b : Nat} {M : Mm} {o : Nat} {a1 : Nat} {M' : Mm} (ho : o < 99) (ha1 : a1 < 99) (hF : F_X1_copyFrom M o a1 = some M') : Ct l yX1_copyFrom cX1_copyFrom 2 none rmX1_copyFrom g b [.ref (adr b 2 o), .ref (adr b 2 a1)] M (qV g b M') := by
  refine ct_of (by decide +kernel) (Nat.le_of_ble_eq_true rfl) ?_
  intro p e s m args below meth c C0 hR ls hl
  obtain ⟨hx, hb, hr, hlocks, hml, hown, hts, hK⟩ := id C0
  have hS : va_S (AA b s.heap.size) s.heap s.heap [] := va_S.rf
  have hl : lv_has ls 2 [(0, .ref (adr b 2 o)), (1, .ref (adr b 2 a1))] := hl
  obtain ⟨H, hH⟩ : ∃ z, z = s.heap := ⟨_, rfl⟩
  obtain ⟨locs, hlo⟩ : ∃ z : List Loc, z = [] := ⟨_, rfl⟩
  have hR : Rel g b M H := by rw [hH]; exact hR
  have hS : va_S (AA b s.heap.size) s.heap H locs := by rw [hH, hlo]; exact hS
  suffices hW : W p l e rmX1_copyFrom s m args below meth c H locs 0 0 (MQ below (qV g b M' s.heap.size) args s 0 0 (AA b s.heap.size)) (F0 m 0 ls []) by rw [hH, hlo] at hW; exact hW
  rw [F_X1_copyFrom] at hF
  refine lv_aload_n hx hb dX1_copyFrom_0 rfl (lv_at hl 0 rfl) ?_
  refine lv_aload_n hx hb dX1_copyFrom_1 rfl (lv_at hl 1 rfl) ?_
  refine gf_1_0 hx hb hts hown hK hR ha1 wd34 dX1_copyFrom_2 ?_
  have hg1 : rg (M 2 a1 0) := hR.2 2 a1 0 (by decide)
  refine pf_1_0 hx hb hts hown hK hR hS ho hg1 wd34 dX1_copyFrom_5 (fun H locs hR hS => ?_)
  obtain ⟨M2, eM, hF⟩ := xl_some hF
  rw [eM] at hR
  clear eM
  refine lv_aload_n hx hb dX1_copyFrom_8 rfl (lv_at hl 0 rfl) ?_
  refine lv_aload_n hx hb dX1_copyFrom_9 rfl (lv_at hl 1 rfl) ?_
  refine gf_1_1 hx hb hts hown hK hR ha1 wd37 dX1_copyFrom_10 ?_
  have hg3 : rg (M2 2 a1 1) := hR.2 2 a1 1 (by decide)
  refine pf_1_1 hx hb hts hown hK hR hS ho hg3 wd37 dX1_copyFrom_13 (fun H locs hR hS => ?_)
  obtain ⟨M4, eM, hF⟩ := xl_some hF
  rw [eM] at hR
  clear eM
  refine lv_aload_n hx hb dX1_copyFrom_16 rfl (lv_at hl 0 rfl) ?_
  refine lv_aload_n hx hb dX1_copyFrom_17 rfl (lv_at hl 1 rfl) ?_
  refine gf_1_2 hx hb hts hown hK hR ha1 wd40 dX1_copyFrom_18 ?_
  have hg5 : rg (M4 2 a1 2) := hR.2 2 a1 2 (by decide)
  refine pf_1_2 hx hb hts hown hK hR hS ho hg5 wd40 dX1_copyFrom_21 (fun H locs hR hS => ?_)
  obtain ⟨M6, eM, hF⟩ := xl_some hF
  rw [eM] at hR
  clear eM
  refine lv_aload_n hx hb dX1_copyFrom_24 rfl (lv_at hl 0 rfl) ?_
  refine lv_aload_n hx hb dX1_copyFrom_25 rfl (lv_at hl 1 rfl) ?_
  refine gf_1_3 hx hb hts hown hK hR ha1 wd43 dX1_copyFrom_26 ?_
  have hg7 : rg (M6 2 a1 3) := hR.2 2 a1 3 (by decide)
  refine pf_1_3 hx hb hts hown hK hR hS ho hg7 wd43 dX1_copyFrom_29 (fun H locs hR hS => ?_)
  obtain ⟨M8, eM, hF⟩ := xl_some hF
  rw [eM] at hR
  clear eM
  refine lv_aload_n hx hb dX1_copyFrom_32 rfl (lv_at hl 0 rfl) ?_
  refine lv_aload_n hx hb dX1_copyFrom_33 rfl (lv_at hl 1 rfl) ?_
  refine gf_1_4 hx hb hts hown hK hR ha1 wd46 dX1_copyFrom_34 ?_
  have hg9 : rg (M8 2 a1 4) := hR.2 2 a1 4 (by decide)
  refine pf_1_4 hx hb hts hown hK hR hS ho hg9 wd46 dX1_copyFrom_37 (fun H locs hR hS => ?_)
  obtain ⟨M10, eM, hF⟩ := xl_some hF
  rw [eM] at hR
  clear eM
  refine lv_aload_n hx hb dX1_copyFrom_40 rfl (lv_at hl 0 rfl) ?_
  refine lv_aload_n hx hb dX1_copyFrom_41 rfl (lv_at hl 1 rfl) ?_
  refine gf_1_5 hx hb hts hown hK hR ha1 wd49 dX1_copyFrom_42 ?_
  have hg11 : rg (M10 2 a1 5) := hR.2 2 a1 5 (by decide)
  refine lv_aload_n hx hb dX1_copyFrom_45 rfl (lv_at hl 1 rfl) ?_
  refine gf_1_6 hx hb hts hown hK hR ha1 wd51 dX1_copyFrom_46 ?_
  have hg12 : rg (M10 2 a1 6) := hR.2 2 a1 6 (by decide)
  refine lv_aload_n hx hb dX1_copyFrom_49 rfl (lv_at hl 1 rfl) ?_
  refine gf_1_7 hx hb hts hown hK hR ha1 wd53 dX1_copyFrom_50 ?_
  have hg13 : rg (M10 2 a1 7) := hR.2 2 a1 7 (by decide)
  obtain ⟨M15, hc14, hF⟩ := xb1_some hF
  refine x_cVv (C := RX1) (T := TX1) (N := 12) (ci := 1) (As := [.int (jI (M10 2 a1 5)), .int (jI (M10 2 a1 6)), .int (jI (M10 2 a1 7))]) (rest := []) hx hb hml hown hts hK hR hS (c_X1_aim ho hg11 hg12 hg13 hc14) (ok2 ho) rfl rfl wd262 wd263 wd264 wd3 wd265 hyX1_aim ⟨rfl, rfl⟩ ⟨Nat.le_of_ble_eq_true rfl, Nat.le_of_ble_eq_true rfl⟩ hl.1 (Nat.le_of_ble_eq_true rfl) dX1_copyFrom_53 ⟨Nat.zero_le _, Nat.zero_le _⟩ rfl (fun H locs hR hS => ?_)
  refine lv_aload_n hx hb dX1_copyFrom_56 rfl (lv_at hl 0 rfl) ?_
  refine lv_aload_n hx hb dX1_copyFrom_57 rfl (lv_at hl 1 rfl) ?_
  refine gf_1_8 hx hb hts hown hK hR ha1 wd55 dX1_copyFrom_58 ?_
  have hg16 : rg (M15 2 a1 8) := hR.2 2 a1 8 (by decide)
  refine pf_1_8 hx hb hts hown hK hR hS ho hg16 wd55 dX1_copyFrom_61 (fun H locs hR hS => ?_)
  obtain ⟨M17, eM, hF⟩ := xl_some hF
  rw [eM] at hR
  clear eM
  refine lv_aload_n hx hb dX1_copyFrom_64 rfl (lv_at hl 1 rfl) ?_
  refine gf_1_9 hx hb hts hown hK hR ha1 wd58 dX1_copyFrom_65 ?_
  refine x_iconst hx hb dX1_copyFrom_68 ?_
  refine lv_aload_n hx hb dX1_copyFrom_69 rfl (lv_at hl 0 rfl) ?_
  refine gf_1_9 hx hb hts hown hK hR ho wd58 dX1_copyFrom_70 ?_
  refine x_iconst hx hb dX1_copyFrom_73 ?_
  refine x_bipush hx hb (by decide +kernel) dX1_copyFrom_74 ?_
  refine x_copy (K := 3) (K2 := 3) hx hb hml hl.1 hts hown wd266 wd268 wd267 wd11 hK hR hS (ok3 ha1) (ok3 ho) (by decide) (by decide) (by decide : rg (0 : Int)) (by decide : rg (0 : Int)) (by decide : rg (12 : Int)) (by decide) (by decide) (by decide) (by decide) (by decide) (Nat.le_of_ble_eq_true rfl) (by decide +kernel) dX1_copyFrom_76 (fun H locs hR hS => ?_)
  obtain ⟨M18, eM, hF⟩ := xl_some hF
  rw [eM] at hR
  clear eM
  refine lv_aload_n hx hb dX1_copyFrom_79 rfl (lv_at hl 1 rfl) ?_
  refine gf_1_10 hx hb hts hown hK hR ha1 wd59 dX1_copyFrom_80 ?_
  refine x_iconst hx hb dX1_copyFrom_83 ?_
  refine lv_aload_n hx hb dX1_copyFrom_84 rfl (lv_at hl 0 rfl) ?_
  refine gf_1_10 hx hb hts hown hK hR ho wd59 dX1_copyFrom_85 ?_
  refine x_iconst hx hb dX1_copyFrom_88 ?_
  refine x_bipush hx hb (by decide +kernel) dX1_copyFrom_89 ?_
  refine x_copy (K := 4) (K2 := 4) hx hb hml hl.1 hts hown wd266 wd268 wd267 wd11 hK hR hS (ok4 ha1) (ok4 ho) (by decide) (by decide) (by decide : rg (0 : Int)) (by decide : rg (0 : Int)) (by decide : rg (12 : Int)) (by decide) (by decide) (by decide) (by decide) (by decide) (Nat.le_of_ble_eq_true rfl) (by decide +kernel) dX1_copyFrom_91 (fun H locs hR hS => ?_)
  obtain ⟨M19, eM, hF⟩ := xl_some hF
  rw [eM] at hR
  clear eM
  refine lv_aload_n hx hb dX1_copyFrom_94 rfl (lv_at hl 1 rfl) ?_
  refine gf_1_11 hx hb hts hown hK hR ha1 wd60 dX1_copyFrom_95 ?_
  refine x_iconst hx hb dX1_copyFrom_98 ?_
  refine lv_aload_n hx hb dX1_copyFrom_99 rfl (lv_at hl 0 rfl) ?_
  refine gf_1_11 hx hb hts hown hK hR ho wd60 dX1_copyFrom_100 ?_
  refine x_iconst hx hb dX1_copyFrom_103 ?_
  refine x_bipush hx hb (by decide +kernel) dX1_copyFrom_104 ?_
  refine x_copy (K := 5) (K2 := 5) hx hb hml hl.1 hts hown wd266 wd268 wd267 wd11 hK hR hS (ok5 ha1) (ok5 ho) (by decide) (by decide) (by decide : rg (0 : Int)) (by decide : rg (0 : Int)) (by decide : rg (20 : Int)) (by decide) (by decide) (by decide) (by decide) (by decide) (Nat.le_of_ble_eq_true rfl) (by decide +kernel) dX1_copyFrom_106 (fun H locs hR hS => ?_)
  obtain ⟨M20, eM, hF⟩ := xl_some hF
  rw [eM] at hR
  clear eM
  cases hF
  exact x_vret hx hb hlocks hK hR hS hr dX1_copyFrom_109
abbrev rmX1_isForsaken : Room := { frames := 0, cells := 0, slots := 0, locals := 0 }
theorem hyX1_isForsaken : yX1_isForsaken.cls = RX1 ∧ yX1_isForsaken.cls ≠ "java/lang/invoke/MethodHandle" ∧ yX1_isForsaken.cls ≠ "java/lang/invoke/VarHandle" ∧ (parseMethodDescriptor yX1_isForsaken.desc).map (fun d => d.parameters.length) = some 0 := by decide +kernel
def F_X1_isForsaken (M : Mm) (o : Nat) : Option (Int) := (if (M 2 o 0) = (1 : Int) then (if (M 2 o 2) = 0 then (some (1 : Int)) else (some (0 : Int))) else (some (0 : Int)))
set_option maxHeartbeats 4000000 in
set_option maxRecDepth 100000 in
theorem c_X1_isForsaken {l : Launch} {g : Gx} {b : Nat} {M : Mm} {o : Nat} {r : Int} (ho : o < 99) (hF : F_X1_isForsaken M o = some r) : Ct l yX1_isForsaken cX1_isForsaken 1 (some .boolean) rmX1_isForsaken g b [.ref (adr b 2 o)] M (qI g b r M) := by
  refine ct_of (by decide +kernel) (Nat.le_of_ble_eq_true rfl) ?_
  intro p e s m args below meth c C0 hR ls hl
  obtain ⟨hx, hb, hr, hlocks, hml, hown, hts, hK⟩ := id C0
  have hS : va_S (AA b s.heap.size) s.heap s.heap [] := va_S.rf
  have hl : lv_has ls 1 [(0, .ref (adr b 2 o))] := hl
  obtain ⟨H, hH⟩ : ∃ z, z = s.heap := ⟨_, rfl⟩
  obtain ⟨locs, hlo⟩ : ∃ z : List Loc, z = [] := ⟨_, rfl⟩
  have hR : Rel g b M H := by rw [hH]; exact hR
  have hS : va_S (AA b s.heap.size) s.heap H locs := by rw [hH, hlo]; exact hS
  suffices hW : W p l e rmX1_isForsaken s m args below meth c H locs 0 0 (MQ below (qI g b r M s.heap.size) args s 0 0 (AA b s.heap.size)) (F0 m 0 ls []) by rw [hH, hlo] at hW; exact hW
  rw [F_X1_isForsaken] at hF
  refine lv_aload_n hx hb dX1_isForsaken_0 rfl (lv_at hl 0 rfl) ?_
  refine gf_1_0 hx hb hts hown hK hR ho wd34 dX1_isForsaken_1 ?_
  have hg1 : rg (M 2 o 0) := hR.2 2 o 0 (by decide)
  refine x_iconst hx hb dX1_isForsaken_4 ?_
  refine x_icmp_ne (tgt := 19) hx hb hg1 (by decide : rg (1 : Int)) dX1_isForsaken_5 (by decide) (fun ci2 => ?_) (fun ci2 => ?_)
  · rw [if_neg ci2] at hF
    refine x_iconst hx hb dX1_isForsaken_19 ?_
    cases hF
    exact x_zret hx hb hlocks hK hR hS hr (by decide) dX1_isForsaken_20
  · rw [if_pos ci2] at hF
    refine lv_aload_n hx hb dX1_isForsaken_8 rfl (lv_at hl 0 rfl) ?_
    refine gf_1_2 hx hb hts hown hK hR ho wd40 dX1_isForsaken_9 ?_
    have hg3 : rg (M 2 o 2) := hR.2 2 o 2 (by decide)
    refine x_if_ne (tgt := 19) hx hb hg3 dX1_isForsaken_12 (by decide) (fun ci4 => ?_) (fun ci4 => ?_)
    · rw [if_neg ci4] at hF
      refine x_iconst hx hb dX1_isForsaken_19 ?_
      cases hF
      exact x_zret hx hb hlocks hK hR hS hr (by decide) dX1_isForsaken_20
    · rw [if_pos ci4] at hF
      refine x_iconst hx hb dX1_isForsaken_15 ?_
      refine lv_goto (tgt := 20) hx hb dX1_isForsaken_16 (by decide) ?_
      cases hF
      exact x_zret hx hb hlocks hK hR hS hr (by decide) dX1_isForsaken_20
abbrev rmX1_slotOf : Room := { frames := 0, cells := 0, slots := 0, locals := 0 }
theorem hyX1_slotOf : yX1_slotOf.cls = RX1 ∧ yX1_slotOf.cls ≠ "java/lang/invoke/MethodHandle" ∧ yX1_slotOf.cls ≠ "java/lang/invoke/VarHandle" ∧ (parseMethodDescriptor yX1_slotOf.desc).map (fun d => d.parameters.length) = some 1 := by decide +kernel
def F_X1_slotOf_2 (M : Mm)  : Nat → Nat → Int → Int → Option (Int)
  | 0, _, _, _ => none
  | n + 1, v0, v1, v2 => (if (M 2 v0 8) ≤ v2 then (some (-1 : Int)) else (if (12 : Int) ≤ v2 then (some (-1 : Int)) else (xk (0 ≤ v2 ∧ v2 < 12) (if (M 3 v0 v2.toNat) = v1 then (some v2) else (xk (rg (v2 + (1 : Int))) (F_X1_slotOf_2 M  n v0 v1 (v2 + (1 : Int))))))))
set_option maxHeartbeats 4000000 in
set_option maxRecDepth 100000 in
theorem w_X1_slotOf_2 {p : Program} {l : Launch} {e : Env} {s : State} {m : MethodId} {args : Array Value} {below : List Frame} {meth : Method} {c : Code} {g : Gx} {b : Nat} (C0 : XA p s m meth c args RX1 cX1_slotOf 3 (some .int) g) {r : Int} {M : Mm} : ∀ n : Nat, ∀ (v0 : Nat) (v1 : Int) (v2 : Int) (hv0 : v0 < 99) (hv1 : rg v1) (hv2 : rg v2) (H : Heap) (locs : List Loc), Rel g b M H → va_S (AA b s.heap.size) s.heap H locs → ∀ ls : Array Slot, lv_has ls 3 [(0, .ref (adr b 2 v0)), (1, .int (jI v1)), (2, .int (jI v2))] → F_X1_slotOf_2 M  n v0 v1 v2 = some r → W p l e rmX1_slotOf s m args below meth c H locs 0 0 (MQ below (qI g b r M s.heap.size) args s 0 0 (AA b s.heap.size)) (F0 m 2 ls []) := by
  obtain ⟨hx, hb, hr, hlocks, hml, hown, hts, hK⟩ := id C0
  intro n
  induction n with
  | zero =>
    intro v0 v1 v2 hv0 hv1 hv2 H locs hR hS ls hl hF
    rw [F_X1_slotOf_2] at hF
    cases hF
  | succ n ih =>
    intro v0 v1 v2 hv0 hv1 hv2 H locs hR hS ls hl hF
    rw [F_X1_slotOf_2] at hF
    refine lv_iload_n hx hb dX1_slotOf_2 rfl (lv_at hl 2 rfl) ?_
    refine lv_aload_n hx hb dX1_slotOf_3 rfl (lv_at hl 0 rfl) ?_
    refine gf_1_8 hx hb hts hown hK hR hv0 wd55 dX1_slotOf_4 ?_
    have hg1 : rg (M 2 v0 8) := hR.2 2 v0 8 (by decide)
    refine x_icmp_ge (tgt := 37) hx hb hv2 hg1 dX1_slotOf_7 (by decide) (fun ci2 => ?_) (fun ci2 => ?_)
    · rw [if_pos ci2] at hF
      refine x_iconst hx hb dX1_slotOf_37 ?_
      cases hF
      exact x_iret hx hb hlocks hK hR hS hr (by decide : rg (-1 : Int)) dX1_slotOf_38
    · rw [if_neg ci2] at hF
      refine lv_iload_n hx hb dX1_slotOf_10 rfl (lv_at hl 2 rfl) ?_
      refine lv_aload_n hx hb dX1_slotOf_11 rfl (lv_at hl 0 rfl) ?_
      refine gf_1_9 hx hb hts hown hK hR hv0 wd58 dX1_slotOf_12 ?_
      refine x_alen (K := 3) (n := (12 : Int)) hx hb hK hR (ok3 hv0) (by decide) (by decide +kernel) dX1_slotOf_15 ?_
      refine x_icmp_ge (tgt := 37) hx hb hv2 (by decide : rg (12 : Int)) dX1_slotOf_16 (by decide) (fun ci3 => ?_) (fun ci3 => ?_)
      · rw [if_pos ci3] at hF
        refine x_iconst hx hb dX1_slotOf_37 ?_
        cases hF
        exact x_iret hx hb hlocks hK hR hS hr (by decide : rg (-1 : Int)) dX1_slotOf_38
      · rw [if_neg ci3] at hF
        refine lv_aload_n hx hb dX1_slotOf_19 rfl (lv_at hl 0 rfl) ?_
        refine gf_1_9 hx hb hts hown hK hR hv0 wd58 dX1_slotOf_20 ?_
        refine lv_iload_n hx hb dX1_slotOf_23 rfl (lv_at hl 2 rfl) ?_
        obtain ⟨hi4, hF⟩ := xk_some hF
        refine x_iald (K := 3) hx hb hK hR (ok3 hv0) (by decide) hv2 hi4 dX1_slotOf_24 ?_
        have hg5 : rg (M 3 v0 v2.toNat) := hR.2 3 v0 _ (by decide)
        refine lv_iload_n hx hb dX1_slotOf_25 rfl (lv_at hl 1 rfl) ?_
        refine x_icmp_ne (tgt := 31) hx hb hg5 hv1 dX1_slotOf_26 (by decide) (fun ci6 => ?_) (fun ci6 => ?_)
        · rw [if_neg ci6] at hF
          obtain ⟨hq7, hF⟩ := xk_some hF
          refine x_iinc (lv' := [(2, .int (jI (v2 + (1 : Int)))), (0, .ref (adr b 2 v0)), (1, .int (jI v1))]) hx hb dX1_slotOf_31 hl (k := 2) rfl (by decide) rfl (fun ls hl => ?_)
          refine lv_goto (tgt := 2) hx hb dX1_slotOf_34 (by decide) ?_
          exact ih v0 v1 (v2 + (1 : Int)) hv0 hv1 hq7 H locs hR hS ls (lv_sub hl [1, 2, 0] rfl) hF
        · rw [if_pos ci6] at hF
          refine lv_iload_n hx hb dX1_slotOf_29 rfl (lv_at hl 2 rfl) ?_
          cases hF
          exact x_iret hx hb hlocks hK hR hS hr hv2 dX1_slotOf_30
def F_X1_slotOf (M : Mm) (o : Nat) (a1 : Int) : Option (Int) := (F_X1_slotOf_2 M  FU o a1 (0 : Int))
set_option maxHeartbeats 4000000 in
set_option maxRecDepth 100000 in
theorem c_X1_slotOf {l : Launch} {g : Gx} {b : Nat} {M : Mm} {o : Nat} {a1 : Int} {r : Int} (ho : o < 99) (ha1 : rg a1) (hF : F_X1_slotOf M o a1 = some r) : Ct l yX1_slotOf cX1_slotOf 3 (some .int) rmX1_slotOf g b [.ref (adr b 2 o), .int (jI a1)] M (qI g b r M) := by
  refine ct_of (by decide +kernel) (Nat.le_of_ble_eq_true rfl) ?_
  intro p e s m args below meth c C0 hR ls hl
  obtain ⟨hx, hb, hr, hlocks, hml, hown, hts, hK⟩ := id C0
  have hS : va_S (AA b s.heap.size) s.heap s.heap [] := va_S.rf
  have hl : lv_has ls 3 [(0, .ref (adr b 2 o)), (1, .int (jI a1))] := hl
  obtain ⟨H, hH⟩ : ∃ z, z = s.heap := ⟨_, rfl⟩
  obtain ⟨locs, hlo⟩ : ∃ z : List Loc, z = [] := ⟨_, rfl⟩
  have hR : Rel g b M H := by rw [hH]; exact hR
  have hS : va_S (AA b s.heap.size) s.heap H locs := by rw [hH, hlo]; exact hS
  suffices hW : W p l e rmX1_slotOf s m args below meth c H locs 0 0 (MQ below (qI g b r M s.heap.size) args s 0 0 (AA b s.heap.size)) (F0 m 0 ls []) by rw [hH, hlo] at hW; exact hW
  rw [F_X1_slotOf] at hF
  refine x_iconst hx hb dX1_slotOf_0 ?_
  refine lv_istore_n (lv' := [(2, .int (jI (0 : Int))), (0, .ref (adr b 2 o)), (1, .int (jI a1))]) hx hb dX1_slotOf_1 rfl hl (by decide) rfl (fun ls hl => ?_)
  exact w_X1_slotOf_2 C0  FU o a1 (0 : Int) ho ha1 (by decide : rg (0 : Int)) H locs hR hS ls (lv_sub hl [1, 2, 0] rfl) hF
abbrev rmX1_nodeIn : Room := { frames := 0, cells := 0, slots := 0, locals := 0 }
theorem hyX1_nodeIn : yX1_nodeIn.cls = RX1 ∧ yX1_nodeIn.cls ≠ "java/lang/invoke/MethodHandle" ∧ yX1_nodeIn.cls ≠ "java/lang/invoke/VarHandle" ∧ (parseMethodDescriptor yX1_nodeIn.desc).map (fun d => d.parameters.length) = some 1 := by decide +kernel
def F_X1_nodeIn (M : Mm) (o : Nat) (a1 : Int) : Option (Int) := (if a1 < 0 then (some (-1 : Int)) else (if (M 2 o 8) ≤ a1 then (some (-1 : Int)) else (if (12 : Int) ≤ a1 then (some (-1 : Int)) else (xk (0 ≤ a1 ∧ a1 < 12) (some (M 4 o a1.toNat))))))
set_option maxHeartbeats 4000000 in
set_option maxRecDepth 100000 in
theorem c_X1_nodeIn {l : Launch} {g : Gx} {b : Nat} {M : Mm} {o : Nat} {a1 : Int} {r : Int} (ho : o < 99) (ha1 : rg a1) (hF : F_X1_nodeIn M o a1 = some r) : Ct l yX1_nodeIn cX1_nodeIn 2 (some .int) rmX1_nodeIn g b [.ref (adr b 2 o), .int (jI a1)] M (qI g b r M) := by
  refine ct_of (by decide +kernel) (Nat.le_of_ble_eq_true rfl) ?_
  intro p e s m args below meth c C0 hR ls hl
  obtain ⟨hx, hb, hr, hlocks, hml, hown, hts, hK⟩ := id C0
  have hS : va_S (AA b s.heap.size) s.heap s.heap [] := va_S.rf
  have hl : lv_has ls 2 [(0, .ref (adr b 2 o)), (1, .int (jI a1))] := hl
  obtain ⟨H, hH⟩ : ∃ z, z = s.heap := ⟨_, rfl⟩
  obtain ⟨locs, hlo⟩ : ∃ z : List Loc, z = [] := ⟨_, rfl⟩
  have hR : Rel g b M H := by rw [hH]; exact hR
  have hS : va_S (AA b s.heap.size) s.heap H locs := by rw [hH, hlo]; exact hS
  suffices hW : W p l e rmX1_nodeIn s m args below meth c H locs 0 0 (MQ below (qI g b r M s.heap.size) args s 0 0 (AA b s.heap.size)) (F0 m 0 ls []) by rw [hH, hlo] at hW; exact hW
  rw [F_X1_nodeIn] at hF
  refine lv_iload_n hx hb dX1_nodeIn_0 rfl (lv_at hl 1 rfl) ?_
  refine x_if_lt (tgt := 30) hx hb ha1 dX1_nodeIn_1 (by decide) (fun ci1 => ?_) (fun ci1 => ?_)
  · rw [if_pos ci1] at hF
    refine x_iconst hx hb dX1_nodeIn_30 ?_
    cases hF
    exact x_iret hx hb hlocks hK hR hS hr (by decide : rg (-1 : Int)) dX1_nodeIn_31
  · rw [if_neg ci1] at hF
    refine lv_iload_n hx hb dX1_nodeIn_4 rfl (lv_at hl 1 rfl) ?_
    refine lv_aload_n hx hb dX1_nodeIn_5 rfl (lv_at hl 0 rfl) ?_
    refine gf_1_8 hx hb hts hown hK hR ho wd55 dX1_nodeIn_6 ?_
    have hg2 : rg (M 2 o 8) := hR.2 2 o 8 (by decide)
    refine x_icmp_ge (tgt := 30) hx hb ha1 hg2 dX1_nodeIn_9 (by decide) (fun ci3 => ?_) (fun ci3 => ?_)
    · rw [if_pos ci3] at hF
      refine x_iconst hx hb dX1_nodeIn_30 ?_
      cases hF
      exact x_iret hx hb hlocks hK hR hS hr (by decide : rg (-1 : Int)) dX1_nodeIn_31
    · rw [if_neg ci3] at hF
      refine lv_iload_n hx hb dX1_nodeIn_12 rfl (lv_at hl 1 rfl) ?_
      refine lv_aload_n hx hb dX1_nodeIn_13 rfl (lv_at hl 0 rfl) ?_
      refine gf_1_10 hx hb hts hown hK hR ho wd59 dX1_nodeIn_14 ?_
      refine x_alen (K := 4) (n := (12 : Int)) hx hb hK hR (ok4 ho) (by decide) (by decide +kernel) dX1_nodeIn_17 ?_
      refine x_icmp_ge (tgt := 30) hx hb ha1 (by decide : rg (12 : Int)) dX1_nodeIn_18 (by decide) (fun ci4 => ?_) (fun ci4 => ?_)
      · rw [if_pos ci4] at hF
        refine x_iconst hx hb dX1_nodeIn_30 ?_
        cases hF
        exact x_iret hx hb hlocks hK hR hS hr (by decide : rg (-1 : Int)) dX1_nodeIn_31
      · rw [if_neg ci4] at hF
        refine lv_aload_n hx hb dX1_nodeIn_21 rfl (lv_at hl 0 rfl) ?_
        refine gf_1_10 hx hb hts hown hK hR ho wd59 dX1_nodeIn_22 ?_
        refine lv_iload_n hx hb dX1_nodeIn_25 rfl (lv_at hl 1 rfl) ?_
        obtain ⟨hi5, hF⟩ := xk_some hF
        refine x_iald (K := 4) hx hb hK hR (ok4 ho) (by decide) ha1 hi5 dX1_nodeIn_26 ?_
        have hg6 : rg (M 4 o a1.toNat) := hR.2 4 o _ (by decide)
        refine lv_goto (tgt := 31) hx hb dX1_nodeIn_27 (by decide) ?_
        cases hF
        exact x_iret hx hb hlocks hK hR hS hr hg6 dX1_nodeIn_31
abbrev rmX1_nodeNamed : Room := { frames := 1, cells := 0, slots := 0, locals := 22 }
theorem hyX1_nodeNamed : yX1_nodeNamed.cls = RX1 ∧ yX1_nodeNamed.cls ≠ "java/lang/invoke/MethodHandle" ∧ yX1_nodeNamed.cls ≠ "java/lang/invoke/VarHandle" ∧ (parseMethodDescriptor yX1_nodeNamed.desc).map (fun d => d.parameters.length) = some 1 := by decide +kernel
def F_X1_nodeNamed (M : Mm) (o : Nat) (a1 : Int) : Option (Int) := (xb1 (F_X1_slotOf M o a1) fun y2 => (xb1 (F_X1_nodeIn M o y2) fun y5 => (some y5)))
set_option maxHeartbeats 4000000 in
set_option maxRecDepth 100000 in
theorem c_X1_nodeNamed {l : Launch} {g : Gx} {b : Nat} {M : Mm} {o : Nat} {a1 : Int} {r : Int} (ho : o < 99) (ha1 : rg a1) (hF : F_X1_nodeNamed M o a1 = some r) : Ct l yX1_nodeNamed cX1_nodeNamed 2 (some .int) rmX1_nodeNamed g b [.ref (adr b 2 o), .int (jI a1)] M (qI g b r M) := by
  refine ct_of (by decide +kernel) (Nat.le_of_ble_eq_true rfl) ?_
  intro p e s m args below meth c C0 hR ls hl
  obtain ⟨hx, hb, hr, hlocks, hml, hown, hts, hK⟩ := id C0
  have hS : va_S (AA b s.heap.size) s.heap s.heap [] := va_S.rf
  have hl : lv_has ls 2 [(0, .ref (adr b 2 o)), (1, .int (jI a1))] := hl
  obtain ⟨H, hH⟩ : ∃ z, z = s.heap := ⟨_, rfl⟩
  obtain ⟨locs, hlo⟩ : ∃ z : List Loc, z = [] := ⟨_, rfl⟩
  have hR : Rel g b M H := by rw [hH]; exact hR
  have hS : va_S (AA b s.heap.size) s.heap H locs := by rw [hH, hlo]; exact hS
  suffices hW : W p l e rmX1_nodeNamed s m args below meth c H locs 0 0 (MQ below (qI g b r M s.heap.size) args s 0 0 (AA b s.heap.size)) (F0 m 0 ls []) by rw [hH, hlo] at hW; exact hW
  rw [F_X1_nodeNamed] at hF
  refine lv_aload_n hx hb dX1_nodeNamed_0 rfl (lv_at hl 0 rfl) ?_
  refine lv_aload_n hx hb dX1_nodeNamed_1 rfl (lv_at hl 0 rfl) ?_
  refine lv_iload_n hx hb dX1_nodeNamed_2 rfl (lv_at hl 1 rfl) ?_
  obtain ⟨y2, hc1, hF⟩ := xb1_some hF
  refine x_cVi (C := RX1) (T := TX1) (N := 12) (ci := 1) (As := [.int (jI a1)]) (rest := [.ref (adr b 2 o)]) hx hb hml hown hts hK hR hS (c_X1_slotOf ho ha1 hc1) (ok2 ho) rfl rfl wd564 wd565 wd566 wd3 wd567 hyX1_slotOf ⟨rfl, rfl⟩ ⟨Nat.le_of_ble_eq_true rfl, Nat.le_of_ble_eq_true rfl⟩ hl.1 (Nat.le_of_ble_eq_true rfl) dX1_nodeNamed_3 ⟨Nat.zero_le _, Nat.zero_le _⟩ rfl (fun hg3 H locs hR hS => ?_)
  obtain ⟨y5, hc4, hF⟩ := xb1_some hF
  refine x_cVi (C := RX1) (T := TX1) (N := 12) (ci := 1) (As := [.int (jI y2)]) (rest := []) hx hb hml hown hts hK hR hS (c_X1_nodeIn ho hg3 hc4) (ok2 ho) rfl rfl wd568 wd521 wd522 wd3 wd523 hyX1_nodeIn ⟨rfl, rfl⟩ ⟨Nat.le_of_ble_eq_true rfl, Nat.le_of_ble_eq_true rfl⟩ hl.1 (Nat.le_of_ble_eq_true rfl) dX1_nodeNamed_6 ⟨Nat.zero_le _, Nat.zero_le _⟩ rfl (fun hg6 H locs hR hS => ?_)
  cases hF
  exact x_iret hx hb hlocks hK hR hS hr hg6 dX1_nodeNamed_9
abbrev rmX1_nameOf : Room := { frames := 0, cells := 0, slots := 0, locals := 0 }
theorem hyX1_nameOf : yX1_nameOf.cls = RX1 ∧ yX1_nameOf.cls ≠ "java/lang/invoke/MethodHandle" ∧ yX1_nameOf.cls ≠ "java/lang/invoke/VarHandle" ∧ (parseMethodDescriptor yX1_nameOf.desc).map (fun d => d.parameters.length) = some 1 := by decide +kernel
def F_X1_nameOf (M : Mm) (o : Nat) (a1 : Int) : Option (Int) := (if a1 < 0 then (some (-1 : Int)) else (if (M 2 o 8) ≤ a1 then (some (-1 : Int)) else (if (12 : Int) ≤ a1 then (some (-1 : Int)) else (xk (0 ≤ a1 ∧ a1 < 12) (some (M 3 o a1.toNat))))))
set_option maxHeartbeats 4000000 in
set_option maxRecDepth 100000 in
theorem c_X1_nameOf {l : Launch} {g : Gx} {b : Nat} {M : Mm} {o : Nat} {a1 : Int} {r : Int} (ho : o < 99) (ha1 : rg a1) (hF : F_X1_nameOf M o a1 = some r) : Ct l yX1_nameOf cX1_nameOf 2 (some .int) rmX1_nameOf g b [.ref (adr b 2 o), .int (jI a1)] M (qI g b r M) := by
  refine ct_of (by decide +kernel) (Nat.le_of_ble_eq_true rfl) ?_
  intro p e s m args below meth c C0 hR ls hl
  obtain ⟨hx, hb, hr, hlocks, hml, hown, hts, hK⟩ := id C0
  have hS : va_S (AA b s.heap.size) s.heap s.heap [] := va_S.rf
  have hl : lv_has ls 2 [(0, .ref (adr b 2 o)), (1, .int (jI a1))] := hl
  obtain ⟨H, hH⟩ : ∃ z, z = s.heap := ⟨_, rfl⟩
  obtain ⟨locs, hlo⟩ : ∃ z : List Loc, z = [] := ⟨_, rfl⟩
  have hR : Rel g b M H := by rw [hH]; exact hR
  have hS : va_S (AA b s.heap.size) s.heap H locs := by rw [hH, hlo]; exact hS
  suffices hW : W p l e rmX1_nameOf s m args below meth c H locs 0 0 (MQ below (qI g b r M s.heap.size) args s 0 0 (AA b s.heap.size)) (F0 m 0 ls []) by rw [hH, hlo] at hW; exact hW
  rw [F_X1_nameOf] at hF
  refine lv_iload_n hx hb dX1_nameOf_0 rfl (lv_at hl 1 rfl) ?_
  refine x_if_lt (tgt := 30) hx hb ha1 dX1_nameOf_1 (by decide) (fun ci1 => ?_) (fun ci1 => ?_)
  · rw [if_pos ci1] at hF
    refine x_iconst hx hb dX1_nameOf_30 ?_
    cases hF
    exact x_iret hx hb hlocks hK hR hS hr (by decide : rg (-1 : Int)) dX1_nameOf_31
  · rw [if_neg ci1] at hF
    refine lv_iload_n hx hb dX1_nameOf_4 rfl (lv_at hl 1 rfl) ?_
    refine lv_aload_n hx hb dX1_nameOf_5 rfl (lv_at hl 0 rfl) ?_
    refine gf_1_8 hx hb hts hown hK hR ho wd55 dX1_nameOf_6 ?_
    have hg2 : rg (M 2 o 8) := hR.2 2 o 8 (by decide)
    refine x_icmp_ge (tgt := 30) hx hb ha1 hg2 dX1_nameOf_9 (by decide) (fun ci3 => ?_) (fun ci3 => ?_)
    · rw [if_pos ci3] at hF
      refine x_iconst hx hb dX1_nameOf_30 ?_
      cases hF
      exact x_iret hx hb hlocks hK hR hS hr (by decide : rg (-1 : Int)) dX1_nameOf_31
    · rw [if_neg ci3] at hF
      refine lv_iload_n hx hb dX1_nameOf_12 rfl (lv_at hl 1 rfl) ?_
      refine lv_aload_n hx hb dX1_nameOf_13 rfl (lv_at hl 0 rfl) ?_
      refine gf_1_9 hx hb hts hown hK hR ho wd58 dX1_nameOf_14 ?_
      refine x_alen (K := 3) (n := (12 : Int)) hx hb hK hR (ok3 ho) (by decide) (by decide +kernel) dX1_nameOf_17 ?_
      refine x_icmp_ge (tgt := 30) hx hb ha1 (by decide : rg (12 : Int)) dX1_nameOf_18 (by decide) (fun ci4 => ?_) (fun ci4 => ?_)
      · rw [if_pos ci4] at hF
        refine x_iconst hx hb dX1_nameOf_30 ?_
        cases hF
        exact x_iret hx hb hlocks hK hR hS hr (by decide : rg (-1 : Int)) dX1_nameOf_31
      · rw [if_neg ci4] at hF
        refine lv_aload_n hx hb dX1_nameOf_21 rfl (lv_at hl 0 rfl) ?_
        refine gf_1_9 hx hb hts hown hK hR ho wd58 dX1_nameOf_22 ?_
        refine lv_iload_n hx hb dX1_nameOf_25 rfl (lv_at hl 1 rfl) ?_
        obtain ⟨hi5, hF⟩ := xk_some hF
        refine x_iald (K := 3) hx hb hK hR (ok3 ho) (by decide) ha1 hi5 dX1_nameOf_26 ?_
        have hg6 : rg (M 3 o a1.toNat) := hR.2 3 o _ (by decide)
        refine lv_goto (tgt := 31) hx hb dX1_nameOf_27 (by decide) ?_
        cases hF
        exact x_iret hx hb hlocks hK hR hS hr hg6 dX1_nameOf_31
abbrev rmX1_turnSlot : Room := { frames := 0, cells := 0, slots := 0, locals := 0 }
theorem hyX1_turnSlot : yX1_turnSlot.cls = RX1 ∧ yX1_turnSlot.cls ≠ "java/lang/invoke/MethodHandle" ∧ yX1_turnSlot.cls ≠ "java/lang/invoke/VarHandle" ∧ (parseMethodDescriptor yX1_turnSlot.desc).map (fun d => d.parameters.length) = some 2 := by decide +kernel
def F_X1_turnSlot (M : Mm) (o : Nat) (a1 : Int) (a2 : Int) : Option (Mm) := (if a1 < 0 then (some M) else (if (12 : Int) ≤ a1 then (some M) else (xk (0 ≤ a1 ∧ a1 < 12) (xl (mup M 4 o a1.toNat a2) fun M4 => (some M4)))))
set_option maxHeartbeats 4000000 in
set_option maxRecDepth 100000 in
theorem c_X1_turnSlot {l : Launch} {g : Gx} {b : Nat} {M : Mm} {o : Nat} {a1 : Int} {a2 : Int} {M' : Mm} (ho : o < 99) (ha1 : rg a1) (ha2 : rg a2) (hF : F_X1_turnSlot M o a1 a2 = some M') : Ct l yX1_turnSlot cX1_turnSlot 3 none rmX1_turnSlot g b [.ref (adr b 2 o), .int (jI a1), .int (jI a2)] M (qV g b M') := by
  refine ct_of (by decide +kernel) (Nat.le_of_ble_eq_true rfl) ?_
  intro p e s m args below meth c C0 hR ls hl
  obtain ⟨hx, hb, hr, hlocks, hml, hown, hts, hK⟩ := id C0
  have hS : va_S (AA b s.heap.size) s.heap s.heap [] := va_S.rf
  have hl : lv_has ls 3 [(0, .ref (adr b 2 o)), (1, .int (jI a1)), (2, .int (jI a2))] := hl
  obtain ⟨H, hH⟩ : ∃ z, z = s.heap := ⟨_, rfl⟩
  obtain ⟨locs, hlo⟩ : ∃ z : List Loc, z = [] := ⟨_, rfl⟩
  have hR : Rel g b M H := by rw [hH]; exact hR
  have hS : va_S (AA b s.heap.size) s.heap H locs := by rw [hH, hlo]; exact hS
  suffices hW : W p l e rmX1_turnSlot s m args below meth c H locs 0 0 (MQ below (qV g b M' s.heap.size) args s 0 0 (AA b s.heap.size)) (F0 m 0 ls []) by rw [hH, hlo] at hW; exact hW
  rw [F_X1_turnSlot] at hF
  refine lv_iload_n hx hb dX1_turnSlot_0 rfl (lv_at hl 1 rfl) ?_
  refine x_if_lt (tgt := 20) hx hb ha1 dX1_turnSlot_1 (by decide) (fun ci1 => ?_) (fun ci1 => ?_)
  · rw [if_pos ci1] at hF
    cases hF
    exact x_vret hx hb hlocks hK hR hS hr dX1_turnSlot_20
  · rw [if_neg ci1] at hF
    refine lv_iload_n hx hb dX1_turnSlot_4 rfl (lv_at hl 1 rfl) ?_
    refine lv_aload_n hx hb dX1_turnSlot_5 rfl (lv_at hl 0 rfl) ?_
    refine gf_1_10 hx hb hts hown hK hR ho wd59 dX1_turnSlot_6 ?_
    refine x_alen (K := 4) (n := (12 : Int)) hx hb hK hR (ok4 ho) (by decide) (by decide +kernel) dX1_turnSlot_9 ?_
    refine x_icmp_ge (tgt := 20) hx hb ha1 (by decide : rg (12 : Int)) dX1_turnSlot_10 (by decide) (fun ci2 => ?_) (fun ci2 => ?_)
    · rw [if_pos ci2] at hF
      cases hF
      exact x_vret hx hb hlocks hK hR hS hr dX1_turnSlot_20
    · rw [if_neg ci2] at hF
      refine lv_aload_n hx hb dX1_turnSlot_13 rfl (lv_at hl 0 rfl) ?_
      refine gf_1_10 hx hb hts hown hK hR ho wd59 dX1_turnSlot_14 ?_
      refine lv_iload_n hx hb dX1_turnSlot_17 rfl (lv_at hl 1 rfl) ?_
      refine lv_iload_n hx hb dX1_turnSlot_18 rfl (lv_at hl 2 rfl) ?_
      obtain ⟨hi3, hF⟩ := xk_some hF
      refine x_iast (K := 4) hx hb hK hR hS (ok4 ho) (by decide) ha1 ha2 hi3 dX1_turnSlot_19 (fun H locs hR hS => ?_)
      obtain ⟨M4, eM, hF⟩ := xl_some hF
      rw [eM] at hR
      clear eM
      cases hF
      exact x_vret hx hb hlocks hK hR hS hr dX1_turnSlot_20
abbrev rmX1_insert : Room := { frames := 0, cells := 0, slots := 0, locals := 0 }
theorem hyX1_insert : yX1_insert.cls = RX1 ∧ yX1_insert.cls ≠ "java/lang/invoke/MethodHandle" ∧ yX1_insert.cls ≠ "java/lang/invoke/VarHandle" ∧ (parseMethodDescriptor yX1_insert.desc).map (fun d => d.parameters.length) = some 2 := by decide +kernel
def F_X1_insert_87  (M : Mm) (v0 : Nat) (v1 : Int) (v2 : Int) (v3 : Int) : Option (Mm) := (xk (0 ≤ v3 ∧ v3 < 12) (xl (mup M 3 v0 v3.toNat v1) fun M2 => (xk (0 ≤ v3 ∧ v3 < 12) (xl (mup M2 4 v0 v3.toNat v2) fun M4 => (xk (rg ((M4 2 v0 8) + (1 : Int))) (xl (mup M4 2 v0 8 ((M4 2 v0 8) + (1 : Int))) fun M7 => (some M7)))))))
set_option maxHeartbeats 4000000 in
set_option maxRecDepth 100000 in
theorem w_X1_insert_87 {p : Program} {l : Launch} {e : Env} {s : State} {m : MethodId} {args : Array Value} {below : List Frame} {meth : Method} {c : Code} {g : Gx} {b : Nat} (C0 : XA p s m meth c args RX1 cX1_insert 4 none g) {M' : Mm} : ∀ (M : Mm) (v0 : Nat) (v1 : Int) (v2 : Int) (v3 : Int) (hv0 : v0 < 99) (hv1 : rg v1) (hv2 : rg v2) (hv3 : rg v3) (H : Heap) (locs : List Loc), Rel g b M H → va_S (AA b s.heap.size) s.heap H locs → ∀ ls : Array Slot, lv_has ls 4 [(0, .ref (adr b 2 v0)), (1, .int (jI v1)), (2, .int (jI v2)), (3, .int (jI v3))] → F_X1_insert_87  M v0 v1 v2 v3 = some M' → W p l e rmX1_insert s m args below meth c H locs 0 0 (MQ below (qV g b M' s.heap.size) args s 0 0 (AA b s.heap.size)) (F0 m 87 ls []) := by
  obtain ⟨hx, hb, hr, hlocks, hml, hown, hts, hK⟩ := id C0
  intro M v0 v1 v2 v3 hv0 hv1 hv2 hv3 H locs hR hS ls hl hF
  rw [F_X1_insert_87] at hF
  refine lv_aload_n hx hb dX1_insert_87 rfl (lv_at hl 0 rfl) ?_
  refine gf_1_9 hx hb hts hown hK hR hv0 wd58 dX1_insert_88 ?_
  refine lv_iload_n hx hb dX1_insert_91 rfl (lv_at hl 3 rfl) ?_
  refine lv_iload_n hx hb dX1_insert_92 rfl (lv_at hl 1 rfl) ?_
  obtain ⟨hi1, hF⟩ := xk_some hF
  refine x_iast (K := 3) hx hb hK hR hS (ok3 hv0) (by decide) hv3 hv1 hi1 dX1_insert_93 (fun H locs hR hS => ?_)
  obtain ⟨M2, eM, hF⟩ := xl_some hF
  rw [eM] at hR
  clear eM
  refine lv_aload_n hx hb dX1_insert_94 rfl (lv_at hl 0 rfl) ?_
  refine gf_1_10 hx hb hts hown hK hR hv0 wd59 dX1_insert_95 ?_
  refine lv_iload_n hx hb dX1_insert_98 rfl (lv_at hl 3 rfl) ?_
  refine lv_iload_n hx hb dX1_insert_99 rfl (lv_at hl 2 rfl) ?_
  obtain ⟨hi3, hF⟩ := xk_some hF
  refine x_iast (K := 4) hx hb hK hR hS (ok4 hv0) (by decide) hv3 hv2 hi3 dX1_insert_100 (fun H locs hR hS => ?_)
  obtain ⟨M4, eM, hF⟩ := xl_some hF
  rw [eM] at hR
  clear eM
  refine lv_aload_n hx hb dX1_insert_101 rfl (lv_at hl 0 rfl) ?_
  refine lv_dup hx hb dX1_insert_102 rfl ?_
  refine gf_1_8 hx hb hts hown hK hR hv0 wd55 dX1_insert_103 ?_
  have hg5 : rg (M4 2 v0 8) := hR.2 2 v0 8 (by decide)
  refine x_iconst hx hb dX1_insert_106 ?_
  obtain ⟨hq6, hF⟩ := xk_some hF
  refine x_iadd hx hb dX1_insert_107 ?_
  refine pf_1_8 hx hb hts hown hK hR hS hv0 hq6 wd55 dX1_insert_108 (fun H locs hR hS => ?_)
  obtain ⟨M7, eM, hF⟩ := xl_some hF
  rw [eM] at hR
  clear eM
  cases hF
  exact x_vret hx hb hlocks hK hR hS hr dX1_insert_111
def F_X1_insert_37  : Nat → Mm → Nat → Int → Int → Int → Option (Mm)
  | 0, _, _, _, _, _ => none
  | n + 1, M, v0, v1, v2, v3 => (if v3 ≤ 0 then (F_X1_insert_87  M v0 v1 v2 v3) else (xk (rg (v3 - (1 : Int))) (xk (0 ≤ (v3 - (1 : Int)) ∧ (v3 - (1 : Int)) < 12) (if (M 3 v0 (v3 - (1 : Int)).toNat) ≤ v1 then (F_X1_insert_87  M v0 v1 v2 v3) else (xk (rg (v3 - (1 : Int))) (xk (0 ≤ (v3 - (1 : Int)) ∧ (v3 - (1 : Int)) < 12) (xk (0 ≤ v3 ∧ v3 < 12) (xl (mup M 3 v0 v3.toNat (M 3 v0 (v3 - (1 : Int)).toNat)) fun M16 => (xk (rg (v3 - (1 : Int))) (xk (0 ≤ (v3 - (1 : Int)) ∧ (v3 - (1 : Int)) < 12) (xk (0 ≤ v3 ∧ v3 < 12) (xl (mup M16 4 v0 v3.toNat (M16 4 v0 (v3 - (1 : Int)).toNat)) fun M21 => (xk (rg (v3 + (-1 : Int))) (F_X1_insert_37  n M21 v0 v1 v2 (v3 + (-1 : Int))))))))))))))))
set_option maxHeartbeats 4000000 in
set_option maxRecDepth 100000 in
theorem w_X1_insert_37 {p : Program} {l : Launch} {e : Env} {s : State} {m : MethodId} {args : Array Value} {below : List Frame} {meth : Method} {c : Code} {g : Gx} {b : Nat} (C0 : XA p s m meth c args RX1 cX1_insert 4 none g) {M' : Mm} : ∀ n : Nat, ∀ (M : Mm) (v0 : Nat) (v1 : Int) (v2 : Int) (v3 : Int) (hv0 : v0 < 99) (hv1 : rg v1) (hv2 : rg v2) (hv3 : rg v3) (H : Heap) (locs : List Loc), Rel g b M H → va_S (AA b s.heap.size) s.heap H locs → ∀ ls : Array Slot, lv_has ls 4 [(0, .ref (adr b 2 v0)), (1, .int (jI v1)), (2, .int (jI v2)), (3, .int (jI v3))] → F_X1_insert_37  n M v0 v1 v2 v3 = some M' → W p l e rmX1_insert s m args below meth c H locs 0 0 (MQ below (qV g b M' s.heap.size) args s 0 0 (AA b s.heap.size)) (F0 m 37 ls []) := by
  obtain ⟨hx, hb, hr, hlocks, hml, hown, hts, hK⟩ := id C0
  intro n
  induction n with
  | zero =>
    intro M v0 v1 v2 v3 hv0 hv1 hv2 hv3 H locs hR hS ls hl hF
    rw [F_X1_insert_37] at hF
    cases hF
  | succ n ih =>
    intro M v0 v1 v2 v3 hv0 hv1 hv2 hv3 H locs hR hS ls hl hF
    rw [F_X1_insert_37] at hF
    refine lv_iload_n hx hb dX1_insert_37 rfl (lv_at hl 3 rfl) ?_
    refine x_if_le (tgt := 87) hx hb hv3 dX1_insert_38 (by decide) (fun ci1 => ?_) (fun ci1 => ?_)
    · rw [if_pos ci1] at hF
      exact w_X1_insert_87 C0  M v0 v1 v2 v3 hv0 hv1 hv2 hv3 H locs hR hS ls (lv_sub hl [0, 1, 2, 3] rfl) hF
    · rw [if_neg ci1] at hF
      refine lv_aload_n hx hb dX1_insert_41 rfl (lv_at hl 0 rfl) ?_
      refine gf_1_9 hx hb hts hown hK hR hv0 wd58 dX1_insert_42 ?_
      refine lv_iload_n hx hb dX1_insert_45 rfl (lv_at hl 3 rfl) ?_
      refine x_iconst hx hb dX1_insert_46 ?_
      obtain ⟨hq8, hF⟩ := xk_some hF
      refine x_isub hx hb dX1_insert_47 ?_
      obtain ⟨hi9, hF⟩ := xk_some hF
      refine x_iald (K := 3) hx hb hK hR (ok3 hv0) (by decide) hq8 hi9 dX1_insert_48 ?_
      have hg10 : rg (M 3 v0 (v3 - (1 : Int)).toNat) := hR.2 3 v0 _ (by decide)
      refine lv_iload_n hx hb dX1_insert_49 rfl (lv_at hl 1 rfl) ?_
      refine x_icmp_le (tgt := 87) hx hb hg10 hv1 dX1_insert_50 (by decide) (fun ci11 => ?_) (fun ci11 => ?_)
      · rw [if_pos ci11] at hF
        exact w_X1_insert_87 C0  M v0 v1 v2 v3 hv0 hv1 hv2 hv3 H locs hR hS ls (lv_sub hl [0, 1, 2, 3] rfl) hF
      · rw [if_neg ci11] at hF
        refine lv_aload_n hx hb dX1_insert_53 rfl (lv_at hl 0 rfl) ?_
        refine gf_1_9 hx hb hts hown hK hR hv0 wd58 dX1_insert_54 ?_
        refine lv_iload_n hx hb dX1_insert_57 rfl (lv_at hl 3 rfl) ?_
        refine lv_aload_n hx hb dX1_insert_58 rfl (lv_at hl 0 rfl) ?_
        refine gf_1_9 hx hb hts hown hK hR hv0 wd58 dX1_insert_59 ?_
        refine lv_iload_n hx hb dX1_insert_62 rfl (lv_at hl 3 rfl) ?_
        refine x_iconst hx hb dX1_insert_63 ?_
        obtain ⟨hq12, hF⟩ := xk_some hF
        refine x_isub hx hb dX1_insert_64 ?_
        obtain ⟨hi13, hF⟩ := xk_some hF
        refine x_iald (K := 3) hx hb hK hR (ok3 hv0) (by decide) hq12 hi13 dX1_insert_65 ?_
        have hg14 : rg (M 3 v0 (v3 - (1 : Int)).toNat) := hR.2 3 v0 _ (by decide)
        obtain ⟨hi15, hF⟩ := xk_some hF
        refine x_iast (K := 3) hx hb hK hR hS (ok3 hv0) (by decide) hv3 hg14 hi15 dX1_insert_66 (fun H locs hR hS => ?_)
        obtain ⟨M16, eM, hF⟩ := xl_some hF
        rw [eM] at hR
        clear eM
        refine lv_aload_n hx hb dX1_insert_67 rfl (lv_at hl 0 rfl) ?_
        refine gf_1_10 hx hb hts hown hK hR hv0 wd59 dX1_insert_68 ?_
        refine lv_iload_n hx hb dX1_insert_71 rfl (lv_at hl 3 rfl) ?_
        refine lv_aload_n hx hb dX1_insert_72 rfl (lv_at hl 0 rfl) ?_
        refine gf_1_10 hx hb hts hown hK hR hv0 wd59 dX1_insert_73 ?_
        refine lv_iload_n hx hb dX1_insert_76 rfl (lv_at hl 3 rfl) ?_
        refine x_iconst hx hb dX1_insert_77 ?_
        obtain ⟨hq17, hF⟩ := xk_some hF
        refine x_isub hx hb dX1_insert_78 ?_
        obtain ⟨hi18, hF⟩ := xk_some hF
        refine x_iald (K := 4) hx hb hK hR (ok4 hv0) (by decide) hq17 hi18 dX1_insert_79 ?_
        have hg19 : rg (M16 4 v0 (v3 - (1 : Int)).toNat) := hR.2 4 v0 _ (by decide)
        obtain ⟨hi20, hF⟩ := xk_some hF
        refine x_iast (K := 4) hx hb hK hR hS (ok4 hv0) (by decide) hv3 hg19 hi20 dX1_insert_80 (fun H locs hR hS => ?_)
        obtain ⟨M21, eM, hF⟩ := xl_some hF
        rw [eM] at hR
        clear eM
        obtain ⟨hq22, hF⟩ := xk_some hF
        refine x_iinc (lv' := [(3, .int (jI (v3 + (-1 : Int)))), (0, .ref (adr b 2 v0)), (1, .int (jI v1)), (2, .int (jI v2))]) hx hb dX1_insert_81 hl (k := 3) rfl (by decide) rfl (fun ls hl => ?_)
        refine lv_goto (tgt := 37) hx hb dX1_insert_84 (by decide) ?_
        exact ih M21 v0 v1 v2 (v3 + (-1 : Int)) hv0 hv1 hv2 hq22 H locs hR hS ls (lv_sub hl [1, 2, 3, 0] rfl) hF
def F_X1_insert (M : Mm) (o : Nat) (a1 : Int) (a2 : Int) : Option (Mm) := (if (M 2 o 8) < 0 then (some M) else (if (12 : Int) ≤ (M 2 o 8) then (some M) else (if (M 2 o 8) < (12 : Int) then (F_X1_insert_37  FU M o a1 a2 (M 2 o 8)) else (some M))))
set_option maxHeartbeats 4000000 in
set_option maxRecDepth 100000 in
theorem c_X1_insert {l : Launch} {g : Gx} {b : Nat} {M : Mm} {o : Nat} {a1 : Int} {a2 : Int} {M' : Mm} (ho : o < 99) (ha1 : rg a1) (ha2 : rg a2) (hF : F_X1_insert M o a1 a2 = some M') : Ct l yX1_insert cX1_insert 4 none rmX1_insert g b [.ref (adr b 2 o), .int (jI a1), .int (jI a2)] M (qV g b M') := by
  refine ct_of (by decide +kernel) (Nat.le_of_ble_eq_true rfl) ?_
  intro p e s m args below meth c C0 hR ls hl
  obtain ⟨hx, hb, hr, hlocks, hml, hown, hts, hK⟩ := id C0
  have hS : va_S (AA b s.heap.size) s.heap s.heap [] := va_S.rf
  have hl : lv_has ls 4 [(0, .ref (adr b 2 o)), (1, .int (jI a1)), (2, .int (jI a2))] := hl
  obtain ⟨H, hH⟩ : ∃ z, z = s.heap := ⟨_, rfl⟩
  obtain ⟨locs, hlo⟩ : ∃ z : List Loc, z = [] := ⟨_, rfl⟩
  have hR : Rel g b M H := by rw [hH]; exact hR
  have hS : va_S (AA b s.heap.size) s.heap H locs := by rw [hH, hlo]; exact hS
  suffices hW : W p l e rmX1_insert s m args below meth c H locs 0 0 (MQ below (qV g b M' s.heap.size) args s 0 0 (AA b s.heap.size)) (F0 m 0 ls []) by rw [hH, hlo] at hW; exact hW
  rw [F_X1_insert] at hF
  refine lv_aload_n hx hb dX1_insert_0 rfl (lv_at hl 0 rfl) ?_
  refine gf_1_8 hx hb hts hown hK hR ho wd55 dX1_insert_1 ?_
  have hg1 : rg (M 2 o 8) := hR.2 2 o 8 (by decide)
  refine x_if_lt (tgt := 31) hx hb hg1 dX1_insert_4 (by decide) (fun ci2 => ?_) (fun ci2 => ?_)
  · rw [if_pos ci2] at hF
    cases hF
    exact x_vret hx hb hlocks hK hR hS hr dX1_insert_31
  · rw [if_neg ci2] at hF
    refine lv_aload_n hx hb dX1_insert_7 rfl (lv_at hl 0 rfl) ?_
    refine gf_1_8 hx hb hts hown hK hR ho wd55 dX1_insert_8 ?_
    have hg3 : rg (M 2 o 8) := hR.2 2 o 8 (by decide)
    refine lv_aload_n hx hb dX1_insert_11 rfl (lv_at hl 0 rfl) ?_
    refine gf_1_9 hx hb hts hown hK hR ho wd58 dX1_insert_12 ?_
    refine x_alen (K := 3) (n := (12 : Int)) hx hb hK hR (ok3 ho) (by decide) (by decide +kernel) dX1_insert_15 ?_
    refine x_icmp_ge (tgt := 31) hx hb hg3 (by decide : rg (12 : Int)) dX1_insert_16 (by decide) (fun ci4 => ?_) (fun ci4 => ?_)
    · rw [if_pos ci4] at hF
      cases hF
      exact x_vret hx hb hlocks hK hR hS hr dX1_insert_31
    · rw [if_neg ci4] at hF
      refine lv_aload_n hx hb dX1_insert_19 rfl (lv_at hl 0 rfl) ?_
      refine gf_1_8 hx hb hts hown hK hR ho wd55 dX1_insert_20 ?_
      have hg5 : rg (M 2 o 8) := hR.2 2 o 8 (by decide)
      refine lv_aload_n hx hb dX1_insert_23 rfl (lv_at hl 0 rfl) ?_
      refine gf_1_10 hx hb hts hown hK hR ho wd59 dX1_insert_24 ?_
      refine x_alen (K := 4) (n := (12 : Int)) hx hb hK hR (ok4 ho) (by decide) (by decide +kernel) dX1_insert_27 ?_
      refine x_icmp_lt (tgt := 32) hx hb hg5 (by decide : rg (12 : Int)) dX1_insert_28 (by decide) (fun ci6 => ?_) (fun ci6 => ?_)
      · rw [if_pos ci6] at hF
        refine lv_aload_n hx hb dX1_insert_32 rfl (lv_at hl 0 rfl) ?_
        refine gf_1_8 hx hb hts hown hK hR ho wd55 dX1_insert_33 ?_
        have hg7 : rg (M 2 o 8) := hR.2 2 o 8 (by decide)
        refine lv_istore_n (lv' := [(3, .int (jI (M 2 o 8))), (0, .ref (adr b 2 o)), (1, .int (jI a1)), (2, .int (jI a2))]) hx hb dX1_insert_36 rfl hl (by decide) rfl (fun ls hl => ?_)
        exact w_X1_insert_37 C0  FU M o a1 a2 (M 2 o 8) ho ha1 ha2 hg7 H locs hR hS ls (lv_sub hl [1, 2, 3, 0] rfl) hF
      · rw [if_neg ci6] at hF
        cases hF
        exact x_vret hx hb hlocks hK hR hS hr dX1_insert_31
abbrev rmX1_takeOut : Room := { frames := 0, cells := 0, slots := 0, locals := 0 }
theorem hyX1_takeOut : yX1_takeOut.cls = RX1 ∧ yX1_takeOut.cls ≠ "java/lang/invoke/MethodHandle" ∧ yX1_takeOut.cls ≠ "java/lang/invoke/VarHandle" ∧ (parseMethodDescriptor yX1_takeOut.desc).map (fun d => d.parameters.length) = some 1 := by decide +kernel
def F_X1_takeOut_77  (M : Mm) (v0 : Nat) : Option (Mm) := (xk (rg ((M 2 v0 8) - (1 : Int))) (xl (mup M 2 v0 8 ((M 2 v0 8) - (1 : Int))) fun M3 => (some M3)))
set_option maxHeartbeats 4000000 in
set_option maxRecDepth 100000 in
theorem w_X1_takeOut_77 {p : Program} {l : Launch} {e : Env} {s : State} {m : MethodId} {args : Array Value} {below : List Frame} {meth : Method} {c : Code} {g : Gx} {b : Nat} (C0 : XA p s m meth c args RX1 cX1_takeOut 3 none g) {M' : Mm} : ∀ (M : Mm) (v0 : Nat) (hv0 : v0 < 99) (H : Heap) (locs : List Loc), Rel g b M H → va_S (AA b s.heap.size) s.heap H locs → ∀ ls : Array Slot, lv_has ls 3 [(0, .ref (adr b 2 v0))] → F_X1_takeOut_77  M v0 = some M' → W p l e rmX1_takeOut s m args below meth c H locs 0 0 (MQ below (qV g b M' s.heap.size) args s 0 0 (AA b s.heap.size)) (F0 m 77 ls []) := by
  obtain ⟨hx, hb, hr, hlocks, hml, hown, hts, hK⟩ := id C0
  intro M v0 hv0 H locs hR hS ls hl hF
  rw [F_X1_takeOut_77] at hF
  refine lv_aload_n hx hb dX1_takeOut_77 rfl (lv_at hl 0 rfl) ?_
  refine lv_dup hx hb dX1_takeOut_78 rfl ?_
  refine gf_1_8 hx hb hts hown hK hR hv0 wd55 dX1_takeOut_79 ?_
  have hg1 : rg (M 2 v0 8) := hR.2 2 v0 8 (by decide)
  refine x_iconst hx hb dX1_takeOut_82 ?_
  obtain ⟨hq2, hF⟩ := xk_some hF
  refine x_isub hx hb dX1_takeOut_83 ?_
  refine pf_1_8 hx hb hts hown hK hR hS hv0 hq2 wd55 dX1_takeOut_84 (fun H locs hR hS => ?_)
  obtain ⟨M3, eM, hF⟩ := xl_some hF
  rw [eM] at hR
  clear eM
  cases hF
  exact x_vret hx hb hlocks hK hR hS hr dX1_takeOut_87
def F_X1_takeOut_17  : Nat → Mm → Nat → Int → Option (Mm)
  | 0, _, _, _ => none
  | n + 1, M, v0, v2 => (if (M 2 v0 8) ≤ v2 then (F_X1_takeOut_77  M v0) else (if (12 : Int) ≤ v2 then (F_X1_takeOut_77  M v0) else (if (12 : Int) ≤ v2 then (F_X1_takeOut_77  M v0) else (xk (rg (v2 - (1 : Int))) (xk (0 ≤ v2 ∧ v2 < 12) (xk (0 ≤ (v2 - (1 : Int)) ∧ (v2 - (1 : Int)) < 12) (xl (mup M 3 v0 (v2 - (1 : Int)).toNat (M 3 v0 v2.toNat)) fun M10 => (xk (rg (v2 - (1 : Int))) (xk (0 ≤ v2 ∧ v2 < 12) (xk (0 ≤ (v2 - (1 : Int)) ∧ (v2 - (1 : Int)) < 12) (xl (mup M10 4 v0 (v2 - (1 : Int)).toNat (M10 4 v0 v2.toNat)) fun M15 => (xk (rg (v2 + (1 : Int))) (F_X1_takeOut_17  n M15 v0 (v2 + (1 : Int)))))))))))))))
set_option maxHeartbeats 4000000 in
set_option maxRecDepth 100000 in
theorem w_X1_takeOut_17 {p : Program} {l : Launch} {e : Env} {s : State} {m : MethodId} {args : Array Value} {below : List Frame} {meth : Method} {c : Code} {g : Gx} {b : Nat} (C0 : XA p s m meth c args RX1 cX1_takeOut 3 none g) {M' : Mm} : ∀ n : Nat, ∀ (M : Mm) (v0 : Nat) (v2 : Int) (hv0 : v0 < 99) (hv2 : rg v2) (H : Heap) (locs : List Loc), Rel g b M H → va_S (AA b s.heap.size) s.heap H locs → ∀ ls : Array Slot, lv_has ls 3 [(0, .ref (adr b 2 v0)), (2, .int (jI v2))] → F_X1_takeOut_17  n M v0 v2 = some M' → W p l e rmX1_takeOut s m args below meth c H locs 0 0 (MQ below (qV g b M' s.heap.size) args s 0 0 (AA b s.heap.size)) (F0 m 17 ls []) := by
  obtain ⟨hx, hb, hr, hlocks, hml, hown, hts, hK⟩ := id C0
  intro n
  induction n with
  | zero =>
    intro M v0 v2 hv0 hv2 H locs hR hS ls hl hF
    rw [F_X1_takeOut_17] at hF
    cases hF
  | succ n ih =>
    intro M v0 v2 hv0 hv2 H locs hR hS ls hl hF
    rw [F_X1_takeOut_17] at hF
    refine lv_iload_n hx hb dX1_takeOut_17 rfl (lv_at hl 1 rfl) ?_
    refine lv_aload_n hx hb dX1_takeOut_18 rfl (lv_at hl 0 rfl) ?_
    refine gf_1_8 hx hb hts hown hK hR hv0 wd55 dX1_takeOut_19 ?_
    have hg1 : rg (M 2 v0 8) := hR.2 2 v0 8 (by decide)
    refine x_icmp_ge (tgt := 77) hx hb hv2 hg1 dX1_takeOut_22 (by decide) (fun ci2 => ?_) (fun ci2 => ?_)
    · rw [if_pos ci2] at hF
      exact w_X1_takeOut_77 C0  M v0 hv0 H locs hR hS ls (lv_sub hl [0] rfl) hF
    · rw [if_neg ci2] at hF
      refine lv_iload_n hx hb dX1_takeOut_25 rfl (lv_at hl 1 rfl) ?_
      refine lv_aload_n hx hb dX1_takeOut_26 rfl (lv_at hl 0 rfl) ?_
      refine gf_1_9 hx hb hts hown hK hR hv0 wd58 dX1_takeOut_27 ?_
      refine x_alen (K := 3) (n := (12 : Int)) hx hb hK hR (ok3 hv0) (by decide) (by decide +kernel) dX1_takeOut_30 ?_
      refine x_icmp_ge (tgt := 77) hx hb hv2 (by decide : rg (12 : Int)) dX1_takeOut_31 (by decide) (fun ci4 => ?_) (fun ci4 => ?_)
      · rw [if_pos ci4] at hF
        exact w_X1_takeOut_77 C0  M v0 hv0 H locs hR hS ls (lv_sub hl [0] rfl) hF
      · rw [if_neg ci4] at hF
        refine lv_iload_n hx hb dX1_takeOut_34 rfl (lv_at hl 1 rfl) ?_
        refine lv_aload_n hx hb dX1_takeOut_35 rfl (lv_at hl 0 rfl) ?_
        refine gf_1_10 hx hb hts hown hK hR hv0 wd59 dX1_takeOut_36 ?_
        refine x_alen (K := 4) (n := (12 : Int)) hx hb hK hR (ok4 hv0) (by decide) (by decide +kernel) dX1_takeOut_39 ?_
        refine x_icmp_ge (tgt := 77) hx hb hv2 (by decide : rg (12 : Int)) dX1_takeOut_40 (by decide) (fun ci5 => ?_) (fun ci5 => ?_)
        · rw [if_pos ci5] at hF
          exact w_X1_takeOut_77 C0  M v0 hv0 H locs hR hS ls (lv_sub hl [0] rfl) hF
        · rw [if_neg ci5] at hF
          refine lv_aload_n hx hb dX1_takeOut_43 rfl (lv_at hl 0 rfl) ?_
          refine gf_1_9 hx hb hts hown hK hR hv0 wd58 dX1_takeOut_44 ?_
          refine lv_iload_n hx hb dX1_takeOut_47 rfl (lv_at hl 1 rfl) ?_
          refine x_iconst hx hb dX1_takeOut_48 ?_
          obtain ⟨hq6, hF⟩ := xk_some hF
          refine x_isub hx hb dX1_takeOut_49 ?_
          refine lv_aload_n hx hb dX1_takeOut_50 rfl (lv_at hl 0 rfl) ?_
          refine gf_1_9 hx hb hts hown hK hR hv0 wd58 dX1_takeOut_51 ?_
          refine lv_iload_n hx hb dX1_takeOut_54 rfl (lv_at hl 1 rfl) ?_
          obtain ⟨hi7, hF⟩ := xk_some hF
          refine x_iald (K := 3) hx hb hK hR (ok3 hv0) (by decide) hv2 hi7 dX1_takeOut_55 ?_
          have hg8 : rg (M 3 v0 v2.toNat) := hR.2 3 v0 _ (by decide)
          obtain ⟨hi9, hF⟩ := xk_some hF
          refine x_iast (K := 3) hx hb hK hR hS (ok3 hv0) (by decide) hq6 hg8 hi9 dX1_takeOut_56 (fun H locs hR hS => ?_)
          obtain ⟨M10, eM, hF⟩ := xl_some hF
          rw [eM] at hR
          clear eM
          refine lv_aload_n hx hb dX1_takeOut_57 rfl (lv_at hl 0 rfl) ?_
          refine gf_1_10 hx hb hts hown hK hR hv0 wd59 dX1_takeOut_58 ?_
          refine lv_iload_n hx hb dX1_takeOut_61 rfl (lv_at hl 1 rfl) ?_
          refine x_iconst hx hb dX1_takeOut_62 ?_
          obtain ⟨hq11, hF⟩ := xk_some hF
          refine x_isub hx hb dX1_takeOut_63 ?_
          refine lv_aload_n hx hb dX1_takeOut_64 rfl (lv_at hl 0 rfl) ?_
          refine gf_1_10 hx hb hts hown hK hR hv0 wd59 dX1_takeOut_65 ?_
          refine lv_iload_n hx hb dX1_takeOut_68 rfl (lv_at hl 1 rfl) ?_
          obtain ⟨hi12, hF⟩ := xk_some hF
          refine x_iald (K := 4) hx hb hK hR (ok4 hv0) (by decide) hv2 hi12 dX1_takeOut_69 ?_
          have hg13 : rg (M10 4 v0 v2.toNat) := hR.2 4 v0 _ (by decide)
          obtain ⟨hi14, hF⟩ := xk_some hF
          refine x_iast (K := 4) hx hb hK hR hS (ok4 hv0) (by decide) hq11 hg13 hi14 dX1_takeOut_70 (fun H locs hR hS => ?_)
          obtain ⟨M15, eM, hF⟩ := xl_some hF
          rw [eM] at hR
          clear eM
          obtain ⟨hq16, hF⟩ := xk_some hF
          refine x_iinc (lv' := [(2, .int (jI (v2 + (1 : Int)))), (0, .ref (adr b 2 v0))]) hx hb dX1_takeOut_71 hl (k := 1) rfl (by decide) rfl (fun ls hl => ?_)
          refine lv_goto (tgt := 17) hx hb dX1_takeOut_74 (by decide) ?_
          exact ih M15 v0 (v2 + (1 : Int)) hv0 hq16 H locs hR hS ls (lv_sub hl [1, 0] rfl) hF
def F_X1_takeOut (M : Mm) (o : Nat) (a1 : Int) : Option (Mm) := (if a1 < 0 then (some M) else (if a1 < (M 2 o 8) then (xk (rg (a1 + (1 : Int))) (F_X1_takeOut_17  FU M o (a1 + (1 : Int)))) else (some M)))
set_option maxHeartbeats 4000000 in
set_option maxRecDepth 100000 in
theorem c_X1_takeOut {l : Launch} {g : Gx} {b : Nat} {M : Mm} {o : Nat} {a1 : Int} {M' : Mm} (ho : o < 99) (ha1 : rg a1) (hF : F_X1_takeOut M o a1 = some M') : Ct l yX1_takeOut cX1_takeOut 3 none rmX1_takeOut g b [.ref (adr b 2 o), .int (jI a1)] M (qV g b M') := by
  refine ct_of (by decide +kernel) (Nat.le_of_ble_eq_true rfl) ?_
  intro p e s m args below meth c C0 hR ls hl
  obtain ⟨hx, hb, hr, hlocks, hml, hown, hts, hK⟩ := id C0
  have hS : va_S (AA b s.heap.size) s.heap s.heap [] := va_S.rf
  have hl : lv_has ls 3 [(0, .ref (adr b 2 o)), (1, .int (jI a1))] := hl
  obtain ⟨H, hH⟩ : ∃ z, z = s.heap := ⟨_, rfl⟩
  obtain ⟨locs, hlo⟩ : ∃ z : List Loc, z = [] := ⟨_, rfl⟩
  have hR : Rel g b M H := by rw [hH]; exact hR
  have hS : va_S (AA b s.heap.size) s.heap H locs := by rw [hH, hlo]; exact hS
  suffices hW : W p l e rmX1_takeOut s m args below meth c H locs 0 0 (MQ below (qV g b M' s.heap.size) args s 0 0 (AA b s.heap.size)) (F0 m 0 ls []) by rw [hH, hlo] at hW; exact hW
  rw [F_X1_takeOut] at hF
  refine lv_iload_n hx hb dX1_takeOut_0 rfl (lv_at hl 1 rfl) ?_
  refine x_if_lt (tgt := 12) hx hb ha1 dX1_takeOut_1 (by decide) (fun ci1 => ?_) (fun ci1 => ?_)
  · rw [if_pos ci1] at hF
    cases hF
    exact x_vret hx hb hlocks hK hR hS hr dX1_takeOut_12
  · rw [if_neg ci1] at hF
    refine lv_iload_n hx hb dX1_takeOut_4 rfl (lv_at hl 1 rfl) ?_
    refine lv_aload_n hx hb dX1_takeOut_5 rfl (lv_at hl 0 rfl) ?_
    refine gf_1_8 hx hb hts hown hK hR ho wd55 dX1_takeOut_6 ?_
    have hg2 : rg (M 2 o 8) := hR.2 2 o 8 (by decide)
    refine x_icmp_lt (tgt := 13) hx hb ha1 hg2 dX1_takeOut_9 (by decide) (fun ci3 => ?_) (fun ci3 => ?_)
    · rw [if_pos ci3] at hF
      refine lv_iload_n hx hb dX1_takeOut_13 rfl (lv_at hl 1 rfl) ?_
      refine x_iconst hx hb dX1_takeOut_14 ?_
      obtain ⟨hq4, hF⟩ := xk_some hF
      refine x_iadd hx hb dX1_takeOut_15 ?_
      refine lv_istore_n (lv' := [(2, .int (jI (a1 + (1 : Int)))), (0, .ref (adr b 2 o)), (1, .int (jI a1))]) hx hb dX1_takeOut_16 rfl hl (by decide) rfl (fun ls hl => ?_)
      exact w_X1_takeOut_17 C0  FU M o (a1 + (1 : Int)) ho hq4 H locs hR hS ls (lv_sub hl [1, 0] rfl) hF
    · rw [if_neg ci3] at hF
      cases hF
      exact x_vret hx hb hlocks hK hR hS hr dX1_takeOut_12
abbrev rmX1_blockAt : Room := { frames := 0, cells := 0, slots := 0, locals := 0 }
theorem hyX1_blockAt : yX1_blockAt.cls = RX1 ∧ yX1_blockAt.cls ≠ "java/lang/invoke/MethodHandle" ∧ yX1_blockAt.cls ≠ "java/lang/invoke/VarHandle" ∧ (parseMethodDescriptor yX1_blockAt.desc).map (fun d => d.parameters.length) = some 1 := by decide +kernel
def F_X1_blockAt (M : Mm) (o : Nat) (a1 : Int) : Option (Int) := (if a1 < 0 then (some (0 : Int)) else (if (20 : Int) ≤ a1 then (some (0 : Int)) else (xk (0 ≤ a1 ∧ a1 < 20) (some (M 5 o a1.toNat)))))
set_option maxHeartbeats 4000000 in
set_option maxRecDepth 100000 in
theorem c_X1_blockAt {l : Launch} {g : Gx} {b : Nat} {M : Mm} {o : Nat} {a1 : Int} {r : Int} (ho : o < 99) (ha1 : rg a1) (hF : F_X1_blockAt M o a1 = some r) : Ct l yX1_blockAt cX1_blockAt 2 (some .int) rmX1_blockAt g b [.ref (adr b 2 o), .int (jI a1)] M (qI g b r M) := by
  refine ct_of (by decide +kernel) (Nat.le_of_ble_eq_true rfl) ?_
  intro p e s m args below meth c C0 hR ls hl
  obtain ⟨hx, hb, hr, hlocks, hml, hown, hts, hK⟩ := id C0
  have hS : va_S (AA b s.heap.size) s.heap s.heap [] := va_S.rf
  have hl : lv_has ls 2 [(0, .ref (adr b 2 o)), (1, .int (jI a1))] := hl
  obtain ⟨H, hH⟩ : ∃ z, z = s.heap := ⟨_, rfl⟩
  obtain ⟨locs, hlo⟩ : ∃ z : List Loc, z = [] := ⟨_, rfl⟩
  have hR : Rel g b M H := by rw [hH]; exact hR
  have hS : va_S (AA b s.heap.size) s.heap H locs := by rw [hH, hlo]; exact hS
  suffices hW : W p l e rmX1_blockAt s m args below meth c H locs 0 0 (MQ below (qI g b r M s.heap.size) args s 0 0 (AA b s.heap.size)) (F0 m 0 ls []) by rw [hH, hlo] at hW; exact hW
  rw [F_X1_blockAt] at hF
  refine lv_iload_n hx hb dX1_blockAt_0 rfl (lv_at hl 1 rfl) ?_
  refine x_if_lt (tgt := 22) hx hb ha1 dX1_blockAt_1 (by decide) (fun ci1 => ?_) (fun ci1 => ?_)
  · rw [if_pos ci1] at hF
    refine x_iconst hx hb dX1_blockAt_22 ?_
    cases hF
    exact x_iret hx hb hlocks hK hR hS hr (by decide : rg (0 : Int)) dX1_blockAt_23
  · rw [if_neg ci1] at hF
    refine lv_iload_n hx hb dX1_blockAt_4 rfl (lv_at hl 1 rfl) ?_
    refine lv_aload_n hx hb dX1_blockAt_5 rfl (lv_at hl 0 rfl) ?_
    refine gf_1_11 hx hb hts hown hK hR ho wd60 dX1_blockAt_6 ?_
    refine x_alen (K := 5) (n := (20 : Int)) hx hb hK hR (ok5 ho) (by decide) (by decide +kernel) dX1_blockAt_9 ?_
    refine x_icmp_ge (tgt := 22) hx hb ha1 (by decide : rg (20 : Int)) dX1_blockAt_10 (by decide) (fun ci2 => ?_) (fun ci2 => ?_)
    · rw [if_pos ci2] at hF
      refine x_iconst hx hb dX1_blockAt_22 ?_
      cases hF
      exact x_iret hx hb hlocks hK hR hS hr (by decide : rg (0 : Int)) dX1_blockAt_23
    · rw [if_neg ci2] at hF
      refine lv_aload_n hx hb dX1_blockAt_13 rfl (lv_at hl 0 rfl) ?_
      refine gf_1_11 hx hb hts hown hK hR ho wd60 dX1_blockAt_14 ?_
      refine lv_iload_n hx hb dX1_blockAt_17 rfl (lv_at hl 1 rfl) ?_
      obtain ⟨hi3, hF⟩ := xk_some hF
      refine x_iald (K := 5) hx hb hK hR (ok5 ho) (by decide) ha1 hi3 dX1_blockAt_18 ?_
      have hg4 : rg (M 5 o a1.toNat) := hR.2 5 o _ (by decide)
      refine lv_goto (tgt := 23) hx hb dX1_blockAt_19 (by decide) ?_
      cases hF
      exact x_iret hx hb hlocks hK hR hS hr hg4 dX1_blockAt_23
abbrev rmX1_hasElsewhere : Room := { frames := 0, cells := 0, slots := 0, locals := 0 }
theorem hyX1_hasElsewhere : yX1_hasElsewhere.cls = RX1 ∧ yX1_hasElsewhere.cls ≠ "java/lang/invoke/MethodHandle" ∧ yX1_hasElsewhere.cls ≠ "java/lang/invoke/VarHandle" ∧ (parseMethodDescriptor yX1_hasElsewhere.desc).map (fun d => d.parameters.length) = some 2 := by decide +kernel
def F_X1_hasElsewhere_2 (M : Mm)  : Nat → Nat → Int → Int → Int → Option (Int)
  | 0, _, _, _, _ => none
  | n + 1, v0, v1, v2, v3 => (if (20 : Int) ≤ v3 then (some (0 : Int)) else (if v3 = v2 then (xk (rg (v3 + (1 : Int))) (F_X1_hasElsewhere_2 M  n v0 v1 v2 (v3 + (1 : Int)))) else (if v1 = 0 then (xk (rg (v3 + (1 : Int))) (F_X1_hasElsewhere_2 M  n v0 v1 v2 (v3 + (1 : Int)))) else (xk (0 ≤ v3 ∧ v3 < 20) (if (M 5 v0 v3.toNat) = v1 then (some (1 : Int)) else (xk (rg (v3 + (1 : Int))) (F_X1_hasElsewhere_2 M  n v0 v1 v2 (v3 + (1 : Int)))))))))
set_option maxHeartbeats 4000000 in
set_option maxRecDepth 100000 in
theorem w_X1_hasElsewhere_2 {p : Program} {l : Launch} {e : Env} {s : State} {m : MethodId} {args : Array Value} {below : List Frame} {meth : Method} {c : Code} {g : Gx} {b : Nat} (C0 : XA p s m meth c args RX1 cX1_hasElsewhere 4 (some .boolean) g) {r : Int} {M : Mm} : ∀ n : Nat, ∀ (v0 : Nat) (v1 : Int) (v2 : Int) (v3 : Int) (hv0 : v0 < 99) (hv1 : rg v1) (hv2 : rg v2) (hv3 : rg v3) (H : Heap) (locs : List Loc), Rel g b M H → va_S (AA b s.heap.size) s.heap H locs → ∀ ls : Array Slot, lv_has ls 4 [(0, .ref (adr b 2 v0)), (1, .int (jI v1)), (2, .int (jI v2)), (3, .int (jI v3))] → F_X1_hasElsewhere_2 M  n v0 v1 v2 v3 = some r → W p l e rmX1_hasElsewhere s m args below meth c H locs 0 0 (MQ below (qI g b r M s.heap.size) args s 0 0 (AA b s.heap.size)) (F0 m 2 ls []) := by
  obtain ⟨hx, hb, hr, hlocks, hml, hown, hts, hK⟩ := id C0
  intro n
  induction n with
  | zero =>
    intro v0 v1 v2 v3 hv0 hv1 hv2 hv3 H locs hR hS ls hl hF
    rw [F_X1_hasElsewhere_2] at hF
    cases hF
  | succ n ih =>
    intro v0 v1 v2 v3 hv0 hv1 hv2 hv3 H locs hR hS ls hl hF
    rw [F_X1_hasElsewhere_2] at hF
    refine lv_iload_n hx hb dX1_hasElsewhere_2 rfl (lv_at hl 3 rfl) ?_
    refine lv_aload_n hx hb dX1_hasElsewhere_3 rfl (lv_at hl 0 rfl) ?_
    refine gf_1_11 hx hb hts hown hK hR hv0 wd60 dX1_hasElsewhere_4 ?_
    refine x_alen (K := 5) (n := (20 : Int)) hx hb hK hR (ok5 hv0) (by decide) (by decide +kernel) dX1_hasElsewhere_7 ?_
    refine x_icmp_ge (tgt := 38) hx hb hv3 (by decide : rg (20 : Int)) dX1_hasElsewhere_8 (by decide) (fun ci1 => ?_) (fun ci1 => ?_)
    · rw [if_pos ci1] at hF
      refine x_iconst hx hb dX1_hasElsewhere_38 ?_
      cases hF
      exact x_zret hx hb hlocks hK hR hS hr (by decide) dX1_hasElsewhere_39
    · rw [if_neg ci1] at hF
      refine lv_iload_n hx hb dX1_hasElsewhere_11 rfl (lv_at hl 3 rfl) ?_
      refine lv_iload_n hx hb dX1_hasElsewhere_12 rfl (lv_at hl 2 rfl) ?_
      refine x_icmp_eq (tgt := 32) hx hb hv3 hv2 dX1_hasElsewhere_13 (by decide) (fun ci2 => ?_) (fun ci2 => ?_)
      · rw [if_pos ci2] at hF
        obtain ⟨hq3, hF⟩ := xk_some hF
        refine x_iinc (lv' := [(3, .int (jI (v3 + (1 : Int)))), (0, .ref (adr b 2 v0)), (1, .int (jI v1)), (2, .int (jI v2))]) hx hb dX1_hasElsewhere_32 hl (k := 3) rfl (by decide) rfl (fun ls hl => ?_)
        refine lv_goto (tgt := 2) hx hb dX1_hasElsewhere_35 (by decide) ?_
        exact ih v0 v1 v2 (v3 + (1 : Int)) hv0 hv1 hv2 hq3 H locs hR hS ls (lv_sub hl [1, 2, 3, 0] rfl) hF
      · rw [if_neg ci2] at hF
        refine lv_iload_n hx hb dX1_hasElsewhere_16 rfl (lv_at hl 1 rfl) ?_
        refine x_if_eq (tgt := 32) hx hb hv1 dX1_hasElsewhere_17 (by decide) (fun ci4 => ?_) (fun ci4 => ?_)
        · rw [if_pos ci4] at hF
          obtain ⟨hq5, hF⟩ := xk_some hF
          refine x_iinc (lv' := [(3, .int (jI (v3 + (1 : Int)))), (0, .ref (adr b 2 v0)), (1, .int (jI v1)), (2, .int (jI v2))]) hx hb dX1_hasElsewhere_32 hl (k := 3) rfl (by decide) rfl (fun ls hl => ?_)
          refine lv_goto (tgt := 2) hx hb dX1_hasElsewhere_35 (by decide) ?_
          exact ih v0 v1 v2 (v3 + (1 : Int)) hv0 hv1 hv2 hq5 H locs hR hS ls (lv_sub hl [1, 2, 3, 0] rfl) hF
        · rw [if_neg ci4] at hF
          refine lv_aload_n hx hb dX1_hasElsewhere_20 rfl (lv_at hl 0 rfl) ?_
          refine gf_1_11 hx hb hts hown hK hR hv0 wd60 dX1_hasElsewhere_21 ?_
          refine lv_iload_n hx hb dX1_hasElsewhere_24 rfl (lv_at hl 3 rfl) ?_
          obtain ⟨hi6, hF⟩ := xk_some hF
          refine x_iald (K := 5) hx hb hK hR (ok5 hv0) (by decide) hv3 hi6 dX1_hasElsewhere_25 ?_
          have hg7 : rg (M 5 v0 v3.toNat) := hR.2 5 v0 _ (by decide)
          refine lv_iload_n hx hb dX1_hasElsewhere_26 rfl (lv_at hl 1 rfl) ?_
          refine x_icmp_ne (tgt := 32) hx hb hg7 hv1 dX1_hasElsewhere_27 (by decide) (fun ci8 => ?_) (fun ci8 => ?_)
          · rw [if_neg ci8] at hF
            obtain ⟨hq9, hF⟩ := xk_some hF
            refine x_iinc (lv' := [(3, .int (jI (v3 + (1 : Int)))), (0, .ref (adr b 2 v0)), (1, .int (jI v1)), (2, .int (jI v2))]) hx hb dX1_hasElsewhere_32 hl (k := 3) rfl (by decide) rfl (fun ls hl => ?_)
            refine lv_goto (tgt := 2) hx hb dX1_hasElsewhere_35 (by decide) ?_
            exact ih v0 v1 v2 (v3 + (1 : Int)) hv0 hv1 hv2 hq9 H locs hR hS ls (lv_sub hl [1, 2, 3, 0] rfl) hF
          · rw [if_pos ci8] at hF
            refine x_iconst hx hb dX1_hasElsewhere_30 ?_
            cases hF
            exact x_zret hx hb hlocks hK hR hS hr (by decide) dX1_hasElsewhere_31
def F_X1_hasElsewhere (M : Mm) (o : Nat) (a1 : Int) (a2 : Int) : Option (Int) := (F_X1_hasElsewhere_2 M  FU o a1 a2 (0 : Int))
set_option maxHeartbeats 4000000 in
set_option maxRecDepth 100000 in
theorem c_X1_hasElsewhere {l : Launch} {g : Gx} {b : Nat} {M : Mm} {o : Nat} {a1 : Int} {a2 : Int} {r : Int} (ho : o < 99) (ha1 : rg a1) (ha2 : rg a2) (hF : F_X1_hasElsewhere M o a1 a2 = some r) : Ct l yX1_hasElsewhere cX1_hasElsewhere 4 (some .boolean) rmX1_hasElsewhere g b [.ref (adr b 2 o), .int (jI a1), .int (jI a2)] M (qI g b r M) := by
  refine ct_of (by decide +kernel) (Nat.le_of_ble_eq_true rfl) ?_
  intro p e s m args below meth c C0 hR ls hl
  obtain ⟨hx, hb, hr, hlocks, hml, hown, hts, hK⟩ := id C0
  have hS : va_S (AA b s.heap.size) s.heap s.heap [] := va_S.rf
  have hl : lv_has ls 4 [(0, .ref (adr b 2 o)), (1, .int (jI a1)), (2, .int (jI a2))] := hl
  obtain ⟨H, hH⟩ : ∃ z, z = s.heap := ⟨_, rfl⟩
  obtain ⟨locs, hlo⟩ : ∃ z : List Loc, z = [] := ⟨_, rfl⟩
  have hR : Rel g b M H := by rw [hH]; exact hR
  have hS : va_S (AA b s.heap.size) s.heap H locs := by rw [hH, hlo]; exact hS
  suffices hW : W p l e rmX1_hasElsewhere s m args below meth c H locs 0 0 (MQ below (qI g b r M s.heap.size) args s 0 0 (AA b s.heap.size)) (F0 m 0 ls []) by rw [hH, hlo] at hW; exact hW
  rw [F_X1_hasElsewhere] at hF
  refine x_iconst hx hb dX1_hasElsewhere_0 ?_
  refine lv_istore_n (lv' := [(3, .int (jI (0 : Int))), (0, .ref (adr b 2 o)), (1, .int (jI a1)), (2, .int (jI a2))]) hx hb dX1_hasElsewhere_1 rfl hl (by decide) rfl (fun ls hl => ?_)
  exact w_X1_hasElsewhere_2 C0  FU o a1 a2 (0 : Int) ho ha1 ha2 (by decide : rg (0 : Int)) H locs hR hS ls (lv_sub hl [1, 2, 3, 0] rfl) hF
abbrev rmX1_blocksFor : Room := { frames := 0, cells := 0, slots := 0, locals := 0 }
theorem hyX1_blocksFor : yX1_blocksFor.cls ≠ "java/lang/invoke/MethodHandle" ∧ yX1_blocksFor.cls ≠ "java/lang/invoke/VarHandle" ∧ (parseMethodDescriptor yX1_blocksFor.desc).map (fun d => d.parameters.length) = some 1 := by decide +kernel
def F_X1_blocksFor (M : Mm) (a1 : Int) : Option (Int) := (xk (rg (a1 + (3 : Int))) (xk (rg (Int.tdiv (a1 + (3 : Int)) (4 : Int))) (some (Int.tdiv (a1 + (3 : Int)) (4 : Int)))))
set_option maxHeartbeats 4000000 in
set_option maxRecDepth 100000 in
theorem c_X1_blocksFor {l : Launch} {g : Gx} {b : Nat} {M : Mm} {a1 : Int} {r : Int} (ha1 : rg a1) (hF : F_X1_blocksFor M a1 = some r) : Ct l yX1_blocksFor cX1_blocksFor 1 (some .int) rmX1_blocksFor g b [.int (jI a1)] M (qI g b r M) := by
  refine ct_of (by decide +kernel) (Nat.le_of_ble_eq_true rfl) ?_
  intro p e s m args below meth c C0 hR ls hl
  obtain ⟨hx, hb, hr, hlocks, hml, hown, hts, hK⟩ := id C0
  have hS : va_S (AA b s.heap.size) s.heap s.heap [] := va_S.rf
  have hl : lv_has ls 1 [(0, .int (jI a1))] := hl
  obtain ⟨H, hH⟩ : ∃ z, z = s.heap := ⟨_, rfl⟩
  obtain ⟨locs, hlo⟩ : ∃ z : List Loc, z = [] := ⟨_, rfl⟩
  have hR : Rel g b M H := by rw [hH]; exact hR
  have hS : va_S (AA b s.heap.size) s.heap H locs := by rw [hH, hlo]; exact hS
  suffices hW : W p l e rmX1_blocksFor s m args below meth c H locs 0 0 (MQ below (qI g b r M s.heap.size) args s 0 0 (AA b s.heap.size)) (F0 m 0 ls []) by rw [hH, hlo] at hW; exact hW
  rw [F_X1_blocksFor] at hF
  refine lv_iload_n hx hb dX1_blocksFor_0 rfl (lv_at hl 0 rfl) ?_
  refine x_iconst hx hb dX1_blocksFor_1 ?_
  obtain ⟨hq1, hF⟩ := xk_some hF
  refine x_iadd hx hb dX1_blocksFor_2 ?_
  refine x_iconst hx hb dX1_blocksFor_3 ?_
  obtain ⟨hq3, hF⟩ := xk_some hF
  refine x_idiv hx hb hq1 (by decide : rg (4 : Int)) (by decide) dX1_blocksFor_4 ?_
  cases hF
  exact x_iret hx hb hlocks hK hR hS hr hq3 dX1_blocksFor_5
abbrev rmX1_ownBlocks : Room := { frames := 1, cells := 0, slots := 0, locals := 20 }
theorem hyX1_ownBlocks : yX1_ownBlocks.cls = RX1 ∧ yX1_ownBlocks.cls ≠ "java/lang/invoke/MethodHandle" ∧ yX1_ownBlocks.cls ≠ "java/lang/invoke/VarHandle" ∧ (parseMethodDescriptor yX1_ownBlocks.desc).map (fun d => d.parameters.length) = some 0 := by decide +kernel
def F_X1_ownBlocks_20 (M : Mm)  : Nat → Nat → Int → Int → Option (Int)
  | 0, _, _, _ => none
  | n + 1, v0, v1, v2 => (if (20 : Int) ≤ v2 then (some v1) else (xk (0 ≤ v2 ∧ v2 < 20) (if (M 5 v0 v2.toNat) = 0 then (xk (rg (v2 + (1 : Int))) (F_X1_ownBlocks_20 M  n v0 v1 (v2 + (1 : Int)))) else (xk (rg (v1 + (1 : Int))) (xk (rg (v2 + (1 : Int))) (F_X1_ownBlocks_20 M  n v0 (v1 + (1 : Int)) (v2 + (1 : Int))))))))
set_option maxHeartbeats 4000000 in
set_option maxRecDepth 100000 in
theorem w_X1_ownBlocks_20 {p : Program} {l : Launch} {e : Env} {s : State} {m : MethodId} {args : Array Value} {below : List Frame} {meth : Method} {c : Code} {g : Gx} {b : Nat} (C0 : XA p s m meth c args RX1 cX1_ownBlocks 3 (some .int) g) {r : Int} {M : Mm} : ∀ n : Nat, ∀ (v0 : Nat) (v1 : Int) (v2 : Int) (hv0 : v0 < 99) (hv1 : rg v1) (hv2 : rg v2) (H : Heap) (locs : List Loc), Rel g b M H → va_S (AA b s.heap.size) s.heap H locs → ∀ ls : Array Slot, lv_has ls 3 [(0, .ref (adr b 2 v0)), (1, .int (jI v1)), (2, .int (jI v2))] → F_X1_ownBlocks_20 M  n v0 v1 v2 = some r → W p l e rmX1_ownBlocks s m args below meth c H locs 0 0 (MQ below (qI g b r M s.heap.size) args s 0 0 (AA b s.heap.size)) (F0 m 20 ls []) := by
  obtain ⟨hx, hb, hr, hlocks, hml, hown, hts, hK⟩ := id C0
  intro n
  induction n with
  | zero =>
    intro v0 v1 v2 hv0 hv1 hv2 H locs hR hS ls hl hF
    rw [F_X1_ownBlocks_20] at hF
    cases hF
  | succ n ih =>
    intro v0 v1 v2 hv0 hv1 hv2 H locs hR hS ls hl hF
    rw [F_X1_ownBlocks_20] at hF
    refine lv_iload_n hx hb dX1_ownBlocks_20 rfl (lv_at hl 2 rfl) ?_
    refine lv_aload_n hx hb dX1_ownBlocks_21 rfl (lv_at hl 0 rfl) ?_
    refine gf_1_11 hx hb hts hown hK hR hv0 wd60 dX1_ownBlocks_22 ?_
    refine x_alen (K := 5) (n := (20 : Int)) hx hb hK hR (ok5 hv0) (by decide) (by decide +kernel) dX1_ownBlocks_25 ?_
    refine x_icmp_ge (tgt := 47) hx hb hv2 (by decide : rg (20 : Int)) dX1_ownBlocks_26 (by decide) (fun ci1 => ?_) (fun ci1 => ?_)
    · rw [if_pos ci1] at hF
      refine lv_iload_n hx hb dX1_ownBlocks_47 rfl (lv_at hl 1 rfl) ?_
      cases hF
      exact x_iret hx hb hlocks hK hR hS hr hv1 dX1_ownBlocks_48
    · rw [if_neg ci1] at hF
      refine lv_aload_n hx hb dX1_ownBlocks_29 rfl (lv_at hl 0 rfl) ?_
      refine gf_1_11 hx hb hts hown hK hR hv0 wd60 dX1_ownBlocks_30 ?_
      refine lv_iload_n hx hb dX1_ownBlocks_33 rfl (lv_at hl 2 rfl) ?_
      obtain ⟨hi2, hF⟩ := xk_some hF
      refine x_iald (K := 5) hx hb hK hR (ok5 hv0) (by decide) hv2 hi2 dX1_ownBlocks_34 ?_
      have hg3 : rg (M 5 v0 v2.toNat) := hR.2 5 v0 _ (by decide)
      refine x_if_eq (tgt := 41) hx hb hg3 dX1_ownBlocks_35 (by decide) (fun ci4 => ?_) (fun ci4 => ?_)
      · rw [if_pos ci4] at hF
        obtain ⟨hq5, hF⟩ := xk_some hF
        refine x_iinc (lv' := [(2, .int (jI (v2 + (1 : Int)))), (0, .ref (adr b 2 v0)), (1, .int (jI v1))]) hx hb dX1_ownBlocks_41 hl (k := 2) rfl (by decide) rfl (fun ls hl => ?_)
        refine lv_goto (tgt := 20) hx hb dX1_ownBlocks_44 (by decide) ?_
        exact ih v0 v1 (v2 + (1 : Int)) hv0 hv1 hq5 H locs hR hS ls (lv_sub hl [1, 2, 0] rfl) hF
      · rw [if_neg ci4] at hF
        obtain ⟨hq6, hF⟩ := xk_some hF
        refine x_iinc (lv' := [(1, .int (jI (v1 + (1 : Int)))), (0, .ref (adr b 2 v0)), (2, .int (jI v2))]) hx hb dX1_ownBlocks_38 hl (k := 1) rfl (by decide) rfl (fun ls hl => ?_)
        obtain ⟨hq7, hF⟩ := xk_some hF
        refine x_iinc (lv' := [(2, .int (jI (v2 + (1 : Int)))), (1, .int (jI (v1 + (1 : Int)))), (0, .ref (adr b 2 v0))]) hx hb dX1_ownBlocks_41 hl (k := 2) rfl (by decide) rfl (fun ls hl => ?_)
        refine lv_goto (tgt := 20) hx hb dX1_ownBlocks_44 (by decide) ?_
        exact ih v0 (v1 + (1 : Int)) (v2 + (1 : Int)) hv0 hq6 hq7 H locs hR hS ls (lv_sub hl [2, 1, 0] rfl) hF
def F_X1_ownBlocks (M : Mm) (o : Nat) : Option (Int) := (if (M 2 o 0) = (2 : Int) then (xb1 (F_X1_blocksFor M (M 2 o 8)) fun y10 => (some y10)) else (F_X1_ownBlocks_20 M  FU o (0 : Int) (0 : Int)))
set_option maxHeartbeats 4000000 in
set_option maxRecDepth 100000 in
theorem c_X1_ownBlocks {l : Launch} {g : Gx} {b : Nat} {M : Mm} {o : Nat} {r : Int} (ho : o < 99) (hF : F_X1_ownBlocks M o = some r) : Ct l yX1_ownBlocks cX1_ownBlocks 3 (some .int) rmX1_ownBlocks g b [.ref (adr b 2 o)] M (qI g b r M) := by
  refine ct_of (by decide +kernel) (Nat.le_of_ble_eq_true rfl) ?_
  intro p e s m args below meth c C0 hR ls hl
  obtain ⟨hx, hb, hr, hlocks, hml, hown, hts, hK⟩ := id C0
  have hS : va_S (AA b s.heap.size) s.heap s.heap [] := va_S.rf
  have hl : lv_has ls 3 [(0, .ref (adr b 2 o))] := hl
  obtain ⟨H, hH⟩ : ∃ z, z = s.heap := ⟨_, rfl⟩
  obtain ⟨locs, hlo⟩ : ∃ z : List Loc, z = [] := ⟨_, rfl⟩
  have hR : Rel g b M H := by rw [hH]; exact hR
  have hS : va_S (AA b s.heap.size) s.heap H locs := by rw [hH, hlo]; exact hS
  suffices hW : W p l e rmX1_ownBlocks s m args below meth c H locs 0 0 (MQ below (qI g b r M s.heap.size) args s 0 0 (AA b s.heap.size)) (F0 m 0 ls []) by rw [hH, hlo] at hW; exact hW
  rw [F_X1_ownBlocks] at hF
  refine lv_aload_n hx hb dX1_ownBlocks_0 rfl (lv_at hl 0 rfl) ?_
  refine gf_1_0 hx hb hts hown hK hR ho wd34 dX1_ownBlocks_1 ?_
  have hg1 : rg (M 2 o 0) := hR.2 2 o 0 (by decide)
  refine x_iconst hx hb dX1_ownBlocks_4 ?_
  refine x_icmp_ne (tgt := 16) hx hb hg1 (by decide : rg (2 : Int)) dX1_ownBlocks_5 (by decide) (fun ci2 => ?_) (fun ci2 => ?_)
  · rw [if_neg ci2] at hF
    refine x_iconst hx hb dX1_ownBlocks_16 ?_
    refine lv_istore_n (lv' := [(1, .int (jI (0 : Int))), (0, .ref (adr b 2 o))]) hx hb dX1_ownBlocks_17 rfl hl (by decide) rfl (fun ls hl => ?_)
    refine x_iconst hx hb dX1_ownBlocks_18 ?_
    refine lv_istore_n (lv' := [(2, .int (jI (0 : Int))), (1, .int (jI (0 : Int))), (0, .ref (adr b 2 o))]) hx hb dX1_ownBlocks_19 rfl hl (by decide) rfl (fun ls hl => ?_)
    exact w_X1_ownBlocks_20 C0  FU o (0 : Int) (0 : Int) ho (by decide : rg (0 : Int)) (by decide : rg (0 : Int)) H locs hR hS ls (lv_sub hl [2, 1, 0] rfl) hF
  · rw [if_pos ci2] at hF
    refine lv_aload_n hx hb dX1_ownBlocks_8 rfl (lv_at hl 0 rfl) ?_
    refine gf_1_8 hx hb hts hown hK hR ho wd55 dX1_ownBlocks_9 ?_
    have hg8 : rg (M 2 o 8) := hR.2 2 o 8 (by decide)
    obtain ⟨y10, hc9, hF⟩ := xb1_some hF
    refine x_cSi (As := [.int (jI (M 2 o 8))]) (rest := []) hx hb hml hown hts hK hR hS (c_X1_blocksFor hg8 hc9) wd412 wd413 wd3 wd414 hyX1_blocksFor ⟨rfl, rfl⟩ ⟨Nat.le_of_ble_eq_true rfl, Nat.le_of_ble_eq_true rfl⟩ hl.1 (Nat.le_of_ble_eq_true rfl) dX1_ownBlocks_12 ⟨Nat.zero_le _, Nat.zero_le _⟩ rfl (fun hg11 H locs hR hS => ?_)
    cases hF
    exact x_iret hx hb hlocks hK hR hS hr hg11 dX1_ownBlocks_15
abbrev rmX1_extent : Room := { frames := 0, cells := 0, slots := 0, locals := 0 }
theorem hyX1_extent : yX1_extent.cls = RX1 ∧ yX1_extent.cls ≠ "java/lang/invoke/MethodHandle" ∧ yX1_extent.cls ≠ "java/lang/invoke/VarHandle" ∧ (parseMethodDescriptor yX1_extent.desc).map (fun d => d.parameters.length) = some 0 := by decide +kernel
def F_X1_extent_33 (M : Mm)  (v0 : Nat) (s0 : Int) : Option (Int) := (if (M 2 v0 7) = 0 then (xk (rg (s0 + (0 : Int))) (some (s0 + (0 : Int)))) else (xk (rg (s0 + (1 : Int))) (some (s0 + (1 : Int)))))
set_option maxHeartbeats 4000000 in
set_option maxRecDepth 100000 in
theorem w_X1_extent_33 {p : Program} {l : Launch} {e : Env} {s : State} {m : MethodId} {args : Array Value} {below : List Frame} {meth : Method} {c : Code} {g : Gx} {b : Nat} (C0 : XA p s m meth c args RX1 cX1_extent 1 (some .int) g) {r : Int} {M : Mm} : ∀ (v0 : Nat) (s0 : Int) (hv0 : v0 < 99) (hs0 : rg s0) (H : Heap) (locs : List Loc), Rel g b M H → va_S (AA b s.heap.size) s.heap H locs → ∀ ls : Array Slot, lv_has ls 1 [(0, .ref (adr b 2 v0))] → F_X1_extent_33 M  v0 s0 = some r → W p l e rmX1_extent s m args below meth c H locs 0 0 (MQ below (qI g b r M s.heap.size) args s 0 0 (AA b s.heap.size)) (F0 m 33 ls [.int (jI s0)]) := by
  obtain ⟨hx, hb, hr, hlocks, hml, hown, hts, hK⟩ := id C0
  intro v0 s0 hv0 hs0 H locs hR hS ls hl hF
  rw [F_X1_extent_33] at hF
  refine lv_aload_n hx hb dX1_extent_33 rfl (lv_at hl 0 rfl) ?_
  refine gf_1_7 hx hb hts hown hK hR hv0 wd53 dX1_extent_34 ?_
  have hg1 : rg (M 2 v0 7) := hR.2 2 v0 7 (by decide)
  refine x_if_ne (tgt := 44) hx hb hg1 dX1_extent_37 (by decide) (fun ci2 => ?_) (fun ci2 => ?_)
  · rw [if_neg ci2] at hF
    refine x_iconst hx hb dX1_extent_44 ?_
    obtain ⟨hq3, hF⟩ := xk_some hF
    refine x_iadd hx hb dX1_extent_45 ?_
    cases hF
    exact x_iret hx hb hlocks hK hR hS hr hq3 dX1_extent_46
  · rw [if_pos ci2] at hF
    refine x_iconst hx hb dX1_extent_40 ?_
    refine lv_goto (tgt := 45) hx hb dX1_extent_41 (by decide) ?_
    obtain ⟨hq4, hF⟩ := xk_some hF
    refine x_iadd hx hb dX1_extent_45 ?_
    cases hF
    exact x_iret hx hb hlocks hK hR hS hr hq4 dX1_extent_46
def F_X1_extent (M : Mm) (o : Nat) : Option (Int) := (if (M 2 o 0) = (2 : Int) then (some (M 2 o 8)) else (if (M 2 o 0) = (3 : Int) then (if (M 2 o 6) = 0 then (F_X1_extent_33 M  o (0 : Int)) else (F_X1_extent_33 M  o (1 : Int))) else (some (M 2 o 3))))
set_option maxHeartbeats 4000000 in
set_option maxRecDepth 100000 in
theorem c_X1_extent {l : Launch} {g : Gx} {b : Nat} {M : Mm} {o : Nat} {r : Int} (ho : o < 99) (hF : F_X1_extent M o = some r) : Ct l yX1_extent cX1_extent 1 (some .int) rmX1_extent g b [.ref (adr b 2 o)] M (qI g b r M) := by
  refine ct_of (by decide +kernel) (Nat.le_of_ble_eq_true rfl) ?_
  intro p e s m args below meth c C0 hR ls hl
  obtain ⟨hx, hb, hr, hlocks, hml, hown, hts, hK⟩ := id C0
  have hS : va_S (AA b s.heap.size) s.heap s.heap [] := va_S.rf
  have hl : lv_has ls 1 [(0, .ref (adr b 2 o))] := hl
  obtain ⟨H, hH⟩ : ∃ z, z = s.heap := ⟨_, rfl⟩
  obtain ⟨locs, hlo⟩ : ∃ z : List Loc, z = [] := ⟨_, rfl⟩
  have hR : Rel g b M H := by rw [hH]; exact hR
  have hS : va_S (AA b s.heap.size) s.heap H locs := by rw [hH, hlo]; exact hS
  suffices hW : W p l e rmX1_extent s m args below meth c H locs 0 0 (MQ below (qI g b r M s.heap.size) args s 0 0 (AA b s.heap.size)) (F0 m 0 ls []) by rw [hH, hlo] at hW; exact hW
  rw [F_X1_extent] at hF
  refine lv_aload_n hx hb dX1_extent_0 rfl (lv_at hl 0 rfl) ?_
  refine gf_1_0 hx hb hts hown hK hR ho wd34 dX1_extent_1 ?_
  have hg1 : rg (M 2 o 0) := hR.2 2 o 0 (by decide)
  refine x_iconst hx hb dX1_extent_4 ?_
  refine x_icmp_ne (tgt := 13) hx hb hg1 (by decide : rg (2 : Int)) dX1_extent_5 (by decide) (fun ci2 => ?_) (fun ci2 => ?_)
  · rw [if_neg ci2] at hF
    refine lv_aload_n hx hb dX1_extent_13 rfl (lv_at hl 0 rfl) ?_
    refine gf_1_0 hx hb hts hown hK hR ho wd34 dX1_extent_14 ?_
    have hg3 : rg (M 2 o 0) := hR.2 2 o 0 (by decide)
    refine x_iconst hx hb dX1_extent_17 ?_
    refine x_icmp_ne (tgt := 47) hx hb hg3 (by decide : rg (3 : Int)) dX1_extent_18 (by decide) (fun ci4 => ?_) (fun ci4 => ?_)
    · rw [if_neg ci4] at hF
      refine lv_aload_n hx hb dX1_extent_47 rfl (lv_at hl 0 rfl) ?_
      refine gf_1_3 hx hb hts hown hK hR ho wd43 dX1_extent_48 ?_
      have hg5 : rg (M 2 o 3) := hR.2 2 o 3 (by decide)
      cases hF
      exact x_iret hx hb hlocks hK hR hS hr hg5 dX1_extent_51
    · rw [if_pos ci4] at hF
      refine lv_aload_n hx hb dX1_extent_21 rfl (lv_at hl 0 rfl) ?_
      refine gf_1_6 hx hb hts hown hK hR ho wd51 dX1_extent_22 ?_
      have hg6 : rg (M 2 o 6) := hR.2 2 o 6 (by decide)
      refine x_if_ne (tgt := 32) hx hb hg6 dX1_extent_25 (by decide) (fun ci7 => ?_) (fun ci7 => ?_)
      · rw [if_neg ci7] at hF
        refine x_iconst hx hb dX1_extent_32 ?_
        exact w_X1_extent_33 C0  o (1 : Int) ho (by decide : rg (1 : Int)) H locs hR hS ls (lv_sub hl [0] rfl) hF
      · rw [if_pos ci7] at hF
        refine x_iconst hx hb dX1_extent_28 ?_
        refine lv_goto (tgt := 33) hx hb dX1_extent_29 (by decide) ?_
        exact w_X1_extent_33 C0  o (0 : Int) ho (by decide : rg (0 : Int)) H locs hR hS ls (lv_sub hl [0] rfl) hF
  · rw [if_pos ci2] at hF
    refine lv_aload_n hx hb dX1_extent_8 rfl (lv_at hl 0 rfl) ?_
    refine gf_1_8 hx hb hts hown hK hR ho wd55 dX1_extent_9 ?_
    have hg8 : rg (M 2 o 8) := hR.2 2 o 8 (by decide)
    cases hF
    exact x_iret hx hb hlocks hK hR hS hr hg8 dX1_extent_12
