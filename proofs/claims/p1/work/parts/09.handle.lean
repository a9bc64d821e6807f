abbrev rmX0_take : Room := { frames := 0, cells := 0, slots := 0, locals := 0 }
theorem hyX0_take : yX0_take.cls = RX0 ∧ yX0_take.cls ≠ "java/lang/invoke/MethodHandle" ∧ yX0_take.cls ≠ "java/lang/invoke/VarHandle" ∧ (parseMethodDescriptor yX0_take.desc).map (fun d => d.parameters.length) = some 1 := by decide +kernel
def F_X0_take (M : Mm) (o : Nat) (a1 : Int) : Option (Mm) := (xl (mup M 11 o 0 (1 : Int)) fun M1 => (xl (mup M1 11 o 1 a1) fun M2 => (xl (mup M2 11 o 2 (0 : Int)) fun M3 => (some M3))))
set_option maxHeartbeats 4000000 in
set_option maxRecDepth 100000 in
theorem c_X0_take {l : Launch} {g : Gx} {b : Nat} {M : Mm} {o : Nat} {a1 : Int} {M' : Mm} (ho : o < 6) (ha1 : rg a1) (hF : F_X0_take M o a1 = some M') : Ct l yX0_take cX0_take 2 none rmX0_take g b [.ref (adr b 11 o), .int (jI a1)] M (qV g b M') := by
  refine ct_of (by decide +kernel) (Nat.le_of_ble_eq_true rfl) ?_
  intro p e s m args below meth c C0 hR ls hl
  obtain ⟨hx, hb, hr, hlocks, hml, hown, hts, hK⟩ := id C0
  have hS : va_S (AA b s.heap.size) s.heap s.heap [] := va_S.rf
  have hl : lv_has ls 2 [(0, .ref (adr b 11 o)), (1, .int (jI a1))] := hl
  obtain ⟨H, hH⟩ : ∃ z, z = s.heap := ⟨_, rfl⟩
  obtain ⟨locs, hlo⟩ : ∃ z : List Loc, z = [] := ⟨_, rfl⟩
  have hR : Rel g b M H := by rw [hH]; exact hR
  have hS : va_S (AA b s.heap.size) s.heap H locs := by rw [hH, hlo]; exact hS
  suffices hW : W p l e rmX0_take s m args below meth c H locs 0 0 (MQ below (qV g b M' s.heap.size) args s 0 0 (AA b s.heap.size)) (F0 m 0 ls []) by rw [hH, hlo] at hW; exact hW
  rw [F_X0_take] at hF
  refine lv_aload_n hx hb dX0_take_0 rfl (lv_at hl 0 rfl) ?_
  refine x_iconst hx hb dX0_take_1 ?_
  refine pf_0_0 hx hb hts hown hK hR hS ho (by decide : rg (1 : Int)) (by decide) wd123 dX0_take_2 (fun H locs hR hS => ?_)
  obtain ⟨M1, eM, hF⟩ := xl_some hF
  rw [eM] at hR
  clear eM
  refine lv_aload_n hx hb dX0_take_5 rfl (lv_at hl 0 rfl) ?_
  refine lv_iload_n hx hb dX0_take_6 rfl (lv_at hl 1 rfl) ?_
  refine pf_0_1 hx hb hts hown hK hR hS ho ha1 wd125 dX0_take_7 (fun H locs hR hS => ?_)
  obtain ⟨M2, eM, hF⟩ := xl_some hF
  rw [eM] at hR
  clear eM
  refine lv_aload_n hx hb dX0_take_10 rfl (lv_at hl 0 rfl) ?_
  refine x_iconst hx hb dX0_take_11 ?_
  refine pf_0_2 hx hb hts hown hK hR hS ho (by decide : rg (0 : Int)) wd127 dX0_take_12 (fun H locs hR hS => ?_)
  obtain ⟨M3, eM, hF⟩ := xl_some hF
  rw [eM] at hR
  clear eM
  cases hF
  exact x_vret hx hb hlocks hK hR hS hr dX0_take_15
abbrev rmX0_setLocks : Room := { frames := 1, cells := 0, slots := 0, locals := 21 }
theorem hyX0_setLocks : yX0_setLocks.cls = RX0 ∧ yX0_setLocks.cls ≠ "java/lang/invoke/MethodHandle" ∧ yX0_setLocks.cls ≠ "java/lang/invoke/VarHandle" ∧ (parseMethodDescriptor yX0_setLocks.desc).map (fun d => d.parameters.length) = some 3 := by decide +kernel
def F_X0_setLocks_41 (rec10 : Mm → Nat → Int → Int → Int → Int → Int → Option (Int × Mm)) (M : Mm) (v0 : Nat) (v1 : Int) (v2 : Int) (v3 : Int) (v4 : Int) (v5 : Int) : Option (Int × Mm) := (xk (0 ≤ v5 ∧ v5 < 320) (xl (mup M 12 v0 v5.toNat v3) fun M2 => (xk (rg (v5 + (1 : Int))) (rec10 M2 v0 v1 v2 v3 v4 (v5 + (1 : Int))))))
set_option maxHeartbeats 4000000 in
set_option maxRecDepth 100000 in
theorem w_X0_setLocks_41 {p : Program} {l : Launch} {e : Env} {s : State} {m : MethodId} {args : Array Value} {below : List Frame} {meth : Method} {c : Code} {g : Gx} {b : Nat} (C0 : XA p s m meth c args RX0 cX0_setLocks 6 (some .int) g) {r : Int} {M' : Mm} {rec10 : Mm → Nat → Int → Int → Int → Int → Int → Option (Int × Mm)} (hrec10 : ∀ (M : Mm) (v0 : Nat) (v1 : Int) (v2 : Int) (v3 : Int) (v4 : Int) (v5 : Int) (hv0 : v0 < 6) (hv1 : rg v1) (hv2 : rg v2) (hv3 : rg v3) (hv4 : rg v4) (hv5 : rg v5) (H : Heap) (locs : List Loc), Rel g b M H → va_S (AA b s.heap.size) s.heap H locs → ∀ ls : Array Slot, lv_has ls 6 [(0, .ref (adr b 11 v0)), (1, .int (jI v1)), (2, .int (jI v2)), (3, .int (jI v3)), (4, .int (jI v4)), (5, .int (jI v5))] → rec10 M v0 v1 v2 v3 v4 v5 = some (r, M') → W p l e rmX0_setLocks s m args below meth c H locs 0 0 (MQ below (qI g b r M' s.heap.size) args s 0 0 (AA b s.heap.size)) (F0 m 10 ls [])) : ∀ (M : Mm) (v0 : Nat) (v1 : Int) (v2 : Int) (v3 : Int) (v4 : Int) (v5 : Int) (hv0 : v0 < 6) (hv1 : rg v1) (hv2 : rg v2) (hv3 : rg v3) (hv4 : rg v4) (hv5 : rg v5) (H : Heap) (locs : List Loc), Rel g b M H → va_S (AA b s.heap.size) s.heap H locs → ∀ ls : Array Slot, lv_has ls 6 [(0, .ref (adr b 11 v0)), (1, .int (jI v1)), (2, .int (jI v2)), (3, .int (jI v3)), (4, .int (jI v4)), (5, .int (jI v5))] → F_X0_setLocks_41 rec10 M v0 v1 v2 v3 v4 v5 = some (r, M') → W p l e rmX0_setLocks s m args below meth c H locs 0 0 (MQ below (qI g b r M' s.heap.size) args s 0 0 (AA b s.heap.size)) (F0 m 41 ls []) := by
  obtain ⟨hx, hb, hr, hlocks, hml, hown, hts, hK⟩ := id C0
  intro M v0 v1 v2 v3 v4 v5 hv0 hv1 hv2 hv3 hv4 hv5 H locs hR hS ls hl hF
  rw [F_X0_setLocks_41] at hF
  refine lv_aload_n hx hb dX0_setLocks_41 rfl (lv_at hl 0 rfl) ?_
  refine gf_0_3 hx hb hts hown hK hR hv0 wd129 dX0_setLocks_42 ?_
  refine lv_iload hx hb dX0_setLocks_45 (lv_at hl 5 rfl) ?_
  refine lv_iload_n hx hb dX0_setLocks_47 rfl (lv_at hl 3 rfl) ?_
  obtain ⟨hi1, hF⟩ := xk_some hF
  refine x_iast (K := 12) hx hb hK hR hS (ok12 hv0) (by decide) hv5 hv3 hi1 dX0_setLocks_48 (fun H locs hR hS => ?_)
  obtain ⟨M2, eM, hF⟩ := xl_some hF
  rw [eM] at hR
  clear eM
  obtain ⟨hq3, hF⟩ := xk_some hF
  refine x_iinc (lv' := [(5, .int (jI (v5 + (1 : Int)))), (0, .ref (adr b 11 v0)), (1, .int (jI v1)), (2, .int (jI v2)), (3, .int (jI v3)), (4, .int (jI v4))]) hx hb dX0_setLocks_49 hl (k := 5) rfl (by decide) rfl (fun ls hl => ?_)
  refine lv_goto (tgt := 10) hx hb dX0_setLocks_52 (by decide) ?_
  exact hrec10 M2 v0 v1 v2 v3 v4 (v5 + (1 : Int)) hv0 hv1 hv2 hv3 hv4 hq3 H locs hR hS ls (lv_sub hl [1, 2, 3, 4, 5, 0] rfl) hF
def F_X0_setLocks_10  : Nat → Mm → Nat → Int → Int → Int → Int → Int → Option (Int × Mm)
  | 0, _, _, _, _, _, _, _ => none
  | n + 1, M, v0, v1, v2, v3, v4, v5 => (xk (rg (v1 + v2)) (if (v1 + v2) ≤ v5 then (some (v4, M)) else (if (320 : Int) ≤ v5 then (some (v4, M)) else (xk (0 ≤ v5 ∧ v5 < 320) (if (M 12 v0 v5.toNat) = 0 then (F_X0_setLocks_41 (F_X0_setLocks_10  n) M v0 v1 v2 v3 v4 v5) else (xk (rg (v4 + (1 : Int))) (F_X0_setLocks_41 (F_X0_setLocks_10  n) M v0 v1 v2 v3 (v4 + (1 : Int)) v5)))))))
set_option maxHeartbeats 4000000 in
set_option maxRecDepth 100000 in
theorem w_X0_setLocks_10 {p : Program} {l : Launch} {e : Env} {s : State} {m : MethodId} {args : Array Value} {below : List Frame} {meth : Method} {c : Code} {g : Gx} {b : Nat} (C0 : XA p s m meth c args RX0 cX0_setLocks 6 (some .int) g) {r : Int} {M' : Mm} : ∀ n : Nat, ∀ (M : Mm) (v0 : Nat) (v1 : Int) (v2 : Int) (v3 : Int) (v4 : Int) (v5 : Int) (hv0 : v0 < 6) (hv1 : rg v1) (hv2 : rg v2) (hv3 : rg v3) (hv4 : rg v4) (hv5 : rg v5) (H : Heap) (locs : List Loc), Rel g b M H → va_S (AA b s.heap.size) s.heap H locs → ∀ ls : Array Slot, lv_has ls 6 [(0, .ref (adr b 11 v0)), (1, .int (jI v1)), (2, .int (jI v2)), (3, .int (jI v3)), (4, .int (jI v4)), (5, .int (jI v5))] → F_X0_setLocks_10  n M v0 v1 v2 v3 v4 v5 = some (r, M') → W p l e rmX0_setLocks s m args below meth c H locs 0 0 (MQ below (qI g b r M' s.heap.size) args s 0 0 (AA b s.heap.size)) (F0 m 10 ls []) := by
  obtain ⟨hx, hb, hr, hlocks, hml, hown, hts, hK⟩ := id C0
  intro n
  induction n with
  | zero =>
    intro M v0 v1 v2 v3 v4 v5 hv0 hv1 hv2 hv3 hv4 hv5 H locs hR hS ls hl hF
    rw [F_X0_setLocks_10] at hF
    cases hF
  | succ n ih =>
    intro M v0 v1 v2 v3 v4 v5 hv0 hv1 hv2 hv3 hv4 hv5 H locs hR hS ls hl hF
    rw [F_X0_setLocks_10] at hF
    refine lv_iload hx hb dX0_setLocks_10 (lv_at hl 5 rfl) ?_
    refine lv_iload_n hx hb dX0_setLocks_12 rfl (lv_at hl 1 rfl) ?_
    refine lv_iload_n hx hb dX0_setLocks_13 rfl (lv_at hl 2 rfl) ?_
    obtain ⟨hq1, hF⟩ := xk_some hF
    refine x_iadd hx hb dX0_setLocks_14 ?_
    refine x_icmp_ge (tgt := 55) hx hb hv5 hq1 dX0_setLocks_15 (by decide) (fun ci2 => ?_) (fun ci2 => ?_)
    · rw [if_pos ci2] at hF
      refine lv_iload hx hb dX0_setLocks_55 (lv_at hl 4 rfl) ?_
      cases hF
      exact x_iret hx hb hlocks hK hR hS hr hv4 dX0_setLocks_57
    · rw [if_neg ci2] at hF
      refine lv_iload hx hb dX0_setLocks_18 (lv_at hl 5 rfl) ?_
      refine lv_aload_n hx hb dX0_setLocks_20 rfl (lv_at hl 0 rfl) ?_
      refine gf_0_3 hx hb hts hown hK hR hv0 wd129 dX0_setLocks_21 ?_
      refine x_alen (K := 12) (n := (320 : Int)) hx hb hK hR (ok12 hv0) (by decide) (by decide +kernel) dX0_setLocks_24 ?_
      refine x_icmp_ge (tgt := 55) hx hb hv5 (by decide : rg (320 : Int)) dX0_setLocks_25 (by decide) (fun ci3 => ?_) (fun ci3 => ?_)
      · rw [if_pos ci3] at hF
        refine lv_iload hx hb dX0_setLocks_55 (lv_at hl 4 rfl) ?_
        cases hF
        exact x_iret hx hb hlocks hK hR hS hr hv4 dX0_setLocks_57
      · rw [if_neg ci3] at hF
        refine lv_aload_n hx hb dX0_setLocks_28 rfl (lv_at hl 0 rfl) ?_
        refine gf_0_3 hx hb hts hown hK hR hv0 wd129 dX0_setLocks_29 ?_
        refine lv_iload hx hb dX0_setLocks_32 (lv_at hl 5 rfl) ?_
        obtain ⟨hi4, hF⟩ := xk_some hF
        refine x_iald (K := 12) hx hb hK hR (ok12 hv0) (by decide) hv5 hi4 dX0_setLocks_34 ?_
        have hg5 : rg (M 12 v0 v5.toNat) := hR.2 12 v0 _ (by decide)
        refine x_if_eq (tgt := 41) hx hb hg5 dX0_setLocks_35 (by decide) (fun ci6 => ?_) (fun ci6 => ?_)
        · rw [if_pos ci6] at hF
          exact w_X0_setLocks_41 C0 ih M v0 v1 v2 v3 v4 v5 hv0 hv1 hv2 hv3 hv4 hv5 H locs hR hS ls (lv_sub hl [0, 1, 2, 3, 4, 5] rfl) hF
        · rw [if_neg ci6] at hF
          obtain ⟨hq7, hF⟩ := xk_some hF
          refine x_iinc (lv' := [(4, .int (jI (v4 + (1 : Int)))), (0, .ref (adr b 11 v0)), (1, .int (jI v1)), (2, .int (jI v2)), (3, .int (jI v3)), (5, .int (jI v5))]) hx hb dX0_setLocks_38 hl (k := 4) rfl (by decide) rfl (fun ls hl => ?_)
          exact w_X0_setLocks_41 C0 ih M v0 v1 v2 v3 (v4 + (1 : Int)) v5 hv0 hv1 hv2 hv3 hq7 hv5 H locs hR hS ls (lv_sub hl [1, 2, 3, 4, 0, 5] rfl) hF
def F_X0_setLocks (M : Mm) (o : Nat) (a1 : Int) (a2 : Int) (a3 : Int) : Option (Int × Mm) := (F_X0_setLocks_10  FU M o a1 a2 a3 (0 : Int) (maxI a1 (0 : Int)))
set_option maxHeartbeats 4000000 in
set_option maxRecDepth 100000 in
theorem c_X0_setLocks {l : Launch} {g : Gx} {b : Nat} {M : Mm} {o : Nat} {a1 : Int} {a2 : Int} {a3 : Int} {r : Int} {M' : Mm} (ho : o < 6) (ha1 : rg a1) (ha2 : rg a2) (ha3 : rg a3) (hF : F_X0_setLocks M o a1 a2 a3 = some (r, M')) : Ct l yX0_setLocks cX0_setLocks 6 (some .int) rmX0_setLocks g b [.ref (adr b 11 o), .int (jI a1), .int (jI a2), .int (jI a3)] M (qI g b r M') := by
  refine ct_of (by decide +kernel) (Nat.le_of_ble_eq_true rfl) ?_
  intro p e s m args below meth c C0 hR ls hl
  obtain ⟨hx, hb, hr, hlocks, hml, hown, hts, hK⟩ := id C0
  have hS : va_S (AA b s.heap.size) s.heap s.heap [] := va_S.rf
  have hl : lv_has ls 6 [(0, .ref (adr b 11 o)), (1, .int (jI a1)), (2, .int (jI a2)), (3, .int (jI a3))] := hl
  obtain ⟨H, hH⟩ : ∃ z, z = s.heap := ⟨_, rfl⟩
  obtain ⟨locs, hlo⟩ : ∃ z : List Loc, z = [] := ⟨_, rfl⟩
  have hR : Rel g b M H := by rw [hH]; exact hR
  have hS : va_S (AA b s.heap.size) s.heap H locs := by rw [hH, hlo]; exact hS
  suffices hW : W p l e rmX0_setLocks s m args below meth c H locs 0 0 (MQ below (qI g b r M' s.heap.size) args s 0 0 (AA b s.heap.size)) (F0 m 0 ls []) by rw [hH, hlo] at hW; exact hW
  rw [F_X0_setLocks] at hF
  refine x_iconst hx hb dX0_setLocks_0 ?_
  refine lv_istore (lv' := [(4, .int (jI (0 : Int))), (0, .ref (adr b 11 o)), (1, .int (jI a1)), (2, .int (jI a2)), (3, .int (jI a3))]) hx hb dX0_setLocks_1 hl (by decide) rfl (fun ls hl => ?_)
  refine lv_iload_n hx hb dX0_setLocks_3 rfl (lv_at hl 2 rfl) ?_
  refine x_iconst hx hb dX0_setLocks_4 ?_
  refine x_max hx hb hml hl.1 hts hown wd413 wd414 wd13 wd415 (Nat.le_of_ble_eq_true rfl) (Nat.le_of_ble_eq_true rfl) ⟨Nat.zero_le _, Nat.zero_le _⟩ ha1 (by decide : rg (0 : Int)) dX0_setLocks_5 ?_
  refine lv_istore (lv' := [(5, .int (jI (maxI a1 (0 : Int)))), (4, .int (jI (0 : Int))), (0, .ref (adr b 11 o)), (1, .int (jI a1)), (2, .int (jI a2)), (3, .int (jI a3))]) hx hb dX0_setLocks_8 hl (by decide) rfl (fun ls hl => ?_)
  exact w_X0_setLocks_10 C0  FU M o a1 a2 a3 (0 : Int) (maxI a1 (0 : Int)) ho ha1 ha2 ha3 (by decide : rg (0 : Int)) (maxI_rg ha1 (by decide : rg (0 : Int))) H locs hR hS ls (lv_sub hl [2, 3, 4, 5, 1, 0] rfl) hF
abbrev rmX0_leave : Room := { frames := 2, cells := 0, slots := 0, locals := 46 }
theorem hyX0_leave : yX0_leave.cls = RX0 ∧ yX0_leave.cls ≠ "java/lang/invoke/MethodHandle" ∧ yX0_leave.cls ≠ "java/lang/invoke/VarHandle" ∧ (parseMethodDescriptor yX0_leave.desc).map (fun d => d.parameters.length) = some 0 := by decide +kernel
def F_X0_leave (M : Mm) (o : Nat) : Option (Mm) := (xl (mup M 11 o 0 (0 : Int)) fun M1 => (xb2 (F_X0_setLocks M1 o (0 : Int) (320 : Int) (0 : Int)) fun y3 M4 => (some M4)))
set_option maxHeartbeats 4000000 in
set_option maxRecDepth 100000 in
theorem c_X0_leave {l : Launch} {g : Gx} {b : Nat} {M : Mm} {o : Nat} {M' : Mm} (ho : o < 6) (hF : F_X0_leave M o = some M') : Ct l yX0_leave cX0_leave 1 none rmX0_leave g b [.ref (adr b 11 o)] M (qV g b M') := by
  refine ct_of (by decide +kernel) (Nat.le_of_ble_eq_true rfl) ?_
  intro p e s m args below meth c C0 hR ls hl
  obtain ⟨hx, hb, hr, hlocks, hml, hown, hts, hK⟩ := id C0
  have hS : va_S (AA b s.heap.size) s.heap s.heap [] := va_S.rf
  have hl : lv_has ls 1 [(0, .ref (adr b 11 o))] := hl
  obtain ⟨H, hH⟩ : ∃ z, z = s.heap := ⟨_, rfl⟩
  obtain ⟨locs, hlo⟩ : ∃ z : List Loc, z = [] := ⟨_, rfl⟩
  have hR : Rel g b M H := by rw [hH]; exact hR
  have hS : va_S (AA b s.heap.size) s.heap H locs := by rw [hH, hlo]; exact hS
  suffices hW : W p l e rmX0_leave s m args below meth c H locs 0 0 (MQ below (qV g b M' s.heap.size) args s 0 0 (AA b s.heap.size)) (F0 m 0 ls []) by rw [hH, hlo] at hW; exact hW
  rw [F_X0_leave] at hF
  refine lv_aload_n hx hb dX0_leave_0 rfl (lv_at hl 0 rfl) ?_
  refine x_iconst hx hb dX0_leave_1 ?_
  refine pf_0_0 hx hb hts hown hK hR hS ho (by decide : rg (0 : Int)) (by decide) wd123 dX0_leave_2 (fun H locs hR hS => ?_)
  obtain ⟨M1, eM, hF⟩ := xl_some hF
  rw [eM] at hR
  clear eM
  refine lv_aload_n hx hb dX0_leave_5 rfl (lv_at hl 0 rfl) ?_
  refine x_iconst hx hb dX0_leave_6 ?_
  refine x_sipush hx hb (by decide +kernel) dX0_leave_7 ?_
  refine x_iconst hx hb dX0_leave_10 ?_
  obtain ⟨y3, M4, hc2, hF⟩ := xb2_some hF
  refine x_cVi (C := RX0) (T := TX0) (N := 4) (ci := 0) (As := [.int (jI (0 : Int)), .int (jI (320 : Int)), .int (jI (0 : Int))]) (rest := []) hx hb hml hown hts hK hR hS (c_X0_setLocks ho (by decide : rg (0 : Int)) (by decide : rg (320 : Int)) (by decide : rg (0 : Int)) hc2) (ok11 ho) rfl rfl wd409 wd410 wd411 wd4 wd412 hyX0_setLocks ⟨rfl, rfl⟩ ⟨Nat.le_of_ble_eq_true rfl, Nat.le_of_ble_eq_true rfl⟩ hl.1 (Nat.le_of_ble_eq_true rfl) dX0_leave_11 ⟨Nat.zero_le _, Nat.zero_le _⟩ rfl (fun hg5 H locs hR hS => ?_)
  refine lv_pop hx hb dX0_leave_14 rfl ?_
  cases hF
  exact x_vret hx hb hlocks hK hR hS hr dX0_leave_15
abbrev rmX0_isOn : Room := { frames := 0, cells := 0, slots := 0, locals := 0 }
theorem hyX0_isOn : yX0_isOn.cls = RX0 ∧ yX0_isOn.cls ≠ "java/lang/invoke/MethodHandle" ∧ yX0_isOn.cls ≠ "java/lang/invoke/VarHandle" ∧ (parseMethodDescriptor yX0_isOn.desc).map (fun d => d.parameters.length) = some 1 := by decide +kernel
def F_X0_isOn (M : Mm) (o : Nat) (a1 : Int) : Option (Int) := (if (M 11 o 0) = 0 then (some (0 : Int)) else (if (M 11 o 1) = a1 then (some (1 : Int)) else (some (0 : Int))))
set_option maxHeartbeats 4000000 in
set_option maxRecDepth 100000 in
theorem c_X0_isOn {l : Launch} {g : Gx} {b : Nat} {M : Mm} {o : Nat} {a1 : Int} {r : Int} (ho : o < 6) (ha1 : rg a1) (hF : F_X0_isOn M o a1 = some r) : Ct l yX0_isOn cX0_isOn 2 (some .boolean) rmX0_isOn g b [.ref (adr b 11 o), .int (jI a1)] M (qI g b r M) := by
  refine ct_of (by decide +kernel) (Nat.le_of_ble_eq_true rfl) ?_
  intro p e s m args below meth c C0 hR ls hl
  obtain ⟨hx, hb, hr, hlocks, hml, hown, hts, hK⟩ := id C0
  have hS : va_S (AA b s.heap.size) s.heap s.heap [] := va_S.rf
  have hl : lv_has ls 2 [(0, .ref (adr b 11 o)), (1, .int (jI a1))] := hl
  obtain ⟨H, hH⟩ : ∃ z, z = s.heap := ⟨_, rfl⟩
  obtain ⟨locs, hlo⟩ : ∃ z : List Loc, z = [] := ⟨_, rfl⟩
  have hR : Rel g b M H := by rw [hH]; exact hR
  have hS : va_S (AA b s.heap.size) s.heap H locs := by rw [hH, hlo]; exact hS
  suffices hW : W p l e rmX0_isOn s m args below meth c H locs 0 0 (MQ below (qI g b r M s.heap.size) args s 0 0 (AA b s.heap.size)) (F0 m 0 ls []) by rw [hH, hlo] at hW; exact hW
  rw [F_X0_isOn] at hF
  refine lv_aload_n hx hb dX0_isOn_0 rfl (lv_at hl 0 rfl) ?_
  refine gf_0_0 hx hb hts hown hK hR ho wd123 dX0_isOn_1 ?_
  have hg1 : rg (M 11 o 0) := hR.2 11 o 0 (by decide)
  refine x_if_eq (tgt := 19) hx hb hg1 dX0_isOn_4 (by decide) (fun ci2 => ?_) (fun ci2 => ?_)
  · rw [if_pos ci2] at hF
    refine x_iconst hx hb dX0_isOn_19 ?_
    cases hF
    exact x_zret hx hb hlocks hK hR hS hr (by decide) dX0_isOn_20
  · rw [if_neg ci2] at hF
    refine lv_aload_n hx hb dX0_isOn_7 rfl (lv_at hl 0 rfl) ?_
    refine gf_0_1 hx hb hts hown hK hR ho wd125 dX0_isOn_8 ?_
    have hg3 : rg (M 11 o 1) := hR.2 11 o 1 (by decide)
    refine lv_iload_n hx hb dX0_isOn_11 rfl (lv_at hl 1 rfl) ?_
    refine x_icmp_ne (tgt := 19) hx hb hg3 ha1 dX0_isOn_12 (by decide) (fun ci4 => ?_) (fun ci4 => ?_)
    · rw [if_neg ci4] at hF
      refine x_iconst hx hb dX0_isOn_19 ?_
      cases hF
      exact x_zret hx hb hlocks hK hR hS hr (by decide) dX0_isOn_20
    · rw [if_pos ci4] at hF
      refine x_iconst hx hb dX0_isOn_15 ?_
      refine lv_goto (tgt := 20) hx hb dX0_isOn_16 (by decide) ?_
      cases hF
      exact x_zret hx hb hlocks hK hR hS hr (by decide) dX0_isOn_20
abbrev rmX0_lockOn : Room := { frames := 0, cells := 0, slots := 0, locals := 0 }
theorem hyX0_lockOn : yX0_lockOn.cls = RX0 ∧ yX0_lockOn.cls ≠ "java/lang/invoke/MethodHandle" ∧ yX0_lockOn.cls ≠ "java/lang/invoke/VarHandle" ∧ (parseMethodDescriptor yX0_lockOn.desc).map (fun d => d.parameters.length) = some 1 := by decide +kernel
def F_X0_lockOn (M : Mm) (o : Nat) (a1 : Int) : Option (Int) := (if a1 < 0 then (some (0 : Int)) else (if (320 : Int) ≤ a1 then (some (0 : Int)) else (xk (0 ≤ a1 ∧ a1 < 320) (some (M 12 o a1.toNat)))))
set_option maxHeartbeats 4000000 in
set_option maxRecDepth 100000 in
theorem c_X0_lockOn {l : Launch} {g : Gx} {b : Nat} {M : Mm} {o : Nat} {a1 : Int} {r : Int} (ho : o < 6) (ha1 : rg a1) (hF : F_X0_lockOn M o a1 = some r) : Ct l yX0_lockOn cX0_lockOn 2 (some .int) rmX0_lockOn g b [.ref (adr b 11 o), .int (jI a1)] M (qI g b r M) := by
  refine ct_of (by decide +kernel) (Nat.le_of_ble_eq_true rfl) ?_
  intro p e s m args below meth c C0 hR ls hl
  obtain ⟨hx, hb, hr, hlocks, hml, hown, hts, hK⟩ := id C0
  have hS : va_S (AA b s.heap.size) s.heap s.heap [] := va_S.rf
  have hl : lv_has ls 2 [(0, .ref (adr b 11 o)), (1, .int (jI a1))] := hl
  obtain ⟨H, hH⟩ : ∃ z, z = s.heap := ⟨_, rfl⟩
  obtain ⟨locs, hlo⟩ : ∃ z : List Loc, z = [] := ⟨_, rfl⟩
  have hR : Rel g b M H := by rw [hH]; exact hR
  have hS : va_S (AA b s.heap.size) s.heap H locs := by rw [hH, hlo]; exact hS
  suffices hW : W p l e rmX0_lockOn s m args below meth c H locs 0 0 (MQ below (qI g b r M s.heap.size) args s 0 0 (AA b s.heap.size)) (F0 m 0 ls []) by rw [hH, hlo] at hW; exact hW
  rw [F_X0_lockOn] at hF
  refine lv_iload_n hx hb dX0_lockOn_0 rfl (lv_at hl 1 rfl) ?_
  refine x_if_lt (tgt := 22) hx hb ha1 dX0_lockOn_1 (by decide) (fun ci1 => ?_) (fun ci1 => ?_)
  · rw [if_pos ci1] at hF
    refine x_iconst hx hb dX0_lockOn_22 ?_
    cases hF
    exact x_iret hx hb hlocks hK hR hS hr (by decide : rg (0 : Int)) dX0_lockOn_23
  · rw [if_neg ci1] at hF
    refine lv_iload_n hx hb dX0_lockOn_4 rfl (lv_at hl 1 rfl) ?_
    refine lv_aload_n hx hb dX0_lockOn_5 rfl (lv_at hl 0 rfl) ?_
    refine gf_0_3 hx hb hts hown hK hR ho wd129 dX0_lockOn_6 ?_
    refine x_alen (K := 12) (n := (320 : Int)) hx hb hK hR (ok12 ho) (by decide) (by decide +kernel) dX0_lockOn_9 ?_
    refine x_icmp_ge (tgt := 22) hx hb ha1 (by decide : rg (320 : Int)) dX0_lockOn_10 (by decide) (fun ci2 => ?_) (fun ci2 => ?_)
    · rw [if_pos ci2] at hF
      refine x_iconst hx hb dX0_lockOn_22 ?_
      cases hF
      exact x_iret hx hb hlocks hK hR hS hr (by decide : rg (0 : Int)) dX0_lockOn_23
    · rw [if_neg ci2] at hF
      refine lv_aload_n hx hb dX0_lockOn_13 rfl (lv_at hl 0 rfl) ?_
      refine gf_0_3 hx hb hts hown hK hR ho wd129 dX0_lockOn_14 ?_
      refine lv_iload_n hx hb dX0_lockOn_17 rfl (lv_at hl 1 rfl) ?_
      obtain ⟨hi3, hF⟩ := xk_some hF
      refine x_iald (K := 12) hx hb hK hR (ok12 ho) (by decide) ha1 hi3 dX0_lockOn_18 ?_
      have hg4 : rg (M 12 o a1.toNat) := hR.2 12 o _ (by decide)
      refine lv_goto (tgt := 23) hx hb dX0_lockOn_19 (by decide) ?_
      cases hF
      exact x_iret hx hb hlocks hK hR hS hr hg4 dX0_lockOn_23
abbrev rmX0_isAgainst : Room := { frames := 1, cells := 0, slots := 0, locals := 21 }
theorem hyX0_isAgainst : yX0_isAgainst.cls = RX0 ∧ yX0_isAgainst.cls ≠ "java/lang/invoke/MethodHandle" ∧ yX0_isAgainst.cls ≠ "java/lang/invoke/VarHandle" ∧ (parseMethodDescriptor yX0_isAgainst.desc).map (fun d => d.parameters.length) = some 3 := by decide +kernel
def F_X0_isAgainst_3 (M : Mm)  : Nat → Nat → Int → Int → Int → Int → Option (Int)
  | 0, _, _, _, _, _ => none
  | n + 1, v0, v1, v2, v3, v4 => (xk (rg (v1 + v2)) (if (v1 + v2) ≤ v4 then (some (0 : Int)) else (xb1 (F_X0_lockOn M v0 v4) fun y4 => (if y4 = (2 : Int) then (some (1 : Int)) else (if v3 = 0 then (xk (rg (v4 + (1 : Int))) (F_X0_isAgainst_3 M  n v0 v1 v2 v3 (v4 + (1 : Int)))) else (if y4 = 0 then (xk (rg (v4 + (1 : Int))) (F_X0_isAgainst_3 M  n v0 v1 v2 v3 (v4 + (1 : Int)))) else (some (1 : Int))))))))
set_option maxHeartbeats 4000000 in
set_option maxRecDepth 100000 in
theorem w_X0_isAgainst_3 {p : Program} {l : Launch} {e : Env} {s : State} {m : MethodId} {args : Array Value} {below : List Frame} {meth : Method} {c : Code} {g : Gx} {b : Nat} (C0 : XA p s m meth c args RX0 cX0_isAgainst 6 (some .boolean) g) {r : Int} {M : Mm} : ∀ n : Nat, ∀ (v0 : Nat) (v1 : Int) (v2 : Int) (v3 : Int) (v4 : Int) (hv0 : v0 < 6) (hv1 : rg v1) (hv2 : rg v2) (hv3 : rg v3) (hv4 : rg v4) (H : Heap) (locs : List Loc), Rel g b M H → va_S (AA b s.heap.size) s.heap H locs → ∀ ls : Array Slot, lv_has ls 6 [(0, .ref (adr b 11 v0)), (1, .int (jI v1)), (2, .int (jI v2)), (3, .int (jI v3)), (4, .int (jI v4))] → F_X0_isAgainst_3 M  n v0 v1 v2 v3 v4 = some r → W p l e rmX0_isAgainst s m args below meth c H locs 0 0 (MQ below (qI g b r M s.heap.size) args s 0 0 (AA b s.heap.size)) (F0 m 3 ls []) := by
  obtain ⟨hx, hb, hr, hlocks, hml, hown, hts, hK⟩ := id C0
  intro n
  induction n with
  | zero =>
    intro v0 v1 v2 v3 v4 hv0 hv1 hv2 hv3 hv4 H locs hR hS ls hl hF
    rw [F_X0_isAgainst_3] at hF
    cases hF
  | succ n ih =>
    intro v0 v1 v2 v3 v4 hv0 hv1 hv2 hv3 hv4 H locs hR hS ls hl hF
    rw [F_X0_isAgainst_3] at hF
    refine lv_iload hx hb dX0_isAgainst_3 (lv_at hl 4 rfl) ?_
    refine lv_iload_n hx hb dX0_isAgainst_5 rfl (lv_at hl 1 rfl) ?_
    refine lv_iload_n hx hb dX0_isAgainst_6 rfl (lv_at hl 2 rfl) ?_
    obtain ⟨hq1, hF⟩ := xk_some hF
    refine x_iadd hx hb dX0_isAgainst_7 ?_
    refine x_icmp_ge (tgt := 42) hx hb hv4 hq1 dX0_isAgainst_8 (by decide) (fun ci2 => ?_) (fun ci2 => ?_)
    · rw [if_pos ci2] at hF
      refine x_iconst hx hb dX0_isAgainst_42 ?_
      cases hF
      exact x_zret hx hb hlocks hK hR hS hr (by decide) dX0_isAgainst_43
    · rw [if_neg ci2] at hF
      refine lv_aload_n hx hb dX0_isAgainst_11 rfl (lv_at hl 0 rfl) ?_
      refine lv_iload hx hb dX0_isAgainst_12 (lv_at hl 4 rfl) ?_
      obtain ⟨y4, hc3, hF⟩ := xb1_some hF
      refine x_cVi (C := RX0) (T := TX0) (N := 4) (ci := 0) (As := [.int (jI v4)]) (rest := []) hx hb hml hown hts hK hR hS (c_X0_lockOn hv0 hv4 hc3) (ok11 hv0) rfl rfl wd689 wd690 wd691 wd4 wd692 hyX0_lockOn ⟨rfl, rfl⟩ ⟨Nat.le_of_ble_eq_true rfl, Nat.le_of_ble_eq_true rfl⟩ hl.1 (Nat.le_of_ble_eq_true rfl) dX0_isAgainst_14 ⟨Nat.zero_le _, Nat.zero_le _⟩ rfl (fun hg5 H locs hR hS => ?_)
      refine lv_istore (lv' := [(5, .int (jI y4)), (0, .ref (adr b 11 v0)), (1, .int (jI v1)), (2, .int (jI v2)), (3, .int (jI v3)), (4, .int (jI v4))]) hx hb dX0_isAgainst_17 hl (by decide) rfl (fun ls hl => ?_)
      refine lv_iload hx hb dX0_isAgainst_19 (lv_at hl 0 rfl) ?_
      refine x_iconst hx hb dX0_isAgainst_21 ?_
      refine x_icmp_eq (tgt := 34) hx hb hg5 (by decide : rg (2 : Int)) dX0_isAgainst_22 (by decide) (fun ci6 => ?_) (fun ci6 => ?_)
      · rw [if_pos ci6] at hF
        refine x_iconst hx hb dX0_isAgainst_34 ?_
        cases hF
        exact x_zret hx hb hlocks hK hR hS hr (by decide) dX0_isAgainst_35
      · rw [if_neg ci6] at hF
        refine lv_iload_n hx hb dX0_isAgainst_25 rfl (lv_at hl 4 rfl) ?_
        refine x_if_eq (tgt := 36) hx hb hv3 dX0_isAgainst_26 (by decide) (fun ci7 => ?_) (fun ci7 => ?_)
        · rw [if_pos ci7] at hF
          obtain ⟨hq8, hF⟩ := xk_some hF
          refine x_iinc (lv' := [(4, .int (jI (v4 + (1 : Int)))), (5, .int (jI y4)), (0, .ref (adr b 11 v0)), (1, .int (jI v1)), (2, .int (jI v2)), (3, .int (jI v3))]) hx hb dX0_isAgainst_36 hl (k := 5) rfl (by decide) rfl (fun ls hl => ?_)
          refine lv_goto (tgt := 3) hx hb dX0_isAgainst_39 (by decide) ?_
          exact ih v0 v1 v2 v3 (v4 + (1 : Int)) hv0 hv1 hv2 hv3 hq8 H locs hR hS ls (lv_sub hl [2, 3, 4, 5, 0] rfl) hF
        · rw [if_neg ci7] at hF
          refine lv_iload hx hb dX0_isAgainst_29 (lv_at hl 0 rfl) ?_
          refine x_if_eq (tgt := 36) hx hb hg5 dX0_isAgainst_31 (by decide) (fun ci9 => ?_) (fun ci9 => ?_)
          · rw [if_pos ci9] at hF
            obtain ⟨hq10, hF⟩ := xk_some hF
            refine x_iinc (lv' := [(4, .int (jI (v4 + (1 : Int)))), (5, .int (jI y4)), (0, .ref (adr b 11 v0)), (1, .int (jI v1)), (2, .int (jI v2)), (3, .int (jI v3))]) hx hb dX0_isAgainst_36 hl (k := 5) rfl (by decide) rfl (fun ls hl => ?_)
            refine lv_goto (tgt := 3) hx hb dX0_isAgainst_39 (by decide) ?_
            exact ih v0 v1 v2 v3 (v4 + (1 : Int)) hv0 hv1 hv2 hv3 hq10 H locs hR hS ls (lv_sub hl [2, 3, 4, 5, 0] rfl) hF
          · rw [if_neg ci9] at hF
            refine x_iconst hx hb dX0_isAgainst_34 ?_
            cases hF
            exact x_zret hx hb hlocks hK hR hS hr (by decide) dX0_isAgainst_35
def F_X0_isAgainst (M : Mm) (o : Nat) (a1 : Int) (a2 : Int) (a3 : Int) : Option (Int) := (F_X0_isAgainst_3 M  FU o a1 a2 a3 a1)
set_option maxHeartbeats 4000000 in
set_option maxRecDepth 100000 in
theorem c_X0_isAgainst {l : Launch} {g : Gx} {b : Nat} {M : Mm} {o : Nat} {a1 : Int} {a2 : Int} {a3 : Int} {r : Int} (ho : o < 6) (ha1 : rg a1) (ha2 : rg a2) (ha3 : rg a3) (hF : F_X0_isAgainst M o a1 a2 a3 = some r) : Ct l yX0_isAgainst cX0_isAgainst 6 (some .boolean) rmX0_isAgainst g b [.ref (adr b 11 o), .int (jI a1), .int (jI a2), .int (jI a3)] M (qI g b r M) := by
  refine ct_of (by decide +kernel) (Nat.le_of_ble_eq_true rfl) ?_
  intro p e s m args below meth c C0 hR ls hl
  obtain ⟨hx, hb, hr, hlocks, hml, hown, hts, hK⟩ := id C0
  have hS : va_S (AA b s.heap.size) s.heap s.heap [] := va_S.rf
  have hl : lv_has ls 6 [(0, .ref (adr b 11 o)), (1, .int (jI a1)), (2, .int (jI a2)), (3, .int (jI a3))] := hl
  obtain ⟨H, hH⟩ : ∃ z, z = s.heap := ⟨_, rfl⟩
  obtain ⟨locs, hlo⟩ : ∃ z : List Loc, z = [] := ⟨_, rfl⟩
  have hR : Rel g b M H := by rw [hH]; exact hR
  have hS : va_S (AA b s.heap.size) s.heap H locs := by rw [hH, hlo]; exact hS
  suffices hW : W p l e rmX0_isAgainst s m args below meth c H locs 0 0 (MQ below (qI g b r M s.heap.size) args s 0 0 (AA b s.heap.size)) (F0 m 0 ls []) by rw [hH, hlo] at hW; exact hW
  rw [F_X0_isAgainst] at hF
  refine lv_iload_n hx hb dX0_isAgainst_0 rfl (lv_at hl 1 rfl) ?_
  refine lv_istore (lv' := [(4, .int (jI a1)), (0, .ref (adr b 11 o)), (1, .int (jI a1)), (2, .int (jI a2)), (3, .int (jI a3))]) hx hb dX0_isAgainst_1 hl (by decide) rfl (fun ls hl => ?_)
  exact w_X0_isAgainst_3 C0  FU o a1 a2 a3 a1 ho ha1 ha2 ha3 ha1 H locs hR hS ls (lv_sub hl [1, 2, 3, 4, 0] rfl) hF
abbrev rmX0_rows : Room := { frames := 0, cells := 0, slots := 0, locals := 0 }
theorem hyX0_rows : yX0_rows.cls = RX0 ∧ yX0_rows.cls ≠ "java/lang/invoke/MethodHandle" ∧ yX0_rows.cls ≠ "java/lang/invoke/VarHandle" ∧ (parseMethodDescriptor yX0_rows.desc).map (fun d => d.parameters.length) = some 0 := by decide +kernel
def F_X0_rows_37 (M : Mm) (rec6 : Nat → Int → Int → Int → Option (Int)) (v0 : Nat) (v1 : Int) (v3 : Int) : Option (Int) := (xk (0 ≤ v3 ∧ v3 < 320) (xk (rg (v3 + (1 : Int))) (rec6 v0 v1 (M 12 v0 v3.toNat) (v3 + (1 : Int)))))
set_option maxHeartbeats 4000000 in
set_option maxRecDepth 100000 in
theorem w_X0_rows_37 {p : Program} {l : Launch} {e : Env} {s : State} {m : MethodId} {args : Array Value} {below : List Frame} {meth : Method} {c : Code} {g : Gx} {b : Nat} (C0 : XA p s m meth c args RX0 cX0_rows 4 (some .int) g) {r : Int} {M : Mm} {rec6 : Nat → Int → Int → Int → Option (Int)} (hrec6 : ∀ (v0 : Nat) (v1 : Int) (v2 : Int) (v3 : Int) (hv0 : v0 < 6) (hv1 : rg v1) (hv2 : rg v2) (hv3 : rg v3) (H : Heap) (locs : List Loc), Rel g b M H → va_S (AA b s.heap.size) s.heap H locs → ∀ ls : Array Slot, lv_has ls 4 [(0, .ref (adr b 11 v0)), (1, .int (jI v1)), (2, .int (jI v2)), (3, .int (jI v3))] → rec6 v0 v1 v2 v3 = some r → W p l e rmX0_rows s m args below meth c H locs 0 0 (MQ below (qI g b r M s.heap.size) args s 0 0 (AA b s.heap.size)) (F0 m 6 ls [])) : ∀ (v0 : Nat) (v1 : Int) (v3 : Int) (hv0 : v0 < 6) (hv1 : rg v1) (hv3 : rg v3) (H : Heap) (locs : List Loc), Rel g b M H → va_S (AA b s.heap.size) s.heap H locs → ∀ ls : Array Slot, lv_has ls 4 [(0, .ref (adr b 11 v0)), (1, .int (jI v1)), (3, .int (jI v3))] → F_X0_rows_37 M rec6 v0 v1 v3 = some r → W p l e rmX0_rows s m args below meth c H locs 0 0 (MQ below (qI g b r M s.heap.size) args s 0 0 (AA b s.heap.size)) (F0 m 37 ls []) := by
  obtain ⟨hx, hb, hr, hlocks, hml, hown, hts, hK⟩ := id C0
  intro v0 v1 v3 hv0 hv1 hv3 H locs hR hS ls hl hF
  rw [F_X0_rows_37] at hF
  refine lv_aload_n hx hb dX0_rows_37 rfl (lv_at hl 0 rfl) ?_
  refine gf_0_3 hx hb hts hown hK hR hv0 wd129 dX0_rows_38 ?_
  refine lv_iload_n hx hb dX0_rows_41 rfl (lv_at hl 2 rfl) ?_
  obtain ⟨hi1, hF⟩ := xk_some hF
  refine x_iald (K := 12) hx hb hK hR (ok12 hv0) (by decide) hv3 hi1 dX0_rows_42 ?_
  have hg2 : rg (M 12 v0 v3.toNat) := hR.2 12 v0 _ (by decide)
  refine lv_istore_n (lv' := [(2, .int (jI (M 12 v0 v3.toNat))), (0, .ref (adr b 11 v0)), (1, .int (jI v1)), (3, .int (jI v3))]) hx hb dX0_rows_43 rfl hl (by decide) rfl (fun ls hl => ?_)
  obtain ⟨hq3, hF⟩ := xk_some hF
  refine x_iinc (lv' := [(3, .int (jI (v3 + (1 : Int)))), (2, .int (jI (M 12 v0 v3.toNat))), (0, .ref (adr b 11 v0)), (1, .int (jI v1))]) hx hb dX0_rows_44 hl (k := 3) rfl (by decide) rfl (fun ls hl => ?_)
  refine lv_goto (tgt := 6) hx hb dX0_rows_47 (by decide) ?_
  exact hrec6 v0 v1 (M 12 v0 v3.toNat) (v3 + (1 : Int)) hv0 hv1 hg2 hq3 H locs hR hS ls (lv_sub hl [2, 3, 1, 0] rfl) hF
def F_X0_rows_6 (M : Mm)  : Nat → Nat → Int → Int → Int → Option (Int)
  | 0, _, _, _, _ => none
  | n + 1, v0, v1, v2, v3 => (if (320 : Int) ≤ v3 then (some v1) else (xk (0 ≤ v3 ∧ v3 < 320) (if (M 12 v0 v3.toNat) = 0 then (F_X0_rows_37 M (F_X0_rows_6 M  n) v0 v1 v3) else (xk (0 ≤ v3 ∧ v3 < 320) (if (M 12 v0 v3.toNat) = v2 then (F_X0_rows_37 M (F_X0_rows_6 M  n) v0 v1 v3) else (xk (rg (v1 + (1 : Int))) (F_X0_rows_37 M (F_X0_rows_6 M  n) v0 (v1 + (1 : Int)) v3)))))))
set_option maxHeartbeats 4000000 in
set_option maxRecDepth 100000 in
theorem w_X0_rows_6 {p : Program} {l : Launch} {e : Env} {s : State} {m : MethodId} {args : Array Value} {below : List Frame} {meth : Method} {c : Code} {g : Gx} {b : Nat} (C0 : XA p s m meth c args RX0 cX0_rows 4 (some .int) g) {r : Int} {M : Mm} : ∀ n : Nat, ∀ (v0 : Nat) (v1 : Int) (v2 : Int) (v3 : Int) (hv0 : v0 < 6) (hv1 : rg v1) (hv2 : rg v2) (hv3 : rg v3) (H : Heap) (locs : List Loc), Rel g b M H → va_S (AA b s.heap.size) s.heap H locs → ∀ ls : Array Slot, lv_has ls 4 [(0, .ref (adr b 11 v0)), (1, .int (jI v1)), (2, .int (jI v2)), (3, .int (jI v3))] → F_X0_rows_6 M  n v0 v1 v2 v3 = some r → W p l e rmX0_rows s m args below meth c H locs 0 0 (MQ below (qI g b r M s.heap.size) args s 0 0 (AA b s.heap.size)) (F0 m 6 ls []) := by
  obtain ⟨hx, hb, hr, hlocks, hml, hown, hts, hK⟩ := id C0
  intro n
  induction n with
  | zero =>
    intro v0 v1 v2 v3 hv0 hv1 hv2 hv3 H locs hR hS ls hl hF
    rw [F_X0_rows_6] at hF
    cases hF
  | succ n ih =>
    intro v0 v1 v2 v3 hv0 hv1 hv2 hv3 H locs hR hS ls hl hF
    rw [F_X0_rows_6] at hF
    refine lv_iload_n hx hb dX0_rows_6 rfl (lv_at hl 3 rfl) ?_
    refine lv_aload_n hx hb dX0_rows_7 rfl (lv_at hl 0 rfl) ?_
    refine gf_0_3 hx hb hts hown hK hR hv0 wd129 dX0_rows_8 ?_
    refine x_alen (K := 12) (n := (320 : Int)) hx hb hK hR (ok12 hv0) (by decide) (by decide +kernel) dX0_rows_11 ?_
    refine x_icmp_ge (tgt := 50) hx hb hv3 (by decide : rg (320 : Int)) dX0_rows_12 (by decide) (fun ci1 => ?_) (fun ci1 => ?_)
    · rw [if_pos ci1] at hF
      refine lv_iload_n hx hb dX0_rows_50 rfl (lv_at hl 1 rfl) ?_
      cases hF
      exact x_iret hx hb hlocks hK hR hS hr hv1 dX0_rows_51
    · rw [if_neg ci1] at hF
      refine lv_aload_n hx hb dX0_rows_15 rfl (lv_at hl 0 rfl) ?_
      refine gf_0_3 hx hb hts hown hK hR hv0 wd129 dX0_rows_16 ?_
      refine lv_iload_n hx hb dX0_rows_19 rfl (lv_at hl 3 rfl) ?_
      obtain ⟨hi2, hF⟩ := xk_some hF
      refine x_iald (K := 12) hx hb hK hR (ok12 hv0) (by decide) hv3 hi2 dX0_rows_20 ?_
      have hg3 : rg (M 12 v0 v3.toNat) := hR.2 12 v0 _ (by decide)
      refine x_if_eq (tgt := 37) hx hb hg3 dX0_rows_21 (by decide) (fun ci4 => ?_) (fun ci4 => ?_)
      · rw [if_pos ci4] at hF
        exact w_X0_rows_37 C0 ih v0 v1 v3 hv0 hv1 hv3 H locs hR hS ls (lv_sub hl [0, 1, 3] rfl) hF
      · rw [if_neg ci4] at hF
        refine lv_aload_n hx hb dX0_rows_24 rfl (lv_at hl 0 rfl) ?_
        refine gf_0_3 hx hb hts hown hK hR hv0 wd129 dX0_rows_25 ?_
        refine lv_iload_n hx hb dX0_rows_28 rfl (lv_at hl 3 rfl) ?_
        obtain ⟨hi5, hF⟩ := xk_some hF
        refine x_iald (K := 12) hx hb hK hR (ok12 hv0) (by decide) hv3 hi5 dX0_rows_29 ?_
        have hg6 : rg (M 12 v0 v3.toNat) := hR.2 12 v0 _ (by decide)
        refine lv_iload_n hx hb dX0_rows_30 rfl (lv_at hl 2 rfl) ?_
        refine x_icmp_eq (tgt := 37) hx hb hg6 hv2 dX0_rows_31 (by decide) (fun ci7 => ?_) (fun ci7 => ?_)
        · rw [if_pos ci7] at hF
          exact w_X0_rows_37 C0 ih v0 v1 v3 hv0 hv1 hv3 H locs hR hS ls (lv_sub hl [0, 1, 3] rfl) hF
        · rw [if_neg ci7] at hF
          obtain ⟨hq8, hF⟩ := xk_some hF
          refine x_iinc (lv' := [(1, .int (jI (v1 + (1 : Int)))), (0, .ref (adr b 11 v0)), (2, .int (jI v2)), (3, .int (jI v3))]) hx hb dX0_rows_34 hl (k := 1) rfl (by decide) rfl (fun ls hl => ?_)
          exact w_X0_rows_37 C0 ih v0 (v1 + (1 : Int)) v3 hv0 hq8 hv3 H locs hR hS ls (lv_sub hl [1, 0, 3] rfl) hF
def F_X0_rows (M : Mm) (o : Nat) : Option (Int) := (F_X0_rows_6 M  FU o (0 : Int) (0 : Int) (0 : Int))
set_option maxHeartbeats 4000000 in
set_option maxRecDepth 100000 in
theorem c_X0_rows {l : Launch} {g : Gx} {b : Nat} {M : Mm} {o : Nat} {r : Int} (ho : o < 6) (hF : F_X0_rows M o = some r) : Ct l yX0_rows cX0_rows 4 (some .int) rmX0_rows g b [.ref (adr b 11 o)] M (qI g b r M) := by
  refine ct_of (by decide +kernel) (Nat.le_of_ble_eq_true rfl) ?_
  intro p e s m args below meth c C0 hR ls hl
  obtain ⟨hx, hb, hr, hlocks, hml, hown, hts, hK⟩ := id C0
  have hS : va_S (AA b s.heap.size) s.heap s.heap [] := va_S.rf
  have hl : lv_has ls 4 [(0, .ref (adr b 11 o))] := hl
  obtain ⟨H, hH⟩ : ∃ z, z = s.heap := ⟨_, rfl⟩
  obtain ⟨locs, hlo⟩ : ∃ z : List Loc, z = [] := ⟨_, rfl⟩
  have hR : Rel g b M H := by rw [hH]; exact hR
  have hS : va_S (AA b s.heap.size) s.heap H locs := by rw [hH, hlo]; exact hS
  suffices hW : W p l e rmX0_rows s m args below meth c H locs 0 0 (MQ below (qI g b r M s.heap.size) args s 0 0 (AA b s.heap.size)) (F0 m 0 ls []) by rw [hH, hlo] at hW; exact hW
  rw [F_X0_rows] at hF
  refine x_iconst hx hb dX0_rows_0 ?_
  refine lv_istore_n (lv' := [(1, .int (jI (0 : Int))), (0, .ref (adr b 11 o))]) hx hb dX0_rows_1 rfl hl (by decide) rfl (fun ls hl => ?_)
  refine x_iconst hx hb dX0_rows_2 ?_
  refine lv_istore_n (lv' := [(2, .int (jI (0 : Int))), (1, .int (jI (0 : Int))), (0, .ref (adr b 11 o))]) hx hb dX0_rows_3 rfl hl (by decide) rfl (fun ls hl => ?_)
  refine x_iconst hx hb dX0_rows_4 ?_
  refine lv_istore_n (lv' := [(3, .int (jI (0 : Int))), (2, .int (jI (0 : Int))), (1, .int (jI (0 : Int))), (0, .ref (adr b 11 o))]) hx hb dX0_rows_5 rfl hl (by decide) rfl (fun ls hl => ?_)
  exact w_X0_rows_6 C0  FU o (0 : Int) (0 : Int) (0 : Int) ho (by decide : rg (0 : Int)) (by decide : rg (0 : Int)) (by decide : rg (0 : Int)) H locs hR hS ls (lv_sub hl [3, 2, 1, 0] rfl) hF
