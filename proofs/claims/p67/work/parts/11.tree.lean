abbrev rmX2_at : Room := { frames := 0, cells := 0, slots := 0, locals := 0 }
theorem hyX2_at : yX2_at.cls = RX2 ∧ yX2_at.cls ≠ "java/lang/invoke/MethodHandle" ∧ yX2_at.cls ≠ "java/lang/invoke/VarHandle" ∧ (parseMethodDescriptor yX2_at.desc).map (fun d => d.parameters.length) = some 1 := by decide +kernel
def F_X2_at (M : Mm) (o : Nat) (a1 : Int) : Option (Nat) := (if a1 < 0 then (some (33 * o + 32)) else (if (32 : Int) ≤ a1 then (some (33 * o + 32)) else (xk (0 ≤ a1 ∧ a1 < 32) (some (33 * o + a1.toNat)))))
set_option maxHeartbeats 4000000 in
set_option maxRecDepth 100000 in
theorem c_X2_at {l : Launch} {g : Gx} {b : Nat} {M : Mm} {o : Nat} {a1 : Int} {r : Nat} (ho : o < 3) (ha1 : rg a1) (hF : F_X2_at M o a1 = some r) : Ct l yX2_at cX2_at 2 (some (.object "JournalDisk$Node")) rmX2_at g b [.ref (adr b 1 o), .int (jI a1)] M (qR g b 2 r M) := by
  refine ct_of (by decide +kernel) (Nat.le_of_ble_eq_true rfl) ?_
  intro p e s m args below meth c C0 hR ls hl
  obtain ⟨hx, hb, hr, hlocks, hml, hown, hts, hK⟩ := id C0
  have hS : va_S (AA b s.heap.size) s.heap s.heap [] := va_S.rf
  have hl : lv_has ls 2 [(0, .ref (adr b 1 o)), (1, .int (jI a1))] := hl
  obtain ⟨H, hH⟩ : ∃ z, z = s.heap := ⟨_, rfl⟩
  obtain ⟨locs, hlo⟩ : ∃ z : List Loc, z = [] := ⟨_, rfl⟩
  have hR : Rel g b M H := by rw [hH]; exact hR
  have hS : va_S (AA b s.heap.size) s.heap H locs := by rw [hH, hlo]; exact hS
  suffices hW : W p l e rmX2_at s m args below meth c H locs 0 0 (MQ below (qR g b 2 r M s.heap.size) args s 0 0 (AA b s.heap.size)) (F0 m 0 ls []) by rw [hH, hlo] at hW; exact hW
  rw [F_X2_at] at hF
  refine lv_iload_n hx hb dX2_at_0 rfl (lv_at hl 1 rfl) ?_
  refine x_if_lt (tgt := 22) hx hb ha1 dX2_at_1 (by decide) (fun ci1 => ?_) (fun ci1 => ?_)
  · rw [if_pos ci1] at hF
    refine lv_aload_n hx hb dX2_at_22 rfl (lv_at hl 0 rfl) ?_
    refine gf_2_1 hx hb hts hown hK hR ho wd89 dX2_at_23 ?_
    have hj2 : (33 * o + 32) < 99 := by have := ho; omega
    cases hF
    exact x_aret hx hb hlocks hK hR hS hr (ok2 hj2) dX2_at_26
  · rw [if_neg ci1] at hF
    refine lv_iload_n hx hb dX2_at_4 rfl (lv_at hl 1 rfl) ?_
    refine lv_aload_n hx hb dX2_at_5 rfl (lv_at hl 0 rfl) ?_
    refine gf_2_0 hx hb hts hown hK hR ho wd88 dX2_at_6 ?_
    refine x_alenN hx hb hK hR ho dX2_at_9 ?_
    refine x_icmp_ge (tgt := 22) hx hb ha1 (by decide : rg (32 : Int)) dX2_at_10 (by decide) (fun ci3 => ?_) (fun ci3 => ?_)
    · rw [if_pos ci3] at hF
      refine lv_aload_n hx hb dX2_at_22 rfl (lv_at hl 0 rfl) ?_
      refine gf_2_1 hx hb hts hown hK hR ho wd89 dX2_at_23 ?_
      have hj4 : (33 * o + 32) < 99 := by have := ho; omega
      cases hF
      exact x_aret hx hb hlocks hK hR hS hr (ok2 hj4) dX2_at_26
    · rw [if_neg ci3] at hF
      refine lv_aload_n hx hb dX2_at_13 rfl (lv_at hl 0 rfl) ?_
      refine gf_2_0 hx hb hts hown hK hR ho wd88 dX2_at_14 ?_
      refine lv_iload_n hx hb dX2_at_17 rfl (lv_at hl 1 rfl) ?_
      obtain ⟨hi5, hF⟩ := xk_some hF
      refine x_aldN hx hb hK hR ho ha1 hi5 dX2_at_18 ?_
      have hj6 : (33 * o + a1.toNat) < 99 := by have := ho; omega
      refine lv_goto (tgt := 26) hx hb dX2_at_19 (by decide) ?_
      cases hF
      exact x_aret hx hb hlocks hK hR hS hr (ok2 hj6) dX2_at_26
abbrev rmX2_copyFrom : Room := { frames := 2, cells := 0, slots := 0, locals := 56 }
theorem hyX2_copyFrom : yX2_copyFrom.cls = RX2 ∧ yX2_copyFrom.cls ≠ "java/lang/invoke/MethodHandle" ∧ yX2_copyFrom.cls ≠ "java/lang/invoke/VarHandle" ∧ (parseMethodDescriptor yX2_copyFrom.desc).map (fun d => d.parameters.length) = some 1 := by decide +kernel
def F_X2_copyFrom_2  : Nat → Mm → Nat → Nat → Int → Option (Mm)
  | 0, _, _, _, _ => none
  | n + 1, M, v0, v1, v2 => (if (32 : Int) ≤ v2 then (xl (mcp M 6 v1 (0 : Int).toNat 6 v0 (0 : Int).toNat (4 : Int).toNat) fun M2 => (xl (mcp M2 7 v1 (0 : Int).toNat 7 v0 (0 : Int).toNat (256 : Int).toNat) fun M3 => (xl (mcp M3 8 v1 (0 : Int).toNat 8 v0 (0 : Int).toNat (128 : Int).toNat) fun M4 => (xl (mup M4 1 v0 5 (M4 1 v1 5)) fun M6 => (some M6))))) else (xk (0 ≤ v2 ∧ v2 < 32) (xb1 (F_X2_at M v1 v2) fun y10 => (xb1 (F_X1_copyFrom M (33 * v0 + v2.toNat) y10) fun M14 => (xk (rg (v2 + (1 : Int))) (F_X2_copyFrom_2  n M14 v0 v1 (v2 + (1 : Int))))))))
set_option maxHeartbeats 4000000 in
set_option maxRecDepth 100000 in
theorem w_X2_copyFrom_2 {p : Program} {l : Launch} {e : Env} {s : State} {m : MethodId} {args : Array Value} {below : List Frame} {meth : Method} {c : Code} {g : Gx} {b : Nat} (C0 : XA p s m meth c args RX2 cX2_copyFrom 3 none g) {M' : Mm} : ∀ n : Nat, ∀ (M : Mm) (v0 : Nat) (v1 : Nat) (v2 : Int) (hv0 : v0 < 3) (hv1 : v1 < 3) (hv2 : rg v2) (H : Heap) (locs : List Loc), Rel g b M H → va_S (AA b s.heap.size) s.heap H locs → ∀ ls : Array Slot, lv_has ls 3 [(0, .ref (adr b 1 v0)), (1, .ref (adr b 1 v1)), (2, .int (jI v2))] → F_X2_copyFrom_2  n M v0 v1 v2 = some M' → W p l e rmX2_copyFrom s m args below meth c H locs 0 0 (MQ below (qV g b M' s.heap.size) args s 0 0 (AA b s.heap.size)) (F0 m 2 ls []) := by
  obtain ⟨hx, hb, hr, hlocks, hml, hown, hts, hK⟩ := id C0
  intro n
  induction n with
  | zero =>
    intro M v0 v1 v2 hv0 hv1 hv2 H locs hR hS ls hl hF
    rw [F_X2_copyFrom_2] at hF
    cases hF
  | succ n ih =>
    intro M v0 v1 v2 hv0 hv1 hv2 H locs hR hS ls hl hF
    rw [F_X2_copyFrom_2] at hF
    refine lv_iload_n hx hb dX2_copyFrom_2 rfl (lv_at hl 2 rfl) ?_
    refine lv_aload_n hx hb dX2_copyFrom_3 rfl (lv_at hl 0 rfl) ?_
    refine gf_2_0 hx hb hts hown hK hR hv0 wd88 dX2_copyFrom_4 ?_
    refine x_alenN hx hb hK hR hv0 dX2_copyFrom_7 ?_
    refine x_icmp_ge (tgt := 31) hx hb hv2 (by decide : rg (32 : Int)) dX2_copyFrom_8 (by decide) (fun ci1 => ?_) (fun ci1 => ?_)
    · rw [if_pos ci1] at hF
      refine lv_aload_n hx hb dX2_copyFrom_31 rfl (lv_at hl 1 rfl) ?_
      refine gf_2_2 hx hb hts hown hK hR hv1 wd90 dX2_copyFrom_32 ?_
      refine x_iconst hx hb dX2_copyFrom_35 ?_
      refine lv_aload_n hx hb dX2_copyFrom_36 rfl (lv_at hl 0 rfl) ?_
      refine gf_2_2 hx hb hts hown hK hR hv0 wd90 dX2_copyFrom_37 ?_
      refine x_iconst hx hb dX2_copyFrom_40 ?_
      refine x_iconst hx hb dX2_copyFrom_41 ?_
      refine x_copy (K := 6) (K2 := 6) hx hb hml hl.1 hts hown wd269 wd268 wd267 wd11 hK hR hS (ok6 hv1) (ok6 hv0) (by decide) (by decide) (by decide : rg (0 : Int)) (by decide : rg (0 : Int)) (by decide : rg (4 : Int)) (by decide) (by decide) (by decide) (by decide) (by decide) (Nat.le_of_ble_eq_true rfl) (by decide +kernel) dX2_copyFrom_42 (fun H locs hR hS => ?_)
      obtain ⟨M2, eM, hF⟩ := xl_some hF
      rw [eM] at hR
      clear eM
      refine lv_aload_n hx hb dX2_copyFrom_45 rfl (lv_at hl 1 rfl) ?_
      refine gf_2_3 hx hb hts hown hK hR hv1 wd91 dX2_copyFrom_46 ?_
      refine x_iconst hx hb dX2_copyFrom_49 ?_
      refine lv_aload_n hx hb dX2_copyFrom_50 rfl (lv_at hl 0 rfl) ?_
      refine gf_2_3 hx hb hts hown hK hR hv0 wd91 dX2_copyFrom_51 ?_
      refine x_iconst hx hb dX2_copyFrom_54 ?_
      refine x_sipush hx hb (by decide +kernel) dX2_copyFrom_55 ?_
      refine x_copyl hx hb hml hl.1 hts hown wd269 wd268 wd267 wd11 hK hR hS (ok7 hv1) (ok7 hv0) (by decide : rg (0 : Int)) (by decide : rg (0 : Int)) (by decide : rg (256 : Int)) (by decide) (by decide) (by decide) (by decide) (by decide) (Nat.le_of_ble_eq_true rfl) (by decide +kernel) dX2_copyFrom_58 (fun H locs hR hS => ?_)
      obtain ⟨M3, eM, hF⟩ := xl_some hF
      rw [eM] at hR
      clear eM
      refine lv_aload_n hx hb dX2_copyFrom_61 rfl (lv_at hl 1 rfl) ?_
      refine gf_2_4 hx hb hts hown hK hR hv1 wd92 dX2_copyFrom_62 ?_
      refine x_iconst hx hb dX2_copyFrom_65 ?_
      refine lv_aload_n hx hb dX2_copyFrom_66 rfl (lv_at hl 0 rfl) ?_
      refine gf_2_4 hx hb hts hown hK hR hv0 wd92 dX2_copyFrom_67 ?_
      refine x_iconst hx hb dX2_copyFrom_70 ?_
      refine x_sipush hx hb (by decide +kernel) dX2_copyFrom_71 ?_
      refine x_copy (K := 8) (K2 := 8) hx hb hml hl.1 hts hown wd269 wd268 wd267 wd11 hK hR hS (ok8 hv1) (ok8 hv0) (by decide) (by decide) (by decide : rg (0 : Int)) (by decide : rg (0 : Int)) (by decide : rg (128 : Int)) (by decide) (by decide) (by decide) (by decide) (by decide) (Nat.le_of_ble_eq_true rfl) (by decide +kernel) dX2_copyFrom_74 (fun H locs hR hS => ?_)
      obtain ⟨M4, eM, hF⟩ := xl_some hF
      rw [eM] at hR
      clear eM
      refine lv_aload_n hx hb dX2_copyFrom_77 rfl (lv_at hl 0 rfl) ?_
      refine lv_aload_n hx hb dX2_copyFrom_78 rfl (lv_at hl 1 rfl) ?_
      refine gf_2_5 hx hb hts hown hK hR hv1 wd93 dX2_copyFrom_79 ?_
      have hg5 : rg (M4 1 v1 5) := hR.2 1 v1 5 (by decide)
      refine pf_2_5 hx hb hts hown hK hR hS hv0 hg5 wd93 dX2_copyFrom_82 (fun H locs hR hS => ?_)
      obtain ⟨M6, eM, hF⟩ := xl_some hF
      rw [eM] at hR
      clear eM
      cases hF
      exact x_vret hx hb hlocks hK hR hS hr dX2_copyFrom_85
    · rw [if_neg ci1] at hF
      refine lv_aload_n hx hb dX2_copyFrom_11 rfl (lv_at hl 0 rfl) ?_
      refine gf_2_0 hx hb hts hown hK hR hv0 wd88 dX2_copyFrom_12 ?_
      refine lv_iload_n hx hb dX2_copyFrom_15 rfl (lv_at hl 2 rfl) ?_
      obtain ⟨hi7, hF⟩ := xk_some hF
      refine x_aldN hx hb hK hR hv0 hv2 hi7 dX2_copyFrom_16 ?_
      have hj8 : (33 * v0 + v2.toNat) < 99 := by have := hv0; omega
      refine lv_aload_n hx hb dX2_copyFrom_17 rfl (lv_at hl 1 rfl) ?_
      refine lv_iload_n hx hb dX2_copyFrom_18 rfl (lv_at hl 2 rfl) ?_
      obtain ⟨y10, hc9, hF⟩ := xb1_some hF
      refine x_cVr (C := RX2) (T := TX2) (N := 8) (ci := 2) (As := [.int (jI v2)]) (rest := [.ref (adr b 2 (33 * v0 + v2.toNat))]) hx hb hml hown hts hK hR hS (c_X2_at hv1 hv2 hc9) (ok1 hv1) rfl rfl wd254 wd255 wd256 wd2 wd257 hyX2_at ⟨rfl, rfl⟩ ⟨Nat.le_of_ble_eq_true rfl, Nat.le_of_ble_eq_true rfl⟩ hl.1 (Nat.le_of_ble_eq_true rfl) dX2_copyFrom_19 ⟨Nat.zero_le _, Nat.zero_le _⟩ rfl (fun hg11 H locs hR hS => ?_)
      have hj12 : y10 < 99 := lt2 hg11
      obtain ⟨M14, hc13, hF⟩ := xb1_some hF
      refine x_cVv (C := RX1) (T := TX1) (N := 12) (ci := 1) (As := [.ref (adr b 2 y10)]) (rest := []) hx hb hml hown hts hK hR hS (c_X1_copyFrom hj8 hj12 hc13) (ok2 hj8) rfl rfl wd258 wd259 wd260 wd3 wd261 hyX1_copyFrom ⟨rfl, rfl⟩ ⟨Nat.le_of_ble_eq_true rfl, Nat.le_of_ble_eq_true rfl⟩ hl.1 (Nat.le_of_ble_eq_true rfl) dX2_copyFrom_22 ⟨Nat.zero_le _, Nat.zero_le _⟩ rfl (fun H locs hR hS => ?_)
      obtain ⟨hq15, hF⟩ := xk_some hF
      refine x_iinc (lv' := [(2, .int (jI (v2 + (1 : Int)))), (0, .ref (adr b 1 v0)), (1, .ref (adr b 1 v1))]) hx hb dX2_copyFrom_25 hl (k := 2) rfl (by decide) rfl (fun ls hl => ?_)
      refine lv_goto (tgt := 2) hx hb dX2_copyFrom_28 (by decide) ?_
      exact ih M14 v0 v1 (v2 + (1 : Int)) hv0 hv1 hq15 H locs hR hS ls (lv_sub hl [1, 2, 0] rfl) hF
def F_X2_copyFrom (M : Mm) (o : Nat) (a1 : Nat) : Option (Mm) := (F_X2_copyFrom_2  FU M o a1 (0 : Int))
set_option maxHeartbeats 4000000 in
set_option maxRecDepth 100000 in
theorem c_X2_copyFrom {l : Launch} {g : Gx} {b : Nat} {M : Mm} {o : Nat} {a1 : Nat} {M' : Mm} (ho : o < 3) (ha1 : a1 < 3) (hF : F_X2_copyFrom M o a1 = some M') : Ct l yX2_copyFrom cX2_copyFrom 3 none rmX2_copyFrom g b [.ref (adr b 1 o), .ref (adr b 1 a1)] M (qV g b M') := by
  refine ct_of (by decide +kernel) (Nat.le_of_ble_eq_true rfl) ?_
  intro p e s m args below meth c C0 hR ls hl
  obtain ⟨hx, hb, hr, hlocks, hml, hown, hts, hK⟩ := id C0
  have hS : va_S (AA b s.heap.size) s.heap s.heap [] := va_S.rf
  have hl : lv_has ls 3 [(0, .ref (adr b 1 o)), (1, .ref (adr b 1 a1))] := hl
  obtain ⟨H, hH⟩ : ∃ z, z = s.heap := ⟨_, rfl⟩
  obtain ⟨locs, hlo⟩ : ∃ z : List Loc, z = [] := ⟨_, rfl⟩
  have hR : Rel g b M H := by rw [hH]; exact hR
  have hS : va_S (AA b s.heap.size) s.heap H locs := by rw [hH, hlo]; exact hS
  suffices hW : W p l e rmX2_copyFrom s m args below meth c H locs 0 0 (MQ below (qV g b M' s.heap.size) args s 0 0 (AA b s.heap.size)) (F0 m 0 ls []) by rw [hH, hlo] at hW; exact hW
  rw [F_X2_copyFrom] at hF
  refine x_iconst hx hb dX2_copyFrom_0 ?_
  refine lv_istore_n (lv' := [(2, .int (jI (0 : Int))), (0, .ref (adr b 1 o)), (1, .ref (adr b 1 a1))]) hx hb dX2_copyFrom_1 rfl hl (by decide) rfl (fun ls hl => ?_)
  exact w_X2_copyFrom_2 C0  FU M o a1 (0 : Int) ho ha1 (by decide : rg (0 : Int)) H locs hR hS ls (lv_sub hl [1, 2, 0] rfl) hF
abbrev rmX2_limitOf : Room := { frames := 0, cells := 0, slots := 0, locals := 0 }
theorem hyX2_limitOf : yX2_limitOf.cls = RX2 ∧ yX2_limitOf.cls ≠ "java/lang/invoke/MethodHandle" ∧ yX2_limitOf.cls ≠ "java/lang/invoke/VarHandle" ∧ (parseMethodDescriptor yX2_limitOf.desc).map (fun d => d.parameters.length) = some 1 := by decide +kernel
def F_X2_limitOf (M : Mm) (o : Nat) (a1 : Int) : Option (Int) := (if a1 < 0 then (some (0 : Int)) else (if (4 : Int) ≤ a1 then (some (0 : Int)) else (xk (0 ≤ a1 ∧ a1 < 4) (some (M 6 o a1.toNat)))))
set_option maxHeartbeats 4000000 in
set_option maxRecDepth 100000 in
theorem c_X2_limitOf {l : Launch} {g : Gx} {b : Nat} {M : Mm} {o : Nat} {a1 : Int} {r : Int} (ho : o < 3) (ha1 : rg a1) (hF : F_X2_limitOf M o a1 = some r) : Ct l yX2_limitOf cX2_limitOf 2 (some .int) rmX2_limitOf g b [.ref (adr b 1 o), .int (jI a1)] M (qI g b r M) := by
  refine ct_of (by decide +kernel) (Nat.le_of_ble_eq_true rfl) ?_
  intro p e s m args below meth c C0 hR ls hl
  obtain ⟨hx, hb, hr, hlocks, hml, hown, hts, hK⟩ := id C0
  have hS : va_S (AA b s.heap.size) s.heap s.heap [] := va_S.rf
  have hl : lv_has ls 2 [(0, .ref (adr b 1 o)), (1, .int (jI a1))] := hl
  obtain ⟨H, hH⟩ : ∃ z, z = s.heap := ⟨_, rfl⟩
  obtain ⟨locs, hlo⟩ : ∃ z : List Loc, z = [] := ⟨_, rfl⟩
  have hR : Rel g b M H := by rw [hH]; exact hR
  have hS : va_S (AA b s.heap.size) s.heap H locs := by rw [hH, hlo]; exact hS
  suffices hW : W p l e rmX2_limitOf s m args below meth c H locs 0 0 (MQ below (qI g b r M s.heap.size) args s 0 0 (AA b s.heap.size)) (F0 m 0 ls []) by rw [hH, hlo] at hW; exact hW
  rw [F_X2_limitOf] at hF
  refine lv_iload_n hx hb dX2_limitOf_0 rfl (lv_at hl 1 rfl) ?_
  refine x_if_lt (tgt := 22) hx hb ha1 dX2_limitOf_1 (by decide) (fun ci1 => ?_) (fun ci1 => ?_)
  · rw [if_pos ci1] at hF
    refine x_iconst hx hb dX2_limitOf_22 ?_
    cases hF
    exact x_iret hx hb hlocks hK hR hS hr (by decide : rg (0 : Int)) dX2_limitOf_23
  · rw [if_neg ci1] at hF
    refine lv_iload_n hx hb dX2_limitOf_4 rfl (lv_at hl 1 rfl) ?_
    refine lv_aload_n hx hb dX2_limitOf_5 rfl (lv_at hl 0 rfl) ?_
    refine gf_2_2 hx hb hts hown hK hR ho wd90 dX2_limitOf_6 ?_
    refine x_alen (K := 6) (n := (4 : Int)) hx hb hK hR (ok6 ho) (by decide) (by decide +kernel) dX2_limitOf_9 ?_
    refine x_icmp_ge (tgt := 22) hx hb ha1 (by decide : rg (4 : Int)) dX2_limitOf_10 (by decide) (fun ci2 => ?_) (fun ci2 => ?_)
    · rw [if_pos ci2] at hF
      refine x_iconst hx hb dX2_limitOf_22 ?_
      cases hF
      exact x_iret hx hb hlocks hK hR hS hr (by decide : rg (0 : Int)) dX2_limitOf_23
    · rw [if_neg ci2] at hF
      refine lv_aload_n hx hb dX2_limitOf_13 rfl (lv_at hl 0 rfl) ?_
      refine gf_2_2 hx hb hts hown hK hR ho wd90 dX2_limitOf_14 ?_
      refine lv_iload_n hx hb dX2_limitOf_17 rfl (lv_at hl 1 rfl) ?_
      obtain ⟨hi3, hF⟩ := xk_some hF
      refine x_iald (K := 6) hx hb hK hR (ok6 ho) (by decide) ha1 hi3 dX2_limitOf_18 ?_
      have hg4 : rg (M 6 o a1.toNat) := hR.2 6 o _ (by decide)
      refine lv_goto (tgt := 23) hx hb dX2_limitOf_19 (by decide) ?_
      cases hF
      exact x_iret hx hb hlocks hK hR hS hr hg4 dX2_limitOf_23
abbrev rmX2_limit : Room := { frames := 0, cells := 0, slots := 0, locals := 0 }
theorem hyX2_limit : yX2_limit.cls = RX2 ∧ yX2_limit.cls ≠ "java/lang/invoke/MethodHandle" ∧ yX2_limit.cls ≠ "java/lang/invoke/VarHandle" ∧ (parseMethodDescriptor yX2_limit.desc).map (fun d => d.parameters.length) = some 2 := by decide +kernel
def F_X2_limit (M : Mm) (o : Nat) (a1 : Int) (a2 : Int) : Option (Mm) := (if a1 < 0 then (some M) else (if (4 : Int) ≤ a1 then (some M) else (xk (0 ≤ a1 ∧ a1 < 4) (xl (mup M 6 o a1.toNat a2) fun M4 => (some M4)))))
set_option maxHeartbeats 4000000 in
set_option maxRecDepth 100000 in
theorem c_X2_limit {l : Launch} {g : Gx} {b : Nat} {M : Mm} {o : Nat} {a1 : Int} {a2 : Int} {M' : Mm} (ho : o < 3) (ha1 : rg a1) (ha2 : rg a2) (hF : F_X2_limit M o a1 a2 = some M') : Ct l yX2_limit cX2_limit 3 none rmX2_limit g b [.ref (adr b 1 o), .int (jI a1), .int (jI a2)] M (qV g b M') := by
  refine ct_of (by decide +kernel) (Nat.le_of_ble_eq_true rfl) ?_
  intro p e s m args below meth c C0 hR ls hl
  obtain ⟨hx, hb, hr, hlocks, hml, hown, hts, hK⟩ := id C0
  have hS : va_S (AA b s.heap.size) s.heap s.heap [] := va_S.rf
  have hl : lv_has ls 3 [(0, .ref (adr b 1 o)), (1, .int (jI a1)), (2, .int (jI a2))] := hl
  obtain ⟨H, hH⟩ : ∃ z, z = s.heap := ⟨_, rfl⟩
  obtain ⟨locs, hlo⟩ : ∃ z : List Loc, z = [] := ⟨_, rfl⟩
  have hR : Rel g b M H := by rw [hH]; exact hR
  have hS : va_S (AA b s.heap.size) s.heap H locs := by rw [hH, hlo]; exact hS
  suffices hW : W p l e rmX2_limit s m args below meth c H locs 0 0 (MQ below (qV g b M' s.heap.size) args s 0 0 (AA b s.heap.size)) (F0 m 0 ls []) by rw [hH, hlo] at hW; exact hW
  rw [F_X2_limit] at hF
  refine lv_iload_n hx hb dX2_limit_0 rfl (lv_at hl 1 rfl) ?_
  refine x_if_lt (tgt := 20) hx hb ha1 dX2_limit_1 (by decide) (fun ci1 => ?_) (fun ci1 => ?_)
  · rw [if_pos ci1] at hF
    cases hF
    exact x_vret hx hb hlocks hK hR hS hr dX2_limit_20
  · rw [if_neg ci1] at hF
    refine lv_iload_n hx hb dX2_limit_4 rfl (lv_at hl 1 rfl) ?_
    refine lv_aload_n hx hb dX2_limit_5 rfl (lv_at hl 0 rfl) ?_
    refine gf_2_2 hx hb hts hown hK hR ho wd90 dX2_limit_6 ?_
    refine x_alen (K := 6) (n := (4 : Int)) hx hb hK hR (ok6 ho) (by decide) (by decide +kernel) dX2_limit_9 ?_
    refine x_icmp_ge (tgt := 20) hx hb ha1 (by decide : rg (4 : Int)) dX2_limit_10 (by decide) (fun ci2 => ?_) (fun ci2 => ?_)
    · rw [if_pos ci2] at hF
      cases hF
      exact x_vret hx hb hlocks hK hR hS hr dX2_limit_20
    · rw [if_neg ci2] at hF
      refine lv_aload_n hx hb dX2_limit_13 rfl (lv_at hl 0 rfl) ?_
      refine gf_2_2 hx hb hts hown hK hR ho wd90 dX2_limit_14 ?_
      refine lv_iload_n hx hb dX2_limit_17 rfl (lv_at hl 1 rfl) ?_
      refine lv_iload_n hx hb dX2_limit_18 rfl (lv_at hl 2 rfl) ?_
      obtain ⟨hi3, hF⟩ := xk_some hF
      refine x_iast (K := 6) hx hb hK hR hS (ok6 ho) (by decide) ha1 ha2 hi3 dX2_limit_19 (fun H locs hR hS => ?_)
      obtain ⟨M4, eM, hF⟩ := xl_some hF
      rw [eM] at hR
      clear eM
      cases hF
      exact x_vret hx hb hlocks hK hR hS hr dX2_limit_20
abbrev rmX2_count : Room := { frames := 0, cells := 0, slots := 0, locals := 0 }
theorem hyX2_count : yX2_count.cls = RX2 ∧ yX2_count.cls ≠ "java/lang/invoke/MethodHandle" ∧ yX2_count.cls ≠ "java/lang/invoke/VarHandle" ∧ (parseMethodDescriptor yX2_count.desc).map (fun d => d.parameters.length) = some 0 := by decide +kernel
def F_X2_count_4 (M : Mm)  : Nat → Nat → Int → Int → Option (Int)
  | 0, _, _, _ => none
  | n + 1, v0, v1, v2 => (if (32 : Int) ≤ v2 then (some v1) else (xk (0 ≤ v2 ∧ v2 < 32) (if (M 2 (33 * v0 + v2.toNat) 0) = 0 then (xk (rg (v2 + (1 : Int))) (F_X2_count_4 M  n v0 v1 (v2 + (1 : Int)))) else (xk (rg (v1 + (1 : Int))) (xk (rg (v2 + (1 : Int))) (F_X2_count_4 M  n v0 (v1 + (1 : Int)) (v2 + (1 : Int))))))))
set_option maxHeartbeats 4000000 in
set_option maxRecDepth 100000 in
theorem w_X2_count_4 {p : Program} {l : Launch} {e : Env} {s : State} {m : MethodId} {args : Array Value} {below : List Frame} {meth : Method} {c : Code} {g : Gx} {b : Nat} (C0 : XA p s m meth c args RX2 cX2_count 3 (some .int) g) {r : Int} {M : Mm} : ∀ n : Nat, ∀ (v0 : Nat) (v1 : Int) (v2 : Int) (hv0 : v0 < 3) (hv1 : rg v1) (hv2 : rg v2) (H : Heap) (locs : List Loc), Rel g b M H → va_S (AA b s.heap.size) s.heap H locs → ∀ ls : Array Slot, lv_has ls 3 [(0, .ref (adr b 1 v0)), (1, .int (jI v1)), (2, .int (jI v2))] → F_X2_count_4 M  n v0 v1 v2 = some r → W p l e rmX2_count s m args below meth c H locs 0 0 (MQ below (qI g b r M s.heap.size) args s 0 0 (AA b s.heap.size)) (F0 m 4 ls []) := by
  obtain ⟨hx, hb, hr, hlocks, hml, hown, hts, hK⟩ := id C0
  intro n
  induction n with
  | zero =>
    intro v0 v1 v2 hv0 hv1 hv2 H locs hR hS ls hl hF
    rw [F_X2_count_4] at hF
    cases hF
  | succ n ih =>
    intro v0 v1 v2 hv0 hv1 hv2 H locs hR hS ls hl hF
    rw [F_X2_count_4] at hF
    refine lv_iload_n hx hb dX2_count_4 rfl (lv_at hl 2 rfl) ?_
    refine lv_aload_n hx hb dX2_count_5 rfl (lv_at hl 0 rfl) ?_
    refine gf_2_0 hx hb hts hown hK hR hv0 wd88 dX2_count_6 ?_
    refine x_alenN hx hb hK hR hv0 dX2_count_9 ?_
    refine x_icmp_ge (tgt := 34) hx hb hv2 (by decide : rg (32 : Int)) dX2_count_10 (by decide) (fun ci1 => ?_) (fun ci1 => ?_)
    · rw [if_pos ci1] at hF
      refine lv_iload_n hx hb dX2_count_34 rfl (lv_at hl 1 rfl) ?_
      cases hF
      exact x_iret hx hb hlocks hK hR hS hr hv1 dX2_count_35
    · rw [if_neg ci1] at hF
      refine lv_aload_n hx hb dX2_count_13 rfl (lv_at hl 0 rfl) ?_
      refine gf_2_0 hx hb hts hown hK hR hv0 wd88 dX2_count_14 ?_
      refine lv_iload_n hx hb dX2_count_17 rfl (lv_at hl 2 rfl) ?_
      obtain ⟨hi2, hF⟩ := xk_some hF
      refine x_aldN hx hb hK hR hv0 hv2 hi2 dX2_count_18 ?_
      have hj3 : (33 * v0 + v2.toNat) < 99 := by have := hv0; omega
      refine gf_1_0 hx hb hts hown hK hR hj3 wd35 dX2_count_19 ?_
      have hg4 : rg (M 2 (33 * v0 + v2.toNat) 0) := hR.2 2 (33 * v0 + v2.toNat) 0 (by decide)
      refine x_if_eq (tgt := 28) hx hb hg4 dX2_count_22 (by decide) (fun ci5 => ?_) (fun ci5 => ?_)
      · rw [if_pos ci5] at hF
        obtain ⟨hq6, hF⟩ := xk_some hF
        refine x_iinc (lv' := [(2, .int (jI (v2 + (1 : Int)))), (0, .ref (adr b 1 v0)), (1, .int (jI v1))]) hx hb dX2_count_28 hl (k := 2) rfl (by decide) rfl (fun ls hl => ?_)
        refine lv_goto (tgt := 4) hx hb dX2_count_31 (by decide) ?_
        exact ih v0 v1 (v2 + (1 : Int)) hv0 hv1 hq6 H locs hR hS ls (lv_sub hl [1, 2, 0] rfl) hF
      · rw [if_neg ci5] at hF
        obtain ⟨hq7, hF⟩ := xk_some hF
        refine x_iinc (lv' := [(1, .int (jI (v1 + (1 : Int)))), (0, .ref (adr b 1 v0)), (2, .int (jI v2))]) hx hb dX2_count_25 hl (k := 1) rfl (by decide) rfl (fun ls hl => ?_)
        obtain ⟨hq8, hF⟩ := xk_some hF
        refine x_iinc (lv' := [(2, .int (jI (v2 + (1 : Int)))), (1, .int (jI (v1 + (1 : Int)))), (0, .ref (adr b 1 v0))]) hx hb dX2_count_28 hl (k := 2) rfl (by decide) rfl (fun ls hl => ?_)
        refine lv_goto (tgt := 4) hx hb dX2_count_31 (by decide) ?_
        exact ih v0 (v1 + (1 : Int)) (v2 + (1 : Int)) hv0 hq7 hq8 H locs hR hS ls (lv_sub hl [2, 1, 0] rfl) hF
def F_X2_count (M : Mm) (o : Nat) : Option (Int) := (F_X2_count_4 M  FU o (0 : Int) (0 : Int))
set_option maxHeartbeats 4000000 in
set_option maxRecDepth 100000 in
theorem c_X2_count {l : Launch} {g : Gx} {b : Nat} {M : Mm} {o : Nat} {r : Int} (ho : o < 3) (hF : F_X2_count M o = some r) : Ct l yX2_count cX2_count 3 (some .int) rmX2_count g b [.ref (adr b 1 o)] M (qI g b r M) := by
  refine ct_of (by decide +kernel) (Nat.le_of_ble_eq_true rfl) ?_
  intro p e s m args below meth c C0 hR ls hl
  obtain ⟨hx, hb, hr, hlocks, hml, hown, hts, hK⟩ := id C0
  have hS : va_S (AA b s.heap.size) s.heap s.heap [] := va_S.rf
  have hl : lv_has ls 3 [(0, .ref (adr b 1 o))] := hl
  obtain ⟨H, hH⟩ : ∃ z, z = s.heap := ⟨_, rfl⟩
  obtain ⟨locs, hlo⟩ : ∃ z : List Loc, z = [] := ⟨_, rfl⟩
  have hR : Rel g b M H := by rw [hH]; exact hR
  have hS : va_S (AA b s.heap.size) s.heap H locs := by rw [hH, hlo]; exact hS
  suffices hW : W p l e rmX2_count s m args below meth c H locs 0 0 (MQ below (qI g b r M s.heap.size) args s 0 0 (AA b s.heap.size)) (F0 m 0 ls []) by rw [hH, hlo] at hW; exact hW
  rw [F_X2_count] at hF
  refine x_iconst hx hb dX2_count_0 ?_
  refine lv_istore_n (lv' := [(1, .int (jI (0 : Int))), (0, .ref (adr b 1 o))]) hx hb dX2_count_1 rfl hl (by decide) rfl (fun ls hl => ?_)
  refine x_iconst hx hb dX2_count_2 ?_
  refine lv_istore_n (lv' := [(2, .int (jI (0 : Int))), (1, .int (jI (0 : Int))), (0, .ref (adr b 1 o))]) hx hb dX2_count_3 rfl hl (by decide) rfl (fun ls hl => ?_)
  exact w_X2_count_4 C0  FU o (0 : Int) (0 : Int) ho (by decide : rg (0 : Int)) (by decide : rg (0 : Int)) H locs hR hS ls (lv_sub hl [2, 1, 0] rfl) hF
abbrev rmX2_freeNumber : Room := { frames := 0, cells := 0, slots := 0, locals := 0 }
theorem hyX2_freeNumber : yX2_freeNumber.cls = RX2 ∧ yX2_freeNumber.cls ≠ "java/lang/invoke/MethodHandle" ∧ yX2_freeNumber.cls ≠ "java/lang/invoke/VarHandle" ∧ (parseMethodDescriptor yX2_freeNumber.desc).map (fun d => d.parameters.length) = some 0 := by decide +kernel
def F_X2_freeNumber_2 (M : Mm)  : Nat → Nat → Int → Option (Int)
  | 0, _, _ => none
  | n + 1, v0, v1 => (if (32 : Int) ≤ v1 then (some (-1 : Int)) else (xk (0 ≤ v1 ∧ v1 < 32) (if (M 2 (33 * v0 + v1.toNat) 0) = 0 then (some v1) else (xk (rg (v1 + (1 : Int))) (F_X2_freeNumber_2 M  n v0 (v1 + (1 : Int)))))))
set_option maxHeartbeats 4000000 in
set_option maxRecDepth 100000 in
theorem w_X2_freeNumber_2 {p : Program} {l : Launch} {e : Env} {s : State} {m : MethodId} {args : Array Value} {below : List Frame} {meth : Method} {c : Code} {g : Gx} {b : Nat} (C0 : XA p s m meth c args RX2 cX2_freeNumber 2 (some .int) g) {r : Int} {M : Mm} : ∀ n : Nat, ∀ (v0 : Nat) (v1 : Int) (hv0 : v0 < 3) (hv1 : rg v1) (H : Heap) (locs : List Loc), Rel g b M H → va_S (AA b s.heap.size) s.heap H locs → ∀ ls : Array Slot, lv_has ls 2 [(0, .ref (adr b 1 v0)), (1, .int (jI v1))] → F_X2_freeNumber_2 M  n v0 v1 = some r → W p l e rmX2_freeNumber s m args below meth c H locs 0 0 (MQ below (qI g b r M s.heap.size) args s 0 0 (AA b s.heap.size)) (F0 m 2 ls []) := by
  obtain ⟨hx, hb, hr, hlocks, hml, hown, hts, hK⟩ := id C0
  intro n
  induction n with
  | zero =>
    intro v0 v1 hv0 hv1 H locs hR hS ls hl hF
    rw [F_X2_freeNumber_2] at hF
    cases hF
  | succ n ih =>
    intro v0 v1 hv0 hv1 H locs hR hS ls hl hF
    rw [F_X2_freeNumber_2] at hF
    refine lv_iload_n hx hb dX2_freeNumber_2 rfl (lv_at hl 1 rfl) ?_
    refine lv_aload_n hx hb dX2_freeNumber_3 rfl (lv_at hl 0 rfl) ?_
    refine gf_2_0 hx hb hts hown hK hR hv0 wd88 dX2_freeNumber_4 ?_
    refine x_alenN hx hb hK hR hv0 dX2_freeNumber_7 ?_
    refine x_icmp_ge (tgt := 31) hx hb hv1 (by decide : rg (32 : Int)) dX2_freeNumber_8 (by decide) (fun ci1 => ?_) (fun ci1 => ?_)
    · rw [if_pos ci1] at hF
      refine x_iconst hx hb dX2_freeNumber_31 ?_
      cases hF
      exact x_iret hx hb hlocks hK hR hS hr (by decide : rg (-1 : Int)) dX2_freeNumber_32
    · rw [if_neg ci1] at hF
      refine lv_aload_n hx hb dX2_freeNumber_11 rfl (lv_at hl 0 rfl) ?_
      refine gf_2_0 hx hb hts hown hK hR hv0 wd88 dX2_freeNumber_12 ?_
      refine lv_iload_n hx hb dX2_freeNumber_15 rfl (lv_at hl 1 rfl) ?_
      obtain ⟨hi2, hF⟩ := xk_some hF
      refine x_aldN hx hb hK hR hv0 hv1 hi2 dX2_freeNumber_16 ?_
      have hj3 : (33 * v0 + v1.toNat) < 99 := by have := hv0; omega
      refine gf_1_0 hx hb hts hown hK hR hj3 wd35 dX2_freeNumber_17 ?_
      have hg4 : rg (M 2 (33 * v0 + v1.toNat) 0) := hR.2 2 (33 * v0 + v1.toNat) 0 (by decide)
      refine x_if_ne (tgt := 25) hx hb hg4 dX2_freeNumber_20 (by decide) (fun ci5 => ?_) (fun ci5 => ?_)
      · rw [if_neg ci5] at hF
        obtain ⟨hq6, hF⟩ := xk_some hF
        refine x_iinc (lv' := [(1, .int (jI (v1 + (1 : Int)))), (0, .ref (adr b 1 v0))]) hx hb dX2_freeNumber_25 hl (k := 1) rfl (by decide) rfl (fun ls hl => ?_)
        refine lv_goto (tgt := 2) hx hb dX2_freeNumber_28 (by decide) ?_
        exact ih v0 (v1 + (1 : Int)) hv0 hq6 H locs hR hS ls (lv_sub hl [1, 0] rfl) hF
      · rw [if_pos ci5] at hF
        refine lv_iload_n hx hb dX2_freeNumber_23 rfl (lv_at hl 1 rfl) ?_
        cases hF
        exact x_iret hx hb hlocks hK hR hS hr hv1 dX2_freeNumber_24
def F_X2_freeNumber (M : Mm) (o : Nat) : Option (Int) := (F_X2_freeNumber_2 M  FU o (0 : Int))
set_option maxHeartbeats 4000000 in
set_option maxRecDepth 100000 in
theorem c_X2_freeNumber {l : Launch} {g : Gx} {b : Nat} {M : Mm} {o : Nat} {r : Int} (ho : o < 3) (hF : F_X2_freeNumber M o = some r) : Ct l yX2_freeNumber cX2_freeNumber 2 (some .int) rmX2_freeNumber g b [.ref (adr b 1 o)] M (qI g b r M) := by
  refine ct_of (by decide +kernel) (Nat.le_of_ble_eq_true rfl) ?_
  intro p e s m args below meth c C0 hR ls hl
  obtain ⟨hx, hb, hr, hlocks, hml, hown, hts, hK⟩ := id C0
  have hS : va_S (AA b s.heap.size) s.heap s.heap [] := va_S.rf
  have hl : lv_has ls 2 [(0, .ref (adr b 1 o))] := hl
  obtain ⟨H, hH⟩ : ∃ z, z = s.heap := ⟨_, rfl⟩
  obtain ⟨locs, hlo⟩ : ∃ z : List Loc, z = [] := ⟨_, rfl⟩
  have hR : Rel g b M H := by rw [hH]; exact hR
  have hS : va_S (AA b s.heap.size) s.heap H locs := by rw [hH, hlo]; exact hS
  suffices hW : W p l e rmX2_freeNumber s m args below meth c H locs 0 0 (MQ below (qI g b r M s.heap.size) args s 0 0 (AA b s.heap.size)) (F0 m 0 ls []) by rw [hH, hlo] at hW; exact hW
  rw [F_X2_freeNumber] at hF
  refine x_iconst hx hb dX2_freeNumber_0 ?_
  refine lv_istore_n (lv' := [(1, .int (jI (0 : Int))), (0, .ref (adr b 1 o))]) hx hb dX2_freeNumber_1 rfl hl (by decide) rfl (fun ls hl => ?_)
  exact w_X2_freeNumber_2 C0  FU o (0 : Int) ho (by decide : rg (0 : Int)) H locs hR hS ls (lv_sub hl [1, 0] rfl) hF
abbrev rmX2_attach : Room := { frames := 1, cells := 0, slots := 0, locals := 23 }
theorem hyX2_attach : yX2_attach.cls = RX2 ∧ yX2_attach.cls ≠ "java/lang/invoke/MethodHandle" ∧ yX2_attach.cls ≠ "java/lang/invoke/VarHandle" ∧ (parseMethodDescriptor yX2_attach.desc).map (fun d => d.parameters.length) = some 3 := by decide +kernel
def F_X2_attach (M : Mm) (o : Nat) (a1 : Int) (a2 : Int) (a3 : Int) : Option (Mm) := (xb1 (F_X2_at M o a1) fun y2 => (xb1 (F_X1_insert M y2 a2 a3) fun M6 => (xb1 (F_X2_at M6 o a3) fun y8 => (xk (rg ((M6 2 y8 2) + (1 : Int))) (xl (mup M6 2 y8 2 ((M6 2 y8 2) + (1 : Int))) fun M13 => (if (M13 2 y8 0) = (2 : Int) then (xl (mup M13 2 y8 4 a1) fun M16 => (some M16)) else (some M13)))))))
set_option maxHeartbeats 4000000 in
set_option maxRecDepth 100000 in
theorem c_X2_attach {l : Launch} {g : Gx} {b : Nat} {M : Mm} {o : Nat} {a1 : Int} {a2 : Int} {a3 : Int} {M' : Mm} (ho : o < 3) (ha1 : rg a1) (ha2 : rg a2) (ha3 : rg a3) (hF : F_X2_attach M o a1 a2 a3 = some M') : Ct l yX2_attach cX2_attach 5 none rmX2_attach g b [.ref (adr b 1 o), .int (jI a1), .int (jI a2), .int (jI a3)] M (qV g b M') := by
  refine ct_of (by decide +kernel) (Nat.le_of_ble_eq_true rfl) ?_
  intro p e s m args below meth c C0 hR ls hl
  obtain ⟨hx, hb, hr, hlocks, hml, hown, hts, hK⟩ := id C0
  have hS : va_S (AA b s.heap.size) s.heap s.heap [] := va_S.rf
  have hl : lv_has ls 5 [(0, .ref (adr b 1 o)), (1, .int (jI a1)), (2, .int (jI a2)), (3, .int (jI a3))] := hl
  obtain ⟨H, hH⟩ : ∃ z, z = s.heap := ⟨_, rfl⟩
  obtain ⟨locs, hlo⟩ : ∃ z : List Loc, z = [] := ⟨_, rfl⟩
  have hR : Rel g b M H := by rw [hH]; exact hR
  have hS : va_S (AA b s.heap.size) s.heap H locs := by rw [hH, hlo]; exact hS
  suffices hW : W p l e rmX2_attach s m args below meth c H locs 0 0 (MQ below (qV g b M' s.heap.size) args s 0 0 (AA b s.heap.size)) (F0 m 0 ls []) by rw [hH, hlo] at hW; exact hW
  rw [F_X2_attach] at hF
  refine lv_aload_n hx hb dX2_attach_0 rfl (lv_at hl 0 rfl) ?_
  refine lv_iload_n hx hb dX2_attach_1 rfl (lv_at hl 1 rfl) ?_
  obtain ⟨y2, hc1, hF⟩ := xb1_some hF
  refine x_cVr (C := RX2) (T := TX2) (N := 8) (ci := 2) (As := [.int (jI a1)]) (rest := []) hx hb hml hown hts hK hR hS (c_X2_at ho ha1 hc1) (ok1 ho) rfl rfl wd254 wd255 wd256 wd2 wd257 hyX2_at ⟨rfl, rfl⟩ ⟨Nat.le_of_ble_eq_true rfl, Nat.le_of_ble_eq_true rfl⟩ hl.1 (Nat.le_of_ble_eq_true rfl) dX2_attach_2 ⟨Nat.zero_le _, Nat.zero_le _⟩ rfl (fun hg3 H locs hR hS => ?_)
  have hj4 : y2 < 99 := lt2 hg3
  refine lv_iload_n hx hb dX2_attach_5 rfl (lv_at hl 2 rfl) ?_
  refine lv_iload_n hx hb dX2_attach_6 rfl (lv_at hl 3 rfl) ?_
  obtain ⟨M6, hc5, hF⟩ := xb1_some hF
  refine x_cVv (C := RX1) (T := TX1) (N := 12) (ci := 1) (As := [.int (jI a2), .int (jI a3)]) (rest := []) hx hb hml hown hts hK hR hS (c_X1_insert hj4 ha2 ha3 hc5) (ok2 hj4) rfl rfl wd649 wd650 wd651 wd3 wd652 hyX1_insert ⟨rfl, rfl⟩ ⟨Nat.le_of_ble_eq_true rfl, Nat.le_of_ble_eq_true rfl⟩ hl.1 (Nat.le_of_ble_eq_true rfl) dX2_attach_7 ⟨Nat.zero_le _, Nat.zero_le _⟩ rfl (fun H locs hR hS => ?_)
  refine lv_aload_n hx hb dX2_attach_10 rfl (lv_at hl 0 rfl) ?_
  refine lv_iload_n hx hb dX2_attach_11 rfl (lv_at hl 3 rfl) ?_
  obtain ⟨y8, hc7, hF⟩ := xb1_some hF
  refine x_cVr (C := RX2) (T := TX2) (N := 8) (ci := 2) (As := [.int (jI a3)]) (rest := []) hx hb hml hown hts hK hR hS (c_X2_at ho ha3 hc7) (ok1 ho) rfl rfl wd254 wd255 wd256 wd2 wd257 hyX2_at ⟨rfl, rfl⟩ ⟨Nat.le_of_ble_eq_true rfl, Nat.le_of_ble_eq_true rfl⟩ hl.1 (Nat.le_of_ble_eq_true rfl) dX2_attach_12 ⟨Nat.zero_le _, Nat.zero_le _⟩ rfl (fun hg9 H locs hR hS => ?_)
  have hj10 : y8 < 99 := lt2 hg9
  refine lv_astore (lv' := [(4, .ref (adr b 2 y8)), (0, .ref (adr b 1 o)), (1, .int (jI a1)), (2, .int (jI a2)), (3, .int (jI a3))]) hx hb dX2_attach_15 hl (by decide) rfl (fun ls hl => ?_)
  refine lv_aload hx hb dX2_attach_17 (lv_at hl 0 rfl) ?_
  refine lv_dup hx hb dX2_attach_19 rfl ?_
  refine gf_1_2 hx hb hts hown hK hR hj10 wd42 dX2_attach_20 ?_
  have hg11 : rg (M6 2 y8 2) := hR.2 2 y8 2 (by decide)
  refine x_iconst hx hb dX2_attach_23 ?_
  obtain ⟨hq12, hF⟩ := xk_some hF
  refine x_iadd hx hb dX2_attach_24 ?_
  refine pf_1_2 hx hb hts hown hK hR hS hj10 hq12 wd42 dX2_attach_25 (fun H locs hR hS => ?_)
  obtain ⟨M13, eM, hF⟩ := xl_some hF
  rw [eM] at hR
  clear eM
  refine lv_aload hx hb dX2_attach_28 (lv_at hl 0 rfl) ?_
  refine gf_1_0 hx hb hts hown hK hR hj10 wd35 dX2_attach_30 ?_
  have hg14 : rg (M13 2 y8 0) := hR.2 2 y8 0 (by decide)
  refine x_iconst hx hb dX2_attach_33 ?_
  refine x_icmp_ne (tgt := 43) hx hb hg14 (by decide : rg (2 : Int)) dX2_attach_34 (by decide) (fun ci15 => ?_) (fun ci15 => ?_)
  · rw [if_neg ci15] at hF
    cases hF
    exact x_vret hx hb hlocks hK hR hS hr dX2_attach_43
  · rw [if_pos ci15] at hF
    refine lv_aload hx hb dX2_attach_37 (lv_at hl 0 rfl) ?_
    refine lv_iload_n hx hb dX2_attach_39 rfl (lv_at hl 2 rfl) ?_
    refine pf_1_4 hx hb hts hown hK hR hS hj10 ha1 wd47 dX2_attach_40 (fun H locs hR hS => ?_)
    obtain ⟨M16, eM, hF⟩ := xl_some hF
    rw [eM] at hR
    clear eM
    cases hF
    exact x_vret hx hb hlocks hK hR hS hr dX2_attach_43
abbrev rmX2_make : Room := { frames := 2, cells := 0, slots := 0, locals := 47 }
theorem hyX2_make : yX2_make.cls = RX2 ∧ yX2_make.cls ≠ "java/lang/invoke/MethodHandle" ∧ yX2_make.cls ≠ "java/lang/invoke/VarHandle" ∧ (parseMethodDescriptor yX2_make.desc).map (fun d => d.parameters.length) = some 3 := by decide +kernel
def F_X2_make (M : Mm) (o : Nat) (a1 : Int) (a2 : Int) (a3 : Int) : Option (Int × Mm) := (xb1 (F_X2_freeNumber M o) fun y2 => (xb1 (F_X2_at M o y2) fun y5 => (xb1 (F_X2_at M o a2) fun y9 => (xb1 (F_X1_become M y5 a1 (M 2 y9 1)) fun M14 => (xb1 (F_X2_attach M14 o a2 a3 y2) fun M16 => (some (y2, M16)))))))
set_option maxHeartbeats 4000000 in
set_option maxRecDepth 100000 in
theorem c_X2_make {l : Launch} {g : Gx} {b : Nat} {M : Mm} {o : Nat} {a1 : Int} {a2 : Int} {a3 : Int} {r : Int} {M' : Mm} (ho : o < 3) (ha1 : rg a1) (ha2 : rg a2) (ha3 : rg a3) (hF : F_X2_make M o a1 a2 a3 = some (r, M')) : Ct l yX2_make cX2_make 5 (some .int) rmX2_make g b [.ref (adr b 1 o), .int (jI a1), .int (jI a2), .int (jI a3)] M (qI g b r M') := by
  refine ct_of (by decide +kernel) (Nat.le_of_ble_eq_true rfl) ?_
  intro p e s m args below meth c C0 hR ls hl
  obtain ⟨hx, hb, hr, hlocks, hml, hown, hts, hK⟩ := id C0
  have hS : va_S (AA b s.heap.size) s.heap s.heap [] := va_S.rf
  have hl : lv_has ls 5 [(0, .ref (adr b 1 o)), (1, .int (jI a1)), (2, .int (jI a2)), (3, .int (jI a3))] := hl
  obtain ⟨H, hH⟩ : ∃ z, z = s.heap := ⟨_, rfl⟩
  obtain ⟨locs, hlo⟩ : ∃ z : List Loc, z = [] := ⟨_, rfl⟩
  have hR : Rel g b M H := by rw [hH]; exact hR
  have hS : va_S (AA b s.heap.size) s.heap H locs := by rw [hH, hlo]; exact hS
  suffices hW : W p l e rmX2_make s m args below meth c H locs 0 0 (MQ below (qI g b r M' s.heap.size) args s 0 0 (AA b s.heap.size)) (F0 m 0 ls []) by rw [hH, hlo] at hW; exact hW
  rw [F_X2_make] at hF
  refine lv_aload_n hx hb dX2_make_0 rfl (lv_at hl 0 rfl) ?_
  obtain ⟨y2, hc1, hF⟩ := xb1_some hF
  refine x_cVi (C := RX2) (T := TX2) (N := 8) (ci := 2) (As := []) (rest := []) hx hb hml hown hts hK hR hS (c_X2_freeNumber ho hc1) (ok1 ho) rfl rfl wd641 wd642 wd643 wd2 wd644 hyX2_freeNumber ⟨rfl, rfl⟩ ⟨Nat.le_of_ble_eq_true rfl, Nat.le_of_ble_eq_true rfl⟩ hl.1 (Nat.le_of_ble_eq_true rfl) dX2_make_1 ⟨Nat.zero_le _, Nat.zero_le _⟩ rfl (fun hg3 H locs hR hS => ?_)
  refine lv_istore (lv' := [(4, .int (jI y2)), (0, .ref (adr b 1 o)), (1, .int (jI a1)), (2, .int (jI a2)), (3, .int (jI a3))]) hx hb dX2_make_4 hl (by decide) rfl (fun ls hl => ?_)
  refine lv_aload_n hx hb dX2_make_6 rfl (lv_at hl 1 rfl) ?_
  refine lv_iload hx hb dX2_make_7 (lv_at hl 0 rfl) ?_
  obtain ⟨y5, hc4, hF⟩ := xb1_some hF
  refine x_cVr (C := RX2) (T := TX2) (N := 8) (ci := 2) (As := [.int (jI y2)]) (rest := []) hx hb hml hown hts hK hR hS (c_X2_at ho hg3 hc4) (ok1 ho) rfl rfl wd254 wd255 wd256 wd2 wd257 hyX2_at ⟨rfl, rfl⟩ ⟨Nat.le_of_ble_eq_true rfl, Nat.le_of_ble_eq_true rfl⟩ hl.1 (Nat.le_of_ble_eq_true rfl) dX2_make_9 ⟨Nat.zero_le _, Nat.zero_le _⟩ rfl (fun hg6 H locs hR hS => ?_)
  have hj7 : y5 < 99 := lt2 hg6
  refine lv_iload_n hx hb dX2_make_12 rfl (lv_at hl 2 rfl) ?_
  refine lv_aload_n hx hb dX2_make_13 rfl (lv_at hl 1 rfl) ?_
  refine lv_iload_n hx hb dX2_make_14 rfl (lv_at hl 3 rfl) ?_
  obtain ⟨y9, hc8, hF⟩ := xb1_some hF
  refine x_cVr (C := RX2) (T := TX2) (N := 8) (ci := 2) (As := [.int (jI a2)]) (rest := [.int (jI a1), .ref (adr b 2 y5)]) hx hb hml hown hts hK hR hS (c_X2_at ho ha2 hc8) (ok1 ho) rfl rfl wd254 wd255 wd256 wd2 wd257 hyX2_at ⟨rfl, rfl⟩ ⟨Nat.le_of_ble_eq_true rfl, Nat.le_of_ble_eq_true rfl⟩ hl.1 (Nat.le_of_ble_eq_true rfl) dX2_make_15 ⟨Nat.zero_le _, Nat.zero_le _⟩ rfl (fun hg10 H locs hR hS => ?_)
  have hj11 : y9 < 99 := lt2 hg10
  refine gf_1_1 hx hb hts hown hK hR hj11 wd38 dX2_make_18 ?_
  have hg12 : rg (M 2 y9 1) := hR.2 2 y9 1 (by decide)
  obtain ⟨M14, hc13, hF⟩ := xb1_some hF
  refine x_cVv (C := RX1) (T := TX1) (N := 12) (ci := 1) (As := [.int (jI a1), .int (jI (M 2 y9 1))]) (rest := []) hx hb hml hown hts hK hR hS (c_X1_become hj7 ha1 hg12 hc13) (ok2 hj7) rfl rfl wd317 wd318 wd319 wd3 wd320 hyX1_become ⟨rfl, rfl⟩ ⟨Nat.le_of_ble_eq_true rfl, Nat.le_of_ble_eq_true rfl⟩ hl.1 (Nat.le_of_ble_eq_true rfl) dX2_make_21 ⟨Nat.zero_le _, Nat.zero_le _⟩ rfl (fun H locs hR hS => ?_)
  refine lv_aload_n hx hb dX2_make_24 rfl (lv_at hl 1 rfl) ?_
  refine lv_iload_n hx hb dX2_make_25 rfl (lv_at hl 3 rfl) ?_
  refine lv_iload_n hx hb dX2_make_26 rfl (lv_at hl 4 rfl) ?_
  refine lv_iload hx hb dX2_make_27 (lv_at hl 0 rfl) ?_
  obtain ⟨M16, hc15, hF⟩ := xb1_some hF
  refine x_cVv (C := RX2) (T := TX2) (N := 8) (ci := 2) (As := [.int (jI a2), .int (jI a3), .int (jI y2)]) (rest := []) hx hb hml hown hts hK hR hS (c_X2_attach ho ha2 ha3 hg3 hc15) (ok1 ho) rfl rfl wd645 wd646 wd647 wd2 wd648 hyX2_attach ⟨rfl, rfl⟩ ⟨Nat.le_of_ble_eq_true rfl, Nat.le_of_ble_eq_true rfl⟩ hl.1 (Nat.le_of_ble_eq_true rfl) dX2_make_29 ⟨Nat.zero_le _, Nat.zero_le _⟩ rfl (fun H locs hR hS => ?_)
  refine lv_iload hx hb dX2_make_32 (lv_at hl 0 rfl) ?_
  cases hF
  exact x_iret hx hb hlocks hK hR hS hr hg3 dX2_make_34
abbrev rmX2_detach : Room := { frames := 1, cells := 0, slots := 0, locals := 22 }
theorem hyX2_detach : yX2_detach.cls = RX2 ∧ yX2_detach.cls ≠ "java/lang/invoke/MethodHandle" ∧ yX2_detach.cls ≠ "java/lang/invoke/VarHandle" ∧ (parseMethodDescriptor yX2_detach.desc).map (fun d => d.parameters.length) = some 2 := by decide +kernel
def F_X2_detach (M : Mm) (o : Nat) (a1 : Int) (a2 : Int) : Option (Int × Mm) := (xb1 (F_X2_at M o a1) fun y2 => (xb1 (F_X1_slotOf M y2 a2) fun y6 => (xb1 (F_X1_nodeIn M y2 y6) fun y9 => (if y9 = (-1 : Int) then (some (y9, M)) else (xb1 (F_X1_takeOut M y2 y6) fun M13 => (xb1 (F_X2_at M13 o y9) fun y15 => (xk (rg ((M13 2 y15 2) - (1 : Int))) (xl (mup M13 2 y15 2 ((M13 2 y15 2) - (1 : Int))) fun M20 => (some (y9, M20))))))))))
set_option maxHeartbeats 4000000 in
set_option maxRecDepth 100000 in
theorem c_X2_detach {l : Launch} {g : Gx} {b : Nat} {M : Mm} {o : Nat} {a1 : Int} {a2 : Int} {r : Int} {M' : Mm} (ho : o < 3) (ha1 : rg a1) (ha2 : rg a2) (hF : F_X2_detach M o a1 a2 = some (r, M')) : Ct l yX2_detach cX2_detach 6 (some .int) rmX2_detach g b [.ref (adr b 1 o), .int (jI a1), .int (jI a2)] M (qI g b r M') := by
  refine ct_of (by decide +kernel) (Nat.le_of_ble_eq_true rfl) ?_
  intro p e s m args below meth c C0 hR ls hl
  obtain ⟨hx, hb, hr, hlocks, hml, hown, hts, hK⟩ := id C0
  have hS : va_S (AA b s.heap.size) s.heap s.heap [] := va_S.rf
  have hl : lv_has ls 6 [(0, .ref (adr b 1 o)), (1, .int (jI a1)), (2, .int (jI a2))] := hl
  obtain ⟨H, hH⟩ : ∃ z, z = s.heap := ⟨_, rfl⟩
  obtain ⟨locs, hlo⟩ : ∃ z : List Loc, z = [] := ⟨_, rfl⟩
  have hR : Rel g b M H := by rw [hH]; exact hR
  have hS : va_S (AA b s.heap.size) s.heap H locs := by rw [hH, hlo]; exact hS
  suffices hW : W p l e rmX2_detach s m args below meth c H locs 0 0 (MQ below (qI g b r M' s.heap.size) args s 0 0 (AA b s.heap.size)) (F0 m 0 ls []) by rw [hH, hlo] at hW; exact hW
  rw [F_X2_detach] at hF
  refine lv_aload_n hx hb dX2_detach_0 rfl (lv_at hl 0 rfl) ?_
  refine lv_iload_n hx hb dX2_detach_1 rfl (lv_at hl 1 rfl) ?_
  obtain ⟨y2, hc1, hF⟩ := xb1_some hF
  refine x_cVr (C := RX2) (T := TX2) (N := 8) (ci := 2) (As := [.int (jI a1)]) (rest := []) hx hb hml hown hts hK hR hS (c_X2_at ho ha1 hc1) (ok1 ho) rfl rfl wd254 wd255 wd256 wd2 wd257 hyX2_at ⟨rfl, rfl⟩ ⟨Nat.le_of_ble_eq_true rfl, Nat.le_of_ble_eq_true rfl⟩ hl.1 (Nat.le_of_ble_eq_true rfl) dX2_detach_2 ⟨Nat.zero_le _, Nat.zero_le _⟩ rfl (fun hg3 H locs hR hS => ?_)
  have hj4 : y2 < 99 := lt2 hg3
  refine lv_astore_n (lv' := [(3, .ref (adr b 2 y2)), (0, .ref (adr b 1 o)), (1, .int (jI a1)), (2, .int (jI a2))]) hx hb dX2_detach_5 rfl hl (by decide) rfl (fun ls hl => ?_)
  refine lv_aload_n hx hb dX2_detach_6 rfl (lv_at hl 0 rfl) ?_
  refine lv_iload_n hx hb dX2_detach_7 rfl (lv_at hl 3 rfl) ?_
  obtain ⟨y6, hc5, hF⟩ := xb1_some hF
  refine x_cVi (C := RX1) (T := TX1) (N := 12) (ci := 1) (As := [.int (jI a2)]) (rest := []) hx hb hml hown hts hK hR hS (c_X1_slotOf hj4 ha2 hc5) (ok2 hj4) rfl rfl wd695 wd565 wd566 wd3 wd567 hyX1_slotOf ⟨rfl, rfl⟩ ⟨Nat.le_of_ble_eq_true rfl, Nat.le_of_ble_eq_true rfl⟩ hl.1 (Nat.le_of_ble_eq_true rfl) dX2_detach_8 ⟨Nat.zero_le _, Nat.zero_le _⟩ rfl (fun hg7 H locs hR hS => ?_)
  refine lv_istore (lv' := [(4, .int (jI y6)), (3, .ref (adr b 2 y2)), (0, .ref (adr b 1 o)), (1, .int (jI a1)), (2, .int (jI a2))]) hx hb dX2_detach_11 hl (by decide) rfl (fun ls hl => ?_)
  refine lv_aload_n hx hb dX2_detach_13 rfl (lv_at hl 1 rfl) ?_
  refine lv_iload hx hb dX2_detach_14 (lv_at hl 0 rfl) ?_
  obtain ⟨y9, hc8, hF⟩ := xb1_some hF
  refine x_cVi (C := RX1) (T := TX1) (N := 12) (ci := 1) (As := [.int (jI y6)]) (rest := []) hx hb hml hown hts hK hR hS (c_X1_nodeIn hj4 hg7 hc8) (ok2 hj4) rfl rfl wd520 wd521 wd522 wd3 wd523 hyX1_nodeIn ⟨rfl, rfl⟩ ⟨Nat.le_of_ble_eq_true rfl, Nat.le_of_ble_eq_true rfl⟩ hl.1 (Nat.le_of_ble_eq_true rfl) dX2_detach_16 ⟨Nat.zero_le _, Nat.zero_le _⟩ rfl (fun hg10 H locs hR hS => ?_)
  refine lv_istore (lv' := [(5, .int (jI y9)), (4, .int (jI y6)), (3, .ref (adr b 2 y2)), (0, .ref (adr b 1 o)), (1, .int (jI a1)), (2, .int (jI a2))]) hx hb dX2_detach_19 hl (by decide) rfl (fun ls hl => ?_)
  refine lv_iload hx hb dX2_detach_21 (lv_at hl 0 rfl) ?_
  refine x_iconst hx hb dX2_detach_23 ?_
  refine x_icmp_eq (tgt := 48) hx hb hg10 (by decide : rg (-1 : Int)) dX2_detach_24 (by decide) (fun ci11 => ?_) (fun ci11 => ?_)
  · rw [if_pos ci11] at hF
    refine lv_iload hx hb dX2_detach_48 (lv_at hl 0 rfl) ?_
    cases hF
    exact x_iret hx hb hlocks hK hR hS hr hg10 dX2_detach_50
  · rw [if_neg ci11] at hF
    refine lv_aload_n hx hb dX2_detach_27 rfl (lv_at hl 2 rfl) ?_
    refine lv_iload hx hb dX2_detach_28 (lv_at hl 1 rfl) ?_
    obtain ⟨M13, hc12, hF⟩ := xb1_some hF
    refine x_cVv (C := RX1) (T := TX1) (N := 12) (ci := 1) (As := [.int (jI y6)]) (rest := []) hx hb hml hown hts hK hR hS (c_X1_takeOut hj4 hg7 hc12) (ok2 hj4) rfl rfl wd696 wd697 wd698 wd3 wd699 hyX1_takeOut ⟨rfl, rfl⟩ ⟨Nat.le_of_ble_eq_true rfl, Nat.le_of_ble_eq_true rfl⟩ hl.1 (Nat.le_of_ble_eq_true rfl) dX2_detach_30 ⟨Nat.zero_le _, Nat.zero_le _⟩ rfl (fun H locs hR hS => ?_)
    refine lv_aload_n hx hb dX2_detach_33 rfl (lv_at hl 3 rfl) ?_
    refine lv_iload hx hb dX2_detach_34 (lv_at hl 0 rfl) ?_
    obtain ⟨y15, hc14, hF⟩ := xb1_some hF
    refine x_cVr (C := RX2) (T := TX2) (N := 8) (ci := 2) (As := [.int (jI y9)]) (rest := []) hx hb hml hown hts hK hR hS (c_X2_at ho hg10 hc14) (ok1 ho) rfl rfl wd254 wd255 wd256 wd2 wd257 hyX2_at ⟨rfl, rfl⟩ ⟨Nat.le_of_ble_eq_true rfl, Nat.le_of_ble_eq_true rfl⟩ hl.1 (Nat.le_of_ble_eq_true rfl) dX2_detach_36 ⟨Nat.zero_le _, Nat.zero_le _⟩ rfl (fun hg16 H locs hR hS => ?_)
    have hj17 : y15 < 99 := lt2 hg16
    refine lv_dup hx hb dX2_detach_39 rfl ?_
    refine gf_1_2 hx hb hts hown hK hR hj17 wd42 dX2_detach_40 ?_
    have hg18 : rg (M13 2 y15 2) := hR.2 2 y15 2 (by decide)
    refine x_iconst hx hb dX2_detach_43 ?_
    obtain ⟨hq19, hF⟩ := xk_some hF
    refine x_isub hx hb dX2_detach_44 ?_
    refine pf_1_2 hx hb hts hown hK hR hS hj17 hq19 wd42 dX2_detach_45 (fun H locs hR hS => ?_)
    obtain ⟨M20, eM, hF⟩ := xl_some hF
    rw [eM] at hR
    clear eM
    refine lv_iload hx hb dX2_detach_48 (lv_at hl 0 rfl) ?_
    cases hF
    exact x_iret hx hb hlocks hK hR hS hr hg10 dX2_detach_50
abbrev rmX2_turn : Room := { frames := 1, cells := 0, slots := 0, locals := 22 }
theorem hyX2_turn : yX2_turn.cls = RX2 ∧ yX2_turn.cls ≠ "java/lang/invoke/MethodHandle" ∧ yX2_turn.cls ≠ "java/lang/invoke/VarHandle" ∧ (parseMethodDescriptor yX2_turn.desc).map (fun d => d.parameters.length) = some 3 := by decide +kernel
def F_X2_turn (M : Mm) (o : Nat) (a1 : Int) (a2 : Int) (a3 : Int) : Option (Mm) := (xb1 (F_X2_at M o a1) fun y2 => (xb1 (F_X1_slotOf M y2 a2) fun y6 => (xb1 (F_X1_turnSlot M y2 y6 a3) fun M9 => (xb1 (F_X2_at M9 o a3) fun y11 => (if (M9 2 y11 0) = (2 : Int) then (xb1 (F_X2_at M9 o a3) fun y17 => (xl (mup M9 2 y17 4 a1) fun M20 => (some M20))) else (some M9))))))
set_option maxHeartbeats 4000000 in
set_option maxRecDepth 100000 in
theorem c_X2_turn {l : Launch} {g : Gx} {b : Nat} {M : Mm} {o : Nat} {a1 : Int} {a2 : Int} {a3 : Int} {M' : Mm} (ho : o < 3) (ha1 : rg a1) (ha2 : rg a2) (ha3 : rg a3) (hF : F_X2_turn M o a1 a2 a3 = some M') : Ct l yX2_turn cX2_turn 5 none rmX2_turn g b [.ref (adr b 1 o), .int (jI a1), .int (jI a2), .int (jI a3)] M (qV g b M') := by
  refine ct_of (by decide +kernel) (Nat.le_of_ble_eq_true rfl) ?_
  intro p e s m args below meth c C0 hR ls hl
  obtain ⟨hx, hb, hr, hlocks, hml, hown, hts, hK⟩ := id C0
  have hS : va_S (AA b s.heap.size) s.heap s.heap [] := va_S.rf
  have hl : lv_has ls 5 [(0, .ref (adr b 1 o)), (1, .int (jI a1)), (2, .int (jI a2)), (3, .int (jI a3))] := hl
  obtain ⟨H, hH⟩ : ∃ z, z = s.heap := ⟨_, rfl⟩
  obtain ⟨locs, hlo⟩ : ∃ z : List Loc, z = [] := ⟨_, rfl⟩
  have hR : Rel g b M H := by rw [hH]; exact hR
  have hS : va_S (AA b s.heap.size) s.heap H locs := by rw [hH, hlo]; exact hS
  suffices hW : W p l e rmX2_turn s m args below meth c H locs 0 0 (MQ below (qV g b M' s.heap.size) args s 0 0 (AA b s.heap.size)) (F0 m 0 ls []) by rw [hH, hlo] at hW; exact hW
  rw [F_X2_turn] at hF
  refine lv_aload_n hx hb dX2_turn_0 rfl (lv_at hl 0 rfl) ?_
  refine lv_iload_n hx hb dX2_turn_1 rfl (lv_at hl 1 rfl) ?_
  obtain ⟨y2, hc1, hF⟩ := xb1_some hF
  refine x_cVr (C := RX2) (T := TX2) (N := 8) (ci := 2) (As := [.int (jI a1)]) (rest := []) hx hb hml hown hts hK hR hS (c_X2_at ho ha1 hc1) (ok1 ho) rfl rfl wd254 wd255 wd256 wd2 wd257 hyX2_at ⟨rfl, rfl⟩ ⟨Nat.le_of_ble_eq_true rfl, Nat.le_of_ble_eq_true rfl⟩ hl.1 (Nat.le_of_ble_eq_true rfl) dX2_turn_2 ⟨Nat.zero_le _, Nat.zero_le _⟩ rfl (fun hg3 H locs hR hS => ?_)
  have hj4 : y2 < 99 := lt2 hg3
  refine lv_astore (lv' := [(4, .ref (adr b 2 y2)), (0, .ref (adr b 1 o)), (1, .int (jI a1)), (2, .int (jI a2)), (3, .int (jI a3))]) hx hb dX2_turn_5 hl (by decide) rfl (fun ls hl => ?_)
  refine lv_aload hx hb dX2_turn_7 (lv_at hl 0 rfl) ?_
  refine lv_aload hx hb dX2_turn_9 (lv_at hl 0 rfl) ?_
  refine lv_iload_n hx hb dX2_turn_11 rfl (lv_at hl 3 rfl) ?_
  obtain ⟨y6, hc5, hF⟩ := xb1_some hF
  refine x_cVi (C := RX1) (T := TX1) (N := 12) (ci := 1) (As := [.int (jI a2)]) (rest := [.ref (adr b 2 y2)]) hx hb hml hown hts hK hR hS (c_X1_slotOf hj4 ha2 hc5) (ok2 hj4) rfl rfl wd695 wd565 wd566 wd3 wd567 hyX1_slotOf ⟨rfl, rfl⟩ ⟨Nat.le_of_ble_eq_true rfl, Nat.le_of_ble_eq_true rfl⟩ hl.1 (Nat.le_of_ble_eq_true rfl) dX2_turn_12 ⟨Nat.zero_le _, Nat.zero_le _⟩ rfl (fun hg7 H locs hR hS => ?_)
  refine lv_iload_n hx hb dX2_turn_15 rfl (lv_at hl 4 rfl) ?_
  obtain ⟨M9, hc8, hF⟩ := xb1_some hF
  refine x_cVv (C := RX1) (T := TX1) (N := 12) (ci := 1) (As := [.int (jI y6), .int (jI a3)]) (rest := []) hx hb hml hown hts hK hR hS (c_X1_turnSlot hj4 hg7 ha3 hc8) (ok2 hj4) rfl rfl wd733 wd734 wd735 wd3 wd736 hyX1_turnSlot ⟨rfl, rfl⟩ ⟨Nat.le_of_ble_eq_true rfl, Nat.le_of_ble_eq_true rfl⟩ hl.1 (Nat.le_of_ble_eq_true rfl) dX2_turn_16 ⟨Nat.zero_le _, Nat.zero_le _⟩ rfl (fun H locs hR hS => ?_)
  refine lv_aload_n hx hb dX2_turn_19 rfl (lv_at hl 1 rfl) ?_
  refine lv_iload_n hx hb dX2_turn_20 rfl (lv_at hl 4 rfl) ?_
  obtain ⟨y11, hc10, hF⟩ := xb1_some hF
  refine x_cVr (C := RX2) (T := TX2) (N := 8) (ci := 2) (As := [.int (jI a3)]) (rest := []) hx hb hml hown hts hK hR hS (c_X2_at ho ha3 hc10) (ok1 ho) rfl rfl wd254 wd255 wd256 wd2 wd257 hyX2_at ⟨rfl, rfl⟩ ⟨Nat.le_of_ble_eq_true rfl, Nat.le_of_ble_eq_true rfl⟩ hl.1 (Nat.le_of_ble_eq_true rfl) dX2_turn_21 ⟨Nat.zero_le _, Nat.zero_le _⟩ rfl (fun hg12 H locs hR hS => ?_)
  have hj13 : y11 < 99 := lt2 hg12
  refine gf_1_0 hx hb hts hown hK hR hj13 wd35 dX2_turn_24 ?_
  have hg14 : rg (M9 2 y11 0) := hR.2 2 y11 0 (by decide)
  refine x_iconst hx hb dX2_turn_27 ?_
  refine x_icmp_ne (tgt := 40) hx hb hg14 (by decide : rg (2 : Int)) dX2_turn_28 (by decide) (fun ci15 => ?_) (fun ci15 => ?_)
  · rw [if_neg ci15] at hF
    cases hF
    exact x_vret hx hb hlocks hK hR hS hr dX2_turn_40
  · rw [if_pos ci15] at hF
    refine lv_aload_n hx hb dX2_turn_31 rfl (lv_at hl 1 rfl) ?_
    refine lv_iload_n hx hb dX2_turn_32 rfl (lv_at hl 4 rfl) ?_
    obtain ⟨y17, hc16, hF⟩ := xb1_some hF
    refine x_cVr (C := RX2) (T := TX2) (N := 8) (ci := 2) (As := [.int (jI a3)]) (rest := []) hx hb hml hown hts hK hR hS (c_X2_at ho ha3 hc16) (ok1 ho) rfl rfl wd254 wd255 wd256 wd2 wd257 hyX2_at ⟨rfl, rfl⟩ ⟨Nat.le_of_ble_eq_true rfl, Nat.le_of_ble_eq_true rfl⟩ hl.1 (Nat.le_of_ble_eq_true rfl) dX2_turn_33 ⟨Nat.zero_le _, Nat.zero_le _⟩ rfl (fun hg18 H locs hR hS => ?_)
    have hj19 : y17 < 99 := lt2 hg18
    refine lv_iload_n hx hb dX2_turn_36 rfl (lv_at hl 2 rfl) ?_
    refine pf_1_4 hx hb hts hown hK hR hS hj19 ha1 wd47 dX2_turn_37 (fun H locs hR hS => ?_)
    obtain ⟨M20, eM, hF⟩ := xl_some hF
    rw [eM] at hR
    clear eM
    cases hF
    exact x_vret hx hb hlocks hK hR hS hr dX2_turn_40
abbrev rmX2_isBlock : Room := { frames := 0, cells := 0, slots := 0, locals := 0 }
theorem hyX2_isBlock : yX2_isBlock.cls ≠ "java/lang/invoke/MethodHandle" ∧ yX2_isBlock.cls ≠ "java/lang/invoke/VarHandle" ∧ (parseMethodDescriptor yX2_isBlock.desc).map (fun d => d.parameters.length) = some 1 := by decide +kernel
def F_X2_isBlock (M : Mm) (a1 : Int) : Option (Int) := (if a1 ≤ 0 then (some (0 : Int)) else (if (128 : Int) ≤ a1 then (some (0 : Int)) else (some (1 : Int))))
set_option maxHeartbeats 4000000 in
set_option maxRecDepth 100000 in
theorem c_X2_isBlock {l : Launch} {g : Gx} {b : Nat} {M : Mm} {a1 : Int} {r : Int} (ha1 : rg a1) (hF : F_X2_isBlock M a1 = some r) : Ct l yX2_isBlock cX2_isBlock 1 (some .boolean) rmX2_isBlock g b [.int (jI a1)] M (qI g b r M) := by
  refine ct_of (by decide +kernel) (Nat.le_of_ble_eq_true rfl) ?_
  intro p e s m args below meth c C0 hR ls hl
  obtain ⟨hx, hb, hr, hlocks, hml, hown, hts, hK⟩ := id C0
  have hS : va_S (AA b s.heap.size) s.heap s.heap [] := va_S.rf
  have hl : lv_has ls 1 [(0, .int (jI a1))] := hl
  obtain ⟨H, hH⟩ : ∃ z, z = s.heap := ⟨_, rfl⟩
  obtain ⟨locs, hlo⟩ : ∃ z : List Loc, z = [] := ⟨_, rfl⟩
  have hR : Rel g b M H := by rw [hH]; exact hR
  have hS : va_S (AA b s.heap.size) s.heap H locs := by rw [hH, hlo]; exact hS
  suffices hW : W p l e rmX2_isBlock s m args below meth c H locs 0 0 (MQ below (qI g b r M s.heap.size) args s 0 0 (AA b s.heap.size)) (F0 m 0 ls []) by rw [hH, hlo] at hW; exact hW
  rw [F_X2_isBlock] at hF
  refine lv_iload_n hx hb dX2_isBlock_0 rfl (lv_at hl 0 rfl) ?_
  refine x_if_le (tgt := 15) hx hb ha1 dX2_isBlock_1 (by decide) (fun ci1 => ?_) (fun ci1 => ?_)
  · rw [if_pos ci1] at hF
    refine x_iconst hx hb dX2_isBlock_15 ?_
    cases hF
    exact x_zret hx hb hlocks hK hR hS hr (by decide) dX2_isBlock_16
  · rw [if_neg ci1] at hF
    refine lv_iload_n hx hb dX2_isBlock_4 rfl (lv_at hl 0 rfl) ?_
    refine x_sipush hx hb (by decide +kernel) dX2_isBlock_5 ?_
    refine x_icmp_ge (tgt := 15) hx hb ha1 (by decide : rg (128 : Int)) dX2_isBlock_8 (by decide) (fun ci2 => ?_) (fun ci2 => ?_)
    · rw [if_pos ci2] at hF
      refine x_iconst hx hb dX2_isBlock_15 ?_
      cases hF
      exact x_zret hx hb hlocks hK hR hS hr (by decide) dX2_isBlock_16
    · rw [if_neg ci2] at hF
      refine x_iconst hx hb dX2_isBlock_11 ?_
      refine lv_goto (tgt := 16) hx hb dX2_isBlock_12 (by decide) ?_
      cases hF
      exact x_zret hx hb hlocks hK hR hS hr (by decide) dX2_isBlock_16
abbrev rmX2_put : Room := { frames := 1, cells := 0, slots := 0, locals := 21 }
theorem hyX2_put : yX2_put.cls = RX2 ∧ yX2_put.cls ≠ "java/lang/invoke/MethodHandle" ∧ yX2_put.cls ≠ "java/lang/invoke/VarHandle" ∧ (parseMethodDescriptor yX2_put.desc).map (fun d => d.parameters.length) = some 3 := by decide +kernel
def F_X2_put_46  (M : Mm) (v0 : Nat) (v1 : Nat) (v2 : Int) (v3 : Int) : Option (Mm) := (xb1 (F_X2_isBlock M v3) fun y2 => (if y2 = 0 then (xk (0 ≤ v2 ∧ v2 < 20) (xl (mup M 5 v1 v2.toNat v3) fun M6 => (some M6))) else (xk (0 ≤ v3 ∧ v3 < 128) (xk (rg ((M 8 v0 v3.toNat) + (1 : Int))) (xk (0 ≤ v3 ∧ v3 < 128) (xl (mup M 8 v0 v3.toNat ((M 8 v0 v3.toNat) + (1 : Int))) fun M11 => (xk (0 ≤ v2 ∧ v2 < 20) (xl (mup M11 5 v1 v2.toNat v3) fun M13 => (some M13)))))))))
set_option maxHeartbeats 4000000 in
set_option maxRecDepth 100000 in
theorem w_X2_put_46 {p : Program} {l : Launch} {e : Env} {s : State} {m : MethodId} {args : Array Value} {below : List Frame} {meth : Method} {c : Code} {g : Gx} {b : Nat} (C0 : XA p s m meth c args RX2 cX2_put 5 none g) {M' : Mm} : ∀ (M : Mm) (v0 : Nat) (v1 : Nat) (v2 : Int) (v3 : Int) (hv0 : v0 < 3) (hv1 : v1 < 99) (hv2 : rg v2) (hv3 : rg v3) (H : Heap) (locs : List Loc), Rel g b M H → va_S (AA b s.heap.size) s.heap H locs → ∀ ls : Array Slot, lv_has ls 5 [(0, .ref (adr b 1 v0)), (1, .ref (adr b 2 v1)), (2, .int (jI v2)), (3, .int (jI v3))] → F_X2_put_46  M v0 v1 v2 v3 = some M' → W p l e rmX2_put s m args below meth c H locs 0 0 (MQ below (qV g b M' s.heap.size) args s 0 0 (AA b s.heap.size)) (F0 m 46 ls []) := by
  obtain ⟨hx, hb, hr, hlocks, hml, hown, hts, hK⟩ := id C0
  intro M v0 v1 v2 v3 hv0 hv1 hv2 hv3 H locs hR hS ls hl hF
  rw [F_X2_put_46] at hF
  refine lv_iload_n hx hb dX2_put_46 rfl (lv_at hl 3 rfl) ?_
  obtain ⟨y2, hc1, hF⟩ := xb1_some hF
  refine x_cSi (As := [.int (jI v3)]) (rest := []) hx hb hml hown hts hK hR hS (c_X2_isBlock hv3 hc1) wd314 wd315 wd2 wd316 hyX2_isBlock ⟨rfl, rfl⟩ ⟨Nat.le_of_ble_eq_true rfl, Nat.le_of_ble_eq_true rfl⟩ hl.1 (Nat.le_of_ble_eq_true rfl) dX2_put_47 ⟨Nat.zero_le _, Nat.zero_le _⟩ rfl (fun hg3 H locs hR hS => ?_)
  refine x_if_eq (tgt := 63) hx hb hg3 dX2_put_50 (by decide) (fun ci4 => ?_) (fun ci4 => ?_)
  · rw [if_pos ci4] at hF
    refine lv_aload_n hx hb dX2_put_63 rfl (lv_at hl 1 rfl) ?_
    refine gf_1_11 hx hb hts hown hK hR hv1 wd61 dX2_put_64 ?_
    refine lv_iload_n hx hb dX2_put_67 rfl (lv_at hl 2 rfl) ?_
    refine lv_iload_n hx hb dX2_put_68 rfl (lv_at hl 3 rfl) ?_
    obtain ⟨hi5, hF⟩ := xk_some hF
    refine x_iast (K := 5) hx hb hK hR hS (ok5 hv1) (by decide) hv2 hv3 hi5 dX2_put_69 (fun H locs hR hS => ?_)
    obtain ⟨M6, eM, hF⟩ := xl_some hF
    rw [eM] at hR
    clear eM
    cases hF
    exact x_vret hx hb hlocks hK hR hS hr dX2_put_70
  · rw [if_neg ci4] at hF
    refine lv_aload_n hx hb dX2_put_53 rfl (lv_at hl 0 rfl) ?_
    refine gf_2_4 hx hb hts hown hK hR hv0 wd92 dX2_put_54 ?_
    refine lv_iload_n hx hb dX2_put_57 rfl (lv_at hl 3 rfl) ?_
    refine lv_dup2_11 hx hb dX2_put_58 rfl rfl ?_
    obtain ⟨hi7, hF⟩ := xk_some hF
    refine x_iald (K := 8) hx hb hK hR (ok8 hv0) (by decide) hv3 hi7 dX2_put_59 ?_
    have hg8 : rg (M 8 v0 v3.toNat) := hR.2 8 v0 _ (by decide)
    refine x_iconst hx hb dX2_put_60 ?_
    obtain ⟨hq9, hF⟩ := xk_some hF
    refine x_iadd hx hb dX2_put_61 ?_
    obtain ⟨hi10, hF⟩ := xk_some hF
    refine x_iast (K := 8) hx hb hK hR hS (ok8 hv0) (by decide) hv3 hq9 hi10 dX2_put_62 (fun H locs hR hS => ?_)
    obtain ⟨M11, eM, hF⟩ := xl_some hF
    rw [eM] at hR
    clear eM
    refine lv_aload_n hx hb dX2_put_63 rfl (lv_at hl 1 rfl) ?_
    refine gf_1_11 hx hb hts hown hK hR hv1 wd61 dX2_put_64 ?_
    refine lv_iload_n hx hb dX2_put_67 rfl (lv_at hl 2 rfl) ?_
    refine lv_iload_n hx hb dX2_put_68 rfl (lv_at hl 3 rfl) ?_
    obtain ⟨hi12, hF⟩ := xk_some hF
    refine x_iast (K := 5) hx hb hK hR hS (ok5 hv1) (by decide) hv2 hv3 hi12 dX2_put_69 (fun H locs hR hS => ?_)
    obtain ⟨M13, eM, hF⟩ := xl_some hF
    rw [eM] at hR
    clear eM
    cases hF
    exact x_vret hx hb hlocks hK hR hS hr dX2_put_70
def F_X2_put (M : Mm) (o : Nat) (a1 : Nat) (a2 : Int) (a3 : Int) : Option (Mm) := (xb1 (F_X1_blockAt M a1 a2) fun y2 => (if y2 = a3 then (some M) else (if a2 < 0 then (some M) else (if a2 < (20 : Int) then (xb1 (F_X2_isBlock M y2) fun y8 => (if y8 = 0 then (F_X2_put_46  M o a1 a2 a3) else (xk (0 ≤ y2 ∧ y2 < 128) (xk (rg ((M 8 o y2.toNat) - (1 : Int))) (xk (0 ≤ y2 ∧ y2 < 128) (xl (mup M 8 o y2.toNat ((M 8 o y2.toNat) - (1 : Int))) fun M18 => (F_X2_put_46  M18 o a1 a2 a3))))))) else (some M)))))
set_option maxHeartbeats 4000000 in
set_option maxRecDepth 100000 in
theorem c_X2_put {l : Launch} {g : Gx} {b : Nat} {M : Mm} {o : Nat} {a1 : Nat} {a2 : Int} {a3 : Int} {M' : Mm} (ho : o < 3) (ha1 : a1 < 99) (ha2 : rg a2) (ha3 : rg a3) (hF : F_X2_put M o a1 a2 a3 = some M') : Ct l yX2_put cX2_put 5 none rmX2_put g b [.ref (adr b 1 o), .ref (adr b 2 a1), .int (jI a2), .int (jI a3)] M (qV g b M') := by
  refine ct_of (by decide +kernel) (Nat.le_of_ble_eq_true rfl) ?_
  intro p e s m args below meth c C0 hR ls hl
  obtain ⟨hx, hb, hr, hlocks, hml, hown, hts, hK⟩ := id C0
  have hS : va_S (AA b s.heap.size) s.heap s.heap [] := va_S.rf
  have hl : lv_has ls 5 [(0, .ref (adr b 1 o)), (1, .ref (adr b 2 a1)), (2, .int (jI a2)), (3, .int (jI a3))] := hl
  obtain ⟨H, hH⟩ : ∃ z, z = s.heap := ⟨_, rfl⟩
  obtain ⟨locs, hlo⟩ : ∃ z : List Loc, z = [] := ⟨_, rfl⟩
  have hR : Rel g b M H := by rw [hH]; exact hR
  have hS : va_S (AA b s.heap.size) s.heap H locs := by rw [hH, hlo]; exact hS
  suffices hW : W p l e rmX2_put s m args below meth c H locs 0 0 (MQ below (qV g b M' s.heap.size) args s 0 0 (AA b s.heap.size)) (F0 m 0 ls []) by rw [hH, hlo] at hW; exact hW
  rw [F_X2_put] at hF
  refine lv_aload_n hx hb dX2_put_0 rfl (lv_at hl 1 rfl) ?_
  refine lv_iload_n hx hb dX2_put_1 rfl (lv_at hl 2 rfl) ?_
  obtain ⟨y2, hc1, hF⟩ := xb1_some hF
  refine x_cVi (C := RX1) (T := TX1) (N := 12) (ci := 1) (As := [.int (jI a2)]) (rest := []) hx hb hml hown hts hK hR hS (c_X1_blockAt ha1 ha2 hc1) (ok2 ha1) rfl rfl wd310 wd311 wd312 wd3 wd313 hyX1_blockAt ⟨rfl, rfl⟩ ⟨Nat.le_of_ble_eq_true rfl, Nat.le_of_ble_eq_true rfl⟩ hl.1 (Nat.le_of_ble_eq_true rfl) dX2_put_2 ⟨Nat.zero_le _, Nat.zero_le _⟩ rfl (fun hg3 H locs hR hS => ?_)
  refine lv_istore (lv' := [(4, .int (jI y2)), (0, .ref (adr b 1 o)), (1, .ref (adr b 2 a1)), (2, .int (jI a2)), (3, .int (jI a3))]) hx hb dX2_put_5 hl (by decide) rfl (fun ls hl => ?_)
  refine lv_iload hx hb dX2_put_7 (lv_at hl 0 rfl) ?_
  refine lv_iload_n hx hb dX2_put_9 rfl (lv_at hl 4 rfl) ?_
  refine x_icmp_eq (tgt := 26) hx hb hg3 ha3 dX2_put_10 (by decide) (fun ci4 => ?_) (fun ci4 => ?_)
  · rw [if_pos ci4] at hF
    cases hF
    exact x_vret hx hb hlocks hK hR hS hr dX2_put_26
  · rw [if_neg ci4] at hF
    refine lv_iload_n hx hb dX2_put_13 rfl (lv_at hl 3 rfl) ?_
    refine x_if_lt (tgt := 26) hx hb ha2 dX2_put_14 (by decide) (fun ci5 => ?_) (fun ci5 => ?_)
    · rw [if_pos ci5] at hF
      cases hF
      exact x_vret hx hb hlocks hK hR hS hr dX2_put_26
    · rw [if_neg ci5] at hF
      refine lv_iload_n hx hb dX2_put_17 rfl (lv_at hl 3 rfl) ?_
      refine lv_aload_n hx hb dX2_put_18 rfl (lv_at hl 2 rfl) ?_
      refine gf_1_11 hx hb hts hown hK hR ha1 wd61 dX2_put_19 ?_
      refine x_alen (K := 5) (n := (20 : Int)) hx hb hK hR (ok5 ha1) (by decide) (by decide +kernel) dX2_put_22 ?_
      refine x_icmp_lt (tgt := 27) hx hb ha2 (by decide : rg (20 : Int)) dX2_put_23 (by decide) (fun ci6 => ?_) (fun ci6 => ?_)
      · rw [if_pos ci6] at hF
        refine lv_iload hx hb dX2_put_27 (lv_at hl 0 rfl) ?_
        obtain ⟨y8, hc7, hF⟩ := xb1_some hF
        refine x_cSi (As := [.int (jI y2)]) (rest := []) hx hb hml hown hts hK hR hS (c_X2_isBlock hg3 hc7) wd314 wd315 wd2 wd316 hyX2_isBlock ⟨rfl, rfl⟩ ⟨Nat.le_of_ble_eq_true rfl, Nat.le_of_ble_eq_true rfl⟩ hl.1 (Nat.le_of_ble_eq_true rfl) dX2_put_29 ⟨Nat.zero_le _, Nat.zero_le _⟩ rfl (fun hg9 H locs hR hS => ?_)
        refine x_if_eq (tgt := 46) hx hb hg9 dX2_put_32 (by decide) (fun ci10 => ?_) (fun ci10 => ?_)
        · rw [if_pos ci10] at hF
          exact w_X2_put_46 C0  M o a1 a2 a3 ho ha1 ha2 ha3 H locs hR hS ls (lv_sub hl [1, 2, 3, 4] rfl) hF
        · rw [if_neg ci10] at hF
          refine lv_aload_n hx hb dX2_put_35 rfl (lv_at hl 1 rfl) ?_
          refine gf_2_4 hx hb hts hown hK hR ho wd92 dX2_put_36 ?_
          refine lv_iload hx hb dX2_put_39 (lv_at hl 0 rfl) ?_
          refine lv_dup2_11 hx hb dX2_put_41 rfl rfl ?_
          obtain ⟨hi14, hF⟩ := xk_some hF
          refine x_iald (K := 8) hx hb hK hR (ok8 ho) (by decide) hg3 hi14 dX2_put_42 ?_
          have hg15 : rg (M 8 o y2.toNat) := hR.2 8 o _ (by decide)
          refine x_iconst hx hb dX2_put_43 ?_
          obtain ⟨hq16, hF⟩ := xk_some hF
          refine x_isub hx hb dX2_put_44 ?_
          obtain ⟨hi17, hF⟩ := xk_some hF
          refine x_iast (K := 8) hx hb hK hR hS (ok8 ho) (by decide) hg3 hq16 hi17 dX2_put_45 (fun H locs hR hS => ?_)
          obtain ⟨M18, eM, hF⟩ := xl_some hF
          rw [eM] at hR
          clear eM
          exact w_X2_put_46 C0  M18 o a1 a2 a3 ho ha1 ha2 ha3 H locs hR hS ls (lv_sub hl [1, 2, 3, 4] rfl) hF
      · rw [if_neg ci6] at hF
        cases hF
        exact x_vret hx hb hlocks hK hR hS hr dX2_put_26
abbrev rmX2_drop : Room := { frames := 2, cells := 0, slots := 0, locals := 46 }
theorem hyX2_drop : yX2_drop.cls = RX2 ∧ yX2_drop.cls ≠ "java/lang/invoke/MethodHandle" ∧ yX2_drop.cls ≠ "java/lang/invoke/VarHandle" ∧ (parseMethodDescriptor yX2_drop.desc).map (fun d => d.parameters.length) = some 1 := by decide +kernel
def F_X2_drop_8  : Nat → Mm → Nat → Nat → Int → Option (Mm)
  | 0, _, _, _, _ => none
  | n + 1, M, v0, v2, v3 => (if (20 : Int) ≤ v3 then (xb1 (F_X1_become M v2 (0 : Int) (0 : Int)) fun M3 => (some M3)) else (xb1 (F_X2_put M v0 v2 v3 (0 : Int)) fun M5 => (xk (rg (v3 + (1 : Int))) (F_X2_drop_8  n M5 v0 v2 (v3 + (1 : Int))))))
set_option maxHeartbeats 4000000 in
set_option maxRecDepth 100000 in
theorem w_X2_drop_8 {p : Program} {l : Launch} {e : Env} {s : State} {m : MethodId} {args : Array Value} {below : List Frame} {meth : Method} {c : Code} {g : Gx} {b : Nat} (C0 : XA p s m meth c args RX2 cX2_drop 4 none g) {M' : Mm} : ∀ n : Nat, ∀ (M : Mm) (v0 : Nat) (v2 : Nat) (v3 : Int) (hv0 : v0 < 3) (hv2 : v2 < 99) (hv3 : rg v3) (H : Heap) (locs : List Loc), Rel g b M H → va_S (AA b s.heap.size) s.heap H locs → ∀ ls : Array Slot, lv_has ls 4 [(0, .ref (adr b 1 v0)), (2, .ref (adr b 2 v2)), (3, .int (jI v3))] → F_X2_drop_8  n M v0 v2 v3 = some M' → W p l e rmX2_drop s m args below meth c H locs 0 0 (MQ below (qV g b M' s.heap.size) args s 0 0 (AA b s.heap.size)) (F0 m 8 ls []) := by
  obtain ⟨hx, hb, hr, hlocks, hml, hown, hts, hK⟩ := id C0
  intro n
  induction n with
  | zero =>
    intro M v0 v2 v3 hv0 hv2 hv3 H locs hR hS ls hl hF
    rw [F_X2_drop_8] at hF
    cases hF
  | succ n ih =>
    intro M v0 v2 v3 hv0 hv2 hv3 H locs hR hS ls hl hF
    rw [F_X2_drop_8] at hF
    refine lv_iload_n hx hb dX2_drop_8 rfl (lv_at hl 2 rfl) ?_
    refine x_bipush hx hb (by decide +kernel) dX2_drop_9 ?_
    refine x_icmp_ge (tgt := 27) hx hb hv3 (by decide : rg (20 : Int)) dX2_drop_11 (by decide) (fun ci1 => ?_) (fun ci1 => ?_)
    · rw [if_pos ci1] at hF
      refine lv_aload_n hx hb dX2_drop_27 rfl (lv_at hl 1 rfl) ?_
      refine x_iconst hx hb dX2_drop_28 ?_
      refine x_iconst hx hb dX2_drop_29 ?_
      obtain ⟨M3, hc2, hF⟩ := xb1_some hF
      refine x_cVv (C := RX1) (T := TX1) (N := 12) (ci := 1) (As := [.int (jI (0 : Int)), .int (jI (0 : Int))]) (rest := []) hx hb hml hown hts hK hR hS (c_X1_become hv2 (by decide : rg (0 : Int)) (by decide : rg (0 : Int)) hc2) (ok2 hv2) rfl rfl wd317 wd318 wd319 wd3 wd320 hyX1_become ⟨rfl, rfl⟩ ⟨Nat.le_of_ble_eq_true rfl, Nat.le_of_ble_eq_true rfl⟩ hl.1 (Nat.le_of_ble_eq_true rfl) dX2_drop_30 ⟨Nat.zero_le _, Nat.zero_le _⟩ rfl (fun H locs hR hS => ?_)
      cases hF
      exact x_vret hx hb hlocks hK hR hS hr dX2_drop_33
    · rw [if_neg ci1] at hF
      refine lv_aload_n hx hb dX2_drop_14 rfl (lv_at hl 0 rfl) ?_
      refine lv_aload_n hx hb dX2_drop_15 rfl (lv_at hl 1 rfl) ?_
      refine lv_iload_n hx hb dX2_drop_16 rfl (lv_at hl 2 rfl) ?_
      refine x_iconst hx hb dX2_drop_17 ?_
      obtain ⟨M5, hc4, hF⟩ := xb1_some hF
      refine x_cVv (C := RX2) (T := TX2) (N := 8) (ci := 2) (As := [.ref (adr b 2 v2), .int (jI v3), .int (jI (0 : Int))]) (rest := []) hx hb hml hown hts hK hR hS (c_X2_put hv0 hv2 hv3 (by decide : rg (0 : Int)) hc4) (ok1 hv0) rfl rfl wd306 wd307 wd308 wd2 wd309 hyX2_put ⟨rfl, rfl⟩ ⟨Nat.le_of_ble_eq_true rfl, Nat.le_of_ble_eq_true rfl⟩ hl.1 (Nat.le_of_ble_eq_true rfl) dX2_drop_18 ⟨Nat.zero_le _, Nat.zero_le _⟩ rfl (fun H locs hR hS => ?_)
      obtain ⟨hq6, hF⟩ := xk_some hF
      refine x_iinc (lv' := [(3, .int (jI (v3 + (1 : Int)))), (0, .ref (adr b 1 v0)), (2, .ref (adr b 2 v2))]) hx hb dX2_drop_21 hl (k := 2) rfl (by decide) rfl (fun ls hl => ?_)
      refine lv_goto (tgt := 8) hx hb dX2_drop_24 (by decide) ?_
      exact ih M5 v0 v2 (v3 + (1 : Int)) hv0 hv2 hq6 H locs hR hS ls (lv_sub hl [1, 2, 0] rfl) hF
def F_X2_drop (M : Mm) (o : Nat) (a1 : Int) : Option (Mm) := (xb1 (F_X2_at M o a1) fun y2 => (F_X2_drop_8  FU M o y2 (0 : Int)))
set_option maxHeartbeats 4000000 in
set_option maxRecDepth 100000 in
theorem c_X2_drop {l : Launch} {g : Gx} {b : Nat} {M : Mm} {o : Nat} {a1 : Int} {M' : Mm} (ho : o < 3) (ha1 : rg a1) (hF : F_X2_drop M o a1 = some M') : Ct l yX2_drop cX2_drop 4 none rmX2_drop g b [.ref (adr b 1 o), .int (jI a1)] M (qV g b M') := by
  refine ct_of (by decide +kernel) (Nat.le_of_ble_eq_true rfl) ?_
  intro p e s m args below meth c C0 hR ls hl
  obtain ⟨hx, hb, hr, hlocks, hml, hown, hts, hK⟩ := id C0
  have hS : va_S (AA b s.heap.size) s.heap s.heap [] := va_S.rf
  have hl : lv_has ls 4 [(0, .ref (adr b 1 o)), (1, .int (jI a1))] := hl
  obtain ⟨H, hH⟩ : ∃ z, z = s.heap := ⟨_, rfl⟩
  obtain ⟨locs, hlo⟩ : ∃ z : List Loc, z = [] := ⟨_, rfl⟩
  have hR : Rel g b M H := by rw [hH]; exact hR
  have hS : va_S (AA b s.heap.size) s.heap H locs := by rw [hH, hlo]; exact hS
  suffices hW : W p l e rmX2_drop s m args below meth c H locs 0 0 (MQ below (qV g b M' s.heap.size) args s 0 0 (AA b s.heap.size)) (F0 m 0 ls []) by rw [hH, hlo] at hW; exact hW
  rw [F_X2_drop] at hF
  refine lv_aload_n hx hb dX2_drop_0 rfl (lv_at hl 0 rfl) ?_
  refine lv_iload_n hx hb dX2_drop_1 rfl (lv_at hl 1 rfl) ?_
  obtain ⟨y2, hc1, hF⟩ := xb1_some hF
  refine x_cVr (C := RX2) (T := TX2) (N := 8) (ci := 2) (As := [.int (jI a1)]) (rest := []) hx hb hml hown hts hK hR hS (c_X2_at ho ha1 hc1) (ok1 ho) rfl rfl wd254 wd255 wd256 wd2 wd257 hyX2_at ⟨rfl, rfl⟩ ⟨Nat.le_of_ble_eq_true rfl, Nat.le_of_ble_eq_true rfl⟩ hl.1 (Nat.le_of_ble_eq_true rfl) dX2_drop_2 ⟨Nat.zero_le _, Nat.zero_le _⟩ rfl (fun hg3 H locs hR hS => ?_)
  have hj4 : y2 < 99 := lt2 hg3
  refine lv_astore_n (lv' := [(2, .ref (adr b 2 y2)), (0, .ref (adr b 1 o)), (1, .int (jI a1))]) hx hb dX2_drop_5 rfl hl (by decide) rfl (fun ls hl => ?_)
  refine x_iconst hx hb dX2_drop_6 ?_
  refine lv_istore_n (lv' := [(3, .int (jI (0 : Int))), (2, .ref (adr b 2 y2)), (0, .ref (adr b 1 o)), (1, .int (jI a1))]) hx hb dX2_drop_7 rfl hl (by decide) rfl (fun ls hl => ?_)
  exact w_X2_drop_8 C0  FU M o y2 (0 : Int) ho hj4 (by decide : rg (0 : Int)) H locs hR hS ls (lv_sub hl [2, 1, 0] rfl) hF
abbrev rmX2_dropForsaken : Room := { frames := 3, cells := 0, slots := 0, locals := 69 }
theorem hyX2_dropForsaken : yX2_dropForsaken.cls = RX2 ∧ yX2_dropForsaken.cls ≠ "java/lang/invoke/MethodHandle" ∧ yX2_dropForsaken.cls ≠ "java/lang/invoke/VarHandle" ∧ (parseMethodDescriptor yX2_dropForsaken.desc).map (fun d => d.parameters.length) = some 0 := by decide +kernel
def F_X2_dropForsaken_4  : Nat → Mm → Nat → Int → Int → Option (Int × Mm)
  | 0, _, _, _, _ => none
  | n + 1, M, v0, v1, v2 => (if (32 : Int) ≤ v2 then (some (v1, M)) else (xk (0 ≤ v2 ∧ v2 < 32) (xb1 (F_X1_isForsaken M (33 * v0 + v2.toNat)) fun y5 => (if y5 = 0 then (xk (rg (v2 + (1 : Int))) (F_X2_dropForsaken_4  n M v0 v1 (v2 + (1 : Int)))) else (xb1 (F_X2_drop M v0 v2) fun M10 => (xk (rg (v1 + (1 : Int))) (xk (rg (v2 + (1 : Int))) (F_X2_dropForsaken_4  n M10 v0 (v1 + (1 : Int)) (v2 + (1 : Int))))))))))
set_option maxHeartbeats 4000000 in
set_option maxRecDepth 100000 in
theorem w_X2_dropForsaken_4 {p : Program} {l : Launch} {e : Env} {s : State} {m : MethodId} {args : Array Value} {below : List Frame} {meth : Method} {c : Code} {g : Gx} {b : Nat} (C0 : XA p s m meth c args RX2 cX2_dropForsaken 3 (some .int) g) {r : Int} {M' : Mm} : ∀ n : Nat, ∀ (M : Mm) (v0 : Nat) (v1 : Int) (v2 : Int) (hv0 : v0 < 3) (hv1 : rg v1) (hv2 : rg v2) (H : Heap) (locs : List Loc), Rel g b M H → va_S (AA b s.heap.size) s.heap H locs → ∀ ls : Array Slot, lv_has ls 3 [(0, .ref (adr b 1 v0)), (1, .int (jI v1)), (2, .int (jI v2))] → F_X2_dropForsaken_4  n M v0 v1 v2 = some (r, M') → W p l e rmX2_dropForsaken s m args below meth c H locs 0 0 (MQ below (qI g b r M' s.heap.size) args s 0 0 (AA b s.heap.size)) (F0 m 4 ls []) := by
  obtain ⟨hx, hb, hr, hlocks, hml, hown, hts, hK⟩ := id C0
  intro n
  induction n with
  | zero =>
    intro M v0 v1 v2 hv0 hv1 hv2 H locs hR hS ls hl hF
    rw [F_X2_dropForsaken_4] at hF
    cases hF
  | succ n ih =>
    intro M v0 v1 v2 hv0 hv1 hv2 H locs hR hS ls hl hF
    rw [F_X2_dropForsaken_4] at hF
    refine lv_iload_n hx hb dX2_dropForsaken_4 rfl (lv_at hl 2 rfl) ?_
    refine lv_aload_n hx hb dX2_dropForsaken_5 rfl (lv_at hl 0 rfl) ?_
    refine gf_2_0 hx hb hts hown hK hR hv0 wd88 dX2_dropForsaken_6 ?_
    refine x_alenN hx hb hK hR hv0 dX2_dropForsaken_9 ?_
    refine x_icmp_ge (tgt := 39) hx hb hv2 (by decide : rg (32 : Int)) dX2_dropForsaken_10 (by decide) (fun ci1 => ?_) (fun ci1 => ?_)
    · rw [if_pos ci1] at hF
      refine lv_iload_n hx hb dX2_dropForsaken_39 rfl (lv_at hl 1 rfl) ?_
      cases hF
      exact x_iret hx hb hlocks hK hR hS hr hv1 dX2_dropForsaken_40
    · rw [if_neg ci1] at hF
      refine lv_aload_n hx hb dX2_dropForsaken_13 rfl (lv_at hl 0 rfl) ?_
      refine gf_2_0 hx hb hts hown hK hR hv0 wd88 dX2_dropForsaken_14 ?_
      refine lv_iload_n hx hb dX2_dropForsaken_17 rfl (lv_at hl 2 rfl) ?_
      obtain ⟨hi2, hF⟩ := xk_some hF
      refine x_aldN hx hb hK hR hv0 hv2 hi2 dX2_dropForsaken_18 ?_
      have hj3 : (33 * v0 + v2.toNat) < 99 := by have := hv0; omega
      obtain ⟨y5, hc4, hF⟩ := xb1_some hF
      refine x_cVi (C := RX1) (T := TX1) (N := 12) (ci := 1) (As := []) (rest := []) hx hb hml hown hts hK hR hS (c_X1_isForsaken hj3 hc4) (ok2 hj3) rfl rfl wd298 wd299 wd300 wd3 wd301 hyX1_isForsaken ⟨rfl, rfl⟩ ⟨Nat.le_of_ble_eq_true rfl, Nat.le_of_ble_eq_true rfl⟩ hl.1 (Nat.le_of_ble_eq_true rfl) dX2_dropForsaken_19 ⟨Nat.zero_le _, Nat.zero_le _⟩ rfl (fun hg6 H locs hR hS => ?_)
      refine x_if_eq (tgt := 33) hx hb hg6 dX2_dropForsaken_22 (by decide) (fun ci7 => ?_) (fun ci7 => ?_)
      · rw [if_pos ci7] at hF
        obtain ⟨hq8, hF⟩ := xk_some hF
        refine x_iinc (lv' := [(2, .int (jI (v2 + (1 : Int)))), (0, .ref (adr b 1 v0)), (1, .int (jI v1))]) hx hb dX2_dropForsaken_33 hl (k := 2) rfl (by decide) rfl (fun ls hl => ?_)
        refine lv_goto (tgt := 4) hx hb dX2_dropForsaken_36 (by decide) ?_
        exact ih M v0 v1 (v2 + (1 : Int)) hv0 hv1 hq8 H locs hR hS ls (lv_sub hl [1, 2, 0] rfl) hF
      · rw [if_neg ci7] at hF
        refine lv_aload_n hx hb dX2_dropForsaken_25 rfl (lv_at hl 0 rfl) ?_
        refine lv_iload_n hx hb dX2_dropForsaken_26 rfl (lv_at hl 2 rfl) ?_
        obtain ⟨M10, hc9, hF⟩ := xb1_some hF
        refine x_cVv (C := RX2) (T := TX2) (N := 8) (ci := 2) (As := [.int (jI v2)]) (rest := []) hx hb hml hown hts hK hR hS (c_X2_drop hv0 hv2 hc9) (ok1 hv0) rfl rfl wd302 wd303 wd304 wd2 wd305 hyX2_drop ⟨rfl, rfl⟩ ⟨Nat.le_of_ble_eq_true rfl, Nat.le_of_ble_eq_true rfl⟩ hl.1 (Nat.le_of_ble_eq_true rfl) dX2_dropForsaken_27 ⟨Nat.zero_le _, Nat.zero_le _⟩ rfl (fun H locs hR hS => ?_)
        obtain ⟨hq11, hF⟩ := xk_some hF
        refine x_iinc (lv' := [(1, .int (jI (v1 + (1 : Int)))), (0, .ref (adr b 1 v0)), (2, .int (jI v2))]) hx hb dX2_dropForsaken_30 hl (k := 1) rfl (by decide) rfl (fun ls hl => ?_)
        obtain ⟨hq12, hF⟩ := xk_some hF
        refine x_iinc (lv' := [(2, .int (jI (v2 + (1 : Int)))), (1, .int (jI (v1 + (1 : Int)))), (0, .ref (adr b 1 v0))]) hx hb dX2_dropForsaken_33 hl (k := 2) rfl (by decide) rfl (fun ls hl => ?_)
        refine lv_goto (tgt := 4) hx hb dX2_dropForsaken_36 (by decide) ?_
        exact ih M10 v0 (v1 + (1 : Int)) (v2 + (1 : Int)) hv0 hq11 hq12 H locs hR hS ls (lv_sub hl [2, 1, 0] rfl) hF
def F_X2_dropForsaken (M : Mm) (o : Nat) : Option (Int × Mm) := (F_X2_dropForsaken_4  FU M o (0 : Int) (0 : Int))
set_option maxHeartbeats 4000000 in
set_option maxRecDepth 100000 in
theorem c_X2_dropForsaken {l : Launch} {g : Gx} {b : Nat} {M : Mm} {o : Nat} {r : Int} {M' : Mm} (ho : o < 3) (hF : F_X2_dropForsaken M o = some (r, M')) : Ct l yX2_dropForsaken cX2_dropForsaken 3 (some .int) rmX2_dropForsaken g b [.ref (adr b 1 o)] M (qI g b r M') := by
  refine ct_of (by decide +kernel) (Nat.le_of_ble_eq_true rfl) ?_
  intro p e s m args below meth c C0 hR ls hl
  obtain ⟨hx, hb, hr, hlocks, hml, hown, hts, hK⟩ := id C0
  have hS : va_S (AA b s.heap.size) s.heap s.heap [] := va_S.rf
  have hl : lv_has ls 3 [(0, .ref (adr b 1 o))] := hl
  obtain ⟨H, hH⟩ : ∃ z, z = s.heap := ⟨_, rfl⟩
  obtain ⟨locs, hlo⟩ : ∃ z : List Loc, z = [] := ⟨_, rfl⟩
  have hR : Rel g b M H := by rw [hH]; exact hR
  have hS : va_S (AA b s.heap.size) s.heap H locs := by rw [hH, hlo]; exact hS
  suffices hW : W p l e rmX2_dropForsaken s m args below meth c H locs 0 0 (MQ below (qI g b r M' s.heap.size) args s 0 0 (AA b s.heap.size)) (F0 m 0 ls []) by rw [hH, hlo] at hW; exact hW
  rw [F_X2_dropForsaken] at hF
  refine x_iconst hx hb dX2_dropForsaken_0 ?_
  refine lv_istore_n (lv' := [(1, .int (jI (0 : Int))), (0, .ref (adr b 1 o))]) hx hb dX2_dropForsaken_1 rfl hl (by decide) rfl (fun ls hl => ?_)
  refine x_iconst hx hb dX2_dropForsaken_2 ?_
  refine lv_istore_n (lv' := [(2, .int (jI (0 : Int))), (1, .int (jI (0 : Int))), (0, .ref (adr b 1 o))]) hx hb dX2_dropForsaken_3 rfl hl (by decide) rfl (fun ls hl => ?_)
  exact w_X2_dropForsaken_4 C0  FU M o (0 : Int) (0 : Int) ho (by decide : rg (0 : Int)) (by decide : rg (0 : Int)) H locs hR hS ls (lv_sub hl [2, 1, 0] rfl) hF
abbrev rmX2_isShared : Room := { frames := 1, cells := 0, slots := 0, locals := 20 }
theorem hyX2_isShared : yX2_isShared.cls = RX2 ∧ yX2_isShared.cls ≠ "java/lang/invoke/MethodHandle" ∧ yX2_isShared.cls ≠ "java/lang/invoke/VarHandle" ∧ (parseMethodDescriptor yX2_isShared.desc).map (fun d => d.parameters.length) = some 1 := by decide +kernel
def F_X2_isShared (M : Mm) (o : Nat) (a1 : Int) : Option (Int) := (xb1 (F_X2_isBlock M a1) fun y2 => (if y2 = 0 then (some (0 : Int)) else (xk (0 ≤ a1 ∧ a1 < 128) (if (M 8 o a1.toNat) ≤ (1 : Int) then (some (0 : Int)) else (some (1 : Int))))))
set_option maxHeartbeats 4000000 in
set_option maxRecDepth 100000 in
theorem c_X2_isShared {l : Launch} {g : Gx} {b : Nat} {M : Mm} {o : Nat} {a1 : Int} {r : Int} (ho : o < 3) (ha1 : rg a1) (hF : F_X2_isShared M o a1 = some r) : Ct l yX2_isShared cX2_isShared 2 (some .boolean) rmX2_isShared g b [.ref (adr b 1 o), .int (jI a1)] M (qI g b r M) := by
  refine ct_of (by decide +kernel) (Nat.le_of_ble_eq_true rfl) ?_
  intro p e s m args below meth c C0 hR ls hl
  obtain ⟨hx, hb, hr, hlocks, hml, hown, hts, hK⟩ := id C0
  have hS : va_S (AA b s.heap.size) s.heap s.heap [] := va_S.rf
  have hl : lv_has ls 2 [(0, .ref (adr b 1 o)), (1, .int (jI a1))] := hl
  obtain ⟨H, hH⟩ : ∃ z, z = s.heap := ⟨_, rfl⟩
  obtain ⟨locs, hlo⟩ : ∃ z : List Loc, z = [] := ⟨_, rfl⟩
  have hR : Rel g b M H := by rw [hH]; exact hR
  have hS : va_S (AA b s.heap.size) s.heap H locs := by rw [hH, hlo]; exact hS
  suffices hW : W p l e rmX2_isShared s m args below meth c H locs 0 0 (MQ below (qI g b r M s.heap.size) args s 0 0 (AA b s.heap.size)) (F0 m 0 ls []) by rw [hH, hlo] at hW; exact hW
  rw [F_X2_isShared] at hF
  refine lv_iload_n hx hb dX2_isShared_0 rfl (lv_at hl 1 rfl) ?_
  obtain ⟨y2, hc1, hF⟩ := xb1_some hF
  refine x_cSi (As := [.int (jI a1)]) (rest := []) hx hb hml hown hts hK hR hS (c_X2_isBlock ha1 hc1) wd314 wd315 wd2 wd316 hyX2_isBlock ⟨rfl, rfl⟩ ⟨Nat.le_of_ble_eq_true rfl, Nat.le_of_ble_eq_true rfl⟩ hl.1 (Nat.le_of_ble_eq_true rfl) dX2_isShared_1 ⟨Nat.zero_le _, Nat.zero_le _⟩ rfl (fun hg3 H locs hR hS => ?_)
  refine x_if_eq (tgt := 21) hx hb hg3 dX2_isShared_4 (by decide) (fun ci4 => ?_) (fun ci4 => ?_)
  · rw [if_pos ci4] at hF
    refine x_iconst hx hb dX2_isShared_21 ?_
    cases hF
    exact x_zret hx hb hlocks hK hR hS hr (by decide) dX2_isShared_22
  · rw [if_neg ci4] at hF
    refine lv_aload_n hx hb dX2_isShared_7 rfl (lv_at hl 0 rfl) ?_
    refine gf_2_4 hx hb hts hown hK hR ho wd92 dX2_isShared_8 ?_
    refine lv_iload_n hx hb dX2_isShared_11 rfl (lv_at hl 1 rfl) ?_
    obtain ⟨hi5, hF⟩ := xk_some hF
    refine x_iald (K := 8) hx hb hK hR (ok8 ho) (by decide) ha1 hi5 dX2_isShared_12 ?_
    have hg6 : rg (M 8 o a1.toNat) := hR.2 8 o _ (by decide)
    refine x_iconst hx hb dX2_isShared_13 ?_
    refine x_icmp_le (tgt := 21) hx hb hg6 (by decide : rg (1 : Int)) dX2_isShared_14 (by decide) (fun ci7 => ?_) (fun ci7 => ?_)
    · rw [if_pos ci7] at hF
      refine x_iconst hx hb dX2_isShared_21 ?_
      cases hF
      exact x_zret hx hb hlocks hK hR hS hr (by decide) dX2_isShared_22
    · rw [if_neg ci7] at hF
      refine x_iconst hx hb dX2_isShared_17 ?_
      refine lv_goto (tgt := 22) hx hb dX2_isShared_18 (by decide) ?_
      cases hF
      exact x_zret hx hb hlocks hK hR hS hr (by decide) dX2_isShared_22
abbrev rmX2_freeBlock : Room := { frames := 0, cells := 0, slots := 0, locals := 0 }
theorem hyX2_freeBlock : yX2_freeBlock.cls = RX2 ∧ yX2_freeBlock.cls ≠ "java/lang/invoke/MethodHandle" ∧ yX2_freeBlock.cls ≠ "java/lang/invoke/VarHandle" ∧ (parseMethodDescriptor yX2_freeBlock.desc).map (fun d => d.parameters.length) = some 0 := by decide +kernel
def F_X2_freeBlock_2 (M : Mm)  : Nat → Nat → Int → Option (Int)
  | 0, _, _ => none
  | n + 1, v0, v1 => (if (128 : Int) ≤ v1 then (some (0 : Int)) else (xk (0 ≤ v1 ∧ v1 < 128) (if (M 8 v0 v1.toNat) = 0 then (some v1) else (xk (rg (v1 + (1 : Int))) (F_X2_freeBlock_2 M  n v0 (v1 + (1 : Int)))))))
set_option maxHeartbeats 4000000 in
set_option maxRecDepth 100000 in
theorem w_X2_freeBlock_2 {p : Program} {l : Launch} {e : Env} {s : State} {m : MethodId} {args : Array Value} {below : List Frame} {meth : Method} {c : Code} {g : Gx} {b : Nat} (C0 : XA p s m meth c args RX2 cX2_freeBlock 2 (some .int) g) {r : Int} {M : Mm} : ∀ n : Nat, ∀ (v0 : Nat) (v1 : Int) (hv0 : v0 < 3) (hv1 : rg v1) (H : Heap) (locs : List Loc), Rel g b M H → va_S (AA b s.heap.size) s.heap H locs → ∀ ls : Array Slot, lv_has ls 2 [(0, .ref (adr b 1 v0)), (1, .int (jI v1))] → F_X2_freeBlock_2 M  n v0 v1 = some r → W p l e rmX2_freeBlock s m args below meth c H locs 0 0 (MQ below (qI g b r M s.heap.size) args s 0 0 (AA b s.heap.size)) (F0 m 2 ls []) := by
  obtain ⟨hx, hb, hr, hlocks, hml, hown, hts, hK⟩ := id C0
  intro n
  induction n with
  | zero =>
    intro v0 v1 hv0 hv1 H locs hR hS ls hl hF
    rw [F_X2_freeBlock_2] at hF
    cases hF
  | succ n ih =>
    intro v0 v1 hv0 hv1 H locs hR hS ls hl hF
    rw [F_X2_freeBlock_2] at hF
    refine lv_iload_n hx hb dX2_freeBlock_2 rfl (lv_at hl 1 rfl) ?_
    refine lv_aload_n hx hb dX2_freeBlock_3 rfl (lv_at hl 0 rfl) ?_
    refine gf_2_4 hx hb hts hown hK hR hv0 wd92 dX2_freeBlock_4 ?_
    refine x_alen (K := 8) (n := (128 : Int)) hx hb hK hR (ok8 hv0) (by decide) (by decide +kernel) dX2_freeBlock_7 ?_
    refine x_icmp_ge (tgt := 28) hx hb hv1 (by decide : rg (128 : Int)) dX2_freeBlock_8 (by decide) (fun ci1 => ?_) (fun ci1 => ?_)
    · rw [if_pos ci1] at hF
      refine x_iconst hx hb dX2_freeBlock_28 ?_
      cases hF
      exact x_iret hx hb hlocks hK hR hS hr (by decide : rg (0 : Int)) dX2_freeBlock_29
    · rw [if_neg ci1] at hF
      refine lv_aload_n hx hb dX2_freeBlock_11 rfl (lv_at hl 0 rfl) ?_
      refine gf_2_4 hx hb hts hown hK hR hv0 wd92 dX2_freeBlock_12 ?_
      refine lv_iload_n hx hb dX2_freeBlock_15 rfl (lv_at hl 1 rfl) ?_
      obtain ⟨hi2, hF⟩ := xk_some hF
      refine x_iald (K := 8) hx hb hK hR (ok8 hv0) (by decide) hv1 hi2 dX2_freeBlock_16 ?_
      have hg3 : rg (M 8 v0 v1.toNat) := hR.2 8 v0 _ (by decide)
      refine x_if_ne (tgt := 22) hx hb hg3 dX2_freeBlock_17 (by decide) (fun ci4 => ?_) (fun ci4 => ?_)
      · rw [if_neg ci4] at hF
        obtain ⟨hq5, hF⟩ := xk_some hF
        refine x_iinc (lv' := [(1, .int (jI (v1 + (1 : Int)))), (0, .ref (adr b 1 v0))]) hx hb dX2_freeBlock_22 hl (k := 1) rfl (by decide) rfl (fun ls hl => ?_)
        refine lv_goto (tgt := 2) hx hb dX2_freeBlock_25 (by decide) ?_
        exact ih v0 (v1 + (1 : Int)) hv0 hq5 H locs hR hS ls (lv_sub hl [1, 0] rfl) hF
      · rw [if_pos ci4] at hF
        refine lv_iload_n hx hb dX2_freeBlock_20 rfl (lv_at hl 1 rfl) ?_
        cases hF
        exact x_iret hx hb hlocks hK hR hS hr hv1 dX2_freeBlock_21
def F_X2_freeBlock (M : Mm) (o : Nat) : Option (Int) := (F_X2_freeBlock_2 M  FU o (1 : Int))
set_option maxHeartbeats 4000000 in
set_option maxRecDepth 100000 in
theorem c_X2_freeBlock {l : Launch} {g : Gx} {b : Nat} {M : Mm} {o : Nat} {r : Int} (ho : o < 3) (hF : F_X2_freeBlock M o = some r) : Ct l yX2_freeBlock cX2_freeBlock 2 (some .int) rmX2_freeBlock g b [.ref (adr b 1 o)] M (qI g b r M) := by
  refine ct_of (by decide +kernel) (Nat.le_of_ble_eq_true rfl) ?_
  intro p e s m args below meth c C0 hR ls hl
  obtain ⟨hx, hb, hr, hlocks, hml, hown, hts, hK⟩ := id C0
  have hS : va_S (AA b s.heap.size) s.heap s.heap [] := va_S.rf
  have hl : lv_has ls 2 [(0, .ref (adr b 1 o))] := hl
  obtain ⟨H, hH⟩ : ∃ z, z = s.heap := ⟨_, rfl⟩
  obtain ⟨locs, hlo⟩ : ∃ z : List Loc, z = [] := ⟨_, rfl⟩
  have hR : Rel g b M H := by rw [hH]; exact hR
  have hS : va_S (AA b s.heap.size) s.heap H locs := by rw [hH, hlo]; exact hS
  suffices hW : W p l e rmX2_freeBlock s m args below meth c H locs 0 0 (MQ below (qI g b r M s.heap.size) args s 0 0 (AA b s.heap.size)) (F0 m 0 ls []) by rw [hH, hlo] at hW; exact hW
  rw [F_X2_freeBlock] at hF
  refine x_iconst hx hb dX2_freeBlock_0 ?_
  refine lv_istore_n (lv' := [(1, .int (jI (1 : Int))), (0, .ref (adr b 1 o))]) hx hb dX2_freeBlock_1 rfl hl (by decide) rfl (fun ls hl => ?_)
  exact w_X2_freeBlock_2 C0  FU o (1 : Int) ho (by decide : rg (1 : Int)) H locs hR hS ls (lv_sub hl [1, 0] rfl) hF
abbrev rmX2_ownBlock : Room := { frames := 2, cells := 0, slots := 0, locals := 45 }
theorem hyX2_ownBlock : yX2_ownBlock.cls = RX2 ∧ yX2_ownBlock.cls ≠ "java/lang/invoke/MethodHandle" ∧ yX2_ownBlock.cls ≠ "java/lang/invoke/VarHandle" ∧ (parseMethodDescriptor yX2_ownBlock.desc).map (fun d => d.parameters.length) = some 2 := by decide +kernel
def F_X2_ownBlock_23  (M : Mm) (v0 : Nat) (v1 : Nat) (v2 : Int) (v3 : Int) : Option (Int × Mm) := (xb1 (F_X2_freeBlock M v0) fun y2 => (xb1 (F_X2_isBlock M y2) fun y5 => (if y5 = 0 then (some (y2, M)) else (if v3 < 0 then (some (y2, M)) else (if (128 : Int) ≤ v3 then (some (y2, M)) else (xk (rg (v3 * (2 : Int))) (xk (rg (y2 * (2 : Int))) (xk (0 ≤ (v3 * (2 : Int)) ∧ 0 ≤ (y2 * (2 : Int)) ∧ 0 ≤ (2 : Int) ∧ (v3 * (2 : Int)) + (2 : Int) ≤ 256 ∧ (y2 * (2 : Int)) + (2 : Int) ≤ 256) (xl (mcp M 7 v0 (v3 * (2 : Int)).toNat 7 v0 (y2 * (2 : Int)).toNat (2 : Int).toNat) fun M13 => (xb1 (F_X2_put M13 v0 v1 v2 y2) fun M15 => (some (y2, M15))))))))))))
set_option maxHeartbeats 4000000 in
set_option maxRecDepth 100000 in
theorem w_X2_ownBlock_23 {p : Program} {l : Launch} {e : Env} {s : State} {m : MethodId} {args : Array Value} {below : List Frame} {meth : Method} {c : Code} {g : Gx} {b : Nat} (C0 : XA p s m meth c args RX2 cX2_ownBlock 5 (some .int) g) {r : Int} {M' : Mm} : ∀ (M : Mm) (v0 : Nat) (v1 : Nat) (v2 : Int) (v3 : Int) (hv0 : v0 < 3) (hv1 : v1 < 99) (hv2 : rg v2) (hv3 : rg v3) (H : Heap) (locs : List Loc), Rel g b M H → va_S (AA b s.heap.size) s.heap H locs → ∀ ls : Array Slot, lv_has ls 5 [(0, .ref (adr b 1 v0)), (1, .ref (adr b 2 v1)), (2, .int (jI v2)), (3, .int (jI v3))] → F_X2_ownBlock_23  M v0 v1 v2 v3 = some (r, M') → W p l e rmX2_ownBlock s m args below meth c H locs 0 0 (MQ below (qI g b r M' s.heap.size) args s 0 0 (AA b s.heap.size)) (F0 m 23 ls []) := by
  obtain ⟨hx, hb, hr, hlocks, hml, hown, hts, hK⟩ := id C0
  intro M v0 v1 v2 v3 hv0 hv1 hv2 hv3 H locs hR hS ls hl hF
  rw [F_X2_ownBlock_23] at hF
  refine lv_aload_n hx hb dX2_ownBlock_23 rfl (lv_at hl 0 rfl) ?_
  obtain ⟨y2, hc1, hF⟩ := xb1_some hF
  refine x_cVi (C := RX2) (T := TX2) (N := 8) (ci := 2) (As := []) (rest := []) hx hb hml hown hts hK hR hS (c_X2_freeBlock hv0 hc1) (ok1 hv0) rfl rfl wd757 wd758 wd759 wd2 wd760 hyX2_freeBlock ⟨rfl, rfl⟩ ⟨Nat.le_of_ble_eq_true rfl, Nat.le_of_ble_eq_true rfl⟩ hl.1 (Nat.le_of_ble_eq_true rfl) dX2_ownBlock_24 ⟨Nat.zero_le _, Nat.zero_le _⟩ rfl (fun hg3 H locs hR hS => ?_)
  refine lv_istore (lv' := [(4, .int (jI y2)), (0, .ref (adr b 1 v0)), (1, .ref (adr b 2 v1)), (2, .int (jI v2)), (3, .int (jI v3))]) hx hb dX2_ownBlock_27 hl (by decide) rfl (fun ls hl => ?_)
  refine lv_iload hx hb dX2_ownBlock_29 (lv_at hl 0 rfl) ?_
  obtain ⟨y5, hc4, hF⟩ := xb1_some hF
  refine x_cSi (As := [.int (jI y2)]) (rest := []) hx hb hml hown hts hK hR hS (c_X2_isBlock hg3 hc4) wd314 wd315 wd2 wd316 hyX2_isBlock ⟨rfl, rfl⟩ ⟨Nat.le_of_ble_eq_true rfl, Nat.le_of_ble_eq_true rfl⟩ hl.1 (Nat.le_of_ble_eq_true rfl) dX2_ownBlock_31 ⟨Nat.zero_le _, Nat.zero_le _⟩ rfl (fun hg6 H locs hR hS => ?_)
  refine x_if_eq (tgt := 75) hx hb hg6 dX2_ownBlock_34 (by decide) (fun ci7 => ?_) (fun ci7 => ?_)
  · rw [if_pos ci7] at hF
    refine lv_iload hx hb dX2_ownBlock_75 (lv_at hl 0 rfl) ?_
    cases hF
    exact x_iret hx hb hlocks hK hR hS hr hg3 dX2_ownBlock_77
  · rw [if_neg ci7] at hF
    refine lv_iload_n hx hb dX2_ownBlock_37 rfl (lv_at hl 4 rfl) ?_
    refine x_if_lt (tgt := 75) hx hb hv3 dX2_ownBlock_38 (by decide) (fun ci8 => ?_) (fun ci8 => ?_)
    · rw [if_pos ci8] at hF
      refine lv_iload hx hb dX2_ownBlock_75 (lv_at hl 0 rfl) ?_
      cases hF
      exact x_iret hx hb hlocks hK hR hS hr hg3 dX2_ownBlock_77
    · rw [if_neg ci8] at hF
      refine lv_iload_n hx hb dX2_ownBlock_41 rfl (lv_at hl 4 rfl) ?_
      refine x_sipush hx hb (by decide +kernel) dX2_ownBlock_42 ?_
      refine x_icmp_ge (tgt := 75) hx hb hv3 (by decide : rg (128 : Int)) dX2_ownBlock_45 (by decide) (fun ci9 => ?_) (fun ci9 => ?_)
      · rw [if_pos ci9] at hF
        refine lv_iload hx hb dX2_ownBlock_75 (lv_at hl 0 rfl) ?_
        cases hF
        exact x_iret hx hb hlocks hK hR hS hr hg3 dX2_ownBlock_77
      · rw [if_neg ci9] at hF
        refine lv_aload_n hx hb dX2_ownBlock_48 rfl (lv_at hl 1 rfl) ?_
        refine gf_2_3 hx hb hts hown hK hR hv0 wd91 dX2_ownBlock_49 ?_
        refine lv_iload_n hx hb dX2_ownBlock_52 rfl (lv_at hl 4 rfl) ?_
        refine x_iconst hx hb dX2_ownBlock_53 ?_
        obtain ⟨hq10, hF⟩ := xk_some hF
        refine x_imul hx hb dX2_ownBlock_54 ?_
        refine lv_aload_n hx hb dX2_ownBlock_55 rfl (lv_at hl 1 rfl) ?_
        refine gf_2_3 hx hb hts hown hK hR hv0 wd91 dX2_ownBlock_56 ?_
        refine lv_iload hx hb dX2_ownBlock_59 (lv_at hl 0 rfl) ?_
        refine x_iconst hx hb dX2_ownBlock_61 ?_
        obtain ⟨hq11, hF⟩ := xk_some hF
        refine x_imul hx hb dX2_ownBlock_62 ?_
        refine x_iconst hx hb dX2_ownBlock_63 ?_
        obtain ⟨hi12, hF⟩ := xk_some hF
        refine x_copyl hx hb hml hl.1 hts hown wd269 wd268 wd267 wd11 hK hR hS (ok7 hv0) (ok7 hv0) hq10 hq11 (by decide : rg (2 : Int)) hi12.1 hi12.2.1 hi12.2.2.1 hi12.2.2.2.1 hi12.2.2.2.2 (Nat.le_of_ble_eq_true rfl) (by decide +kernel) dX2_ownBlock_64 (fun H locs hR hS => ?_)
        obtain ⟨M13, eM, hF⟩ := xl_some hF
        rw [eM] at hR
        clear eM
        refine lv_aload_n hx hb dX2_ownBlock_67 rfl (lv_at hl 1 rfl) ?_
        refine lv_aload_n hx hb dX2_ownBlock_68 rfl (lv_at hl 2 rfl) ?_
        refine lv_iload_n hx hb dX2_ownBlock_69 rfl (lv_at hl 3 rfl) ?_
        refine lv_iload hx hb dX2_ownBlock_70 (lv_at hl 0 rfl) ?_
        obtain ⟨M15, hc14, hF⟩ := xb1_some hF
        refine x_cVv (C := RX2) (T := TX2) (N := 8) (ci := 2) (As := [.ref (adr b 2 v1), .int (jI v2), .int (jI y2)]) (rest := []) hx hb hml hown hts hK hR hS (c_X2_put hv0 hv1 hv2 hg3 hc14) (ok1 hv0) rfl rfl wd306 wd307 wd308 wd2 wd309 hyX2_put ⟨rfl, rfl⟩ ⟨Nat.le_of_ble_eq_true rfl, Nat.le_of_ble_eq_true rfl⟩ hl.1 (Nat.le_of_ble_eq_true rfl) dX2_ownBlock_72 ⟨Nat.zero_le _, Nat.zero_le _⟩ rfl (fun H locs hR hS => ?_)
        refine lv_iload hx hb dX2_ownBlock_75 (lv_at hl 0 rfl) ?_
        cases hF
        exact x_iret hx hb hlocks hK hR hS hr hg3 dX2_ownBlock_77
def F_X2_ownBlock (M : Mm) (o : Nat) (a1 : Nat) (a2 : Int) : Option (Int × Mm) := (xb1 (F_X1_blockAt M a1 a2) fun y2 => (xb1 (F_X2_isBlock M y2) fun y5 => (if y5 = 0 then (F_X2_ownBlock_23  M o a1 a2 y2) else (xb1 (F_X2_isShared M o y2) fun y17 => (if y17 = 0 then (some (y2, M)) else (F_X2_ownBlock_23  M o a1 a2 y2))))))
set_option maxHeartbeats 4000000 in
set_option maxRecDepth 100000 in
theorem c_X2_ownBlock {l : Launch} {g : Gx} {b : Nat} {M : Mm} {o : Nat} {a1 : Nat} {a2 : Int} {r : Int} {M' : Mm} (ho : o < 3) (ha1 : a1 < 99) (ha2 : rg a2) (hF : F_X2_ownBlock M o a1 a2 = some (r, M')) : Ct l yX2_ownBlock cX2_ownBlock 5 (some .int) rmX2_ownBlock g b [.ref (adr b 1 o), .ref (adr b 2 a1), .int (jI a2)] M (qI g b r M') := by
  refine ct_of (by decide +kernel) (Nat.le_of_ble_eq_true rfl) ?_
  intro p e s m args below meth c C0 hR ls hl
  obtain ⟨hx, hb, hr, hlocks, hml, hown, hts, hK⟩ := id C0
  have hS : va_S (AA b s.heap.size) s.heap s.heap [] := va_S.rf
  have hl : lv_has ls 5 [(0, .ref (adr b 1 o)), (1, .ref (adr b 2 a1)), (2, .int (jI a2))] := hl
  obtain ⟨H, hH⟩ : ∃ z, z = s.heap := ⟨_, rfl⟩
  obtain ⟨locs, hlo⟩ : ∃ z : List Loc, z = [] := ⟨_, rfl⟩
  have hR : Rel g b M H := by rw [hH]; exact hR
  have hS : va_S (AA b s.heap.size) s.heap H locs := by rw [hH, hlo]; exact hS
  suffices hW : W p l e rmX2_ownBlock s m args below meth c H locs 0 0 (MQ below (qI g b r M' s.heap.size) args s 0 0 (AA b s.heap.size)) (F0 m 0 ls []) by rw [hH, hlo] at hW; exact hW
  rw [F_X2_ownBlock] at hF
  refine lv_aload_n hx hb dX2_ownBlock_0 rfl (lv_at hl 1 rfl) ?_
  refine lv_iload_n hx hb dX2_ownBlock_1 rfl (lv_at hl 2 rfl) ?_
  obtain ⟨y2, hc1, hF⟩ := xb1_some hF
  refine x_cVi (C := RX1) (T := TX1) (N := 12) (ci := 1) (As := [.int (jI a2)]) (rest := []) hx hb hml hown hts hK hR hS (c_X1_blockAt ha1 ha2 hc1) (ok2 ha1) rfl rfl wd310 wd311 wd312 wd3 wd313 hyX1_blockAt ⟨rfl, rfl⟩ ⟨Nat.le_of_ble_eq_true rfl, Nat.le_of_ble_eq_true rfl⟩ hl.1 (Nat.le_of_ble_eq_true rfl) dX2_ownBlock_2 ⟨Nat.zero_le _, Nat.zero_le _⟩ rfl (fun hg3 H locs hR hS => ?_)
  refine lv_istore_n (lv' := [(3, .int (jI y2)), (0, .ref (adr b 1 o)), (1, .ref (adr b 2 a1)), (2, .int (jI a2))]) hx hb dX2_ownBlock_5 rfl hl (by decide) rfl (fun ls hl => ?_)
  refine lv_iload_n hx hb dX2_ownBlock_6 rfl (lv_at hl 0 rfl) ?_
  obtain ⟨y5, hc4, hF⟩ := xb1_some hF
  refine x_cSi (As := [.int (jI y2)]) (rest := []) hx hb hml hown hts hK hR hS (c_X2_isBlock hg3 hc4) wd314 wd315 wd2 wd316 hyX2_isBlock ⟨rfl, rfl⟩ ⟨Nat.le_of_ble_eq_true rfl, Nat.le_of_ble_eq_true rfl⟩ hl.1 (Nat.le_of_ble_eq_true rfl) dX2_ownBlock_7 ⟨Nat.zero_le _, Nat.zero_le _⟩ rfl (fun hg6 H locs hR hS => ?_)
  refine x_if_eq (tgt := 23) hx hb hg6 dX2_ownBlock_10 (by decide) (fun ci7 => ?_) (fun ci7 => ?_)
  · rw [if_pos ci7] at hF
    exact w_X2_ownBlock_23 C0  M o a1 a2 y2 ho ha1 ha2 hg3 H locs hR hS ls (lv_sub hl [1, 2, 3, 0] rfl) hF
  · rw [if_neg ci7] at hF
    refine lv_aload_n hx hb dX2_ownBlock_13 rfl (lv_at hl 1 rfl) ?_
    refine lv_iload_n hx hb dX2_ownBlock_14 rfl (lv_at hl 0 rfl) ?_
    obtain ⟨y17, hc16, hF⟩ := xb1_some hF
    refine x_cVi (C := RX2) (T := TX2) (N := 8) (ci := 2) (As := [.int (jI y2)]) (rest := []) hx hb hml hown hts hK hR hS (c_X2_isShared ho hg3 hc16) (ok1 ho) rfl rfl wd486 wd487 wd488 wd2 wd489 hyX2_isShared ⟨rfl, rfl⟩ ⟨Nat.le_of_ble_eq_true rfl, Nat.le_of_ble_eq_true rfl⟩ hl.1 (Nat.le_of_ble_eq_true rfl) dX2_ownBlock_15 ⟨Nat.zero_le _, Nat.zero_le _⟩ rfl (fun hg18 H locs hR hS => ?_)
    refine x_if_ne (tgt := 23) hx hb hg18 dX2_ownBlock_18 (by decide) (fun ci19 => ?_) (fun ci19 => ?_)
    · rw [if_neg ci19] at hF
      exact w_X2_ownBlock_23 C0  M o a1 a2 y2 ho ha1 ha2 hg3 H locs hR hS ls (lv_sub hl [1, 2, 3, 0] rfl) hF
    · rw [if_pos ci19] at hF
      refine lv_iload_n hx hb dX2_ownBlock_21 rfl (lv_at hl 0 rfl) ?_
      cases hF
      exact x_iret hx hb hlocks hK hR hS hr hg3 dX2_ownBlock_22
abbrev rmX2_wordOf : Room := { frames := 0, cells := 0, slots := 0, locals := 0 }
theorem hyX2_wordOf : yX2_wordOf.cls ≠ "java/lang/invoke/MethodHandle" ∧ yX2_wordOf.cls ≠ "java/lang/invoke/VarHandle" ∧ (parseMethodDescriptor yX2_wordOf.desc).map (fun d => d.parameters.length) = some 2 := by decide +kernel
def F_X2_wordOf (M : Mm) (a1 : Int) (a2 : Int) : Option (Int) := (xk (rg (a1 * (2 : Int))) (xk (rg (Int.tmod a2 (16 : Int))) (xk (rg (Int.tdiv (Int.tmod a2 (16 : Int)) (8 : Int))) (xk (rg ((a1 * (2 : Int)) + (Int.tdiv (Int.tmod a2 (16 : Int)) (8 : Int)))) (some ((a1 * (2 : Int)) + (Int.tdiv (Int.tmod a2 (16 : Int)) (8 : Int))))))))
set_option maxHeartbeats 4000000 in
set_option maxRecDepth 100000 in
theorem c_X2_wordOf {l : Launch} {g : Gx} {b : Nat} {M : Mm} {a1 : Int} {a2 : Int} {r : Int} (ha1 : rg a1) (ha2 : rg a2) (hF : F_X2_wordOf M a1 a2 = some r) : Ct l yX2_wordOf cX2_wordOf 2 (some .int) rmX2_wordOf g b [.int (jI a1), .int (jI a2)] M (qI g b r M) := by
  refine ct_of (by decide +kernel) (Nat.le_of_ble_eq_true rfl) ?_
  intro p e s m args below meth c C0 hR ls hl
  obtain ⟨hx, hb, hr, hlocks, hml, hown, hts, hK⟩ := id C0
  have hS : va_S (AA b s.heap.size) s.heap s.heap [] := va_S.rf
  have hl : lv_has ls 2 [(0, .int (jI a1)), (1, .int (jI a2))] := hl
  obtain ⟨H, hH⟩ : ∃ z, z = s.heap := ⟨_, rfl⟩
  obtain ⟨locs, hlo⟩ : ∃ z : List Loc, z = [] := ⟨_, rfl⟩
  have hR : Rel g b M H := by rw [hH]; exact hR
  have hS : va_S (AA b s.heap.size) s.heap H locs := by rw [hH, hlo]; exact hS
  suffices hW : W p l e rmX2_wordOf s m args below meth c H locs 0 0 (MQ below (qI g b r M s.heap.size) args s 0 0 (AA b s.heap.size)) (F0 m 0 ls []) by rw [hH, hlo] at hW; exact hW
  rw [F_X2_wordOf] at hF
  refine lv_iload_n hx hb dX2_wordOf_0 rfl (lv_at hl 0 rfl) ?_
  refine x_iconst hx hb dX2_wordOf_1 ?_
  obtain ⟨hq1, hF⟩ := xk_some hF
  refine x_imul hx hb dX2_wordOf_2 ?_
  refine lv_iload_n hx hb dX2_wordOf_3 rfl (lv_at hl 1 rfl) ?_
  refine x_bipush hx hb (by decide +kernel) dX2_wordOf_4 ?_
  obtain ⟨hq3, hF⟩ := xk_some hF
  refine x_irem hx hb ha2 (by decide : rg (16 : Int)) (by decide) dX2_wordOf_6 ?_
  refine x_bipush hx hb (by decide +kernel) dX2_wordOf_7 ?_
  obtain ⟨hq5, hF⟩ := xk_some hF
  refine x_idiv hx hb hq3 (by decide : rg (8 : Int)) (by decide) dX2_wordOf_9 ?_
  obtain ⟨hq6, hF⟩ := xk_some hF
  refine x_iadd hx hb dX2_wordOf_10 ?_
  cases hF
  exact x_iret hx hb hlocks hK hR hS hr hq6 dX2_wordOf_11
abbrev rmX2_shiftOf : Room := { frames := 0, cells := 0, slots := 0, locals := 0 }
theorem hyX2_shiftOf : yX2_shiftOf.cls ≠ "java/lang/invoke/MethodHandle" ∧ yX2_shiftOf.cls ≠ "java/lang/invoke/VarHandle" ∧ (parseMethodDescriptor yX2_shiftOf.desc).map (fun d => d.parameters.length) = some 1 := by decide +kernel
def F_X2_shiftOf (M : Mm) (a1 : Int) : Option (Int) := (xk (rg (Int.tmod a1 (8 : Int))) (xk (rg ((Int.tmod a1 (8 : Int)) * (8 : Int))) (some ((Int.tmod a1 (8 : Int)) * (8 : Int)))))
set_option maxHeartbeats 4000000 in
set_option maxRecDepth 100000 in
theorem c_X2_shiftOf {l : Launch} {g : Gx} {b : Nat} {M : Mm} {a1 : Int} {r : Int} (ha1 : rg a1) (hF : F_X2_shiftOf M a1 = some r) : Ct l yX2_shiftOf cX2_shiftOf 1 (some .int) rmX2_shiftOf g b [.int (jI a1)] M (qI g b r M) := by
  refine ct_of (by decide +kernel) (Nat.le_of_ble_eq_true rfl) ?_
  intro p e s m args below meth c C0 hR ls hl
  obtain ⟨hx, hb, hr, hlocks, hml, hown, hts, hK⟩ := id C0
  have hS : va_S (AA b s.heap.size) s.heap s.heap [] := va_S.rf
  have hl : lv_has ls 1 [(0, .int (jI a1))] := hl
  obtain ⟨H, hH⟩ : ∃ z, z = s.heap := ⟨_, rfl⟩
  obtain ⟨locs, hlo⟩ : ∃ z : List Loc, z = [] := ⟨_, rfl⟩
  have hR : Rel g b M H := by rw [hH]; exact hR
  have hS : va_S (AA b s.heap.size) s.heap H locs := by rw [hH, hlo]; exact hS
  suffices hW : W p l e rmX2_shiftOf s m args below meth c H locs 0 0 (MQ below (qI g b r M s.heap.size) args s 0 0 (AA b s.heap.size)) (F0 m 0 ls []) by rw [hH, hlo] at hW; exact hW
  rw [F_X2_shiftOf] at hF
  refine lv_iload_n hx hb dX2_shiftOf_0 rfl (lv_at hl 0 rfl) ?_
  refine x_bipush hx hb (by decide +kernel) dX2_shiftOf_1 ?_
  obtain ⟨hq2, hF⟩ := xk_some hF
  refine x_irem hx hb ha1 (by decide : rg (8 : Int)) (by decide) dX2_shiftOf_3 ?_
  refine x_bipush hx hb (by decide +kernel) dX2_shiftOf_4 ?_
  obtain ⟨hq3, hF⟩ := xk_some hF
  refine x_imul hx hb dX2_shiftOf_6 ?_
  cases hF
  exact x_iret hx hb hlocks hK hR hS hr hq3 dX2_shiftOf_7
abbrev rmX2_byteOf : Room := { frames := 1, cells := 0, slots := 0, locals := 21 }
theorem hyX2_byteOf : yX2_byteOf.cls = RX2 ∧ yX2_byteOf.cls ≠ "java/lang/invoke/MethodHandle" ∧ yX2_byteOf.cls ≠ "java/lang/invoke/VarHandle" ∧ (parseMethodDescriptor yX2_byteOf.desc).map (fun d => d.parameters.length) = some 2 := by decide +kernel
def F_X2_byteOf (M : Mm) (o : Nat) (a1 : Nat) (a2 : Int) : Option (Int) := (xk (rg (Int.tdiv a2 (16 : Int))) (xb1 (F_X1_blockAt M a1 (Int.tdiv a2 (16 : Int))) fun y4 => (xb1 (F_X2_wordOf M y4 a2) fun y7 => (if y7 < 0 then (some (0 : Int)) else (if (256 : Int) ≤ y7 then (some (0 : Int)) else (xk (0 ≤ y7 ∧ y7 < 256) (xb1 (F_X2_shiftOf M a2) fun y13 => (some ((((Int64.toUInt64 (Int64.ofInt (M 7 o y7.toNat)) >>> ((jI y13).toInt64.toUInt64 &&& Int64.toUInt64 63)).toInt64) &&& (255 : Int64)).toInt32.toInt)))))))))
set_option maxHeartbeats 4000000 in
set_option maxRecDepth 100000 in
theorem c_X2_byteOf {l : Launch} {g : Gx} {b : Nat} {M : Mm} {o : Nat} {a1 : Nat} {a2 : Int} {r : Int} (ho : o < 3) (ha1 : a1 < 99) (ha2 : rg a2) (hF : F_X2_byteOf M o a1 a2 = some r) : Ct l yX2_byteOf cX2_byteOf 4 (some .int) rmX2_byteOf g b [.ref (adr b 1 o), .ref (adr b 2 a1), .int (jI a2)] M (qI g b r M) := by
  refine ct_of (by decide +kernel) (Nat.le_of_ble_eq_true rfl) ?_
  intro p e s m args below meth c C0 hR ls hl
  obtain ⟨hx, hb, hr, hlocks, hml, hown, hts, hK⟩ := id C0
  have hS : va_S (AA b s.heap.size) s.heap s.heap [] := va_S.rf
  have hl : lv_has ls 4 [(0, .ref (adr b 1 o)), (1, .ref (adr b 2 a1)), (2, .int (jI a2))] := hl
  obtain ⟨H, hH⟩ : ∃ z, z = s.heap := ⟨_, rfl⟩
  obtain ⟨locs, hlo⟩ : ∃ z : List Loc, z = [] := ⟨_, rfl⟩
  have hR : Rel g b M H := by rw [hH]; exact hR
  have hS : va_S (AA b s.heap.size) s.heap H locs := by rw [hH, hlo]; exact hS
  suffices hW : W p l e rmX2_byteOf s m args below meth c H locs 0 0 (MQ below (qI g b r M s.heap.size) args s 0 0 (AA b s.heap.size)) (F0 m 0 ls []) by rw [hH, hlo] at hW; exact hW
  rw [F_X2_byteOf] at hF
  refine lv_aload_n hx hb dX2_byteOf_0 rfl (lv_at hl 1 rfl) ?_
  refine lv_iload_n hx hb dX2_byteOf_1 rfl (lv_at hl 2 rfl) ?_
  refine x_bipush hx hb (by decide +kernel) dX2_byteOf_2 ?_
  obtain ⟨hq2, hF⟩ := xk_some hF
  refine x_idiv hx hb ha2 (by decide : rg (16 : Int)) (by decide) dX2_byteOf_4 ?_
  obtain ⟨y4, hc3, hF⟩ := xb1_some hF
  refine x_cVi (C := RX1) (T := TX1) (N := 12) (ci := 1) (As := [.int (jI (Int.tdiv a2 (16 : Int)))]) (rest := []) hx hb hml hown hts hK hR hS (c_X1_blockAt ha1 hq2 hc3) (ok2 ha1) rfl rfl wd310 wd311 wd312 wd3 wd313 hyX1_blockAt ⟨rfl, rfl⟩ ⟨Nat.le_of_ble_eq_true rfl, Nat.le_of_ble_eq_true rfl⟩ hl.1 (Nat.le_of_ble_eq_true rfl) dX2_byteOf_5 ⟨Nat.zero_le _, Nat.zero_le _⟩ rfl (fun hg5 H locs hR hS => ?_)
  refine lv_iload_n hx hb dX2_byteOf_8 rfl (lv_at hl 2 rfl) ?_
  obtain ⟨y7, hc6, hF⟩ := xb1_some hF
  refine x_cSi (As := [.int (jI y4), .int (jI a2)]) (rest := []) hx hb hml hown hts hK hR hS (c_X2_wordOf hg5 ha2 hc6) wd549 wd550 wd2 wd551 hyX2_wordOf ⟨rfl, rfl⟩ ⟨Nat.le_of_ble_eq_true rfl, Nat.le_of_ble_eq_true rfl⟩ hl.1 (Nat.le_of_ble_eq_true rfl) dX2_byteOf_9 ⟨Nat.zero_le _, Nat.zero_le _⟩ rfl (fun hg8 H locs hR hS => ?_)
  refine lv_istore_n (lv' := [(3, .int (jI y7)), (0, .ref (adr b 1 o)), (1, .ref (adr b 2 a1)), (2, .int (jI a2))]) hx hb dX2_byteOf_12 rfl hl (by decide) rfl (fun ls hl => ?_)
  refine lv_iload_n hx hb dX2_byteOf_13 rfl (lv_at hl 0 rfl) ?_
  refine x_if_lt (tgt := 45) hx hb hg8 dX2_byteOf_14 (by decide) (fun ci9 => ?_) (fun ci9 => ?_)
  · rw [if_pos ci9] at hF
    refine x_iconst hx hb dX2_byteOf_45 ?_
    cases hF
    exact x_iret hx hb hlocks hK hR hS hr (by decide : rg (0 : Int)) dX2_byteOf_46
  · rw [if_neg ci9] at hF
    refine lv_iload_n hx hb dX2_byteOf_17 rfl (lv_at hl 0 rfl) ?_
    refine lv_aload_n hx hb dX2_byteOf_18 rfl (lv_at hl 1 rfl) ?_
    refine gf_2_3 hx hb hts hown hK hR ho wd91 dX2_byteOf_19 ?_
    refine x_alen7 hx hb hK hR (ok7 ho) dX2_byteOf_22 ?_
    refine x_icmp_ge (tgt := 45) hx hb hg8 (by decide : rg (256 : Int)) dX2_byteOf_23 (by decide) (fun ci10 => ?_) (fun ci10 => ?_)
    · rw [if_pos ci10] at hF
      refine x_iconst hx hb dX2_byteOf_45 ?_
      cases hF
      exact x_iret hx hb hlocks hK hR hS hr (by decide : rg (0 : Int)) dX2_byteOf_46
    · rw [if_neg ci10] at hF
      refine lv_aload_n hx hb dX2_byteOf_26 rfl (lv_at hl 1 rfl) ?_
      refine gf_2_3 hx hb hts hown hK hR ho wd91 dX2_byteOf_27 ?_
      refine lv_iload_n hx hb dX2_byteOf_30 rfl (lv_at hl 0 rfl) ?_
      obtain ⟨hi11, hF⟩ := xk_some hF
      refine x_lald hx hb hK hR (ok7 ho) hg8 hi11 dX2_byteOf_31 ?_
      refine lv_iload_n hx hb dX2_byteOf_32 rfl (lv_at hl 3 rfl) ?_
      obtain ⟨y13, hc12, hF⟩ := xb1_some hF
      refine x_cSi (As := [.int (jI a2)]) (rest := [.long (Int64.ofInt (M 7 o y7.toNat))]) hx hb hml hown hts hK hR hS (c_X2_shiftOf ha2 hc12) wd552 wd553 wd2 wd554 hyX2_shiftOf ⟨rfl, rfl⟩ ⟨Nat.le_of_ble_eq_true rfl, Nat.le_of_ble_eq_true rfl⟩ hl.1 (Nat.le_of_ble_eq_true rfl) dX2_byteOf_33 ⟨Nat.zero_le _, Nat.zero_le _⟩ rfl (fun hg14 H locs hR hS => ?_)
      refine lv_lushr (v := ((Int64.toUInt64 (Int64.ofInt (M 7 o y7.toNat)) >>> ((jI y13).toInt64.toUInt64 &&& Int64.toUInt64 63)).toInt64)) hx hb dX2_byteOf_36 rfl ?_
      refine lv_ldc2 (v := (255 : Int64)) hx hb hown (hts _ wd555) dX2_byteOf_37 ?_
      refine lv_land hx hb dX2_byteOf_40 ?_
      refine x_l2i hx hb dX2_byteOf_41 ?_
      refine lv_goto (tgt := 46) hx hb dX2_byteOf_42 (by decide) ?_
      cases hF
      exact x_iret hx hb hlocks hK hR hS hr (l2i_rg _) dX2_byteOf_46
abbrev rmX2_setByte : Room := { frames := 3, cells := 0, slots := 0, locals := 69 }
theorem hyX2_setByte : yX2_setByte.cls = RX2 ∧ yX2_setByte.cls ≠ "java/lang/invoke/MethodHandle" ∧ yX2_setByte.cls ≠ "java/lang/invoke/VarHandle" ∧ (parseMethodDescriptor yX2_setByte.desc).map (fun d => d.parameters.length) = some 3 := by decide +kernel
def F_X2_setByte (M : Mm) (o : Nat) (a1 : Nat) (a2 : Int) (a3 : Int) : Option (Mm) := (xk (rg (Int.tdiv a2 (16 : Int))) (xb2 (F_X2_ownBlock M o a1 (Int.tdiv a2 (16 : Int))) fun y4 M5 => (xb1 (F_X2_wordOf M5 y4 a2) fun y8 => (xb1 (F_X2_isBlock M5 y4) fun y11 => (if y11 = 0 then (some M5) else (if y8 < 0 then (some M5) else (if (256 : Int) ≤ y8 then (some M5) else (xb1 (F_X2_shiftOf M5 a2) fun y17 => (xk (0 ≤ y8 ∧ y8 < 256) (xk (0 ≤ y8 ∧ y8 < 256) (xl (mup M5 7 o y8.toNat (Int64.toInt (((Int64.ofInt (M5 7 o y8.toNat)) &&& (((255 : Int64) <<< ((jI y17).toInt64 &&& 63)) ^^^ (-1 : Int64))) ||| (((jI a3).toInt64) <<< ((jI y17).toInt64 &&& 63))))) fun M21 => (some M21))))))))))))
set_option maxHeartbeats 4000000 in
set_option maxRecDepth 100000 in
theorem c_X2_setByte {l : Launch} {g : Gx} {b : Nat} {M : Mm} {o : Nat} {a1 : Nat} {a2 : Int} {a3 : Int} {M' : Mm} (ho : o < 3) (ha1 : a1 < 99) (ha2 : rg a2) (ha3 : rg a3) (hF : F_X2_setByte M o a1 a2 a3 = some M') : Ct l yX2_setByte cX2_setByte 7 none rmX2_setByte g b [.ref (adr b 1 o), .ref (adr b 2 a1), .int (jI a2), .int (jI a3)] M (qV g b M') := by
  refine ct_of (by decide +kernel) (Nat.le_of_ble_eq_true rfl) ?_
  intro p e s m args below meth c C0 hR ls hl
  obtain ⟨hx, hb, hr, hlocks, hml, hown, hts, hK⟩ := id C0
  have hS : va_S (AA b s.heap.size) s.heap s.heap [] := va_S.rf
  have hl : lv_has ls 7 [(0, .ref (adr b 1 o)), (1, .ref (adr b 2 a1)), (2, .int (jI a2)), (3, .int (jI a3))] := hl
  obtain ⟨H, hH⟩ : ∃ z, z = s.heap := ⟨_, rfl⟩
  obtain ⟨locs, hlo⟩ : ∃ z : List Loc, z = [] := ⟨_, rfl⟩
  have hR : Rel g b M H := by rw [hH]; exact hR
  have hS : va_S (AA b s.heap.size) s.heap H locs := by rw [hH, hlo]; exact hS
  suffices hW : W p l e rmX2_setByte s m args below meth c H locs 0 0 (MQ below (qV g b M' s.heap.size) args s 0 0 (AA b s.heap.size)) (F0 m 0 ls []) by rw [hH, hlo] at hW; exact hW
  rw [F_X2_setByte] at hF
  refine lv_aload_n hx hb dX2_setByte_0 rfl (lv_at hl 0 rfl) ?_
  refine lv_aload_n hx hb dX2_setByte_1 rfl (lv_at hl 1 rfl) ?_
  refine lv_iload_n hx hb dX2_setByte_2 rfl (lv_at hl 2 rfl) ?_
  refine x_bipush hx hb (by decide +kernel) dX2_setByte_3 ?_
  obtain ⟨hq2, hF⟩ := xk_some hF
  refine x_idiv hx hb ha2 (by decide : rg (16 : Int)) (by decide) dX2_setByte_5 ?_
  obtain ⟨y4, M5, hc3, hF⟩ := xb2_some hF
  refine x_cVi (C := RX2) (T := TX2) (N := 8) (ci := 2) (As := [.ref (adr b 2 a1), .int (jI (Int.tdiv a2 (16 : Int)))]) (rest := []) hx hb hml hown hts hK hR hS (c_X2_ownBlock ho ha1 hq2 hc3) (ok1 ho) rfl rfl wd753 wd754 wd755 wd2 wd756 hyX2_ownBlock ⟨rfl, rfl⟩ ⟨Nat.le_of_ble_eq_true rfl, Nat.le_of_ble_eq_true rfl⟩ hl.1 (Nat.le_of_ble_eq_true rfl) dX2_setByte_6 ⟨Nat.zero_le _, Nat.zero_le _⟩ rfl (fun hg6 H locs hR hS => ?_)
  refine lv_istore (lv' := [(4, .int (jI y4)), (0, .ref (adr b 1 o)), (1, .ref (adr b 2 a1)), (2, .int (jI a2)), (3, .int (jI a3))]) hx hb dX2_setByte_9 hl (by decide) rfl (fun ls hl => ?_)
  refine lv_iload hx hb dX2_setByte_11 (lv_at hl 0 rfl) ?_
  refine lv_iload_n hx hb dX2_setByte_13 rfl (lv_at hl 3 rfl) ?_
  obtain ⟨y8, hc7, hF⟩ := xb1_some hF
  refine x_cSi (As := [.int (jI y4), .int (jI a2)]) (rest := []) hx hb hml hown hts hK hR hS (c_X2_wordOf hg6 ha2 hc7) wd549 wd550 wd2 wd551 hyX2_wordOf ⟨rfl, rfl⟩ ⟨Nat.le_of_ble_eq_true rfl, Nat.le_of_ble_eq_true rfl⟩ hl.1 (Nat.le_of_ble_eq_true rfl) dX2_setByte_14 ⟨Nat.zero_le _, Nat.zero_le _⟩ rfl (fun hg9 H locs hR hS => ?_)
  refine lv_istore (lv' := [(5, .int (jI y8)), (4, .int (jI y4)), (0, .ref (adr b 1 o)), (1, .ref (adr b 2 a1)), (2, .int (jI a2)), (3, .int (jI a3))]) hx hb dX2_setByte_17 hl (by decide) rfl (fun ls hl => ?_)
  refine lv_iload hx hb dX2_setByte_19 (lv_at hl 1 rfl) ?_
  obtain ⟨y11, hc10, hF⟩ := xb1_some hF
  refine x_cSi (As := [.int (jI y4)]) (rest := []) hx hb hml hown hts hK hR hS (c_X2_isBlock hg6 hc10) wd314 wd315 wd2 wd316 hyX2_isBlock ⟨rfl, rfl⟩ ⟨Nat.le_of_ble_eq_true rfl, Nat.le_of_ble_eq_true rfl⟩ hl.1 (Nat.le_of_ble_eq_true rfl) dX2_setByte_21 ⟨Nat.zero_le _, Nat.zero_le _⟩ rfl (fun hg12 H locs hR hS => ?_)
  refine x_if_eq (tgt := 79) hx hb hg12 dX2_setByte_24 (by decide) (fun ci13 => ?_) (fun ci13 => ?_)
  · rw [if_pos ci13] at hF
    cases hF
    exact x_vret hx hb hlocks hK hR hS hr dX2_setByte_79
  · rw [if_neg ci13] at hF
    refine lv_iload hx hb dX2_setByte_27 (lv_at hl 0 rfl) ?_
    refine x_if_lt (tgt := 79) hx hb hg9 dX2_setByte_29 (by decide) (fun ci14 => ?_) (fun ci14 => ?_)
    · rw [if_pos ci14] at hF
      cases hF
      exact x_vret hx hb hlocks hK hR hS hr dX2_setByte_79
    · rw [if_neg ci14] at hF
      refine lv_iload hx hb dX2_setByte_32 (lv_at hl 0 rfl) ?_
      refine lv_aload_n hx hb dX2_setByte_34 rfl (lv_at hl 2 rfl) ?_
      refine gf_2_3 hx hb hts hown hK hR ho wd91 dX2_setByte_35 ?_
      refine x_alen7 hx hb hK hR (ok7 ho) dX2_setByte_38 ?_
      refine x_icmp_ge (tgt := 79) hx hb hg9 (by decide : rg (256 : Int)) dX2_setByte_39 (by decide) (fun ci15 => ?_) (fun ci15 => ?_)
      · rw [if_pos ci15] at hF
        cases hF
        exact x_vret hx hb hlocks hK hR hS hr dX2_setByte_79
      · rw [if_neg ci15] at hF
        refine lv_iload_n hx hb dX2_setByte_42 rfl (lv_at hl 4 rfl) ?_
        obtain ⟨y17, hc16, hF⟩ := xb1_some hF
        refine x_cSi (As := [.int (jI a2)]) (rest := []) hx hb hml hown hts hK hR hS (c_X2_shiftOf ha2 hc16) wd552 wd553 wd2 wd554 hyX2_shiftOf ⟨rfl, rfl⟩ ⟨Nat.le_of_ble_eq_true rfl, Nat.le_of_ble_eq_true rfl⟩ hl.1 (Nat.le_of_ble_eq_true rfl) dX2_setByte_43 ⟨Nat.zero_le _, Nat.zero_le _⟩ rfl (fun hg18 H locs hR hS => ?_)
        refine lv_istore (lv' := [(6, .int (jI y17)), (5, .int (jI y8)), (4, .int (jI y4)), (0, .ref (adr b 1 o)), (1, .ref (adr b 2 a1)), (2, .int (jI a2)), (3, .int (jI a3))]) hx hb dX2_setByte_46 hl (by decide) rfl (fun ls hl => ?_)
        refine lv_aload_n hx hb dX2_setByte_48 rfl (lv_at hl 3 rfl) ?_
        refine gf_2_3 hx hb hts hown hK hR ho wd91 dX2_setByte_49 ?_
        refine lv_iload hx hb dX2_setByte_52 (lv_at hl 1 rfl) ?_
        refine lv_aload_n hx hb dX2_setByte_54 rfl (lv_at hl 3 rfl) ?_
        refine gf_2_3 hx hb hts hown hK hR ho wd91 dX2_setByte_55 ?_
        refine lv_iload hx hb dX2_setByte_58 (lv_at hl 1 rfl) ?_
        obtain ⟨hi19, hF⟩ := xk_some hF
        refine x_lald hx hb hK hR (ok7 ho) hg9 hi19 dX2_setByte_60 ?_
        refine lv_ldc2 (v := (255 : Int64)) hx hb hown (hts _ wd555) dX2_setByte_61 ?_
        refine lv_iload hx hb dX2_setByte_64 (lv_at hl 0 rfl) ?_
        refine lv_lshl (v := ((255 : Int64) <<< ((jI y17).toInt64 &&& 63))) hx hb dX2_setByte_66 rfl ?_
        refine lv_ldc2 (v := (-1 : Int64)) hx hb hown (hts _ wd524) dX2_setByte_67 ?_
        refine lv_lxor hx hb dX2_setByte_70 ?_
        refine lv_land hx hb dX2_setByte_71 ?_
        refine lv_iload_n hx hb dX2_setByte_72 rfl (lv_at hl 6 rfl) ?_
        refine lv_i2l (v := ((jI a3).toInt64)) hx hb dX2_setByte_73 rfl ?_
        refine lv_iload hx hb dX2_setByte_74 (lv_at hl 0 rfl) ?_
        refine lv_lshl (v := (((jI a3).toInt64) <<< ((jI y17).toInt64 &&& 63))) hx hb dX2_setByte_76 rfl ?_
        refine lv_lor hx hb dX2_setByte_77 ?_
        obtain ⟨hi20, hF⟩ := xk_some hF
        refine x_last hx hb hK hR hS (ok7 ho) hg9 hi20 dX2_setByte_78 (fun H locs hR hS => ?_)
        obtain ⟨M21, eM, hF⟩ := xl_some hF
        rw [eM] at hR
        clear eM
        cases hF
        exact x_vret hx hb hlocks hK hR hS hr dX2_setByte_79
abbrev rmX2_writeRow : Room := { frames := 4, cells := 0, slots := 0, locals := 95 }
theorem hyX2_writeRow : yX2_writeRow.cls = RX2 ∧ yX2_writeRow.cls ≠ "java/lang/invoke/MethodHandle" ∧ yX2_writeRow.cls ≠ "java/lang/invoke/VarHandle" ∧ (parseMethodDescriptor yX2_writeRow.desc).map (fun d => d.parameters.length) = some 4 := by decide +kernel
def F_X2_writeRow_3  : Nat → Mm → Nat → Nat → Int → Int → Int → Int → Option (Mm)
  | 0, _, _, _, _, _, _, _ => none
  | n + 1, M, v0, v1, v2, v3, v4, v5 => (if v3 ≤ v5 then (xk (rg (v2 + v3)) (xl (mup M 2 v1 3 (maxI (M 2 v1 3) (v2 + v3))) fun M4 => (some M4))) else (xk (rg (v2 + v5)) (xk (rg (v4 + v5)) (xk (rg (Int.tmod (v4 + v5) (256 : Int))) (xb1 (F_X2_setByte M v0 v1 (v2 + v5) (Int.tmod (v4 + v5) (256 : Int))) fun M10 => (xk (rg (v5 + (1 : Int))) (F_X2_writeRow_3  n M10 v0 v1 v2 v3 v4 (v5 + (1 : Int)))))))))
set_option maxHeartbeats 4000000 in
set_option maxRecDepth 100000 in
theorem w_X2_writeRow_3 {p : Program} {l : Launch} {e : Env} {s : State} {m : MethodId} {args : Array Value} {below : List Frame} {meth : Method} {c : Code} {g : Gx} {b : Nat} (C0 : XA p s m meth c args RX2 cX2_writeRow 6 none g) {M' : Mm} : ∀ n : Nat, ∀ (M : Mm) (v0 : Nat) (v1 : Nat) (v2 : Int) (v3 : Int) (v4 : Int) (v5 : Int) (hv0 : v0 < 3) (hv1 : v1 < 99) (hv2 : rg v2) (hv3 : rg v3) (hv4 : rg v4) (hv5 : rg v5) (H : Heap) (locs : List Loc), Rel g b M H → va_S (AA b s.heap.size) s.heap H locs → ∀ ls : Array Slot, lv_has ls 6 [(0, .ref (adr b 1 v0)), (1, .ref (adr b 2 v1)), (2, .int (jI v2)), (3, .int (jI v3)), (4, .int (jI v4)), (5, .int (jI v5))] → F_X2_writeRow_3  n M v0 v1 v2 v3 v4 v5 = some M' → W p l e rmX2_writeRow s m args below meth c H locs 0 0 (MQ below (qV g b M' s.heap.size) args s 0 0 (AA b s.heap.size)) (F0 m 3 ls []) := by
  obtain ⟨hx, hb, hr, hlocks, hml, hown, hts, hK⟩ := id C0
  intro n
  induction n with
  | zero =>
    intro M v0 v1 v2 v3 v4 v5 hv0 hv1 hv2 hv3 hv4 hv5 H locs hR hS ls hl hF
    rw [F_X2_writeRow_3] at hF
    cases hF
  | succ n ih =>
    intro M v0 v1 v2 v3 v4 v5 hv0 hv1 hv2 hv3 hv4 hv5 H locs hR hS ls hl hF
    rw [F_X2_writeRow_3] at hF
    refine lv_iload hx hb dX2_writeRow_3 (lv_at hl 5 rfl) ?_
    refine lv_iload_n hx hb dX2_writeRow_5 rfl (lv_at hl 3 rfl) ?_
    refine x_icmp_ge (tgt := 33) hx hb hv5 hv3 dX2_writeRow_6 (by decide) (fun ci1 => ?_) (fun ci1 => ?_)
    · rw [if_pos ci1] at hF
      refine lv_aload_n hx hb dX2_writeRow_33 rfl (lv_at hl 1 rfl) ?_
      refine lv_aload_n hx hb dX2_writeRow_34 rfl (lv_at hl 1 rfl) ?_
      refine gf_1_3 hx hb hts hown hK hR hv1 wd45 dX2_writeRow_35 ?_
      have hg2 : rg (M 2 v1 3) := hR.2 2 v1 3 (by decide)
      refine lv_iload_n hx hb dX2_writeRow_38 rfl (lv_at hl 2 rfl) ?_
      refine lv_iload_n hx hb dX2_writeRow_39 rfl (lv_at hl 3 rfl) ?_
      obtain ⟨hq3, hF⟩ := xk_some hF
      refine x_iadd hx hb dX2_writeRow_40 ?_
      refine x_max hx hb hml hl.1 hts hown wd814 wd283 wd12 wd284 (Nat.le_of_ble_eq_true rfl) (Nat.le_of_ble_eq_true rfl) ⟨Nat.zero_le _, Nat.zero_le _⟩ hg2 hq3 dX2_writeRow_41 ?_
      refine pf_1_3 hx hb hts hown hK hR hS hv1 (maxI_rg hg2 hq3) wd45 dX2_writeRow_44 (fun H locs hR hS => ?_)
      obtain ⟨M4, eM, hF⟩ := xl_some hF
      rw [eM] at hR
      clear eM
      cases hF
      exact x_vret hx hb hlocks hK hR hS hr dX2_writeRow_47
    · rw [if_neg ci1] at hF
      refine lv_aload_n hx hb dX2_writeRow_9 rfl (lv_at hl 0 rfl) ?_
      refine lv_aload_n hx hb dX2_writeRow_10 rfl (lv_at hl 1 rfl) ?_
      refine lv_iload_n hx hb dX2_writeRow_11 rfl (lv_at hl 2 rfl) ?_
      refine lv_iload hx hb dX2_writeRow_12 (lv_at hl 5 rfl) ?_
      obtain ⟨hq5, hF⟩ := xk_some hF
      refine x_iadd hx hb dX2_writeRow_14 ?_
      refine lv_iload hx hb dX2_writeRow_15 (lv_at hl 4 rfl) ?_
      refine lv_iload hx hb dX2_writeRow_17 (lv_at hl 5 rfl) ?_
      obtain ⟨hq6, hF⟩ := xk_some hF
      refine x_iadd hx hb dX2_writeRow_19 ?_
      refine x_sipush hx hb (by decide +kernel) dX2_writeRow_20 ?_
      obtain ⟨hq8, hF⟩ := xk_some hF
      refine x_irem hx hb hq6 (by decide : rg (256 : Int)) (by decide) dX2_writeRow_23 ?_
      obtain ⟨M10, hc9, hF⟩ := xb1_some hF
      refine x_cVv (C := RX2) (T := TX2) (N := 8) (ci := 2) (As := [.ref (adr b 2 v1), .int (jI (v2 + v5)), .int (jI (Int.tmod (v4 + v5) (256 : Int)))]) (rest := []) hx hb hml hown hts hK hR hS (c_X2_setByte hv0 hv1 hq5 hq8 hc9) (ok1 hv0) rfl rfl wd749 wd750 wd751 wd2 wd752 hyX2_setByte ⟨rfl, rfl⟩ ⟨Nat.le_of_ble_eq_true rfl, Nat.le_of_ble_eq_true rfl⟩ hl.1 (Nat.le_of_ble_eq_true rfl) dX2_writeRow_24 ⟨Nat.zero_le _, Nat.zero_le _⟩ rfl (fun H locs hR hS => ?_)
      obtain ⟨hq11, hF⟩ := xk_some hF
      refine x_iinc (lv' := [(5, .int (jI (v5 + (1 : Int)))), (0, .ref (adr b 1 v0)), (1, .ref (adr b 2 v1)), (2, .int (jI v2)), (3, .int (jI v3)), (4, .int (jI v4))]) hx hb dX2_writeRow_27 hl (k := 5) rfl (by decide) rfl (fun ls hl => ?_)
      refine lv_goto (tgt := 3) hx hb dX2_writeRow_30 (by decide) ?_
      exact ih M10 v0 v1 v2 v3 v4 (v5 + (1 : Int)) hv0 hv1 hv2 hv3 hv4 hq11 H locs hR hS ls (lv_sub hl [1, 2, 3, 4, 5, 0] rfl) hF
def F_X2_writeRow (M : Mm) (o : Nat) (a1 : Nat) (a2 : Int) (a3 : Int) (a4 : Int) : Option (Mm) := (F_X2_writeRow_3  FU M o a1 a2 a3 a4 (0 : Int))
set_option maxHeartbeats 4000000 in
set_option maxRecDepth 100000 in
theorem c_X2_writeRow {l : Launch} {g : Gx} {b : Nat} {M : Mm} {o : Nat} {a1 : Nat} {a2 : Int} {a3 : Int} {a4 : Int} {M' : Mm} (ho : o < 3) (ha1 : a1 < 99) (ha2 : rg a2) (ha3 : rg a3) (ha4 : rg a4) (hF : F_X2_writeRow M o a1 a2 a3 a4 = some M') : Ct l yX2_writeRow cX2_writeRow 6 none rmX2_writeRow g b [.ref (adr b 1 o), .ref (adr b 2 a1), .int (jI a2), .int (jI a3), .int (jI a4)] M (qV g b M') := by
  refine ct_of (by decide +kernel) (Nat.le_of_ble_eq_true rfl) ?_
  intro p e s m args below meth c C0 hR ls hl
  obtain ⟨hx, hb, hr, hlocks, hml, hown, hts, hK⟩ := id C0
  have hS : va_S (AA b s.heap.size) s.heap s.heap [] := va_S.rf
  have hl : lv_has ls 6 [(0, .ref (adr b 1 o)), (1, .ref (adr b 2 a1)), (2, .int (jI a2)), (3, .int (jI a3)), (4, .int (jI a4))] := hl
  obtain ⟨H, hH⟩ : ∃ z, z = s.heap := ⟨_, rfl⟩
  obtain ⟨locs, hlo⟩ : ∃ z : List Loc, z = [] := ⟨_, rfl⟩
  have hR : Rel g b M H := by rw [hH]; exact hR
  have hS : va_S (AA b s.heap.size) s.heap H locs := by rw [hH, hlo]; exact hS
  suffices hW : W p l e rmX2_writeRow s m args below meth c H locs 0 0 (MQ below (qV g b M' s.heap.size) args s 0 0 (AA b s.heap.size)) (F0 m 0 ls []) by rw [hH, hlo] at hW; exact hW
  rw [F_X2_writeRow] at hF
  refine x_iconst hx hb dX2_writeRow_0 ?_
  refine lv_istore (lv' := [(5, .int (jI (0 : Int))), (0, .ref (adr b 1 o)), (1, .ref (adr b 2 a1)), (2, .int (jI a2)), (3, .int (jI a3)), (4, .int (jI a4))]) hx hb dX2_writeRow_1 hl (by decide) rfl (fun ls hl => ?_)
  exact w_X2_writeRow_3 C0  FU M o a1 a2 a3 a4 (0 : Int) ho ha1 ha2 ha3 ha4 (by decide : rg (0 : Int)) H locs hR hS ls (lv_sub hl [1, 2, 3, 4, 5, 0] rfl) hF
abbrev rmX2_resize : Room := { frames := 4, cells := 0, slots := 0, locals := 95 }
theorem hyX2_resize : yX2_resize.cls = RX2 ∧ yX2_resize.cls ≠ "java/lang/invoke/MethodHandle" ∧ yX2_resize.cls ≠ "java/lang/invoke/VarHandle" ∧ (parseMethodDescriptor yX2_resize.desc).map (fun d => d.parameters.length) = some 2 := by decide +kernel
def F_X2_resize_62  : Nat → Mm → Nat → Nat → Int → Int → Option (Mm)
  | 0, _, _, _, _, _ => none
  | n + 1, M, v0, v1, v5, v6 => (if v5 ≤ v6 then (some M) else (xk (rg (Int.tdiv v6 (16 : Int))) (xb1 (F_X1_blockAt M v1 (Int.tdiv v6 (16 : Int))) fun y5 => (if y5 = 0 then (xk (rg (v6 + (1 : Int))) (F_X2_resize_62  n M v0 v1 v5 (v6 + (1 : Int)))) else (xb1 (F_X2_setByte M v0 v1 v6 (0 : Int)) fun M10 => (xk (rg (v6 + (1 : Int))) (F_X2_resize_62  n M10 v0 v1 v5 (v6 + (1 : Int)))))))))
set_option maxHeartbeats 4000000 in
set_option maxRecDepth 100000 in
theorem w_X2_resize_62 {p : Program} {l : Launch} {e : Env} {s : State} {m : MethodId} {args : Array Value} {below : List Frame} {meth : Method} {c : Code} {g : Gx} {b : Nat} (C0 : XA p s m meth c args RX2 cX2_resize 7 none g) {M' : Mm} : ∀ n : Nat, ∀ (M : Mm) (v0 : Nat) (v1 : Nat) (v5 : Int) (v6 : Int) (hv0 : v0 < 3) (hv1 : v1 < 99) (hv5 : rg v5) (hv6 : rg v6) (H : Heap) (locs : List Loc), Rel g b M H → va_S (AA b s.heap.size) s.heap H locs → ∀ ls : Array Slot, lv_has ls 7 [(0, .ref (adr b 1 v0)), (1, .ref (adr b 2 v1)), (5, .int (jI v5)), (6, .int (jI v6))] → F_X2_resize_62  n M v0 v1 v5 v6 = some M' → W p l e rmX2_resize s m args below meth c H locs 0 0 (MQ below (qV g b M' s.heap.size) args s 0 0 (AA b s.heap.size)) (F0 m 62 ls []) := by
  obtain ⟨hx, hb, hr, hlocks, hml, hown, hts, hK⟩ := id C0
  intro n
  induction n with
  | zero =>
    intro M v0 v1 v5 v6 hv0 hv1 hv5 hv6 H locs hR hS ls hl hF
    rw [F_X2_resize_62] at hF
    cases hF
  | succ n ih =>
    intro M v0 v1 v5 v6 hv0 hv1 hv5 hv6 H locs hR hS ls hl hF
    rw [F_X2_resize_62] at hF
    refine lv_iload hx hb dX2_resize_62 (lv_at hl 3 rfl) ?_
    refine lv_iload hx hb dX2_resize_64 (lv_at hl 2 rfl) ?_
    refine x_icmp_ge (tgt := 95) hx hb hv6 hv5 dX2_resize_66 (by decide) (fun ci1 => ?_) (fun ci1 => ?_)
    · rw [if_pos ci1] at hF
      cases hF
      exact x_vret hx hb hlocks hK hR hS hr dX2_resize_95
    · rw [if_neg ci1] at hF
      refine lv_aload_n hx hb dX2_resize_69 rfl (lv_at hl 1 rfl) ?_
      refine lv_iload hx hb dX2_resize_70 (lv_at hl 3 rfl) ?_
      refine x_bipush hx hb (by decide +kernel) dX2_resize_72 ?_
      obtain ⟨hq3, hF⟩ := xk_some hF
      refine x_idiv hx hb hv6 (by decide : rg (16 : Int)) (by decide) dX2_resize_74 ?_
      obtain ⟨y5, hc4, hF⟩ := xb1_some hF
      refine x_cVi (C := RX1) (T := TX1) (N := 12) (ci := 1) (As := [.int (jI (Int.tdiv v6 (16 : Int)))]) (rest := []) hx hb hml hown hts hK hR hS (c_X1_blockAt hv1 hq3 hc4) (ok2 hv1) rfl rfl wd310 wd311 wd312 wd3 wd313 hyX1_blockAt ⟨rfl, rfl⟩ ⟨Nat.le_of_ble_eq_true rfl, Nat.le_of_ble_eq_true rfl⟩ hl.1 (Nat.le_of_ble_eq_true rfl) dX2_resize_75 ⟨Nat.zero_le _, Nat.zero_le _⟩ rfl (fun hg6 H locs hR hS => ?_)
      refine x_if_eq (tgt := 89) hx hb hg6 dX2_resize_78 (by decide) (fun ci7 => ?_) (fun ci7 => ?_)
      · rw [if_pos ci7] at hF
        obtain ⟨hq8, hF⟩ := xk_some hF
        refine x_iinc (lv' := [(6, .int (jI (v6 + (1 : Int)))), (0, .ref (adr b 1 v0)), (1, .ref (adr b 2 v1)), (5, .int (jI v5))]) hx hb dX2_resize_89 hl (k := 3) rfl (by decide) rfl (fun ls hl => ?_)
        refine lv_goto (tgt := 62) hx hb dX2_resize_92 (by decide) ?_
        exact ih M v0 v1 v5 (v6 + (1 : Int)) hv0 hv1 hv5 hq8 H locs hR hS ls (lv_sub hl [1, 2, 3, 0] rfl) hF
      · rw [if_neg ci7] at hF
        refine lv_aload_n hx hb dX2_resize_81 rfl (lv_at hl 0 rfl) ?_
        refine lv_aload_n hx hb dX2_resize_82 rfl (lv_at hl 1 rfl) ?_
        refine lv_iload hx hb dX2_resize_83 (lv_at hl 3 rfl) ?_
        refine x_iconst hx hb dX2_resize_85 ?_
        obtain ⟨M10, hc9, hF⟩ := xb1_some hF
        refine x_cVv (C := RX2) (T := TX2) (N := 8) (ci := 2) (As := [.ref (adr b 2 v1), .int (jI v6), .int (jI (0 : Int))]) (rest := []) hx hb hml hown hts hK hR hS (c_X2_setByte hv0 hv1 hv6 (by decide : rg (0 : Int)) hc9) (ok1 hv0) rfl rfl wd749 wd750 wd751 wd2 wd752 hyX2_setByte ⟨rfl, rfl⟩ ⟨Nat.le_of_ble_eq_true rfl, Nat.le_of_ble_eq_true rfl⟩ hl.1 (Nat.le_of_ble_eq_true rfl) dX2_resize_86 ⟨Nat.zero_le _, Nat.zero_le _⟩ rfl (fun H locs hR hS => ?_)
        obtain ⟨hq11, hF⟩ := xk_some hF
        refine x_iinc (lv' := [(6, .int (jI (v6 + (1 : Int)))), (0, .ref (adr b 1 v0)), (1, .ref (adr b 2 v1)), (5, .int (jI v5))]) hx hb dX2_resize_89 hl (k := 3) rfl (by decide) rfl (fun ls hl => ?_)
        refine lv_goto (tgt := 62) hx hb dX2_resize_92 (by decide) ?_
        exact ih M10 v0 v1 v5 (v6 + (1 : Int)) hv0 hv1 hv5 hq11 H locs hR hS ls (lv_sub hl [1, 2, 3, 0] rfl) hF
def F_X2_resize_31  : Nat → Mm → Nat → Nat → Int → Int → Int → Option (Mm)
  | 0, _, _, _, _, _, _ => none
  | n + 1, M, v0, v1, v2, v4, v5 => (if (20 : Int) ≤ v5 then (xk (rg (v4 * (16 : Int))) (F_X2_resize_62  FU M v0 v1 (v4 * (16 : Int)) v2)) else (xb1 (F_X2_put M v0 v1 v5 (0 : Int)) fun M13 => (xk (rg (v5 + (1 : Int))) (F_X2_resize_31  n M13 v0 v1 v2 v4 (v5 + (1 : Int))))))
set_option maxHeartbeats 4000000 in
set_option maxRecDepth 100000 in
theorem w_X2_resize_31 {p : Program} {l : Launch} {e : Env} {s : State} {m : MethodId} {args : Array Value} {below : List Frame} {meth : Method} {c : Code} {g : Gx} {b : Nat} (C0 : XA p s m meth c args RX2 cX2_resize 7 none g) {M' : Mm} : ∀ n : Nat, ∀ (M : Mm) (v0 : Nat) (v1 : Nat) (v2 : Int) (v4 : Int) (v5 : Int) (hv0 : v0 < 3) (hv1 : v1 < 99) (hv2 : rg v2) (hv4 : rg v4) (hv5 : rg v5) (H : Heap) (locs : List Loc), Rel g b M H → va_S (AA b s.heap.size) s.heap H locs → ∀ ls : Array Slot, lv_has ls 7 [(0, .ref (adr b 1 v0)), (1, .ref (adr b 2 v1)), (2, .int (jI v2)), (4, .int (jI v4)), (5, .int (jI v5))] → F_X2_resize_31  n M v0 v1 v2 v4 v5 = some M' → W p l e rmX2_resize s m args below meth c H locs 0 0 (MQ below (qV g b M' s.heap.size) args s 0 0 (AA b s.heap.size)) (F0 m 31 ls []) := by
  obtain ⟨hx, hb, hr, hlocks, hml, hown, hts, hK⟩ := id C0
  intro n
  induction n with
  | zero =>
    intro M v0 v1 v2 v4 v5 hv0 hv1 hv2 hv4 hv5 H locs hR hS ls hl hF
    rw [F_X2_resize_31] at hF
    cases hF
  | succ n ih =>
    intro M v0 v1 v2 v4 v5 hv0 hv1 hv2 hv4 hv5 H locs hR hS ls hl hF
    rw [F_X2_resize_31] at hF
    refine lv_iload hx hb dX2_resize_31 (lv_at hl 4 rfl) ?_
    refine x_bipush hx hb (by decide +kernel) dX2_resize_33 ?_
    refine x_icmp_ge (tgt := 52) hx hb hv5 (by decide : rg (20 : Int)) dX2_resize_35 (by decide) (fun ci1 => ?_) (fun ci1 => ?_)
    · rw [if_pos ci1] at hF
      refine lv_iload hx hb dX2_resize_52 (lv_at hl 3 rfl) ?_
      refine x_bipush hx hb (by decide +kernel) dX2_resize_54 ?_
      obtain ⟨hq2, hF⟩ := xk_some hF
      refine x_imul hx hb dX2_resize_56 ?_
      refine lv_istore (lv' := [(5, .int (jI (v4 * (16 : Int)))), (0, .ref (adr b 1 v0)), (1, .ref (adr b 2 v1)), (2, .int (jI v2)), (4, .int (jI v4))]) hx hb dX2_resize_57 hl (by decide) rfl (fun ls hl => ?_)
      refine lv_iload_n hx hb dX2_resize_59 rfl (lv_at hl 3 rfl) ?_
      refine lv_istore (lv' := [(6, .int (jI v2)), (5, .int (jI (v4 * (16 : Int)))), (0, .ref (adr b 1 v0)), (1, .ref (adr b 2 v1)), (2, .int (jI v2)), (4, .int (jI v4))]) hx hb dX2_resize_60 hl (by decide) rfl (fun ls hl => ?_)
      exact w_X2_resize_62 C0  FU M v0 v1 (v4 * (16 : Int)) v2 hv0 hv1 hq2 hv2 H locs hR hS ls (lv_sub hl [2, 3, 1, 0] rfl) hF
    · rw [if_neg ci1] at hF
      refine lv_aload_n hx hb dX2_resize_38 rfl (lv_at hl 0 rfl) ?_
      refine lv_aload_n hx hb dX2_resize_39 rfl (lv_at hl 1 rfl) ?_
      refine lv_iload hx hb dX2_resize_40 (lv_at hl 4 rfl) ?_
      refine x_iconst hx hb dX2_resize_42 ?_
      obtain ⟨M13, hc12, hF⟩ := xb1_some hF
      refine x_cVv (C := RX2) (T := TX2) (N := 8) (ci := 2) (As := [.ref (adr b 2 v1), .int (jI v5), .int (jI (0 : Int))]) (rest := []) hx hb hml hown hts hK hR hS (c_X2_put hv0 hv1 hv5 (by decide : rg (0 : Int)) hc12) (ok1 hv0) rfl rfl wd306 wd307 wd308 wd2 wd309 hyX2_put ⟨rfl, rfl⟩ ⟨Nat.le_of_ble_eq_true rfl, Nat.le_of_ble_eq_true rfl⟩ hl.1 (Nat.le_of_ble_eq_true rfl) dX2_resize_43 ⟨Nat.zero_le _, Nat.zero_le _⟩ rfl (fun H locs hR hS => ?_)
      obtain ⟨hq14, hF⟩ := xk_some hF
      refine x_iinc (lv' := [(5, .int (jI (v5 + (1 : Int)))), (0, .ref (adr b 1 v0)), (1, .ref (adr b 2 v1)), (2, .int (jI v2)), (4, .int (jI v4))]) hx hb dX2_resize_46 hl (k := 4) rfl (by decide) rfl (fun ls hl => ?_)
      refine lv_goto (tgt := 31) hx hb dX2_resize_49 (by decide) ?_
      exact ih M13 v0 v1 v2 v4 (v5 + (1 : Int)) hv0 hv1 hv2 hv4 hq14 H locs hR hS ls (lv_sub hl [1, 2, 3, 4, 0] rfl) hF
def F_X2_resize (M : Mm) (o : Nat) (a1 : Nat) (a2 : Int) : Option (Mm) := (xl (mup M 2 a1 3 a2) fun M2 => (if a2 < (M 2 a1 3) then (xk (rg (a2 + (16 : Int))) (xk (rg ((a2 + (16 : Int)) - (1 : Int))) (xk (rg (Int.tdiv ((a2 + (16 : Int)) - (1 : Int)) (16 : Int))) (F_X2_resize_31  FU M2 o a1 a2 (Int.tdiv ((a2 + (16 : Int)) - (1 : Int)) (16 : Int)) (Int.tdiv ((a2 + (16 : Int)) - (1 : Int)) (16 : Int)))))) else (some M2)))
set_option maxHeartbeats 4000000 in
set_option maxRecDepth 100000 in
theorem c_X2_resize {l : Launch} {g : Gx} {b : Nat} {M : Mm} {o : Nat} {a1 : Nat} {a2 : Int} {M' : Mm} (ho : o < 3) (ha1 : a1 < 99) (ha2 : rg a2) (hF : F_X2_resize M o a1 a2 = some M') : Ct l yX2_resize cX2_resize 7 none rmX2_resize g b [.ref (adr b 1 o), .ref (adr b 2 a1), .int (jI a2)] M (qV g b M') := by
  refine ct_of (by decide +kernel) (Nat.le_of_ble_eq_true rfl) ?_
  intro p e s m args below meth c C0 hR ls hl
  obtain ⟨hx, hb, hr, hlocks, hml, hown, hts, hK⟩ := id C0
  have hS : va_S (AA b s.heap.size) s.heap s.heap [] := va_S.rf
  have hl : lv_has ls 7 [(0, .ref (adr b 1 o)), (1, .ref (adr b 2 a1)), (2, .int (jI a2))] := hl
  obtain ⟨H, hH⟩ : ∃ z, z = s.heap := ⟨_, rfl⟩
  obtain ⟨locs, hlo⟩ : ∃ z : List Loc, z = [] := ⟨_, rfl⟩
  have hR : Rel g b M H := by rw [hH]; exact hR
  have hS : va_S (AA b s.heap.size) s.heap H locs := by rw [hH, hlo]; exact hS
  suffices hW : W p l e rmX2_resize s m args below meth c H locs 0 0 (MQ below (qV g b M' s.heap.size) args s 0 0 (AA b s.heap.size)) (F0 m 0 ls []) by rw [hH, hlo] at hW; exact hW
  rw [F_X2_resize] at hF
  refine lv_aload_n hx hb dX2_resize_0 rfl (lv_at hl 1 rfl) ?_
  refine gf_1_3 hx hb hts hown hK hR ha1 wd45 dX2_resize_1 ?_
  have hg1 : rg (M 2 a1 3) := hR.2 2 a1 3 (by decide)
  refine lv_istore_n (lv' := [(3, .int (jI (M 2 a1 3))), (0, .ref (adr b 1 o)), (1, .ref (adr b 2 a1)), (2, .int (jI a2))]) hx hb dX2_resize_4 rfl hl (by decide) rfl (fun ls hl => ?_)
  refine lv_aload_n hx hb dX2_resize_5 rfl (lv_at hl 2 rfl) ?_
  refine lv_iload_n hx hb dX2_resize_6 rfl (lv_at hl 3 rfl) ?_
  refine pf_1_3 hx hb hts hown hK hR hS ha1 ha2 wd45 dX2_resize_7 (fun H locs hR hS => ?_)
  obtain ⟨M2, eM, hF⟩ := xl_some hF
  rw [eM] at hR
  clear eM
  refine lv_iload_n hx hb dX2_resize_10 rfl (lv_at hl 3 rfl) ?_
  refine lv_iload_n hx hb dX2_resize_11 rfl (lv_at hl 0 rfl) ?_
  refine x_icmp_lt (tgt := 16) hx hb ha2 hg1 dX2_resize_12 (by decide) (fun ci3 => ?_) (fun ci3 => ?_)
  · rw [if_pos ci3] at hF
    refine lv_iload_n hx hb dX2_resize_16 rfl (lv_at hl 3 rfl) ?_
    refine x_bipush hx hb (by decide +kernel) dX2_resize_17 ?_
    obtain ⟨hq4, hF⟩ := xk_some hF
    refine x_iadd hx hb dX2_resize_19 ?_
    refine x_iconst hx hb dX2_resize_20 ?_
    obtain ⟨hq5, hF⟩ := xk_some hF
    refine x_isub hx hb dX2_resize_21 ?_
    refine x_bipush hx hb (by decide +kernel) dX2_resize_22 ?_
    obtain ⟨hq7, hF⟩ := xk_some hF
    refine x_idiv hx hb hq5 (by decide : rg (16 : Int)) (by decide) dX2_resize_24 ?_
    refine lv_istore (lv' := [(4, .int (jI (Int.tdiv ((a2 + (16 : Int)) - (1 : Int)) (16 : Int)))), (3, .int (jI (M 2 a1 3))), (0, .ref (adr b 1 o)), (1, .ref (adr b 2 a1)), (2, .int (jI a2))]) hx hb dX2_resize_25 hl (by decide) rfl (fun ls hl => ?_)
    refine lv_iload hx hb dX2_resize_27 (lv_at hl 0 rfl) ?_
    refine lv_istore (lv' := [(5, .int (jI (Int.tdiv ((a2 + (16 : Int)) - (1 : Int)) (16 : Int)))), (4, .int (jI (Int.tdiv ((a2 + (16 : Int)) - (1 : Int)) (16 : Int)))), (3, .int (jI (M 2 a1 3))), (0, .ref (adr b 1 o)), (1, .ref (adr b 2 a1)), (2, .int (jI a2))]) hx hb dX2_resize_29 hl (by decide) rfl (fun ls hl => ?_)
    exact w_X2_resize_31 C0  FU M2 o a1 a2 (Int.tdiv ((a2 + (16 : Int)) - (1 : Int)) (16 : Int)) (Int.tdiv ((a2 + (16 : Int)) - (1 : Int)) (16 : Int)) ho ha1 ha2 hq7 hq7 H locs hR hS ls (lv_sub hl [3, 4, 5, 1, 0] rfl) hF
  · rw [if_neg ci3] at hF
    cases hF
    exact x_vret hx hb hlocks hK hR hS hr dX2_resize_15
abbrev rmX2_shareAll : Room := { frames := 2, cells := 0, slots := 0, locals := 45 }
theorem hyX2_shareAll : yX2_shareAll.cls = RX2 ∧ yX2_shareAll.cls ≠ "java/lang/invoke/MethodHandle" ∧ yX2_shareAll.cls ≠ "java/lang/invoke/VarHandle" ∧ (parseMethodDescriptor yX2_shareAll.desc).map (fun d => d.parameters.length) = some 2 := by decide +kernel
def F_X2_shareAll_10  : Nat → Mm → Nat → Nat → Nat → Int → Option (Mm)
  | 0, _, _, _, _, _ => none
  | n + 1, M, v0, v1, v2, v3 => (if (20 : Int) ≤ v3 then (some M) else (xb1 (F_X1_blockAt M v2 v3) fun y3 => (xb1 (F_X2_put M v0 v1 v3 y3) fun M6 => (xk (rg (v3 + (1 : Int))) (F_X2_shareAll_10  n M6 v0 v1 v2 (v3 + (1 : Int)))))))
set_option maxHeartbeats 4000000 in
set_option maxRecDepth 100000 in
theorem w_X2_shareAll_10 {p : Program} {l : Launch} {e : Env} {s : State} {m : MethodId} {args : Array Value} {below : List Frame} {meth : Method} {c : Code} {g : Gx} {b : Nat} (C0 : XA p s m meth c args RX2 cX2_shareAll 4 none g) {M' : Mm} : ∀ n : Nat, ∀ (M : Mm) (v0 : Nat) (v1 : Nat) (v2 : Nat) (v3 : Int) (hv0 : v0 < 3) (hv1 : v1 < 99) (hv2 : v2 < 99) (hv3 : rg v3) (H : Heap) (locs : List Loc), Rel g b M H → va_S (AA b s.heap.size) s.heap H locs → ∀ ls : Array Slot, lv_has ls 4 [(0, .ref (adr b 1 v0)), (1, .ref (adr b 2 v1)), (2, .ref (adr b 2 v2)), (3, .int (jI v3))] → F_X2_shareAll_10  n M v0 v1 v2 v3 = some M' → W p l e rmX2_shareAll s m args below meth c H locs 0 0 (MQ below (qV g b M' s.heap.size) args s 0 0 (AA b s.heap.size)) (F0 m 10 ls []) := by
  obtain ⟨hx, hb, hr, hlocks, hml, hown, hts, hK⟩ := id C0
  intro n
  induction n with
  | zero =>
    intro M v0 v1 v2 v3 hv0 hv1 hv2 hv3 H locs hR hS ls hl hF
    rw [F_X2_shareAll_10] at hF
    cases hF
  | succ n ih =>
    intro M v0 v1 v2 v3 hv0 hv1 hv2 hv3 H locs hR hS ls hl hF
    rw [F_X2_shareAll_10] at hF
    refine lv_iload_n hx hb dX2_shareAll_10 rfl (lv_at hl 3 rfl) ?_
    refine x_bipush hx hb (by decide +kernel) dX2_shareAll_11 ?_
    refine x_icmp_ge (tgt := 33) hx hb hv3 (by decide : rg (20 : Int)) dX2_shareAll_13 (by decide) (fun ci1 => ?_) (fun ci1 => ?_)
    · rw [if_pos ci1] at hF
      cases hF
      exact x_vret hx hb hlocks hK hR hS hr dX2_shareAll_33
    · rw [if_neg ci1] at hF
      refine lv_aload_n hx hb dX2_shareAll_16 rfl (lv_at hl 0 rfl) ?_
      refine lv_aload_n hx hb dX2_shareAll_17 rfl (lv_at hl 1 rfl) ?_
      refine lv_iload_n hx hb dX2_shareAll_18 rfl (lv_at hl 3 rfl) ?_
      refine lv_aload_n hx hb dX2_shareAll_19 rfl (lv_at hl 2 rfl) ?_
      refine lv_iload_n hx hb dX2_shareAll_20 rfl (lv_at hl 3 rfl) ?_
      obtain ⟨y3, hc2, hF⟩ := xb1_some hF
      refine x_cVi (C := RX1) (T := TX1) (N := 12) (ci := 1) (As := [.int (jI v3)]) (rest := [.int (jI v3), .ref (adr b 2 v1), .ref (adr b 1 v0)]) hx hb hml hown hts hK hR hS (c_X1_blockAt hv2 hv3 hc2) (ok2 hv2) rfl rfl wd310 wd311 wd312 wd3 wd313 hyX1_blockAt ⟨rfl, rfl⟩ ⟨Nat.le_of_ble_eq_true rfl, Nat.le_of_ble_eq_true rfl⟩ hl.1 (Nat.le_of_ble_eq_true rfl) dX2_shareAll_21 ⟨Nat.zero_le _, Nat.zero_le _⟩ rfl (fun hg4 H locs hR hS => ?_)
      obtain ⟨M6, hc5, hF⟩ := xb1_some hF
      refine x_cVv (C := RX2) (T := TX2) (N := 8) (ci := 2) (As := [.ref (adr b 2 v1), .int (jI v3), .int (jI y3)]) (rest := []) hx hb hml hown hts hK hR hS (c_X2_put hv0 hv1 hv3 hg4 hc5) (ok1 hv0) rfl rfl wd306 wd307 wd308 wd2 wd309 hyX2_put ⟨rfl, rfl⟩ ⟨Nat.le_of_ble_eq_true rfl, Nat.le_of_ble_eq_true rfl⟩ hl.1 (Nat.le_of_ble_eq_true rfl) dX2_shareAll_24 ⟨Nat.zero_le _, Nat.zero_le _⟩ rfl (fun H locs hR hS => ?_)
      obtain ⟨hq7, hF⟩ := xk_some hF
      refine x_iinc (lv' := [(3, .int (jI (v3 + (1 : Int)))), (0, .ref (adr b 1 v0)), (1, .ref (adr b 2 v1)), (2, .ref (adr b 2 v2))]) hx hb dX2_shareAll_27 hl (k := 3) rfl (by decide) rfl (fun ls hl => ?_)
      refine lv_goto (tgt := 10) hx hb dX2_shareAll_30 (by decide) ?_
      exact ih M6 v0 v1 v2 (v3 + (1 : Int)) hv0 hv1 hv2 hq7 H locs hR hS ls (lv_sub hl [1, 2, 3, 0] rfl) hF
def F_X2_shareAll (M : Mm) (o : Nat) (a1 : Nat) (a2 : Nat) : Option (Mm) := (xl (mup M 2 a1 3 (M 2 a2 3)) fun M2 => (F_X2_shareAll_10  FU M2 o a1 a2 (0 : Int)))
set_option maxHeartbeats 4000000 in
set_option maxRecDepth 100000 in
theorem c_X2_shareAll {l : Launch} {g : Gx} {b : Nat} {M : Mm} {o : Nat} {a1 : Nat} {a2 : Nat} {M' : Mm} (ho : o < 3) (ha1 : a1 < 99) (ha2 : a2 < 99) (hF : F_X2_shareAll M o a1 a2 = some M') : Ct l yX2_shareAll cX2_shareAll 4 none rmX2_shareAll g b [.ref (adr b 1 o), .ref (adr b 2 a1), .ref (adr b 2 a2)] M (qV g b M') := by
  refine ct_of (by decide +kernel) (Nat.le_of_ble_eq_true rfl) ?_
  intro p e s m args below meth c C0 hR ls hl
  obtain ⟨hx, hb, hr, hlocks, hml, hown, hts, hK⟩ := id C0
  have hS : va_S (AA b s.heap.size) s.heap s.heap [] := va_S.rf
  have hl : lv_has ls 4 [(0, .ref (adr b 1 o)), (1, .ref (adr b 2 a1)), (2, .ref (adr b 2 a2))] := hl
  obtain ⟨H, hH⟩ : ∃ z, z = s.heap := ⟨_, rfl⟩
  obtain ⟨locs, hlo⟩ : ∃ z : List Loc, z = [] := ⟨_, rfl⟩
  have hR : Rel g b M H := by rw [hH]; exact hR
  have hS : va_S (AA b s.heap.size) s.heap H locs := by rw [hH, hlo]; exact hS
  suffices hW : W p l e rmX2_shareAll s m args below meth c H locs 0 0 (MQ below (qV g b M' s.heap.size) args s 0 0 (AA b s.heap.size)) (F0 m 0 ls []) by rw [hH, hlo] at hW; exact hW
  rw [F_X2_shareAll] at hF
  refine lv_aload_n hx hb dX2_shareAll_0 rfl (lv_at hl 1 rfl) ?_
  refine lv_aload_n hx hb dX2_shareAll_1 rfl (lv_at hl 2 rfl) ?_
  refine gf_1_3 hx hb hts hown hK hR ha2 wd45 dX2_shareAll_2 ?_
  have hg1 : rg (M 2 a2 3) := hR.2 2 a2 3 (by decide)
  refine pf_1_3 hx hb hts hown hK hR hS ha1 hg1 wd45 dX2_shareAll_5 (fun H locs hR hS => ?_)
  obtain ⟨M2, eM, hF⟩ := xl_some hF
  rw [eM] at hR
  clear eM
  refine x_iconst hx hb dX2_shareAll_8 ?_
  refine lv_istore_n (lv' := [(3, .int (jI (0 : Int))), (0, .ref (adr b 1 o)), (1, .ref (adr b 2 a1)), (2, .ref (adr b 2 a2))]) hx hb dX2_shareAll_9 rfl hl (by decide) rfl (fun ls hl => ?_)
  exact w_X2_shareAll_10 C0  FU M2 o a1 a2 (0 : Int) ho ha1 ha2 (by decide : rg (0 : Int)) H locs hR hS ls (lv_sub hl [1, 2, 3, 0] rfl) hF
abbrev rmX2_sharedPlaces : Room := { frames := 2, cells := 0, slots := 0, locals := 41 }
theorem hyX2_sharedPlaces : yX2_sharedPlaces.cls = RX2 ∧ yX2_sharedPlaces.cls ≠ "java/lang/invoke/MethodHandle" ∧ yX2_sharedPlaces.cls ≠ "java/lang/invoke/VarHandle" ∧ (parseMethodDescriptor yX2_sharedPlaces.desc).map (fun d => d.parameters.length) = some 1 := by decide +kernel
def F_X2_sharedPlaces_4 (M : Mm)  : Nat → Nat → Nat → Int → Int → Option (Int)
  | 0, _, _, _, _ => none
  | n + 1, v0, v1, v2, v3 => (if (20 : Int) ≤ v3 then (some v2) else (xb1 (F_X1_blockAt M v1 v3) fun y3 => (xb1 (F_X2_isShared M v0 y3) fun y6 => (if y6 = 0 then (xk (rg (v3 + (1 : Int))) (F_X2_sharedPlaces_4 M  n v0 v1 v2 (v3 + (1 : Int)))) else (xk (rg (v2 + (1 : Int))) (xk (rg (v3 + (1 : Int))) (F_X2_sharedPlaces_4 M  n v0 v1 (v2 + (1 : Int)) (v3 + (1 : Int)))))))))
set_option maxHeartbeats 4000000 in
set_option maxRecDepth 100000 in
theorem w_X2_sharedPlaces_4 {p : Program} {l : Launch} {e : Env} {s : State} {m : MethodId} {args : Array Value} {below : List Frame} {meth : Method} {c : Code} {g : Gx} {b : Nat} (C0 : XA p s m meth c args RX2 cX2_sharedPlaces 4 (some .int) g) {r : Int} {M : Mm} : ∀ n : Nat, ∀ (v0 : Nat) (v1 : Nat) (v2 : Int) (v3 : Int) (hv0 : v0 < 3) (hv1 : v1 < 99) (hv2 : rg v2) (hv3 : rg v3) (H : Heap) (locs : List Loc), Rel g b M H → va_S (AA b s.heap.size) s.heap H locs → ∀ ls : Array Slot, lv_has ls 4 [(0, .ref (adr b 1 v0)), (1, .ref (adr b 2 v1)), (2, .int (jI v2)), (3, .int (jI v3))] → F_X2_sharedPlaces_4 M  n v0 v1 v2 v3 = some r → W p l e rmX2_sharedPlaces s m args below meth c H locs 0 0 (MQ below (qI g b r M s.heap.size) args s 0 0 (AA b s.heap.size)) (F0 m 4 ls []) := by
  obtain ⟨hx, hb, hr, hlocks, hml, hown, hts, hK⟩ := id C0
  intro n
  induction n with
  | zero =>
    intro v0 v1 v2 v3 hv0 hv1 hv2 hv3 H locs hR hS ls hl hF
    rw [F_X2_sharedPlaces_4] at hF
    cases hF
  | succ n ih =>
    intro v0 v1 v2 v3 hv0 hv1 hv2 hv3 H locs hR hS ls hl hF
    rw [F_X2_sharedPlaces_4] at hF
    refine lv_iload_n hx hb dX2_sharedPlaces_4 rfl (lv_at hl 3 rfl) ?_
    refine x_bipush hx hb (by decide +kernel) dX2_sharedPlaces_5 ?_
    refine x_icmp_ge (tgt := 31) hx hb hv3 (by decide : rg (20 : Int)) dX2_sharedPlaces_7 (by decide) (fun ci1 => ?_) (fun ci1 => ?_)
    · rw [if_pos ci1] at hF
      refine lv_iload_n hx hb dX2_sharedPlaces_31 rfl (lv_at hl 2 rfl) ?_
      cases hF
      exact x_iret hx hb hlocks hK hR hS hr hv2 dX2_sharedPlaces_32
    · rw [if_neg ci1] at hF
      refine lv_aload_n hx hb dX2_sharedPlaces_10 rfl (lv_at hl 0 rfl) ?_
      refine lv_aload_n hx hb dX2_sharedPlaces_11 rfl (lv_at hl 1 rfl) ?_
      refine lv_iload_n hx hb dX2_sharedPlaces_12 rfl (lv_at hl 3 rfl) ?_
      obtain ⟨y3, hc2, hF⟩ := xb1_some hF
      refine x_cVi (C := RX1) (T := TX1) (N := 12) (ci := 1) (As := [.int (jI v3)]) (rest := [.ref (adr b 1 v0)]) hx hb hml hown hts hK hR hS (c_X1_blockAt hv1 hv3 hc2) (ok2 hv1) rfl rfl wd310 wd311 wd312 wd3 wd313 hyX1_blockAt ⟨rfl, rfl⟩ ⟨Nat.le_of_ble_eq_true rfl, Nat.le_of_ble_eq_true rfl⟩ hl.1 (Nat.le_of_ble_eq_true rfl) dX2_sharedPlaces_13 ⟨Nat.zero_le _, Nat.zero_le _⟩ rfl (fun hg4 H locs hR hS => ?_)
      obtain ⟨y6, hc5, hF⟩ := xb1_some hF
      refine x_cVi (C := RX2) (T := TX2) (N := 8) (ci := 2) (As := [.int (jI y3)]) (rest := []) hx hb hml hown hts hK hR hS (c_X2_isShared hv0 hg4 hc5) (ok1 hv0) rfl rfl wd486 wd487 wd488 wd2 wd489 hyX2_isShared ⟨rfl, rfl⟩ ⟨Nat.le_of_ble_eq_true rfl, Nat.le_of_ble_eq_true rfl⟩ hl.1 (Nat.le_of_ble_eq_true rfl) dX2_sharedPlaces_16 ⟨Nat.zero_le _, Nat.zero_le _⟩ rfl (fun hg7 H locs hR hS => ?_)
      refine x_if_eq (tgt := 25) hx hb hg7 dX2_sharedPlaces_19 (by decide) (fun ci8 => ?_) (fun ci8 => ?_)
      · rw [if_pos ci8] at hF
        obtain ⟨hq9, hF⟩ := xk_some hF
        refine x_iinc (lv' := [(3, .int (jI (v3 + (1 : Int)))), (0, .ref (adr b 1 v0)), (1, .ref (adr b 2 v1)), (2, .int (jI v2))]) hx hb dX2_sharedPlaces_25 hl (k := 3) rfl (by decide) rfl (fun ls hl => ?_)
        refine lv_goto (tgt := 4) hx hb dX2_sharedPlaces_28 (by decide) ?_
        exact ih v0 v1 v2 (v3 + (1 : Int)) hv0 hv1 hv2 hq9 H locs hR hS ls (lv_sub hl [1, 2, 3, 0] rfl) hF
      · rw [if_neg ci8] at hF
        obtain ⟨hq10, hF⟩ := xk_some hF
        refine x_iinc (lv' := [(2, .int (jI (v2 + (1 : Int)))), (0, .ref (adr b 1 v0)), (1, .ref (adr b 2 v1)), (3, .int (jI v3))]) hx hb dX2_sharedPlaces_22 hl (k := 2) rfl (by decide) rfl (fun ls hl => ?_)
        obtain ⟨hq11, hF⟩ := xk_some hF
        refine x_iinc (lv' := [(3, .int (jI (v3 + (1 : Int)))), (2, .int (jI (v2 + (1 : Int)))), (0, .ref (adr b 1 v0)), (1, .ref (adr b 2 v1))]) hx hb dX2_sharedPlaces_25 hl (k := 3) rfl (by decide) rfl (fun ls hl => ?_)
        refine lv_goto (tgt := 4) hx hb dX2_sharedPlaces_28 (by decide) ?_
        exact ih v0 v1 (v2 + (1 : Int)) (v3 + (1 : Int)) hv0 hv1 hq10 hq11 H locs hR hS ls (lv_sub hl [2, 3, 1, 0] rfl) hF
def F_X2_sharedPlaces (M : Mm) (o : Nat) (a1 : Nat) : Option (Int) := (F_X2_sharedPlaces_4 M  FU o a1 (0 : Int) (0 : Int))
set_option maxHeartbeats 4000000 in
set_option maxRecDepth 100000 in
theorem c_X2_sharedPlaces {l : Launch} {g : Gx} {b : Nat} {M : Mm} {o : Nat} {a1 : Nat} {r : Int} (ho : o < 3) (ha1 : a1 < 99) (hF : F_X2_sharedPlaces M o a1 = some r) : Ct l yX2_sharedPlaces cX2_sharedPlaces 4 (some .int) rmX2_sharedPlaces g b [.ref (adr b 1 o), .ref (adr b 2 a1)] M (qI g b r M) := by
  refine ct_of (by decide +kernel) (Nat.le_of_ble_eq_true rfl) ?_
  intro p e s m args below meth c C0 hR ls hl
  obtain ⟨hx, hb, hr, hlocks, hml, hown, hts, hK⟩ := id C0
  have hS : va_S (AA b s.heap.size) s.heap s.heap [] := va_S.rf
  have hl : lv_has ls 4 [(0, .ref (adr b 1 o)), (1, .ref (adr b 2 a1))] := hl
  obtain ⟨H, hH⟩ : ∃ z, z = s.heap := ⟨_, rfl⟩
  obtain ⟨locs, hlo⟩ : ∃ z : List Loc, z = [] := ⟨_, rfl⟩
  have hR : Rel g b M H := by rw [hH]; exact hR
  have hS : va_S (AA b s.heap.size) s.heap H locs := by rw [hH, hlo]; exact hS
  suffices hW : W p l e rmX2_sharedPlaces s m args below meth c H locs 0 0 (MQ below (qI g b r M s.heap.size) args s 0 0 (AA b s.heap.size)) (F0 m 0 ls []) by rw [hH, hlo] at hW; exact hW
  rw [F_X2_sharedPlaces] at hF
  refine x_iconst hx hb dX2_sharedPlaces_0 ?_
  refine lv_istore_n (lv' := [(2, .int (jI (0 : Int))), (0, .ref (adr b 1 o)), (1, .ref (adr b 2 a1))]) hx hb dX2_sharedPlaces_1 rfl hl (by decide) rfl (fun ls hl => ?_)
  refine x_iconst hx hb dX2_sharedPlaces_2 ?_
  refine lv_istore_n (lv' := [(3, .int (jI (0 : Int))), (2, .int (jI (0 : Int))), (0, .ref (adr b 1 o)), (1, .ref (adr b 2 a1))]) hx hb dX2_sharedPlaces_3 rfl hl (by decide) rfl (fun ls hl => ?_)
  exact w_X2_sharedPlaces_4 C0  FU o a1 (0 : Int) (0 : Int) ho ha1 (by decide : rg (0 : Int)) (by decide : rg (0 : Int)) H locs hR hS ls (lv_sub hl [2, 3, 1, 0] rfl) hF
abbrev rmX2_blocksTaken : Room := { frames := 2, cells := 0, slots := 0, locals := 42 }
theorem hyX2_blocksTaken : yX2_blocksTaken.cls = RX2 ∧ yX2_blocksTaken.cls ≠ "java/lang/invoke/MethodHandle" ∧ yX2_blocksTaken.cls ≠ "java/lang/invoke/VarHandle" ∧ (parseMethodDescriptor yX2_blocksTaken.desc).map (fun d => d.parameters.length) = some 0 := by decide +kernel
def F_X2_blocksTaken_33 (M : Mm)  : Nat → Nat → Int → Int → Option (Int)
  | 0, _, _, _ => none
  | n + 1, v0, v1, v2 => (if (32 : Int) ≤ v2 then (some v1) else (xk (0 ≤ v2 ∧ v2 < 32) (if (M 2 (33 * v0 + v2.toNat) 0) = (2 : Int) then (xk (0 ≤ v2 ∧ v2 < 32) (xb1 (F_X1_ownBlocks M (33 * v0 + v2.toNat)) fun y10 => (xk (rg (v1 + y10)) (xk (rg (v2 + (1 : Int))) (F_X2_blocksTaken_33 M  n v0 (v1 + y10) (v2 + (1 : Int))))))) else (xk (rg (v2 + (1 : Int))) (F_X2_blocksTaken_33 M  n v0 v1 (v2 + (1 : Int)))))))
set_option maxHeartbeats 4000000 in
set_option maxRecDepth 100000 in
theorem w_X2_blocksTaken_33 {p : Program} {l : Launch} {e : Env} {s : State} {m : MethodId} {args : Array Value} {below : List Frame} {meth : Method} {c : Code} {g : Gx} {b : Nat} (C0 : XA p s m meth c args RX2 cX2_blocksTaken 3 (some .int) g) {r : Int} {M : Mm} : ∀ n : Nat, ∀ (v0 : Nat) (v1 : Int) (v2 : Int) (hv0 : v0 < 3) (hv1 : rg v1) (hv2 : rg v2) (H : Heap) (locs : List Loc), Rel g b M H → va_S (AA b s.heap.size) s.heap H locs → ∀ ls : Array Slot, lv_has ls 3 [(0, .ref (adr b 1 v0)), (1, .int (jI v1)), (2, .int (jI v2))] → F_X2_blocksTaken_33 M  n v0 v1 v2 = some r → W p l e rmX2_blocksTaken s m args below meth c H locs 0 0 (MQ below (qI g b r M s.heap.size) args s 0 0 (AA b s.heap.size)) (F0 m 33 ls []) := by
  obtain ⟨hx, hb, hr, hlocks, hml, hown, hts, hK⟩ := id C0
  intro n
  induction n with
  | zero =>
    intro v0 v1 v2 hv0 hv1 hv2 H locs hR hS ls hl hF
    rw [F_X2_blocksTaken_33] at hF
    cases hF
  | succ n ih =>
    intro v0 v1 v2 hv0 hv1 hv2 H locs hR hS ls hl hF
    rw [F_X2_blocksTaken_33] at hF
    refine lv_iload_n hx hb dX2_blocksTaken_33 rfl (lv_at hl 2 rfl) ?_
    refine lv_aload_n hx hb dX2_blocksTaken_34 rfl (lv_at hl 0 rfl) ?_
    refine gf_2_0 hx hb hts hown hK hR hv0 wd88 dX2_blocksTaken_35 ?_
    refine x_alenN hx hb hK hR hv0 dX2_blocksTaken_38 ?_
    refine x_icmp_ge (tgt := 73) hx hb hv2 (by decide : rg (32 : Int)) dX2_blocksTaken_39 (by decide) (fun ci1 => ?_) (fun ci1 => ?_)
    · rw [if_pos ci1] at hF
      refine lv_iload_n hx hb dX2_blocksTaken_73 rfl (lv_at hl 1 rfl) ?_
      cases hF
      exact x_iret hx hb hlocks hK hR hS hr hv1 dX2_blocksTaken_74
    · rw [if_neg ci1] at hF
      refine lv_aload_n hx hb dX2_blocksTaken_42 rfl (lv_at hl 0 rfl) ?_
      refine gf_2_0 hx hb hts hown hK hR hv0 wd88 dX2_blocksTaken_43 ?_
      refine lv_iload_n hx hb dX2_blocksTaken_46 rfl (lv_at hl 2 rfl) ?_
      obtain ⟨hi2, hF⟩ := xk_some hF
      refine x_aldN hx hb hK hR hv0 hv2 hi2 dX2_blocksTaken_47 ?_
      have hj3 : (33 * v0 + v2.toNat) < 99 := by have := hv0; omega
      refine gf_1_0 hx hb hts hown hK hR hj3 wd35 dX2_blocksTaken_48 ?_
      have hg4 : rg (M 2 (33 * v0 + v2.toNat) 0) := hR.2 2 (33 * v0 + v2.toNat) 0 (by decide)
      refine x_iconst hx hb dX2_blocksTaken_51 ?_
      refine x_icmp_ne (tgt := 67) hx hb hg4 (by decide : rg (2 : Int)) dX2_blocksTaken_52 (by decide) (fun ci5 => ?_) (fun ci5 => ?_)
      · rw [if_neg ci5] at hF
        obtain ⟨hq6, hF⟩ := xk_some hF
        refine x_iinc (lv' := [(2, .int (jI (v2 + (1 : Int)))), (0, .ref (adr b 1 v0)), (1, .int (jI v1))]) hx hb dX2_blocksTaken_67 hl (k := 2) rfl (by decide) rfl (fun ls hl => ?_)
        refine lv_goto (tgt := 33) hx hb dX2_blocksTaken_70 (by decide) ?_
        exact ih v0 v1 (v2 + (1 : Int)) hv0 hv1 hq6 H locs hR hS ls (lv_sub hl [1, 2, 0] rfl) hF
      · rw [if_pos ci5] at hF
        refine lv_iload_n hx hb dX2_blocksTaken_55 rfl (lv_at hl 1 rfl) ?_
        refine lv_aload_n hx hb dX2_blocksTaken_56 rfl (lv_at hl 0 rfl) ?_
        refine gf_2_0 hx hb hts hown hK hR hv0 wd88 dX2_blocksTaken_57 ?_
        refine lv_iload_n hx hb dX2_blocksTaken_60 rfl (lv_at hl 2 rfl) ?_
        obtain ⟨hi7, hF⟩ := xk_some hF
        refine x_aldN hx hb hK hR hv0 hv2 hi7 dX2_blocksTaken_61 ?_
        have hj8 : (33 * v0 + v2.toNat) < 99 := by have := hv0; omega
        obtain ⟨y10, hc9, hF⟩ := xb1_some hF
        refine x_cVi (C := RX1) (T := TX1) (N := 12) (ci := 1) (As := []) (rest := [.int (jI v1)]) hx hb hml hown hts hK hR hS (c_X1_ownBlocks hj8 hc9) (ok2 hj8) rfl rfl wd408 wd409 wd410 wd3 wd411 hyX1_ownBlocks ⟨rfl, rfl⟩ ⟨Nat.le_of_ble_eq_true rfl, Nat.le_of_ble_eq_true rfl⟩ hl.1 (Nat.le_of_ble_eq_true rfl) dX2_blocksTaken_62 ⟨Nat.zero_le _, Nat.zero_le _⟩ rfl (fun hg11 H locs hR hS => ?_)
        obtain ⟨hq12, hF⟩ := xk_some hF
        refine x_iadd hx hb dX2_blocksTaken_65 ?_
        refine lv_istore_n (lv' := [(1, .int (jI (v1 + y10))), (0, .ref (adr b 1 v0)), (2, .int (jI v2))]) hx hb dX2_blocksTaken_66 rfl hl (by decide) rfl (fun ls hl => ?_)
        obtain ⟨hq13, hF⟩ := xk_some hF
        refine x_iinc (lv' := [(2, .int (jI (v2 + (1 : Int)))), (1, .int (jI (v1 + y10))), (0, .ref (adr b 1 v0))]) hx hb dX2_blocksTaken_67 hl (k := 2) rfl (by decide) rfl (fun ls hl => ?_)
        refine lv_goto (tgt := 33) hx hb dX2_blocksTaken_70 (by decide) ?_
        exact ih v0 (v1 + y10) (v2 + (1 : Int)) hv0 hq12 hq13 H locs hR hS ls (lv_sub hl [2, 1, 0] rfl) hF
def F_X2_blocksTaken_4 (M : Mm)  : Nat → Nat → Int → Int → Option (Int)
  | 0, _, _, _ => none
  | n + 1, v0, v1, v2 => (if (128 : Int) ≤ v2 then (F_X2_blocksTaken_33 M  FU v0 v1 (0 : Int)) else (xk (0 ≤ v2 ∧ v2 < 128) (if (M 8 v0 v2.toNat) ≤ 0 then (xk (rg (v2 + (1 : Int))) (F_X2_blocksTaken_4 M  n v0 v1 (v2 + (1 : Int)))) else (xk (rg (v1 + (1 : Int))) (xk (rg (v2 + (1 : Int))) (F_X2_blocksTaken_4 M  n v0 (v1 + (1 : Int)) (v2 + (1 : Int))))))))
set_option maxHeartbeats 4000000 in
set_option maxRecDepth 100000 in
theorem w_X2_blocksTaken_4 {p : Program} {l : Launch} {e : Env} {s : State} {m : MethodId} {args : Array Value} {below : List Frame} {meth : Method} {c : Code} {g : Gx} {b : Nat} (C0 : XA p s m meth c args RX2 cX2_blocksTaken 3 (some .int) g) {r : Int} {M : Mm} : ∀ n : Nat, ∀ (v0 : Nat) (v1 : Int) (v2 : Int) (hv0 : v0 < 3) (hv1 : rg v1) (hv2 : rg v2) (H : Heap) (locs : List Loc), Rel g b M H → va_S (AA b s.heap.size) s.heap H locs → ∀ ls : Array Slot, lv_has ls 3 [(0, .ref (adr b 1 v0)), (1, .int (jI v1)), (2, .int (jI v2))] → F_X2_blocksTaken_4 M  n v0 v1 v2 = some r → W p l e rmX2_blocksTaken s m args below meth c H locs 0 0 (MQ below (qI g b r M s.heap.size) args s 0 0 (AA b s.heap.size)) (F0 m 4 ls []) := by
  obtain ⟨hx, hb, hr, hlocks, hml, hown, hts, hK⟩ := id C0
  intro n
  induction n with
  | zero =>
    intro v0 v1 v2 hv0 hv1 hv2 H locs hR hS ls hl hF
    rw [F_X2_blocksTaken_4] at hF
    cases hF
  | succ n ih =>
    intro v0 v1 v2 hv0 hv1 hv2 H locs hR hS ls hl hF
    rw [F_X2_blocksTaken_4] at hF
    refine lv_iload_n hx hb dX2_blocksTaken_4 rfl (lv_at hl 2 rfl) ?_
    refine lv_aload_n hx hb dX2_blocksTaken_5 rfl (lv_at hl 0 rfl) ?_
    refine gf_2_4 hx hb hts hown hK hR hv0 wd92 dX2_blocksTaken_6 ?_
    refine x_alen (K := 8) (n := (128 : Int)) hx hb hK hR (ok8 hv0) (by decide) (by decide +kernel) dX2_blocksTaken_9 ?_
    refine x_icmp_ge (tgt := 31) hx hb hv2 (by decide : rg (128 : Int)) dX2_blocksTaken_10 (by decide) (fun ci1 => ?_) (fun ci1 => ?_)
    · rw [if_pos ci1] at hF
      refine x_iconst hx hb dX2_blocksTaken_31 ?_
      refine lv_istore_n (lv' := [(2, .int (jI (0 : Int))), (0, .ref (adr b 1 v0)), (1, .int (jI v1))]) hx hb dX2_blocksTaken_32 rfl hl (by decide) rfl (fun ls hl => ?_)
      exact w_X2_blocksTaken_33 C0  FU v0 v1 (0 : Int) hv0 hv1 (by decide : rg (0 : Int)) H locs hR hS ls (lv_sub hl [1, 2, 0] rfl) hF
    · rw [if_neg ci1] at hF
      refine lv_aload_n hx hb dX2_blocksTaken_13 rfl (lv_at hl 0 rfl) ?_
      refine gf_2_4 hx hb hts hown hK hR hv0 wd92 dX2_blocksTaken_14 ?_
      refine lv_iload_n hx hb dX2_blocksTaken_17 rfl (lv_at hl 2 rfl) ?_
      obtain ⟨hi14, hF⟩ := xk_some hF
      refine x_iald (K := 8) hx hb hK hR (ok8 hv0) (by decide) hv2 hi14 dX2_blocksTaken_18 ?_
      have hg15 : rg (M 8 v0 v2.toNat) := hR.2 8 v0 _ (by decide)
      refine x_if_le (tgt := 25) hx hb hg15 dX2_blocksTaken_19 (by decide) (fun ci16 => ?_) (fun ci16 => ?_)
      · rw [if_pos ci16] at hF
        obtain ⟨hq17, hF⟩ := xk_some hF
        refine x_iinc (lv' := [(2, .int (jI (v2 + (1 : Int)))), (0, .ref (adr b 1 v0)), (1, .int (jI v1))]) hx hb dX2_blocksTaken_25 hl (k := 2) rfl (by decide) rfl (fun ls hl => ?_)
        refine lv_goto (tgt := 4) hx hb dX2_blocksTaken_28 (by decide) ?_
        exact ih v0 v1 (v2 + (1 : Int)) hv0 hv1 hq17 H locs hR hS ls (lv_sub hl [1, 2, 0] rfl) hF
      · rw [if_neg ci16] at hF
        obtain ⟨hq18, hF⟩ := xk_some hF
        refine x_iinc (lv' := [(1, .int (jI (v1 + (1 : Int)))), (0, .ref (adr b 1 v0)), (2, .int (jI v2))]) hx hb dX2_blocksTaken_22 hl (k := 1) rfl (by decide) rfl (fun ls hl => ?_)
        obtain ⟨hq19, hF⟩ := xk_some hF
        refine x_iinc (lv' := [(2, .int (jI (v2 + (1 : Int)))), (1, .int (jI (v1 + (1 : Int)))), (0, .ref (adr b 1 v0))]) hx hb dX2_blocksTaken_25 hl (k := 2) rfl (by decide) rfl (fun ls hl => ?_)
        refine lv_goto (tgt := 4) hx hb dX2_blocksTaken_28 (by decide) ?_
        exact ih v0 (v1 + (1 : Int)) (v2 + (1 : Int)) hv0 hq18 hq19 H locs hR hS ls (lv_sub hl [2, 1, 0] rfl) hF
def F_X2_blocksTaken (M : Mm) (o : Nat) : Option (Int) := (F_X2_blocksTaken_4 M  FU o (0 : Int) (0 : Int))
set_option maxHeartbeats 4000000 in
set_option maxRecDepth 100000 in
theorem c_X2_blocksTaken {l : Launch} {g : Gx} {b : Nat} {M : Mm} {o : Nat} {r : Int} (ho : o < 3) (hF : F_X2_blocksTaken M o = some r) : Ct l yX2_blocksTaken cX2_blocksTaken 3 (some .int) rmX2_blocksTaken g b [.ref (adr b 1 o)] M (qI g b r M) := by
  refine ct_of (by decide +kernel) (Nat.le_of_ble_eq_true rfl) ?_
  intro p e s m args below meth c C0 hR ls hl
  obtain ⟨hx, hb, hr, hlocks, hml, hown, hts, hK⟩ := id C0
  have hS : va_S (AA b s.heap.size) s.heap s.heap [] := va_S.rf
  have hl : lv_has ls 3 [(0, .ref (adr b 1 o))] := hl
  obtain ⟨H, hH⟩ : ∃ z, z = s.heap := ⟨_, rfl⟩
  obtain ⟨locs, hlo⟩ : ∃ z : List Loc, z = [] := ⟨_, rfl⟩
  have hR : Rel g b M H := by rw [hH]; exact hR
  have hS : va_S (AA b s.heap.size) s.heap H locs := by rw [hH, hlo]; exact hS
  suffices hW : W p l e rmX2_blocksTaken s m args below meth c H locs 0 0 (MQ below (qI g b r M s.heap.size) args s 0 0 (AA b s.heap.size)) (F0 m 0 ls []) by rw [hH, hlo] at hW; exact hW
  rw [F_X2_blocksTaken] at hF
  refine x_iconst hx hb dX2_blocksTaken_0 ?_
  refine lv_istore_n (lv' := [(1, .int (jI (0 : Int))), (0, .ref (adr b 1 o))]) hx hb dX2_blocksTaken_1 rfl hl (by decide) rfl (fun ls hl => ?_)
  refine x_iconst hx hb dX2_blocksTaken_2 ?_
  refine lv_istore_n (lv' := [(2, .int (jI (0 : Int))), (1, .int (jI (0 : Int))), (0, .ref (adr b 1 o))]) hx hb dX2_blocksTaken_3 rfl hl (by decide) rfl (fun ls hl => ?_)
  exact w_X2_blocksTaken_4 C0  FU o (0 : Int) (0 : Int) ho (by decide : rg (0 : Int)) (by decide : rg (0 : Int)) H locs hR hS ls (lv_sub hl [2, 1, 0] rfl) hF
abbrev rmX2_takenBy : Room := { frames := 2, cells := 0, slots := 0, locals := 42 }
theorem hyX2_takenBy : yX2_takenBy.cls = RX2 ∧ yX2_takenBy.cls ≠ "java/lang/invoke/MethodHandle" ∧ yX2_takenBy.cls ≠ "java/lang/invoke/VarHandle" ∧ (parseMethodDescriptor yX2_takenBy.desc).map (fun d => d.parameters.length) = some 1 := by decide +kernel
def F_X2_takenBy_4 (M : Mm)  : Nat → Nat → Int → Int → Int → Option (Int)
  | 0, _, _, _, _ => none
  | n + 1, v0, v1, v2, v3 => (if (32 : Int) ≤ v3 then (some v2) else (xk (0 ≤ v3 ∧ v3 < 32) (if (M 2 (33 * v0 + v3.toNat) 1) = v1 then (xk (0 ≤ v3 ∧ v3 < 32) (xb1 (F_X1_ownBlocks M (33 * v0 + v3.toNat)) fun y10 => (xk (rg (v2 + y10)) (xk (rg (v3 + (1 : Int))) (F_X2_takenBy_4 M  n v0 v1 (v2 + y10) (v3 + (1 : Int))))))) else (xk (rg (v3 + (1 : Int))) (F_X2_takenBy_4 M  n v0 v1 v2 (v3 + (1 : Int)))))))
set_option maxHeartbeats 4000000 in
set_option maxRecDepth 100000 in
theorem w_X2_takenBy_4 {p : Program} {l : Launch} {e : Env} {s : State} {m : MethodId} {args : Array Value} {below : List Frame} {meth : Method} {c : Code} {g : Gx} {b : Nat} (C0 : XA p s m meth c args RX2 cX2_takenBy 4 (some .int) g) {r : Int} {M : Mm} : ∀ n : Nat, ∀ (v0 : Nat) (v1 : Int) (v2 : Int) (v3 : Int) (hv0 : v0 < 3) (hv1 : rg v1) (hv2 : rg v2) (hv3 : rg v3) (H : Heap) (locs : List Loc), Rel g b M H → va_S (AA b s.heap.size) s.heap H locs → ∀ ls : Array Slot, lv_has ls 4 [(0, .ref (adr b 1 v0)), (1, .int (jI v1)), (2, .int (jI v2)), (3, .int (jI v3))] → F_X2_takenBy_4 M  n v0 v1 v2 v3 = some r → W p l e rmX2_takenBy s m args below meth c H locs 0 0 (MQ below (qI g b r M s.heap.size) args s 0 0 (AA b s.heap.size)) (F0 m 4 ls []) := by
  obtain ⟨hx, hb, hr, hlocks, hml, hown, hts, hK⟩ := id C0
  intro n
  induction n with
  | zero =>
    intro v0 v1 v2 v3 hv0 hv1 hv2 hv3 H locs hR hS ls hl hF
    rw [F_X2_takenBy_4] at hF
    cases hF
  | succ n ih =>
    intro v0 v1 v2 v3 hv0 hv1 hv2 hv3 H locs hR hS ls hl hF
    rw [F_X2_takenBy_4] at hF
    refine lv_iload_n hx hb dX2_takenBy_4 rfl (lv_at hl 3 rfl) ?_
    refine lv_aload_n hx hb dX2_takenBy_5 rfl (lv_at hl 0 rfl) ?_
    refine gf_2_0 hx hb hts hown hK hR hv0 wd88 dX2_takenBy_6 ?_
    refine x_alenN hx hb hK hR hv0 dX2_takenBy_9 ?_
    refine x_icmp_ge (tgt := 44) hx hb hv3 (by decide : rg (32 : Int)) dX2_takenBy_10 (by decide) (fun ci1 => ?_) (fun ci1 => ?_)
    · rw [if_pos ci1] at hF
      refine lv_iload_n hx hb dX2_takenBy_44 rfl (lv_at hl 2 rfl) ?_
      cases hF
      exact x_iret hx hb hlocks hK hR hS hr hv2 dX2_takenBy_45
    · rw [if_neg ci1] at hF
      refine lv_aload_n hx hb dX2_takenBy_13 rfl (lv_at hl 0 rfl) ?_
      refine gf_2_0 hx hb hts hown hK hR hv0 wd88 dX2_takenBy_14 ?_
      refine lv_iload_n hx hb dX2_takenBy_17 rfl (lv_at hl 3 rfl) ?_
      obtain ⟨hi2, hF⟩ := xk_some hF
      refine x_aldN hx hb hK hR hv0 hv3 hi2 dX2_takenBy_18 ?_
      have hj3 : (33 * v0 + v3.toNat) < 99 := by have := hv0; omega
      refine gf_1_1 hx hb hts hown hK hR hj3 wd38 dX2_takenBy_19 ?_
      have hg4 : rg (M 2 (33 * v0 + v3.toNat) 1) := hR.2 2 (33 * v0 + v3.toNat) 1 (by decide)
      refine lv_iload_n hx hb dX2_takenBy_22 rfl (lv_at hl 1 rfl) ?_
      refine x_icmp_ne (tgt := 38) hx hb hg4 hv1 dX2_takenBy_23 (by decide) (fun ci5 => ?_) (fun ci5 => ?_)
      · rw [if_neg ci5] at hF
        obtain ⟨hq6, hF⟩ := xk_some hF
        refine x_iinc (lv' := [(3, .int (jI (v3 + (1 : Int)))), (0, .ref (adr b 1 v0)), (1, .int (jI v1)), (2, .int (jI v2))]) hx hb dX2_takenBy_38 hl (k := 3) rfl (by decide) rfl (fun ls hl => ?_)
        refine lv_goto (tgt := 4) hx hb dX2_takenBy_41 (by decide) ?_
        exact ih v0 v1 v2 (v3 + (1 : Int)) hv0 hv1 hv2 hq6 H locs hR hS ls (lv_sub hl [1, 2, 3, 0] rfl) hF
      · rw [if_pos ci5] at hF
        refine lv_iload_n hx hb dX2_takenBy_26 rfl (lv_at hl 2 rfl) ?_
        refine lv_aload_n hx hb dX2_takenBy_27 rfl (lv_at hl 0 rfl) ?_
        refine gf_2_0 hx hb hts hown hK hR hv0 wd88 dX2_takenBy_28 ?_
        refine lv_iload_n hx hb dX2_takenBy_31 rfl (lv_at hl 3 rfl) ?_
        obtain ⟨hi7, hF⟩ := xk_some hF
        refine x_aldN hx hb hK hR hv0 hv3 hi7 dX2_takenBy_32 ?_
        have hj8 : (33 * v0 + v3.toNat) < 99 := by have := hv0; omega
        obtain ⟨y10, hc9, hF⟩ := xb1_some hF
        refine x_cVi (C := RX1) (T := TX1) (N := 12) (ci := 1) (As := []) (rest := [.int (jI v2)]) hx hb hml hown hts hK hR hS (c_X1_ownBlocks hj8 hc9) (ok2 hj8) rfl rfl wd408 wd409 wd410 wd3 wd411 hyX1_ownBlocks ⟨rfl, rfl⟩ ⟨Nat.le_of_ble_eq_true rfl, Nat.le_of_ble_eq_true rfl⟩ hl.1 (Nat.le_of_ble_eq_true rfl) dX2_takenBy_33 ⟨Nat.zero_le _, Nat.zero_le _⟩ rfl (fun hg11 H locs hR hS => ?_)
        obtain ⟨hq12, hF⟩ := xk_some hF
        refine x_iadd hx hb dX2_takenBy_36 ?_
        refine lv_istore_n (lv' := [(2, .int (jI (v2 + y10))), (0, .ref (adr b 1 v0)), (1, .int (jI v1)), (3, .int (jI v3))]) hx hb dX2_takenBy_37 rfl hl (by decide) rfl (fun ls hl => ?_)
        obtain ⟨hq13, hF⟩ := xk_some hF
        refine x_iinc (lv' := [(3, .int (jI (v3 + (1 : Int)))), (2, .int (jI (v2 + y10))), (0, .ref (adr b 1 v0)), (1, .int (jI v1))]) hx hb dX2_takenBy_38 hl (k := 3) rfl (by decide) rfl (fun ls hl => ?_)
        refine lv_goto (tgt := 4) hx hb dX2_takenBy_41 (by decide) ?_
        exact ih v0 v1 (v2 + y10) (v3 + (1 : Int)) hv0 hv1 hq12 hq13 H locs hR hS ls (lv_sub hl [2, 3, 1, 0] rfl) hF
def F_X2_takenBy (M : Mm) (o : Nat) (a1 : Int) : Option (Int) := (F_X2_takenBy_4 M  FU o a1 (0 : Int) (0 : Int))
set_option maxHeartbeats 4000000 in
set_option maxRecDepth 100000 in
theorem c_X2_takenBy {l : Launch} {g : Gx} {b : Nat} {M : Mm} {o : Nat} {a1 : Int} {r : Int} (ho : o < 3) (ha1 : rg a1) (hF : F_X2_takenBy M o a1 = some r) : Ct l yX2_takenBy cX2_takenBy 4 (some .int) rmX2_takenBy g b [.ref (adr b 1 o), .int (jI a1)] M (qI g b r M) := by
  refine ct_of (by decide +kernel) (Nat.le_of_ble_eq_true rfl) ?_
  intro p e s m args below meth c C0 hR ls hl
  obtain ⟨hx, hb, hr, hlocks, hml, hown, hts, hK⟩ := id C0
  have hS : va_S (AA b s.heap.size) s.heap s.heap [] := va_S.rf
  have hl : lv_has ls 4 [(0, .ref (adr b 1 o)), (1, .int (jI a1))] := hl
  obtain ⟨H, hH⟩ : ∃ z, z = s.heap := ⟨_, rfl⟩
  obtain ⟨locs, hlo⟩ : ∃ z : List Loc, z = [] := ⟨_, rfl⟩
  have hR : Rel g b M H := by rw [hH]; exact hR
  have hS : va_S (AA b s.heap.size) s.heap H locs := by rw [hH, hlo]; exact hS
  suffices hW : W p l e rmX2_takenBy s m args below meth c H locs 0 0 (MQ below (qI g b r M s.heap.size) args s 0 0 (AA b s.heap.size)) (F0 m 0 ls []) by rw [hH, hlo] at hW; exact hW
  rw [F_X2_takenBy] at hF
  refine x_iconst hx hb dX2_takenBy_0 ?_
  refine lv_istore_n (lv' := [(2, .int (jI (0 : Int))), (0, .ref (adr b 1 o)), (1, .int (jI a1))]) hx hb dX2_takenBy_1 rfl hl (by decide) rfl (fun ls hl => ?_)
  refine x_iconst hx hb dX2_takenBy_2 ?_
  refine lv_istore_n (lv' := [(3, .int (jI (0 : Int))), (2, .int (jI (0 : Int))), (0, .ref (adr b 1 o)), (1, .int (jI a1))]) hx hb dX2_takenBy_3 rfl hl (by decide) rfl (fun ls hl => ?_)
  exact w_X2_takenBy_4 C0  FU o a1 (0 : Int) (0 : Int) ho ha1 (by decide : rg (0 : Int)) (by decide : rg (0 : Int)) H locs hR hS ls (lv_sub hl [2, 3, 1, 0] rfl) hF
abbrev rmX2_greatest : Room := { frames := 2, cells := 0, slots := 0, locals := 42 }
theorem hyX2_greatest : yX2_greatest.cls = RX2 ∧ yX2_greatest.cls ≠ "java/lang/invoke/MethodHandle" ∧ yX2_greatest.cls ≠ "java/lang/invoke/VarHandle" ∧ (parseMethodDescriptor yX2_greatest.desc).map (fun d => d.parameters.length) = some 0 := by decide +kernel
def F_X2_greatest_6 (M : Mm)  : Nat → Nat → Int → Int → Int → Option (Int)
  | 0, _, _, _, _ => none
  | n + 1, v0, v1, v2, v3 => (if (32 : Int) ≤ v3 then (some v1) else (xk (0 ≤ v3 ∧ v3 < 32) (if (M 2 (33 * v0 + v3.toNat) 0) = (1 : Int) then (xk (0 ≤ v3 ∧ v3 < 32) (xb1 (F_X1_ownBlocks M (33 * v0 + v3.toNat)) fun y10 => (if y10 ≤ v2 then (xk (rg (v3 + (1 : Int))) (F_X2_greatest_6 M  n v0 v1 v2 (v3 + (1 : Int)))) else (xk (0 ≤ v3 ∧ v3 < 32) (xb1 (F_X1_ownBlocks M (33 * v0 + v3.toNat)) fun y17 => (xk (rg (v3 + (1 : Int))) (F_X2_greatest_6 M  n v0 v3 y17 (v3 + (1 : Int))))))))) else (xk (rg (v3 + (1 : Int))) (F_X2_greatest_6 M  n v0 v1 v2 (v3 + (1 : Int)))))))
set_option maxHeartbeats 4000000 in
set_option maxRecDepth 100000 in
theorem w_X2_greatest_6 {p : Program} {l : Launch} {e : Env} {s : State} {m : MethodId} {args : Array Value} {below : List Frame} {meth : Method} {c : Code} {g : Gx} {b : Nat} (C0 : XA p s m meth c args RX2 cX2_greatest 4 (some .int) g) {r : Int} {M : Mm} : ∀ n : Nat, ∀ (v0 : Nat) (v1 : Int) (v2 : Int) (v3 : Int) (hv0 : v0 < 3) (hv1 : rg v1) (hv2 : rg v2) (hv3 : rg v3) (H : Heap) (locs : List Loc), Rel g b M H → va_S (AA b s.heap.size) s.heap H locs → ∀ ls : Array Slot, lv_has ls 4 [(0, .ref (adr b 1 v0)), (1, .int (jI v1)), (2, .int (jI v2)), (3, .int (jI v3))] → F_X2_greatest_6 M  n v0 v1 v2 v3 = some r → W p l e rmX2_greatest s m args below meth c H locs 0 0 (MQ below (qI g b r M s.heap.size) args s 0 0 (AA b s.heap.size)) (F0 m 6 ls []) := by
  obtain ⟨hx, hb, hr, hlocks, hml, hown, hts, hK⟩ := id C0
  intro n
  induction n with
  | zero =>
    intro v0 v1 v2 v3 hv0 hv1 hv2 hv3 H locs hR hS ls hl hF
    rw [F_X2_greatest_6] at hF
    cases hF
  | succ n ih =>
    intro v0 v1 v2 v3 hv0 hv1 hv2 hv3 H locs hR hS ls hl hF
    rw [F_X2_greatest_6] at hF
    refine lv_iload_n hx hb dX2_greatest_6 rfl (lv_at hl 3 rfl) ?_
    refine lv_aload_n hx hb dX2_greatest_7 rfl (lv_at hl 0 rfl) ?_
    refine gf_2_0 hx hb hts hown hK hR hv0 wd88 dX2_greatest_8 ?_
    refine x_alenN hx hb hK hR hv0 dX2_greatest_11 ?_
    refine x_icmp_ge (tgt := 59) hx hb hv3 (by decide : rg (32 : Int)) dX2_greatest_12 (by decide) (fun ci1 => ?_) (fun ci1 => ?_)
    · rw [if_pos ci1] at hF
      refine lv_iload_n hx hb dX2_greatest_59 rfl (lv_at hl 1 rfl) ?_
      cases hF
      exact x_iret hx hb hlocks hK hR hS hr hv1 dX2_greatest_60
    · rw [if_neg ci1] at hF
      refine lv_aload_n hx hb dX2_greatest_15 rfl (lv_at hl 0 rfl) ?_
      refine gf_2_0 hx hb hts hown hK hR hv0 wd88 dX2_greatest_16 ?_
      refine lv_iload_n hx hb dX2_greatest_19 rfl (lv_at hl 3 rfl) ?_
      obtain ⟨hi2, hF⟩ := xk_some hF
      refine x_aldN hx hb hK hR hv0 hv3 hi2 dX2_greatest_20 ?_
      have hj3 : (33 * v0 + v3.toNat) < 99 := by have := hv0; omega
      refine gf_1_0 hx hb hts hown hK hR hj3 wd35 dX2_greatest_21 ?_
      have hg4 : rg (M 2 (33 * v0 + v3.toNat) 0) := hR.2 2 (33 * v0 + v3.toNat) 0 (by decide)
      refine x_iconst hx hb dX2_greatest_24 ?_
      refine x_icmp_ne (tgt := 53) hx hb hg4 (by decide : rg (1 : Int)) dX2_greatest_25 (by decide) (fun ci5 => ?_) (fun ci5 => ?_)
      · rw [if_neg ci5] at hF
        obtain ⟨hq6, hF⟩ := xk_some hF
        refine x_iinc (lv' := [(3, .int (jI (v3 + (1 : Int)))), (0, .ref (adr b 1 v0)), (1, .int (jI v1)), (2, .int (jI v2))]) hx hb dX2_greatest_53 hl (k := 3) rfl (by decide) rfl (fun ls hl => ?_)
        refine lv_goto (tgt := 6) hx hb dX2_greatest_56 (by decide) ?_
        exact ih v0 v1 v2 (v3 + (1 : Int)) hv0 hv1 hv2 hq6 H locs hR hS ls (lv_sub hl [1, 2, 3, 0] rfl) hF
      · rw [if_pos ci5] at hF
        refine lv_aload_n hx hb dX2_greatest_28 rfl (lv_at hl 0 rfl) ?_
        refine gf_2_0 hx hb hts hown hK hR hv0 wd88 dX2_greatest_29 ?_
        refine lv_iload_n hx hb dX2_greatest_32 rfl (lv_at hl 3 rfl) ?_
        obtain ⟨hi7, hF⟩ := xk_some hF
        refine x_aldN hx hb hK hR hv0 hv3 hi7 dX2_greatest_33 ?_
        have hj8 : (33 * v0 + v3.toNat) < 99 := by have := hv0; omega
        obtain ⟨y10, hc9, hF⟩ := xb1_some hF
        refine x_cVi (C := RX1) (T := TX1) (N := 12) (ci := 1) (As := []) (rest := []) hx hb hml hown hts hK hR hS (c_X1_ownBlocks hj8 hc9) (ok2 hj8) rfl rfl wd408 wd409 wd410 wd3 wd411 hyX1_ownBlocks ⟨rfl, rfl⟩ ⟨Nat.le_of_ble_eq_true rfl, Nat.le_of_ble_eq_true rfl⟩ hl.1 (Nat.le_of_ble_eq_true rfl) dX2_greatest_34 ⟨Nat.zero_le _, Nat.zero_le _⟩ rfl (fun hg11 H locs hR hS => ?_)
        refine lv_iload_n hx hb dX2_greatest_37 rfl (lv_at hl 2 rfl) ?_
        refine x_icmp_le (tgt := 53) hx hb hg11 hv2 dX2_greatest_38 (by decide) (fun ci12 => ?_) (fun ci12 => ?_)
        · rw [if_pos ci12] at hF
          obtain ⟨hq13, hF⟩ := xk_some hF
          refine x_iinc (lv' := [(3, .int (jI (v3 + (1 : Int)))), (0, .ref (adr b 1 v0)), (1, .int (jI v1)), (2, .int (jI v2))]) hx hb dX2_greatest_53 hl (k := 3) rfl (by decide) rfl (fun ls hl => ?_)
          refine lv_goto (tgt := 6) hx hb dX2_greatest_56 (by decide) ?_
          exact ih v0 v1 v2 (v3 + (1 : Int)) hv0 hv1 hv2 hq13 H locs hR hS ls (lv_sub hl [1, 2, 3, 0] rfl) hF
        · rw [if_neg ci12] at hF
          refine lv_iload_n hx hb dX2_greatest_41 rfl (lv_at hl 3 rfl) ?_
          refine lv_istore_n (lv' := [(1, .int (jI v3)), (0, .ref (adr b 1 v0)), (2, .int (jI v2)), (3, .int (jI v3))]) hx hb dX2_greatest_42 rfl hl (by decide) rfl (fun ls hl => ?_)
          refine lv_aload_n hx hb dX2_greatest_43 rfl (lv_at hl 1 rfl) ?_
          refine gf_2_0 hx hb hts hown hK hR hv0 wd88 dX2_greatest_44 ?_
          refine lv_iload_n hx hb dX2_greatest_47 rfl (lv_at hl 3 rfl) ?_
          obtain ⟨hi14, hF⟩ := xk_some hF
          refine x_aldN hx hb hK hR hv0 hv3 hi14 dX2_greatest_48 ?_
          have hj15 : (33 * v0 + v3.toNat) < 99 := by have := hv0; omega
          obtain ⟨y17, hc16, hF⟩ := xb1_some hF
          refine x_cVi (C := RX1) (T := TX1) (N := 12) (ci := 1) (As := []) (rest := []) hx hb hml hown hts hK hR hS (c_X1_ownBlocks hj15 hc16) (ok2 hj15) rfl rfl wd408 wd409 wd410 wd3 wd411 hyX1_ownBlocks ⟨rfl, rfl⟩ ⟨Nat.le_of_ble_eq_true rfl, Nat.le_of_ble_eq_true rfl⟩ hl.1 (Nat.le_of_ble_eq_true rfl) dX2_greatest_49 ⟨Nat.zero_le _, Nat.zero_le _⟩ rfl (fun hg18 H locs hR hS => ?_)
          refine lv_istore_n (lv' := [(2, .int (jI y17)), (1, .int (jI v3)), (0, .ref (adr b 1 v0)), (3, .int (jI v3))]) hx hb dX2_greatest_52 rfl hl (by decide) rfl (fun ls hl => ?_)
          obtain ⟨hq19, hF⟩ := xk_some hF
          refine x_iinc (lv' := [(3, .int (jI (v3 + (1 : Int)))), (2, .int (jI y17)), (1, .int (jI v3)), (0, .ref (adr b 1 v0))]) hx hb dX2_greatest_53 hl (k := 3) rfl (by decide) rfl (fun ls hl => ?_)
          refine lv_goto (tgt := 6) hx hb dX2_greatest_56 (by decide) ?_
          exact ih v0 v3 y17 (v3 + (1 : Int)) hv0 hv3 hg18 hq19 H locs hR hS ls (lv_sub hl [3, 2, 1, 0] rfl) hF
def F_X2_greatest (M : Mm) (o : Nat) : Option (Int) := (F_X2_greatest_6 M  FU o (-1 : Int) (-1 : Int) (0 : Int))
set_option maxHeartbeats 4000000 in
set_option maxRecDepth 100000 in
theorem c_X2_greatest {l : Launch} {g : Gx} {b : Nat} {M : Mm} {o : Nat} {r : Int} (ho : o < 3) (hF : F_X2_greatest M o = some r) : Ct l yX2_greatest cX2_greatest 4 (some .int) rmX2_greatest g b [.ref (adr b 1 o)] M (qI g b r M) := by
  refine ct_of (by decide +kernel) (Nat.le_of_ble_eq_true rfl) ?_
  intro p e s m args below meth c C0 hR ls hl
  obtain ⟨hx, hb, hr, hlocks, hml, hown, hts, hK⟩ := id C0
  have hS : va_S (AA b s.heap.size) s.heap s.heap [] := va_S.rf
  have hl : lv_has ls 4 [(0, .ref (adr b 1 o))] := hl
  obtain ⟨H, hH⟩ : ∃ z, z = s.heap := ⟨_, rfl⟩
  obtain ⟨locs, hlo⟩ : ∃ z : List Loc, z = [] := ⟨_, rfl⟩
  have hR : Rel g b M H := by rw [hH]; exact hR
  have hS : va_S (AA b s.heap.size) s.heap H locs := by rw [hH, hlo]; exact hS
  suffices hW : W p l e rmX2_greatest s m args below meth c H locs 0 0 (MQ below (qI g b r M s.heap.size) args s 0 0 (AA b s.heap.size)) (F0 m 0 ls []) by rw [hH, hlo] at hW; exact hW
  rw [F_X2_greatest] at hF
  refine x_iconst hx hb dX2_greatest_0 ?_
  refine lv_istore_n (lv' := [(1, .int (jI (-1 : Int))), (0, .ref (adr b 1 o))]) hx hb dX2_greatest_1 rfl hl (by decide) rfl (fun ls hl => ?_)
  refine x_iconst hx hb dX2_greatest_2 ?_
  refine lv_istore_n (lv' := [(2, .int (jI (-1 : Int))), (1, .int (jI (-1 : Int))), (0, .ref (adr b 1 o))]) hx hb dX2_greatest_3 rfl hl (by decide) rfl (fun ls hl => ?_)
  refine x_iconst hx hb dX2_greatest_4 ?_
  refine lv_istore_n (lv' := [(3, .int (jI (0 : Int))), (2, .int (jI (-1 : Int))), (1, .int (jI (-1 : Int))), (0, .ref (adr b 1 o))]) hx hb dX2_greatest_5 rfl hl (by decide) rfl (fun ls hl => ?_)
  exact w_X2_greatest_6 C0  FU o (-1 : Int) (-1 : Int) (0 : Int) ho (by decide : rg (-1 : Int)) (by decide : rg (-1 : Int)) (by decide : rg (0 : Int)) H locs hR hS ls (lv_sub hl [3, 2, 1, 0] rfl) hF
abbrev rmX2_isIn : Room := { frames := 0, cells := 0, slots := 0, locals := 0 }
theorem hyX2_isIn : yX2_isIn.cls ≠ "java/lang/invoke/MethodHandle" ∧ yX2_isIn.cls ≠ "java/lang/invoke/VarHandle" ∧ (parseMethodDescriptor yX2_isIn.desc).map (fun d => d.parameters.length) = some 2 := by decide +kernel
def F_X2_isIn (M : Mm) (a1 : Int64) (a2 : Int) : Option (Int) := (if (lcmpI ((a1 >>> ((jI a2).toInt64 &&& 63)) &&& (1 : Int64)) (0 : Int64)) = 0 then (some (0 : Int)) else (some (1 : Int)))
set_option maxHeartbeats 4000000 in
set_option maxRecDepth 100000 in
theorem c_X2_isIn {l : Launch} {g : Gx} {b : Nat} {M : Mm} {a1 : Int64} {a2 : Int} {r : Int} (ha2 : rg a2) (hF : F_X2_isIn M a1 a2 = some r) : Ct l yX2_isIn cX2_isIn 3 (some .boolean) rmX2_isIn g b [.long a1, .int (jI a2)] M (qI g b r M) := by
  refine ct_of (by decide +kernel) (Nat.le_of_ble_eq_true rfl) ?_
  intro p e s m args below meth c C0 hR ls hl
  obtain ⟨hx, hb, hr, hlocks, hml, hown, hts, hK⟩ := id C0
  have hS : va_S (AA b s.heap.size) s.heap s.heap [] := va_S.rf
  have hl : lv_has ls 3 [(0, .long a1), (2, .int (jI a2))] := hl
  obtain ⟨H, hH⟩ : ∃ z, z = s.heap := ⟨_, rfl⟩
  obtain ⟨locs, hlo⟩ : ∃ z : List Loc, z = [] := ⟨_, rfl⟩
  have hR : Rel g b M H := by rw [hH]; exact hR
  have hS : va_S (AA b s.heap.size) s.heap H locs := by rw [hH, hlo]; exact hS
  suffices hW : W p l e rmX2_isIn s m args below meth c H locs 0 0 (MQ below (qI g b r M s.heap.size) args s 0 0 (AA b s.heap.size)) (F0 m 0 ls []) by rw [hH, hlo] at hW; exact hW
  rw [F_X2_isIn] at hF
  refine lv_lload_n hx hb dX2_isIn_0 rfl (lv_at hl 0 rfl) ?_
  refine lv_iload_n hx hb dX2_isIn_1 rfl (lv_at hl 1 rfl) ?_
  refine lv_lshr (v := (a1 >>> ((jI a2).toInt64 &&& 63))) hx hb dX2_isIn_2 rfl ?_
  refine lv_lconst (v := (1 : Int64)) hx hb dX2_isIn_3 (by decide +kernel) ?_
  refine lv_land hx hb dX2_isIn_4 ?_
  refine lv_lconst (v := (0 : Int64)) hx hb dX2_isIn_5 (by decide +kernel) ?_
  refine x_lcmp hx hb dX2_isIn_6 ?_
  refine x_if_eq (tgt := 14) hx hb (lcmpI_rg _ _) dX2_isIn_7 (by decide) (fun ci1 => ?_) (fun ci1 => ?_)
  · rw [if_pos ci1] at hF
    refine x_iconst hx hb dX2_isIn_14 ?_
    cases hF
    exact x_zret hx hb hlocks hK hR hS hr (by decide) dX2_isIn_15
  · rw [if_neg ci1] at hF
    refine x_iconst hx hb dX2_isIn_10 ?_
    refine lv_goto (tgt := 15) hx hb dX2_isIn_11 (by decide) ?_
    cases hF
    exact x_zret hx hb hlocks hK hR hS hr (by decide) dX2_isIn_15
abbrev rmX2_insideOf : Room := { frames := 1, cells := 0, slots := 0, locals := 21 }
theorem hyX2_insideOf : yX2_insideOf.cls ≠ "java/lang/invoke/MethodHandle" ∧ yX2_insideOf.cls ≠ "java/lang/invoke/VarHandle" ∧ (parseMethodDescriptor yX2_insideOf.desc).map (fun d => d.parameters.length) = some 1 := by decide +kernel
def F_X2_insideOf_4 (M : Mm)  : Nat → Nat → Int64 → Int → Option (Int64)
  | 0, _, _, _ => none
  | n + 1, v0, v1, v3 => (if (M 2 v0 8) ≤ v3 then (some v1) else (xb1 (F_X1_nodeIn M v0 v3) fun y4 => (xk (rg (v3 + (1 : Int))) (F_X2_insideOf_4 M  n v0 (v1 ||| ((1 : Int64) <<< ((jI y4).toInt64 &&& 63))) (v3 + (1 : Int))))))
set_option maxHeartbeats 4000000 in
set_option maxRecDepth 100000 in
theorem w_X2_insideOf_4 {p : Program} {l : Launch} {e : Env} {s : State} {m : MethodId} {args : Array Value} {below : List Frame} {meth : Method} {c : Code} {g : Gx} {b : Nat} (C0 : XA p s m meth c args RX2 cX2_insideOf 4 (some .long) g) {r : Int64} {M : Mm} : ∀ n : Nat, ∀ (v0 : Nat) (v1 : Int64) (v3 : Int) (hv0 : v0 < 99) (hv3 : rg v3) (H : Heap) (locs : List Loc), Rel g b M H → va_S (AA b s.heap.size) s.heap H locs → ∀ ls : Array Slot, lv_has ls 4 [(0, .ref (adr b 2 v0)), (1, .long v1), (3, .int (jI v3))] → F_X2_insideOf_4 M  n v0 v1 v3 = some r → W p l e rmX2_insideOf s m args below meth c H locs 0 0 (MQ below (qL g b r M s.heap.size) args s 0 0 (AA b s.heap.size)) (F0 m 4 ls []) := by
  obtain ⟨hx, hb, hr, hlocks, hml, hown, hts, hK⟩ := id C0
  intro n
  induction n with
  | zero =>
    intro v0 v1 v3 hv0 hv3 H locs hR hS ls hl hF
    rw [F_X2_insideOf_4] at hF
    cases hF
  | succ n ih =>
    intro v0 v1 v3 hv0 hv3 H locs hR hS ls hl hF
    rw [F_X2_insideOf_4] at hF
    refine lv_iload_n hx hb dX2_insideOf_4 rfl (lv_at hl 2 rfl) ?_
    refine lv_aload_n hx hb dX2_insideOf_5 rfl (lv_at hl 0 rfl) ?_
    refine gf_1_8 hx hb hts hown hK hR hv0 wd57 dX2_insideOf_6 ?_
    have hg1 : rg (M 2 v0 8) := hR.2 2 v0 8 (by decide)
    refine x_icmp_ge (tgt := 28) hx hb hv3 hg1 dX2_insideOf_9 (by decide) (fun ci2 => ?_) (fun ci2 => ?_)
    · rw [if_pos ci2] at hF
      refine lv_lload_n hx hb dX2_insideOf_28 rfl (lv_at hl 1 rfl) ?_
      cases hF
      exact x_lret hx hb hlocks hK hR hS hr dX2_insideOf_29
    · rw [if_neg ci2] at hF
      refine lv_lload_n hx hb dX2_insideOf_12 rfl (lv_at hl 1 rfl) ?_
      refine lv_lconst (v := (1 : Int64)) hx hb dX2_insideOf_13 (by decide +kernel) ?_
      refine lv_aload_n hx hb dX2_insideOf_14 rfl (lv_at hl 0 rfl) ?_
      refine lv_iload_n hx hb dX2_insideOf_15 rfl (lv_at hl 2 rfl) ?_
      obtain ⟨y4, hc3, hF⟩ := xb1_some hF
      refine x_cVi (C := RX1) (T := TX1) (N := 12) (ci := 1) (As := [.int (jI v3)]) (rest := [.long (1 : Int64), .long v1]) hx hb hml hown hts hK hR hS (c_X1_nodeIn hv0 hv3 hc3) (ok2 hv0) rfl rfl wd520 wd521 wd522 wd3 wd523 hyX1_nodeIn ⟨rfl, rfl⟩ ⟨Nat.le_of_ble_eq_true rfl, Nat.le_of_ble_eq_true rfl⟩ hl.1 (Nat.le_of_ble_eq_true rfl) dX2_insideOf_16 ⟨Nat.zero_le _, Nat.zero_le _⟩ rfl (fun hg5 H locs hR hS => ?_)
      refine lv_lshl (v := ((1 : Int64) <<< ((jI y4).toInt64 &&& 63))) hx hb dX2_insideOf_19 rfl ?_
      refine lv_lor hx hb dX2_insideOf_20 ?_
      refine lv_lstore_n (lv' := [(1, .long (v1 ||| ((1 : Int64) <<< ((jI y4).toInt64 &&& 63)))), (0, .ref (adr b 2 v0)), (3, .int (jI v3))]) hx hb dX2_insideOf_21 rfl hl (by decide) rfl (fun ls hl => ?_)
      obtain ⟨hq6, hF⟩ := xk_some hF
      refine x_iinc (lv' := [(3, .int (jI (v3 + (1 : Int)))), (1, .long (v1 ||| ((1 : Int64) <<< ((jI y4).toInt64 &&& 63)))), (0, .ref (adr b 2 v0))]) hx hb dX2_insideOf_22 hl (k := 2) rfl (by decide) rfl (fun ls hl => ?_)
      refine lv_goto (tgt := 4) hx hb dX2_insideOf_25 (by decide) ?_
      exact ih v0 (v1 ||| ((1 : Int64) <<< ((jI y4).toInt64 &&& 63))) (v3 + (1 : Int)) hv0 hq6 H locs hR hS ls (lv_sub hl [2, 1, 0] rfl) hF
def F_X2_insideOf (M : Mm) (a1 : Nat) : Option (Int64) := (F_X2_insideOf_4 M  FU a1 (0 : Int64) (0 : Int))
set_option maxHeartbeats 4000000 in
set_option maxRecDepth 100000 in
theorem c_X2_insideOf {l : Launch} {g : Gx} {b : Nat} {M : Mm} {a1 : Nat} {r : Int64} (ha1 : a1 < 99) (hF : F_X2_insideOf M a1 = some r) : Ct l yX2_insideOf cX2_insideOf 4 (some .long) rmX2_insideOf g b [.ref (adr b 2 a1)] M (qL g b r M) := by
  refine ct_of (by decide +kernel) (Nat.le_of_ble_eq_true rfl) ?_
  intro p e s m args below meth c C0 hR ls hl
  obtain ⟨hx, hb, hr, hlocks, hml, hown, hts, hK⟩ := id C0
  have hS : va_S (AA b s.heap.size) s.heap s.heap [] := va_S.rf
  have hl : lv_has ls 4 [(0, .ref (adr b 2 a1))] := hl
  obtain ⟨H, hH⟩ : ∃ z, z = s.heap := ⟨_, rfl⟩
  obtain ⟨locs, hlo⟩ : ∃ z : List Loc, z = [] := ⟨_, rfl⟩
  have hR : Rel g b M H := by rw [hH]; exact hR
  have hS : va_S (AA b s.heap.size) s.heap H locs := by rw [hH, hlo]; exact hS
  suffices hW : W p l e rmX2_insideOf s m args below meth c H locs 0 0 (MQ below (qL g b r M s.heap.size) args s 0 0 (AA b s.heap.size)) (F0 m 0 ls []) by rw [hH, hlo] at hW; exact hW
  rw [F_X2_insideOf] at hF
  refine lv_lconst (v := (0 : Int64)) hx hb dX2_insideOf_0 (by decide +kernel) ?_
  refine lv_lstore_n (lv' := [(1, .long (0 : Int64)), (0, .ref (adr b 2 a1))]) hx hb dX2_insideOf_1 rfl hl (by decide) rfl (fun ls hl => ?_)
  refine x_iconst hx hb dX2_insideOf_2 ?_
  refine lv_istore_n (lv' := [(3, .int (jI (0 : Int))), (1, .long (0 : Int64)), (0, .ref (adr b 2 a1))]) hx hb dX2_insideOf_3 rfl hl (by decide) rfl (fun ls hl => ?_)
  exact w_X2_insideOf_4 C0  FU a1 (0 : Int64) (0 : Int) ha1 (by decide : rg (0 : Int)) H locs hR hS ls (lv_sub hl [2, 1, 0] rfl) hF
abbrev rmX2_reach : Room := { frames := 2, cells := 0, slots := 0, locals := 44 }
theorem hyX2_reach : yX2_reach.cls = RX2 ∧ yX2_reach.cls ≠ "java/lang/invoke/MethodHandle" ∧ yX2_reach.cls ≠ "java/lang/invoke/VarHandle" ∧ (parseMethodDescriptor yX2_reach.desc).map (fun d => d.parameters.length) = some 1 := by decide +kernel
def F_X2_reach_30 (M : Mm) (rec10 : Nat → Int64 → Int64 → Int → Option (Int64)) : Nat → Nat → Int64 → Int64 → Int → Int64 → Int → Option (Int64)
  | 0, _, _, _, _, _, _ => none
  | n + 1, v0, v2, v4, v6, v7, v9 => (if (32 : Int) ≤ v9 then (xk (rg (v6 + (1 : Int))) (rec10 v0 (v2 ||| (v7 &&& (v2 ^^^ (-1 : Int64)))) (v7 &&& (v2 ^^^ (-1 : Int64))) (v6 + (1 : Int)))) else (xb1 (F_X2_isIn M v4 v9) fun y4 => (if y4 = 0 then (xk (rg (v9 + (1 : Int))) (F_X2_reach_30 M rec10 n v0 v2 v4 v6 v7 (v9 + (1 : Int)))) else (xk (0 ≤ v9 ∧ v9 < 32) (xb1 (F_X2_insideOf M (33 * v0 + v9.toNat)) fun y11 => (xk (rg (v9 + (1 : Int))) (F_X2_reach_30 M rec10 n v0 v2 v4 v6 (v7 ||| y11) (v9 + (1 : Int)))))))))
set_option maxHeartbeats 4000000 in
set_option maxRecDepth 100000 in
theorem w_X2_reach_30 {p : Program} {l : Launch} {e : Env} {s : State} {m : MethodId} {args : Array Value} {below : List Frame} {meth : Method} {c : Code} {g : Gx} {b : Nat} (C0 : XA p s m meth c args RX2 cX2_reach 10 (some .long) g) {r : Int64} {M : Mm} {rec10 : Nat → Int64 → Int64 → Int → Option (Int64)} (hrec10 : ∀ (v0 : Nat) (v2 : Int64) (v4 : Int64) (v6 : Int) (hv0 : v0 < 3) (hv6 : rg v6) (H : Heap) (locs : List Loc), Rel g b M H → va_S (AA b s.heap.size) s.heap H locs → ∀ ls : Array Slot, lv_has ls 10 [(0, .ref (adr b 1 v0)), (2, .long v2), (4, .long v4), (6, .int (jI v6))] → rec10 v0 v2 v4 v6 = some r → W p l e rmX2_reach s m args below meth c H locs 0 0 (MQ below (qL g b r M s.heap.size) args s 0 0 (AA b s.heap.size)) (F0 m 10 ls [])) : ∀ n : Nat, ∀ (v0 : Nat) (v2 : Int64) (v4 : Int64) (v6 : Int) (v7 : Int64) (v9 : Int) (hv0 : v0 < 3) (hv6 : rg v6) (hv9 : rg v9) (H : Heap) (locs : List Loc), Rel g b M H → va_S (AA b s.heap.size) s.heap H locs → ∀ ls : Array Slot, lv_has ls 10 [(0, .ref (adr b 1 v0)), (2, .long v2), (4, .long v4), (6, .int (jI v6)), (7, .long v7), (9, .int (jI v9))] → F_X2_reach_30 M rec10 n v0 v2 v4 v6 v7 v9 = some r → W p l e rmX2_reach s m args below meth c H locs 0 0 (MQ below (qL g b r M s.heap.size) args s 0 0 (AA b s.heap.size)) (F0 m 30 ls []) := by
  obtain ⟨hx, hb, hr, hlocks, hml, hown, hts, hK⟩ := id C0
  intro n
  induction n with
  | zero =>
    intro v0 v2 v4 v6 v7 v9 hv0 hv6 hv9 H locs hR hS ls hl hF
    rw [F_X2_reach_30] at hF
    cases hF
  | succ n ih =>
    intro v0 v2 v4 v6 v7 v9 hv0 hv6 hv9 H locs hR hS ls hl hF
    rw [F_X2_reach_30] at hF
    refine lv_iload hx hb dX2_reach_30 (lv_at hl 5 rfl) ?_
    refine lv_aload_n hx hb dX2_reach_32 rfl (lv_at hl 0 rfl) ?_
    refine gf_2_0 hx hb hts hown hK hR hv0 wd88 dX2_reach_33 ?_
    refine x_alenN hx hb hK hR hv0 dX2_reach_36 ?_
    refine x_icmp_ge (tgt := 71) hx hb hv9 (by decide : rg (32 : Int)) dX2_reach_37 (by decide) (fun ci1 => ?_) (fun ci1 => ?_)
    · rw [if_pos ci1] at hF
      refine lv_lload hx hb dX2_reach_71 (lv_at hl 4 rfl) ?_
      refine lv_lload_n hx hb dX2_reach_73 rfl (lv_at hl 1 rfl) ?_
      refine lv_ldc2 (v := (-1 : Int64)) hx hb hown (hts _ wd524) dX2_reach_74 ?_
      refine lv_lxor hx hb dX2_reach_77 ?_
      refine lv_land hx hb dX2_reach_78 ?_
      refine lv_lstore (lv' := [(4, .long (v7 &&& (v2 ^^^ (-1 : Int64)))), (0, .ref (adr b 1 v0)), (2, .long v2), (6, .int (jI v6)), (7, .long v7), (9, .int (jI v9))]) hx hb dX2_reach_79 hl (by decide) rfl (fun ls hl => ?_)
      refine lv_lload_n hx hb dX2_reach_81 rfl (lv_at hl 2 rfl) ?_
      refine lv_lload hx hb dX2_reach_82 (lv_at hl 0 rfl) ?_
      refine lv_lor hx hb dX2_reach_84 ?_
      refine lv_lstore_n (lv' := [(2, .long (v2 ||| (v7 &&& (v2 ^^^ (-1 : Int64))))), (4, .long (v7 &&& (v2 ^^^ (-1 : Int64)))), (0, .ref (adr b 1 v0)), (6, .int (jI v6)), (7, .long v7), (9, .int (jI v9))]) hx hb dX2_reach_85 rfl hl (by decide) rfl (fun ls hl => ?_)
      obtain ⟨hq2, hF⟩ := xk_some hF
      refine x_iinc (lv' := [(6, .int (jI (v6 + (1 : Int)))), (2, .long (v2 ||| (v7 &&& (v2 ^^^ (-1 : Int64))))), (4, .long (v7 &&& (v2 ^^^ (-1 : Int64)))), (0, .ref (adr b 1 v0)), (7, .long v7), (9, .int (jI v9))]) hx hb dX2_reach_86 hl (k := 3) rfl (by decide) rfl (fun ls hl => ?_)
      refine lv_goto (tgt := 10) hx hb dX2_reach_89 (by decide) ?_
      exact hrec10 v0 (v2 ||| (v7 &&& (v2 ^^^ (-1 : Int64)))) (v7 &&& (v2 ^^^ (-1 : Int64))) (v6 + (1 : Int)) hv0 hq2 H locs hR hS ls (lv_sub hl [3, 1, 2, 0] rfl) hF
    · rw [if_neg ci1] at hF
      refine lv_lload hx hb dX2_reach_40 (lv_at hl 2 rfl) ?_
      refine lv_iload hx hb dX2_reach_42 (lv_at hl 5 rfl) ?_
      obtain ⟨y4, hc3, hF⟩ := xb1_some hF
      refine x_cSi (As := [.long v4, .int (jI v9)]) (rest := []) hx hb hml hown hts hK hR hS (c_X2_isIn hv9 hc3) wd514 wd515 wd2 wd516 hyX2_isIn ⟨rfl, rfl⟩ ⟨Nat.le_of_ble_eq_true rfl, Nat.le_of_ble_eq_true rfl⟩ hl.1 (Nat.le_of_ble_eq_true rfl) dX2_reach_44 ⟨Nat.zero_le _, Nat.zero_le _⟩ rfl (fun hg5 H locs hR hS => ?_)
      refine x_if_eq (tgt := 65) hx hb hg5 dX2_reach_47 (by decide) (fun ci6 => ?_) (fun ci6 => ?_)
      · rw [if_pos ci6] at hF
        obtain ⟨hq7, hF⟩ := xk_some hF
        refine x_iinc (lv' := [(9, .int (jI (v9 + (1 : Int)))), (0, .ref (adr b 1 v0)), (2, .long v2), (4, .long v4), (6, .int (jI v6)), (7, .long v7)]) hx hb dX2_reach_65 hl (k := 5) rfl (by decide) rfl (fun ls hl => ?_)
        refine lv_goto (tgt := 30) hx hb dX2_reach_68 (by decide) ?_
        exact ih v0 v2 v4 v6 v7 (v9 + (1 : Int)) hv0 hv6 hq7 H locs hR hS ls (lv_sub hl [1, 2, 3, 4, 5, 0] rfl) hF
      · rw [if_neg ci6] at hF
        refine lv_lload hx hb dX2_reach_50 (lv_at hl 4 rfl) ?_
        refine lv_aload_n hx hb dX2_reach_52 rfl (lv_at hl 0 rfl) ?_
        refine gf_2_0 hx hb hts hown hK hR hv0 wd88 dX2_reach_53 ?_
        refine lv_iload hx hb dX2_reach_56 (lv_at hl 5 rfl) ?_
        obtain ⟨hi8, hF⟩ := xk_some hF
        refine x_aldN hx hb hK hR hv0 hv9 hi8 dX2_reach_58 ?_
        have hj9 : (33 * v0 + v9.toNat) < 99 := by have := hv0; omega
        obtain ⟨y11, hc10, hF⟩ := xb1_some hF
        refine x_cSl (As := [.ref (adr b 2 (33 * v0 + v9.toNat))]) (rest := [.long v7]) hx hb hml hown hts hK hR hS (c_X2_insideOf hj9 hc10) wd517 wd518 wd2 wd519 hyX2_insideOf ⟨rfl, rfl⟩ ⟨Nat.le_of_ble_eq_true rfl, Nat.le_of_ble_eq_true rfl⟩ hl.1 (Nat.le_of_ble_eq_true rfl) dX2_reach_59 ⟨Nat.zero_le _, Nat.zero_le _⟩ rfl (fun H locs hR hS => ?_)
        refine lv_lor hx hb dX2_reach_62 ?_
        refine lv_lstore (lv' := [(7, .long (v7 ||| y11)), (0, .ref (adr b 1 v0)), (2, .long v2), (4, .long v4), (6, .int (jI v6)), (9, .int (jI v9))]) hx hb dX2_reach_63 hl (by decide) rfl (fun ls hl => ?_)
        obtain ⟨hq12, hF⟩ := xk_some hF
        refine x_iinc (lv' := [(9, .int (jI (v9 + (1 : Int)))), (7, .long (v7 ||| y11)), (0, .ref (adr b 1 v0)), (2, .long v2), (4, .long v4), (6, .int (jI v6))]) hx hb dX2_reach_65 hl (k := 5) rfl (by decide) rfl (fun ls hl => ?_)
        refine lv_goto (tgt := 30) hx hb dX2_reach_68 (by decide) ?_
        exact ih v0 v2 v4 v6 (v7 ||| y11) (v9 + (1 : Int)) hv0 hv6 hq12 H locs hR hS ls (lv_sub hl [2, 3, 4, 5, 1, 0] rfl) hF
def F_X2_reach_10 (M : Mm)  : Nat → Nat → Int64 → Int64 → Int → Option (Int64)
  | 0, _, _, _, _ => none
  | n + 1, v0, v2, v4, v6 => (if (32 : Int) ≤ v6 then (some v2) else (if (lcmpI v4 (0 : Int64)) = 0 then (some v2) else (F_X2_reach_30 M (F_X2_reach_10 M  n) FU v0 v2 v4 v6 (0 : Int64) (0 : Int))))
set_option maxHeartbeats 4000000 in
set_option maxRecDepth 100000 in
theorem w_X2_reach_10 {p : Program} {l : Launch} {e : Env} {s : State} {m : MethodId} {args : Array Value} {below : List Frame} {meth : Method} {c : Code} {g : Gx} {b : Nat} (C0 : XA p s m meth c args RX2 cX2_reach 10 (some .long) g) {r : Int64} {M : Mm} : ∀ n : Nat, ∀ (v0 : Nat) (v2 : Int64) (v4 : Int64) (v6 : Int) (hv0 : v0 < 3) (hv6 : rg v6) (H : Heap) (locs : List Loc), Rel g b M H → va_S (AA b s.heap.size) s.heap H locs → ∀ ls : Array Slot, lv_has ls 10 [(0, .ref (adr b 1 v0)), (2, .long v2), (4, .long v4), (6, .int (jI v6))] → F_X2_reach_10 M  n v0 v2 v4 v6 = some r → W p l e rmX2_reach s m args below meth c H locs 0 0 (MQ below (qL g b r M s.heap.size) args s 0 0 (AA b s.heap.size)) (F0 m 10 ls []) := by
  obtain ⟨hx, hb, hr, hlocks, hml, hown, hts, hK⟩ := id C0
  intro n
  induction n with
  | zero =>
    intro v0 v2 v4 v6 hv0 hv6 H locs hR hS ls hl hF
    rw [F_X2_reach_10] at hF
    cases hF
  | succ n ih =>
    intro v0 v2 v4 v6 hv0 hv6 H locs hR hS ls hl hF
    rw [F_X2_reach_10] at hF
    refine lv_iload hx hb dX2_reach_10 (lv_at hl 3 rfl) ?_
    refine x_bipush hx hb (by decide +kernel) dX2_reach_12 ?_
    refine x_icmp_ge (tgt := 92) hx hb hv6 (by decide : rg (32 : Int)) dX2_reach_14 (by decide) (fun ci1 => ?_) (fun ci1 => ?_)
    · rw [if_pos ci1] at hF
      refine lv_lload_n hx hb dX2_reach_92 rfl (lv_at hl 1 rfl) ?_
      cases hF
      exact x_lret hx hb hlocks hK hR hS hr dX2_reach_93
    · rw [if_neg ci1] at hF
      refine lv_lload hx hb dX2_reach_17 (lv_at hl 2 rfl) ?_
      refine lv_lconst (v := (0 : Int64)) hx hb dX2_reach_19 (by decide +kernel) ?_
      refine x_lcmp hx hb dX2_reach_20 ?_
      refine x_if_eq (tgt := 92) hx hb (lcmpI_rg _ _) dX2_reach_21 (by decide) (fun ci2 => ?_) (fun ci2 => ?_)
      · rw [if_pos ci2] at hF
        refine lv_lload_n hx hb dX2_reach_92 rfl (lv_at hl 1 rfl) ?_
        cases hF
        exact x_lret hx hb hlocks hK hR hS hr dX2_reach_93
      · rw [if_neg ci2] at hF
        refine lv_lconst (v := (0 : Int64)) hx hb dX2_reach_24 (by decide +kernel) ?_
        refine lv_lstore (lv' := [(7, .long (0 : Int64)), (0, .ref (adr b 1 v0)), (2, .long v2), (4, .long v4), (6, .int (jI v6))]) hx hb dX2_reach_25 hl (by decide) rfl (fun ls hl => ?_)
        refine x_iconst hx hb dX2_reach_27 ?_
        refine lv_istore (lv' := [(9, .int (jI (0 : Int))), (7, .long (0 : Int64)), (0, .ref (adr b 1 v0)), (2, .long v2), (4, .long v4), (6, .int (jI v6))]) hx hb dX2_reach_28 hl (by decide) rfl (fun ls hl => ?_)
        exact w_X2_reach_30 C0 ih FU v0 v2 v4 v6 (0 : Int64) (0 : Int) hv0 hv6 (by decide : rg (0 : Int)) H locs hR hS ls (lv_sub hl [2, 3, 4, 5, 1, 0] rfl) hF
def F_X2_reach (M : Mm) (o : Nat) (a1 : Int) : Option (Int64) := (F_X2_reach_10 M  FU o ((1 : Int64) <<< ((jI a1).toInt64 &&& 63)) ((1 : Int64) <<< ((jI a1).toInt64 &&& 63)) (0 : Int))
set_option maxHeartbeats 4000000 in
set_option maxRecDepth 100000 in
theorem c_X2_reach {l : Launch} {g : Gx} {b : Nat} {M : Mm} {o : Nat} {a1 : Int} {r : Int64} (ho : o < 3) (ha1 : rg a1) (hF : F_X2_reach M o a1 = some r) : Ct l yX2_reach cX2_reach 10 (some .long) rmX2_reach g b [.ref (adr b 1 o), .int (jI a1)] M (qL g b r M) := by
  refine ct_of (by decide +kernel) (Nat.le_of_ble_eq_true rfl) ?_
  intro p e s m args below meth c C0 hR ls hl
  obtain ⟨hx, hb, hr, hlocks, hml, hown, hts, hK⟩ := id C0
  have hS : va_S (AA b s.heap.size) s.heap s.heap [] := va_S.rf
  have hl : lv_has ls 10 [(0, .ref (adr b 1 o)), (1, .int (jI a1))] := hl
  obtain ⟨H, hH⟩ : ∃ z, z = s.heap := ⟨_, rfl⟩
  obtain ⟨locs, hlo⟩ : ∃ z : List Loc, z = [] := ⟨_, rfl⟩
  have hR : Rel g b M H := by rw [hH]; exact hR
  have hS : va_S (AA b s.heap.size) s.heap H locs := by rw [hH, hlo]; exact hS
  suffices hW : W p l e rmX2_reach s m args below meth c H locs 0 0 (MQ below (qL g b r M s.heap.size) args s 0 0 (AA b s.heap.size)) (F0 m 0 ls []) by rw [hH, hlo] at hW; exact hW
  rw [F_X2_reach] at hF
  refine lv_lconst (v := (1 : Int64)) hx hb dX2_reach_0 (by decide +kernel) ?_
  refine lv_iload_n hx hb dX2_reach_1 rfl (lv_at hl 1 rfl) ?_
  refine lv_lshl (v := ((1 : Int64) <<< ((jI a1).toInt64 &&& 63))) hx hb dX2_reach_2 rfl ?_
  refine lv_lstore_n (lv' := [(2, .long ((1 : Int64) <<< ((jI a1).toInt64 &&& 63))), (0, .ref (adr b 1 o)), (1, .int (jI a1))]) hx hb dX2_reach_3 rfl hl (by decide) rfl (fun ls hl => ?_)
  refine lv_lload_n hx hb dX2_reach_4 rfl (lv_at hl 0 rfl) ?_
  refine lv_lstore (lv' := [(4, .long ((1 : Int64) <<< ((jI a1).toInt64 &&& 63))), (2, .long ((1 : Int64) <<< ((jI a1).toInt64 &&& 63))), (0, .ref (adr b 1 o)), (1, .int (jI a1))]) hx hb dX2_reach_5 hl (by decide) rfl (fun ls hl => ?_)
  refine x_iconst hx hb dX2_reach_7 ?_
  refine lv_istore (lv' := [(6, .int (jI (0 : Int))), (4, .long ((1 : Int64) <<< ((jI a1).toInt64 &&& 63))), (2, .long ((1 : Int64) <<< ((jI a1).toInt64 &&& 63))), (0, .ref (adr b 1 o)), (1, .int (jI a1))]) hx hb dX2_reach_8 hl (by decide) rfl (fun ls hl => ?_)
  exact w_X2_reach_10 C0  FU o ((1 : Int64) <<< ((jI a1).toInt64 &&& 63)) ((1 : Int64) <<< ((jI a1).toInt64 &&& 63)) (0 : Int) ho (by decide : rg (0 : Int)) H locs hR hS ls (lv_sub hl [3, 2, 1, 0] rfl) hF
abbrev rmX2_countHolders : Room := { frames := 1, cells := 0, slots := 0, locals := 22 }
theorem hyX2_countHolders : yX2_countHolders.cls = RX2 ∧ yX2_countHolders.cls ≠ "java/lang/invoke/MethodHandle" ∧ yX2_countHolders.cls ≠ "java/lang/invoke/VarHandle" ∧ (parseMethodDescriptor yX2_countHolders.desc).map (fun d => d.parameters.length) = some 1 := by decide +kernel
def F_X2_countHolders_38 (rec26 : Mm → Nat → Int64 → Int → Option (Mm)) : Nat → Mm → Nat → Int64 → Int → Int → Option (Mm)
  | 0, _, _, _, _, _ => none
  | n + 1, M, v0, v1, v3, v4 => (xb1 (F_X2_isIn M v1 v3) fun y2 => (if y2 = 0 then (xk (rg (v3 + (1 : Int))) (rec26 M v0 v1 (v3 + (1 : Int)))) else (if (20 : Int) ≤ v4 then (xk (rg (v3 + (1 : Int))) (rec26 M v0 v1 (v3 + (1 : Int)))) else (xk (0 ≤ v3 ∧ v3 < 32) (xb1 (F_X1_blockAt M (33 * v0 + v3.toNat) v4) fun y11 => (xb1 (F_X2_isBlock M y11) fun y14 => (if y14 = 0 then (xk (rg (v4 + (1 : Int))) (F_X2_countHolders_38 rec26 n M v0 v1 v3 (v4 + (1 : Int)))) else (xk (0 ≤ y11 ∧ y11 < 128) (xk (rg ((M 9 v0 y11.toNat) + (1 : Int))) (xk (0 ≤ y11 ∧ y11 < 128) (xl (mup M 9 v0 y11.toNat ((M 9 v0 y11.toNat) + (1 : Int))) fun M22 => (xk (rg (v4 + (1 : Int))) (F_X2_countHolders_38 rec26 n M22 v0 v1 v3 (v4 + (1 : Int)))))))))))))))
set_option maxHeartbeats 4000000 in
set_option maxRecDepth 100000 in
theorem w_X2_countHolders_38 {p : Program} {l : Launch} {e : Env} {s : State} {m : MethodId} {args : Array Value} {below : List Frame} {meth : Method} {c : Code} {g : Gx} {b : Nat} (C0 : XA p s m meth c args RX2 cX2_countHolders 6 none g) {M' : Mm} {rec26 : Mm → Nat → Int64 → Int → Option (Mm)} (hrec26 : ∀ (M : Mm) (v0 : Nat) (v1 : Int64) (v3 : Int) (hv0 : v0 < 3) (hv3 : rg v3) (H : Heap) (locs : List Loc), Rel g b M H → va_S (AA b s.heap.size) s.heap H locs → ∀ ls : Array Slot, lv_has ls 6 [(0, .ref (adr b 1 v0)), (1, .long v1), (3, .int (jI v3))] → rec26 M v0 v1 v3 = some M' → W p l e rmX2_countHolders s m args below meth c H locs 0 0 (MQ below (qV g b M' s.heap.size) args s 0 0 (AA b s.heap.size)) (F0 m 26 ls [])) : ∀ n : Nat, ∀ (M : Mm) (v0 : Nat) (v1 : Int64) (v3 : Int) (v4 : Int) (hv0 : v0 < 3) (hv3 : rg v3) (hv4 : rg v4) (H : Heap) (locs : List Loc), Rel g b M H → va_S (AA b s.heap.size) s.heap H locs → ∀ ls : Array Slot, lv_has ls 6 [(0, .ref (adr b 1 v0)), (1, .long v1), (3, .int (jI v3)), (4, .int (jI v4))] → F_X2_countHolders_38 rec26 n M v0 v1 v3 v4 = some M' → W p l e rmX2_countHolders s m args below meth c H locs 0 0 (MQ below (qV g b M' s.heap.size) args s 0 0 (AA b s.heap.size)) (F0 m 38 ls []) := by
  obtain ⟨hx, hb, hr, hlocks, hml, hown, hts, hK⟩ := id C0
  intro n
  induction n with
  | zero =>
    intro M v0 v1 v3 v4 hv0 hv3 hv4 H locs hR hS ls hl hF
    rw [F_X2_countHolders_38] at hF
    cases hF
  | succ n ih =>
    intro M v0 v1 v3 v4 hv0 hv3 hv4 H locs hR hS ls hl hF
    rw [F_X2_countHolders_38] at hF
    refine lv_lload_n hx hb dX2_countHolders_38 rfl (lv_at hl 1 rfl) ?_
    refine lv_iload_n hx hb dX2_countHolders_39 rfl (lv_at hl 2 rfl) ?_
    obtain ⟨y2, hc1, hF⟩ := xb1_some hF
    refine x_cSi (As := [.long v1, .int (jI v3)]) (rest := []) hx hb hml hown hts hK hR hS (c_X2_isIn hv3 hc1) wd514 wd515 wd2 wd516 hyX2_isIn ⟨rfl, rfl⟩ ⟨Nat.le_of_ble_eq_true rfl, Nat.le_of_ble_eq_true rfl⟩ hl.1 (Nat.le_of_ble_eq_true rfl) dX2_countHolders_40 ⟨Nat.zero_le _, Nat.zero_le _⟩ rfl (fun hg3 H locs hR hS => ?_)
    refine x_if_eq (tgt := 91) hx hb hg3 dX2_countHolders_43 (by decide) (fun ci4 => ?_) (fun ci4 => ?_)
    · rw [if_pos ci4] at hF
      obtain ⟨hq5, hF⟩ := xk_some hF
      refine x_iinc (lv' := [(3, .int (jI (v3 + (1 : Int)))), (0, .ref (adr b 1 v0)), (1, .long v1), (4, .int (jI v4))]) hx hb dX2_countHolders_91 hl (k := 2) rfl (by decide) rfl (fun ls hl => ?_)
      refine lv_goto (tgt := 26) hx hb dX2_countHolders_94 (by decide) ?_
      exact hrec26 M v0 v1 (v3 + (1 : Int)) hv0 hq5 H locs hR hS ls (lv_sub hl [1, 2, 0] rfl) hF
    · rw [if_neg ci4] at hF
      refine lv_iload hx hb dX2_countHolders_46 (lv_at hl 3 rfl) ?_
      refine x_bipush hx hb (by decide +kernel) dX2_countHolders_48 ?_
      refine x_icmp_ge (tgt := 91) hx hb hv4 (by decide : rg (20 : Int)) dX2_countHolders_50 (by decide) (fun ci6 => ?_) (fun ci6 => ?_)
      · rw [if_pos ci6] at hF
        obtain ⟨hq7, hF⟩ := xk_some hF
        refine x_iinc (lv' := [(3, .int (jI (v3 + (1 : Int)))), (0, .ref (adr b 1 v0)), (1, .long v1), (4, .int (jI v4))]) hx hb dX2_countHolders_91 hl (k := 2) rfl (by decide) rfl (fun ls hl => ?_)
        refine lv_goto (tgt := 26) hx hb dX2_countHolders_94 (by decide) ?_
        exact hrec26 M v0 v1 (v3 + (1 : Int)) hv0 hq7 H locs hR hS ls (lv_sub hl [1, 2, 0] rfl) hF
      · rw [if_neg ci6] at hF
        refine lv_aload_n hx hb dX2_countHolders_53 rfl (lv_at hl 0 rfl) ?_
        refine gf_2_0 hx hb hts hown hK hR hv0 wd88 dX2_countHolders_54 ?_
        refine lv_iload_n hx hb dX2_countHolders_57 rfl (lv_at hl 2 rfl) ?_
        obtain ⟨hi8, hF⟩ := xk_some hF
        refine x_aldN hx hb hK hR hv0 hv3 hi8 dX2_countHolders_58 ?_
        have hj9 : (33 * v0 + v3.toNat) < 99 := by have := hv0; omega
        refine lv_iload hx hb dX2_countHolders_59 (lv_at hl 3 rfl) ?_
        obtain ⟨y11, hc10, hF⟩ := xb1_some hF
        refine x_cVi (C := RX1) (T := TX1) (N := 12) (ci := 1) (As := [.int (jI v4)]) (rest := []) hx hb hml hown hts hK hR hS (c_X1_blockAt hj9 hv4 hc10) (ok2 hj9) rfl rfl wd310 wd311 wd312 wd3 wd313 hyX1_blockAt ⟨rfl, rfl⟩ ⟨Nat.le_of_ble_eq_true rfl, Nat.le_of_ble_eq_true rfl⟩ hl.1 (Nat.le_of_ble_eq_true rfl) dX2_countHolders_61 ⟨Nat.zero_le _, Nat.zero_le _⟩ rfl (fun hg12 H locs hR hS => ?_)
        refine lv_istore (lv' := [(5, .int (jI y11)), (0, .ref (adr b 1 v0)), (1, .long v1), (3, .int (jI v3)), (4, .int (jI v4))]) hx hb dX2_countHolders_64 hl (by decide) rfl (fun ls hl => ?_)
        refine lv_iload hx hb dX2_countHolders_66 (lv_at hl 0 rfl) ?_
        obtain ⟨y14, hc13, hF⟩ := xb1_some hF
        refine x_cSi (As := [.int (jI y11)]) (rest := []) hx hb hml hown hts hK hR hS (c_X2_isBlock hg12 hc13) wd314 wd315 wd2 wd316 hyX2_isBlock ⟨rfl, rfl⟩ ⟨Nat.le_of_ble_eq_true rfl, Nat.le_of_ble_eq_true rfl⟩ hl.1 (Nat.le_of_ble_eq_true rfl) dX2_countHolders_68 ⟨Nat.zero_le _, Nat.zero_le _⟩ rfl (fun hg15 H locs hR hS => ?_)
        refine x_if_eq (tgt := 85) hx hb hg15 dX2_countHolders_71 (by decide) (fun ci16 => ?_) (fun ci16 => ?_)
        · rw [if_pos ci16] at hF
          obtain ⟨hq17, hF⟩ := xk_some hF
          refine x_iinc (lv' := [(4, .int (jI (v4 + (1 : Int)))), (5, .int (jI y11)), (0, .ref (adr b 1 v0)), (1, .long v1), (3, .int (jI v3))]) hx hb dX2_countHolders_85 hl (k := 4) rfl (by decide) rfl (fun ls hl => ?_)
          refine lv_goto (tgt := 38) hx hb dX2_countHolders_88 (by decide) ?_
          exact ih M v0 v1 v3 (v4 + (1 : Int)) hv0 hv3 hq17 H locs hR hS ls (lv_sub hl [2, 3, 4, 0] rfl) hF
        · rw [if_neg ci16] at hF
          refine lv_aload_n hx hb dX2_countHolders_74 rfl (lv_at hl 1 rfl) ?_
          refine gf_2_6 hx hb hts hown hK hR hv0 wd95 dX2_countHolders_75 ?_
          refine lv_iload hx hb dX2_countHolders_78 (lv_at hl 0 rfl) ?_
          refine lv_dup2_11 hx hb dX2_countHolders_80 rfl rfl ?_
          obtain ⟨hi18, hF⟩ := xk_some hF
          refine x_iald (K := 9) hx hb hK hR (ok9 hv0) (by decide) hg12 hi18 dX2_countHolders_81 ?_
          have hg19 : rg (M 9 v0 y11.toNat) := hR.2 9 v0 _ (by decide)
          refine x_iconst hx hb dX2_countHolders_82 ?_
          obtain ⟨hq20, hF⟩ := xk_some hF
          refine x_iadd hx hb dX2_countHolders_83 ?_
          obtain ⟨hi21, hF⟩ := xk_some hF
          refine x_iast (K := 9) hx hb hK hR hS (ok9 hv0) (by decide) hg12 hq20 hi21 dX2_countHolders_84 (fun H locs hR hS => ?_)
          obtain ⟨M22, eM, hF⟩ := xl_some hF
          rw [eM] at hR
          clear eM
          obtain ⟨hq23, hF⟩ := xk_some hF
          refine x_iinc (lv' := [(4, .int (jI (v4 + (1 : Int)))), (5, .int (jI y11)), (0, .ref (adr b 1 v0)), (1, .long v1), (3, .int (jI v3))]) hx hb dX2_countHolders_85 hl (k := 4) rfl (by decide) rfl (fun ls hl => ?_)
          refine lv_goto (tgt := 38) hx hb dX2_countHolders_88 (by decide) ?_
          exact ih M22 v0 v1 v3 (v4 + (1 : Int)) hv0 hv3 hq23 H locs hR hS ls (lv_sub hl [2, 3, 4, 0] rfl) hF
def F_X2_countHolders_26  : Nat → Mm → Nat → Int64 → Int → Option (Mm)
  | 0, _, _, _, _ => none
  | n + 1, M, v0, v1, v3 => (if (32 : Int) ≤ v3 then (some M) else (F_X2_countHolders_38 (F_X2_countHolders_26  n) FU M v0 v1 v3 (0 : Int)))
set_option maxHeartbeats 4000000 in
set_option maxRecDepth 100000 in
theorem w_X2_countHolders_26 {p : Program} {l : Launch} {e : Env} {s : State} {m : MethodId} {args : Array Value} {below : List Frame} {meth : Method} {c : Code} {g : Gx} {b : Nat} (C0 : XA p s m meth c args RX2 cX2_countHolders 6 none g) {M' : Mm} : ∀ n : Nat, ∀ (M : Mm) (v0 : Nat) (v1 : Int64) (v3 : Int) (hv0 : v0 < 3) (hv3 : rg v3) (H : Heap) (locs : List Loc), Rel g b M H → va_S (AA b s.heap.size) s.heap H locs → ∀ ls : Array Slot, lv_has ls 6 [(0, .ref (adr b 1 v0)), (1, .long v1), (3, .int (jI v3))] → F_X2_countHolders_26  n M v0 v1 v3 = some M' → W p l e rmX2_countHolders s m args below meth c H locs 0 0 (MQ below (qV g b M' s.heap.size) args s 0 0 (AA b s.heap.size)) (F0 m 26 ls []) := by
  obtain ⟨hx, hb, hr, hlocks, hml, hown, hts, hK⟩ := id C0
  intro n
  induction n with
  | zero =>
    intro M v0 v1 v3 hv0 hv3 H locs hR hS ls hl hF
    rw [F_X2_countHolders_26] at hF
    cases hF
  | succ n ih =>
    intro M v0 v1 v3 hv0 hv3 H locs hR hS ls hl hF
    rw [F_X2_countHolders_26] at hF
    refine lv_iload_n hx hb dX2_countHolders_26 rfl (lv_at hl 2 rfl) ?_
    refine lv_aload_n hx hb dX2_countHolders_27 rfl (lv_at hl 0 rfl) ?_
    refine gf_2_0 hx hb hts hown hK hR hv0 wd88 dX2_countHolders_28 ?_
    refine x_alenN hx hb hK hR hv0 dX2_countHolders_31 ?_
    refine x_icmp_ge (tgt := 97) hx hb hv3 (by decide : rg (32 : Int)) dX2_countHolders_32 (by decide) (fun ci1 => ?_) (fun ci1 => ?_)
    · rw [if_pos ci1] at hF
      cases hF
      exact x_vret hx hb hlocks hK hR hS hr dX2_countHolders_97
    · rw [if_neg ci1] at hF
      refine x_iconst hx hb dX2_countHolders_35 ?_
      refine lv_istore (lv' := [(4, .int (jI (0 : Int))), (0, .ref (adr b 1 v0)), (1, .long v1), (3, .int (jI v3))]) hx hb dX2_countHolders_36 hl (by decide) rfl (fun ls hl => ?_)
      exact w_X2_countHolders_38 C0 ih FU M v0 v1 v3 (0 : Int) hv0 hv3 (by decide : rg (0 : Int)) H locs hR hS ls (lv_sub hl [1, 2, 3, 0] rfl) hF
def F_X2_countHolders_2  : Nat → Mm → Nat → Int64 → Int → Option (Mm)
  | 0, _, _, _, _ => none
  | n + 1, M, v0, v1, v3 => (if (128 : Int) ≤ v3 then (F_X2_countHolders_26  FU M v0 v1 (0 : Int)) else (xk (0 ≤ v3 ∧ v3 < 128) (xl (mup M 9 v0 v3.toNat (0 : Int)) fun M25 => (xk (rg (v3 + (1 : Int))) (F_X2_countHolders_2  n M25 v0 v1 (v3 + (1 : Int)))))))
set_option maxHeartbeats 4000000 in
set_option maxRecDepth 100000 in
theorem w_X2_countHolders_2 {p : Program} {l : Launch} {e : Env} {s : State} {m : MethodId} {args : Array Value} {below : List Frame} {meth : Method} {c : Code} {g : Gx} {b : Nat} (C0 : XA p s m meth c args RX2 cX2_countHolders 6 none g) {M' : Mm} : ∀ n : Nat, ∀ (M : Mm) (v0 : Nat) (v1 : Int64) (v3 : Int) (hv0 : v0 < 3) (hv3 : rg v3) (H : Heap) (locs : List Loc), Rel g b M H → va_S (AA b s.heap.size) s.heap H locs → ∀ ls : Array Slot, lv_has ls 6 [(0, .ref (adr b 1 v0)), (1, .long v1), (3, .int (jI v3))] → F_X2_countHolders_2  n M v0 v1 v3 = some M' → W p l e rmX2_countHolders s m args below meth c H locs 0 0 (MQ below (qV g b M' s.heap.size) args s 0 0 (AA b s.heap.size)) (F0 m 2 ls []) := by
  obtain ⟨hx, hb, hr, hlocks, hml, hown, hts, hK⟩ := id C0
  intro n
  induction n with
  | zero =>
    intro M v0 v1 v3 hv0 hv3 H locs hR hS ls hl hF
    rw [F_X2_countHolders_2] at hF
    cases hF
  | succ n ih =>
    intro M v0 v1 v3 hv0 hv3 H locs hR hS ls hl hF
    rw [F_X2_countHolders_2] at hF
    refine lv_iload_n hx hb dX2_countHolders_2 rfl (lv_at hl 2 rfl) ?_
    refine lv_aload_n hx hb dX2_countHolders_3 rfl (lv_at hl 0 rfl) ?_
    refine gf_2_6 hx hb hts hown hK hR hv0 wd95 dX2_countHolders_4 ?_
    refine x_alen (K := 9) (n := (128 : Int)) hx hb hK hR (ok9 hv0) (by decide) (by decide +kernel) dX2_countHolders_7 ?_
    refine x_icmp_ge (tgt := 24) hx hb hv3 (by decide : rg (128 : Int)) dX2_countHolders_8 (by decide) (fun ci1 => ?_) (fun ci1 => ?_)
    · rw [if_pos ci1] at hF
      refine x_iconst hx hb dX2_countHolders_24 ?_
      refine lv_istore_n (lv' := [(3, .int (jI (0 : Int))), (0, .ref (adr b 1 v0)), (1, .long v1)]) hx hb dX2_countHolders_25 rfl hl (by decide) rfl (fun ls hl => ?_)
      exact w_X2_countHolders_26 C0  FU M v0 v1 (0 : Int) hv0 (by decide : rg (0 : Int)) H locs hR hS ls (lv_sub hl [1, 2, 0] rfl) hF
    · rw [if_neg ci1] at hF
      refine lv_aload_n hx hb dX2_countHolders_11 rfl (lv_at hl 0 rfl) ?_
      refine gf_2_6 hx hb hts hown hK hR hv0 wd95 dX2_countHolders_12 ?_
      refine lv_iload_n hx hb dX2_countHolders_15 rfl (lv_at hl 2 rfl) ?_
      refine x_iconst hx hb dX2_countHolders_16 ?_
      obtain ⟨hi24, hF⟩ := xk_some hF
      refine x_iast (K := 9) hx hb hK hR hS (ok9 hv0) (by decide) hv3 (by decide : rg (0 : Int)) hi24 dX2_countHolders_17 (fun H locs hR hS => ?_)
      obtain ⟨M25, eM, hF⟩ := xl_some hF
      rw [eM] at hR
      clear eM
      obtain ⟨hq26, hF⟩ := xk_some hF
      refine x_iinc (lv' := [(3, .int (jI (v3 + (1 : Int)))), (0, .ref (adr b 1 v0)), (1, .long v1)]) hx hb dX2_countHolders_18 hl (k := 2) rfl (by decide) rfl (fun ls hl => ?_)
      refine lv_goto (tgt := 2) hx hb dX2_countHolders_21 (by decide) ?_
      exact ih M25 v0 v1 (v3 + (1 : Int)) hv0 hq26 H locs hR hS ls (lv_sub hl [1, 2, 0] rfl) hF
def F_X2_countHolders (M : Mm) (o : Nat) (a1 : Int64) : Option (Mm) := (F_X2_countHolders_2  FU M o a1 (0 : Int))
set_option maxHeartbeats 4000000 in
set_option maxRecDepth 100000 in
theorem c_X2_countHolders {l : Launch} {g : Gx} {b : Nat} {M : Mm} {o : Nat} {a1 : Int64} {M' : Mm} (ho : o < 3) (hF : F_X2_countHolders M o a1 = some M') : Ct l yX2_countHolders cX2_countHolders 6 none rmX2_countHolders g b [.ref (adr b 1 o), .long a1] M (qV g b M') := by
  refine ct_of (by decide +kernel) (Nat.le_of_ble_eq_true rfl) ?_
  intro p e s m args below meth c C0 hR ls hl
  obtain ⟨hx, hb, hr, hlocks, hml, hown, hts, hK⟩ := id C0
  have hS : va_S (AA b s.heap.size) s.heap s.heap [] := va_S.rf
  have hl : lv_has ls 6 [(0, .ref (adr b 1 o)), (1, .long a1)] := hl
  obtain ⟨H, hH⟩ : ∃ z, z = s.heap := ⟨_, rfl⟩
  obtain ⟨locs, hlo⟩ : ∃ z : List Loc, z = [] := ⟨_, rfl⟩
  have hR : Rel g b M H := by rw [hH]; exact hR
  have hS : va_S (AA b s.heap.size) s.heap H locs := by rw [hH, hlo]; exact hS
  suffices hW : W p l e rmX2_countHolders s m args below meth c H locs 0 0 (MQ below (qV g b M' s.heap.size) args s 0 0 (AA b s.heap.size)) (F0 m 0 ls []) by rw [hH, hlo] at hW; exact hW
  rw [F_X2_countHolders] at hF
  refine x_iconst hx hb dX2_countHolders_0 ?_
  refine lv_istore_n (lv' := [(3, .int (jI (0 : Int))), (0, .ref (adr b 1 o)), (1, .long a1)]) hx hb dX2_countHolders_1 rfl hl (by decide) rfl (fun ls hl => ?_)
  exact w_X2_countHolders_2 C0  FU M o a1 (0 : Int) ho (by decide : rg (0 : Int)) H locs hR hS ls (lv_sub hl [1, 2, 0] rfl) hF
abbrev rmX2_blocksWithin : Room := { frames := 3, cells := 0, slots := 0, locals := 73 }
theorem hyX2_blocksWithin : yX2_blocksWithin.cls = RX2 ∧ yX2_blocksWithin.cls ≠ "java/lang/invoke/MethodHandle" ∧ yX2_blocksWithin.cls ≠ "java/lang/invoke/VarHandle" ∧ (parseMethodDescriptor yX2_blocksWithin.desc).map (fun d => d.parameters.length) = some 1 := by decide +kernel
def F_X2_blocksWithin_49  : Nat → Mm → Nat → Int64 → Int → Int → Option (Int × Mm)
  | 0, _, _, _, _, _ => none
  | n + 1, M, v0, v2, v4, v5 => (if (32 : Int) ≤ v5 then (some (v4, M)) else (xb1 (F_X2_isIn M v2 v5) fun y3 => (if y3 = 0 then (xk (rg (v5 + (1 : Int))) (F_X2_blocksWithin_49  n M v0 v2 v4 (v5 + (1 : Int)))) else (xk (0 ≤ v5 ∧ v5 < 32) (if (M 2 (33 * v0 + v5.toNat) 0) = (2 : Int) then (xk (0 ≤ v5 ∧ v5 < 32) (xb1 (F_X1_ownBlocks M (33 * v0 + v5.toNat)) fun y15 => (xk (rg (v4 + y15)) (xk (rg (v5 + (1 : Int))) (F_X2_blocksWithin_49  n M v0 v2 (v4 + y15) (v5 + (1 : Int))))))) else (xk (rg (v5 + (1 : Int))) (F_X2_blocksWithin_49  n M v0 v2 v4 (v5 + (1 : Int)))))))))
set_option maxHeartbeats 4000000 in
set_option maxRecDepth 100000 in
theorem w_X2_blocksWithin_49 {p : Program} {l : Launch} {e : Env} {s : State} {m : MethodId} {args : Array Value} {below : List Frame} {meth : Method} {c : Code} {g : Gx} {b : Nat} (C0 : XA p s m meth c args RX2 cX2_blocksWithin 6 (some .int) g) {r : Int} {M' : Mm} : ∀ n : Nat, ∀ (M : Mm) (v0 : Nat) (v2 : Int64) (v4 : Int) (v5 : Int) (hv0 : v0 < 3) (hv4 : rg v4) (hv5 : rg v5) (H : Heap) (locs : List Loc), Rel g b M H → va_S (AA b s.heap.size) s.heap H locs → ∀ ls : Array Slot, lv_has ls 6 [(0, .ref (adr b 1 v0)), (2, .long v2), (4, .int (jI v4)), (5, .int (jI v5))] → F_X2_blocksWithin_49  n M v0 v2 v4 v5 = some (r, M') → W p l e rmX2_blocksWithin s m args below meth c H locs 0 0 (MQ below (qI g b r M' s.heap.size) args s 0 0 (AA b s.heap.size)) (F0 m 49 ls []) := by
  obtain ⟨hx, hb, hr, hlocks, hml, hown, hts, hK⟩ := id C0
  intro n
  induction n with
  | zero =>
    intro M v0 v2 v4 v5 hv0 hv4 hv5 H locs hR hS ls hl hF
    rw [F_X2_blocksWithin_49] at hF
    cases hF
  | succ n ih =>
    intro M v0 v2 v4 v5 hv0 hv4 hv5 H locs hR hS ls hl hF
    rw [F_X2_blocksWithin_49] at hF
    refine lv_iload hx hb dX2_blocksWithin_49 (lv_at hl 3 rfl) ?_
    refine lv_aload_n hx hb dX2_blocksWithin_51 rfl (lv_at hl 0 rfl) ?_
    refine gf_2_0 hx hb hts hown hK hR hv0 wd88 dX2_blocksWithin_52 ?_
    refine x_alenN hx hb hK hR hv0 dX2_blocksWithin_55 ?_
    refine x_icmp_ge (tgt := 103) hx hb hv5 (by decide : rg (32 : Int)) dX2_blocksWithin_56 (by decide) (fun ci1 => ?_) (fun ci1 => ?_)
    · rw [if_pos ci1] at hF
      refine lv_iload hx hb dX2_blocksWithin_103 (lv_at hl 2 rfl) ?_
      cases hF
      exact x_iret hx hb hlocks hK hR hS hr hv4 dX2_blocksWithin_105
    · rw [if_neg ci1] at hF
      refine lv_lload_n hx hb dX2_blocksWithin_59 rfl (lv_at hl 1 rfl) ?_
      refine lv_iload hx hb dX2_blocksWithin_60 (lv_at hl 3 rfl) ?_
      obtain ⟨y3, hc2, hF⟩ := xb1_some hF
      refine x_cSi (As := [.long v2, .int (jI v5)]) (rest := []) hx hb hml hown hts hK hR hS (c_X2_isIn hv5 hc2) wd514 wd515 wd2 wd516 hyX2_isIn ⟨rfl, rfl⟩ ⟨Nat.le_of_ble_eq_true rfl, Nat.le_of_ble_eq_true rfl⟩ hl.1 (Nat.le_of_ble_eq_true rfl) dX2_blocksWithin_62 ⟨Nat.zero_le _, Nat.zero_le _⟩ rfl (fun hg4 H locs hR hS => ?_)
      refine x_if_eq (tgt := 97) hx hb hg4 dX2_blocksWithin_65 (by decide) (fun ci5 => ?_) (fun ci5 => ?_)
      · rw [if_pos ci5] at hF
        obtain ⟨hq6, hF⟩ := xk_some hF
        refine x_iinc (lv' := [(5, .int (jI (v5 + (1 : Int)))), (0, .ref (adr b 1 v0)), (2, .long v2), (4, .int (jI v4))]) hx hb dX2_blocksWithin_97 hl (k := 3) rfl (by decide) rfl (fun ls hl => ?_)
        refine lv_goto (tgt := 49) hx hb dX2_blocksWithin_100 (by decide) ?_
        exact ih M v0 v2 v4 (v5 + (1 : Int)) hv0 hv4 hq6 H locs hR hS ls (lv_sub hl [1, 2, 3, 0] rfl) hF
      · rw [if_neg ci5] at hF
        refine lv_aload_n hx hb dX2_blocksWithin_68 rfl (lv_at hl 0 rfl) ?_
        refine gf_2_0 hx hb hts hown hK hR hv0 wd88 dX2_blocksWithin_69 ?_
        refine lv_iload hx hb dX2_blocksWithin_72 (lv_at hl 3 rfl) ?_
        obtain ⟨hi7, hF⟩ := xk_some hF
        refine x_aldN hx hb hK hR hv0 hv5 hi7 dX2_blocksWithin_74 ?_
        have hj8 : (33 * v0 + v5.toNat) < 99 := by have := hv0; omega
        refine gf_1_0 hx hb hts hown hK hR hj8 wd35 dX2_blocksWithin_75 ?_
        have hg9 : rg (M 2 (33 * v0 + v5.toNat) 0) := hR.2 2 (33 * v0 + v5.toNat) 0 (by decide)
        refine x_iconst hx hb dX2_blocksWithin_78 ?_
        refine x_icmp_ne (tgt := 97) hx hb hg9 (by decide : rg (2 : Int)) dX2_blocksWithin_79 (by decide) (fun ci10 => ?_) (fun ci10 => ?_)
        · rw [if_neg ci10] at hF
          obtain ⟨hq11, hF⟩ := xk_some hF
          refine x_iinc (lv' := [(5, .int (jI (v5 + (1 : Int)))), (0, .ref (adr b 1 v0)), (2, .long v2), (4, .int (jI v4))]) hx hb dX2_blocksWithin_97 hl (k := 3) rfl (by decide) rfl (fun ls hl => ?_)
          refine lv_goto (tgt := 49) hx hb dX2_blocksWithin_100 (by decide) ?_
          exact ih M v0 v2 v4 (v5 + (1 : Int)) hv0 hv4 hq11 H locs hR hS ls (lv_sub hl [1, 2, 3, 0] rfl) hF
        · rw [if_pos ci10] at hF
          refine lv_iload hx hb dX2_blocksWithin_82 (lv_at hl 2 rfl) ?_
          refine lv_aload_n hx hb dX2_blocksWithin_84 rfl (lv_at hl 0 rfl) ?_
          refine gf_2_0 hx hb hts hown hK hR hv0 wd88 dX2_blocksWithin_85 ?_
          refine lv_iload hx hb dX2_blocksWithin_88 (lv_at hl 3 rfl) ?_
          obtain ⟨hi12, hF⟩ := xk_some hF
          refine x_aldN hx hb hK hR hv0 hv5 hi12 dX2_blocksWithin_90 ?_
          have hj13 : (33 * v0 + v5.toNat) < 99 := by have := hv0; omega
          obtain ⟨y15, hc14, hF⟩ := xb1_some hF
          refine x_cVi (C := RX1) (T := TX1) (N := 12) (ci := 1) (As := []) (rest := [.int (jI v4)]) hx hb hml hown hts hK hR hS (c_X1_ownBlocks hj13 hc14) (ok2 hj13) rfl rfl wd408 wd409 wd410 wd3 wd411 hyX1_ownBlocks ⟨rfl, rfl⟩ ⟨Nat.le_of_ble_eq_true rfl, Nat.le_of_ble_eq_true rfl⟩ hl.1 (Nat.le_of_ble_eq_true rfl) dX2_blocksWithin_91 ⟨Nat.zero_le _, Nat.zero_le _⟩ rfl (fun hg16 H locs hR hS => ?_)
          obtain ⟨hq17, hF⟩ := xk_some hF
          refine x_iadd hx hb dX2_blocksWithin_94 ?_
          refine lv_istore (lv' := [(4, .int (jI (v4 + y15))), (0, .ref (adr b 1 v0)), (2, .long v2), (5, .int (jI v5))]) hx hb dX2_blocksWithin_95 hl (by decide) rfl (fun ls hl => ?_)
          obtain ⟨hq18, hF⟩ := xk_some hF
          refine x_iinc (lv' := [(5, .int (jI (v5 + (1 : Int)))), (4, .int (jI (v4 + y15))), (0, .ref (adr b 1 v0)), (2, .long v2)]) hx hb dX2_blocksWithin_97 hl (k := 3) rfl (by decide) rfl (fun ls hl => ?_)
          refine lv_goto (tgt := 49) hx hb dX2_blocksWithin_100 (by decide) ?_
          exact ih M v0 v2 (v4 + y15) (v5 + (1 : Int)) hv0 hq17 hq18 H locs hR hS ls (lv_sub hl [2, 3, 1, 0] rfl) hF
def F_X2_blocksWithin_17  : Nat → Mm → Nat → Int64 → Int → Int → Option (Int × Mm)
  | 0, _, _, _, _, _ => none
  | n + 1, M, v0, v2, v4, v5 => (if (128 : Int) ≤ v5 then (F_X2_blocksWithin_49  FU M v0 v2 v4 (0 : Int)) else (xk (0 ≤ v5 ∧ v5 < 128) (if (M 9 v0 v5.toNat) ≤ 0 then (xk (rg (v5 + (1 : Int))) (F_X2_blocksWithin_17  n M v0 v2 v4 (v5 + (1 : Int)))) else (xk (rg (v4 + (1 : Int))) (xk (rg (v5 + (1 : Int))) (F_X2_blocksWithin_17  n M v0 v2 (v4 + (1 : Int)) (v5 + (1 : Int))))))))
set_option maxHeartbeats 4000000 in
set_option maxRecDepth 100000 in
theorem w_X2_blocksWithin_17 {p : Program} {l : Launch} {e : Env} {s : State} {m : MethodId} {args : Array Value} {below : List Frame} {meth : Method} {c : Code} {g : Gx} {b : Nat} (C0 : XA p s m meth c args RX2 cX2_blocksWithin 6 (some .int) g) {r : Int} {M' : Mm} : ∀ n : Nat, ∀ (M : Mm) (v0 : Nat) (v2 : Int64) (v4 : Int) (v5 : Int) (hv0 : v0 < 3) (hv4 : rg v4) (hv5 : rg v5) (H : Heap) (locs : List Loc), Rel g b M H → va_S (AA b s.heap.size) s.heap H locs → ∀ ls : Array Slot, lv_has ls 6 [(0, .ref (adr b 1 v0)), (2, .long v2), (4, .int (jI v4)), (5, .int (jI v5))] → F_X2_blocksWithin_17  n M v0 v2 v4 v5 = some (r, M') → W p l e rmX2_blocksWithin s m args below meth c H locs 0 0 (MQ below (qI g b r M' s.heap.size) args s 0 0 (AA b s.heap.size)) (F0 m 17 ls []) := by
  obtain ⟨hx, hb, hr, hlocks, hml, hown, hts, hK⟩ := id C0
  intro n
  induction n with
  | zero =>
    intro M v0 v2 v4 v5 hv0 hv4 hv5 H locs hR hS ls hl hF
    rw [F_X2_blocksWithin_17] at hF
    cases hF
  | succ n ih =>
    intro M v0 v2 v4 v5 hv0 hv4 hv5 H locs hR hS ls hl hF
    rw [F_X2_blocksWithin_17] at hF
    refine lv_iload hx hb dX2_blocksWithin_17 (lv_at hl 3 rfl) ?_
    refine lv_aload_n hx hb dX2_blocksWithin_19 rfl (lv_at hl 0 rfl) ?_
    refine gf_2_6 hx hb hts hown hK hR hv0 wd95 dX2_blocksWithin_20 ?_
    refine x_alen (K := 9) (n := (128 : Int)) hx hb hK hR (ok9 hv0) (by decide) (by decide +kernel) dX2_blocksWithin_23 ?_
    refine x_icmp_ge (tgt := 46) hx hb hv5 (by decide : rg (128 : Int)) dX2_blocksWithin_24 (by decide) (fun ci1 => ?_) (fun ci1 => ?_)
    · rw [if_pos ci1] at hF
      refine x_iconst hx hb dX2_blocksWithin_46 ?_
      refine lv_istore (lv' := [(5, .int (jI (0 : Int))), (0, .ref (adr b 1 v0)), (2, .long v2), (4, .int (jI v4))]) hx hb dX2_blocksWithin_47 hl (by decide) rfl (fun ls hl => ?_)
      exact w_X2_blocksWithin_49 C0  FU M v0 v2 v4 (0 : Int) hv0 hv4 (by decide : rg (0 : Int)) H locs hR hS ls (lv_sub hl [1, 2, 3, 0] rfl) hF
    · rw [if_neg ci1] at hF
      refine lv_aload_n hx hb dX2_blocksWithin_27 rfl (lv_at hl 0 rfl) ?_
      refine gf_2_6 hx hb hts hown hK hR hv0 wd95 dX2_blocksWithin_28 ?_
      refine lv_iload hx hb dX2_blocksWithin_31 (lv_at hl 3 rfl) ?_
      obtain ⟨hi19, hF⟩ := xk_some hF
      refine x_iald (K := 9) hx hb hK hR (ok9 hv0) (by decide) hv5 hi19 dX2_blocksWithin_33 ?_
      have hg20 : rg (M 9 v0 v5.toNat) := hR.2 9 v0 _ (by decide)
      refine x_if_le (tgt := 40) hx hb hg20 dX2_blocksWithin_34 (by decide) (fun ci21 => ?_) (fun ci21 => ?_)
      · rw [if_pos ci21] at hF
        obtain ⟨hq22, hF⟩ := xk_some hF
        refine x_iinc (lv' := [(5, .int (jI (v5 + (1 : Int)))), (0, .ref (adr b 1 v0)), (2, .long v2), (4, .int (jI v4))]) hx hb dX2_blocksWithin_40 hl (k := 3) rfl (by decide) rfl (fun ls hl => ?_)
        refine lv_goto (tgt := 17) hx hb dX2_blocksWithin_43 (by decide) ?_
        exact ih M v0 v2 v4 (v5 + (1 : Int)) hv0 hv4 hq22 H locs hR hS ls (lv_sub hl [1, 2, 3, 0] rfl) hF
      · rw [if_neg ci21] at hF
        obtain ⟨hq23, hF⟩ := xk_some hF
        refine x_iinc (lv' := [(4, .int (jI (v4 + (1 : Int)))), (0, .ref (adr b 1 v0)), (2, .long v2), (5, .int (jI v5))]) hx hb dX2_blocksWithin_37 hl (k := 2) rfl (by decide) rfl (fun ls hl => ?_)
        obtain ⟨hq24, hF⟩ := xk_some hF
        refine x_iinc (lv' := [(5, .int (jI (v5 + (1 : Int)))), (4, .int (jI (v4 + (1 : Int)))), (0, .ref (adr b 1 v0)), (2, .long v2)]) hx hb dX2_blocksWithin_40 hl (k := 3) rfl (by decide) rfl (fun ls hl => ?_)
        refine lv_goto (tgt := 17) hx hb dX2_blocksWithin_43 (by decide) ?_
        exact ih M v0 v2 (v4 + (1 : Int)) (v5 + (1 : Int)) hv0 hq23 hq24 H locs hR hS ls (lv_sub hl [2, 3, 1, 0] rfl) hF
def F_X2_blocksWithin (M : Mm) (o : Nat) (a1 : Int) : Option (Int × Mm) := (xb1 (F_X2_reach M o a1) fun y2 => (xb1 (F_X2_countHolders M o y2) fun M4 => (F_X2_blocksWithin_17  FU M4 o y2 (0 : Int) (0 : Int))))
set_option maxHeartbeats 4000000 in
set_option maxRecDepth 100000 in
theorem c_X2_blocksWithin {l : Launch} {g : Gx} {b : Nat} {M : Mm} {o : Nat} {a1 : Int} {r : Int} {M' : Mm} (ho : o < 3) (ha1 : rg a1) (hF : F_X2_blocksWithin M o a1 = some (r, M')) : Ct l yX2_blocksWithin cX2_blocksWithin 6 (some .int) rmX2_blocksWithin g b [.ref (adr b 1 o), .int (jI a1)] M (qI g b r M') := by
  refine ct_of (by decide +kernel) (Nat.le_of_ble_eq_true rfl) ?_
  intro p e s m args below meth c C0 hR ls hl
  obtain ⟨hx, hb, hr, hlocks, hml, hown, hts, hK⟩ := id C0
  have hS : va_S (AA b s.heap.size) s.heap s.heap [] := va_S.rf
  have hl : lv_has ls 6 [(0, .ref (adr b 1 o)), (1, .int (jI a1))] := hl
  obtain ⟨H, hH⟩ : ∃ z, z = s.heap := ⟨_, rfl⟩
  obtain ⟨locs, hlo⟩ : ∃ z : List Loc, z = [] := ⟨_, rfl⟩
  have hR : Rel g b M H := by rw [hH]; exact hR
  have hS : va_S (AA b s.heap.size) s.heap H locs := by rw [hH, hlo]; exact hS
  suffices hW : W p l e rmX2_blocksWithin s m args below meth c H locs 0 0 (MQ below (qI g b r M' s.heap.size) args s 0 0 (AA b s.heap.size)) (F0 m 0 ls []) by rw [hH, hlo] at hW; exact hW
  rw [F_X2_blocksWithin] at hF
  refine lv_aload_n hx hb dX2_blocksWithin_0 rfl (lv_at hl 0 rfl) ?_
  refine lv_iload_n hx hb dX2_blocksWithin_1 rfl (lv_at hl 1 rfl) ?_
  obtain ⟨y2, hc1, hF⟩ := xb1_some hF
  refine x_cVl (C := RX2) (T := TX2) (N := 8) (ci := 2) (As := [.int (jI a1)]) (rest := []) hx hb hml hown hts hK hR hS (c_X2_reach ho ha1 hc1) (ok1 ho) rfl rfl wd510 wd511 wd512 wd2 wd513 hyX2_reach ⟨rfl, rfl⟩ ⟨Nat.le_of_ble_eq_true rfl, Nat.le_of_ble_eq_true rfl⟩ hl.1 (Nat.le_of_ble_eq_true rfl) dX2_blocksWithin_2 ⟨Nat.zero_le _, Nat.zero_le _⟩ rfl (fun H locs hR hS => ?_)
  refine lv_lstore_n (lv' := [(2, .long y2), (0, .ref (adr b 1 o)), (1, .int (jI a1))]) hx hb dX2_blocksWithin_5 rfl hl (by decide) rfl (fun ls hl => ?_)
  refine lv_aload_n hx hb dX2_blocksWithin_6 rfl (lv_at hl 1 rfl) ?_
  refine lv_lload_n hx hb dX2_blocksWithin_7 rfl (lv_at hl 0 rfl) ?_
  obtain ⟨M4, hc3, hF⟩ := xb1_some hF
  refine x_cVv (C := RX2) (T := TX2) (N := 8) (ci := 2) (As := [.long y2]) (rest := []) hx hb hml hown hts hK hR hS (c_X2_countHolders ho hc3) (ok1 ho) rfl rfl wd525 wd526 wd527 wd2 wd528 hyX2_countHolders ⟨rfl, rfl⟩ ⟨Nat.le_of_ble_eq_true rfl, Nat.le_of_ble_eq_true rfl⟩ hl.1 (Nat.le_of_ble_eq_true rfl) dX2_blocksWithin_8 ⟨Nat.zero_le _, Nat.zero_le _⟩ rfl (fun H locs hR hS => ?_)
  refine x_iconst hx hb dX2_blocksWithin_11 ?_
  refine lv_istore (lv' := [(4, .int (jI (0 : Int))), (2, .long y2), (0, .ref (adr b 1 o)), (1, .int (jI a1))]) hx hb dX2_blocksWithin_12 hl (by decide) rfl (fun ls hl => ?_)
  refine x_iconst hx hb dX2_blocksWithin_14 ?_
  refine lv_istore (lv' := [(5, .int (jI (0 : Int))), (4, .int (jI (0 : Int))), (2, .long y2), (0, .ref (adr b 1 o)), (1, .int (jI a1))]) hx hb dX2_blocksWithin_15 hl (by decide) rfl (fun ls hl => ?_)
  exact w_X2_blocksWithin_17 C0  FU M4 o y2 (0 : Int) (0 : Int) ho (by decide : rg (0 : Int)) (by decide : rg (0 : Int)) H locs hR hS ls (lv_sub hl [3, 2, 1, 0] rfl) hF
abbrev rmX2_entriesOutside : Room := { frames := 1, cells := 0, slots := 0, locals := 22 }
theorem hyX2_entriesOutside : yX2_entriesOutside.cls ≠ "java/lang/invoke/MethodHandle" ∧ yX2_entriesOutside.cls ≠ "java/lang/invoke/VarHandle" ∧ (parseMethodDescriptor yX2_entriesOutside.desc).map (fun d => d.parameters.length) = some 2 := by decide +kernel
def F_X2_entriesOutside_5 (M : Mm)  : Nat → Nat → Int64 → Int → Int → Option (Int)
  | 0, _, _, _, _ => none
  | n + 1, v0, v1, v3, v4 => (if (M 2 v0 8) ≤ v4 then (some v3) else (xb1 (F_X1_nodeIn M v0 v4) fun y4 => (xb1 (F_X2_isIn M v1 y4) fun y7 => (if y7 = 0 then (xk (rg (v3 + (1 : Int))) (xk (rg (v4 + (1 : Int))) (F_X2_entriesOutside_5 M  n v0 v1 (v3 + (1 : Int)) (v4 + (1 : Int))))) else (xk (rg (v4 + (1 : Int))) (F_X2_entriesOutside_5 M  n v0 v1 v3 (v4 + (1 : Int))))))))
set_option maxHeartbeats 4000000 in
set_option maxRecDepth 100000 in
theorem w_X2_entriesOutside_5 {p : Program} {l : Launch} {e : Env} {s : State} {m : MethodId} {args : Array Value} {below : List Frame} {meth : Method} {c : Code} {g : Gx} {b : Nat} (C0 : XA p s m meth c args RX2 cX2_entriesOutside 5 (some .int) g) {r : Int} {M : Mm} : ∀ n : Nat, ∀ (v0 : Nat) (v1 : Int64) (v3 : Int) (v4 : Int) (hv0 : v0 < 99) (hv3 : rg v3) (hv4 : rg v4) (H : Heap) (locs : List Loc), Rel g b M H → va_S (AA b s.heap.size) s.heap H locs → ∀ ls : Array Slot, lv_has ls 5 [(0, .ref (adr b 2 v0)), (1, .long v1), (3, .int (jI v3)), (4, .int (jI v4))] → F_X2_entriesOutside_5 M  n v0 v1 v3 v4 = some r → W p l e rmX2_entriesOutside s m args below meth c H locs 0 0 (MQ below (qI g b r M s.heap.size) args s 0 0 (AA b s.heap.size)) (F0 m 5 ls []) := by
  obtain ⟨hx, hb, hr, hlocks, hml, hown, hts, hK⟩ := id C0
  intro n
  induction n with
  | zero =>
    intro v0 v1 v3 v4 hv0 hv3 hv4 H locs hR hS ls hl hF
    rw [F_X2_entriesOutside_5] at hF
    cases hF
  | succ n ih =>
    intro v0 v1 v3 v4 hv0 hv3 hv4 H locs hR hS ls hl hF
    rw [F_X2_entriesOutside_5] at hF
    refine lv_iload hx hb dX2_entriesOutside_5 (lv_at hl 3 rfl) ?_
    refine lv_aload_n hx hb dX2_entriesOutside_7 rfl (lv_at hl 0 rfl) ?_
    refine gf_1_8 hx hb hts hown hK hR hv0 wd57 dX2_entriesOutside_8 ?_
    have hg1 : rg (M 2 v0 8) := hR.2 2 v0 8 (by decide)
    refine x_icmp_ge (tgt := 36) hx hb hv4 hg1 dX2_entriesOutside_11 (by decide) (fun ci2 => ?_) (fun ci2 => ?_)
    · rw [if_pos ci2] at hF
      refine lv_iload_n hx hb dX2_entriesOutside_36 rfl (lv_at hl 2 rfl) ?_
      cases hF
      exact x_iret hx hb hlocks hK hR hS hr hv3 dX2_entriesOutside_37
    · rw [if_neg ci2] at hF
      refine lv_lload_n hx hb dX2_entriesOutside_14 rfl (lv_at hl 1 rfl) ?_
      refine lv_aload_n hx hb dX2_entriesOutside_15 rfl (lv_at hl 0 rfl) ?_
      refine lv_iload hx hb dX2_entriesOutside_16 (lv_at hl 3 rfl) ?_
      obtain ⟨y4, hc3, hF⟩ := xb1_some hF
      refine x_cVi (C := RX1) (T := TX1) (N := 12) (ci := 1) (As := [.int (jI v4)]) (rest := [.long v1]) hx hb hml hown hts hK hR hS (c_X1_nodeIn hv0 hv4 hc3) (ok2 hv0) rfl rfl wd520 wd521 wd522 wd3 wd523 hyX1_nodeIn ⟨rfl, rfl⟩ ⟨Nat.le_of_ble_eq_true rfl, Nat.le_of_ble_eq_true rfl⟩ hl.1 (Nat.le_of_ble_eq_true rfl) dX2_entriesOutside_18 ⟨Nat.zero_le _, Nat.zero_le _⟩ rfl (fun hg5 H locs hR hS => ?_)
      obtain ⟨y7, hc6, hF⟩ := xb1_some hF
      refine x_cSi (As := [.long v1, .int (jI y4)]) (rest := []) hx hb hml hown hts hK hR hS (c_X2_isIn hg5 hc6) wd514 wd515 wd2 wd516 hyX2_isIn ⟨rfl, rfl⟩ ⟨Nat.le_of_ble_eq_true rfl, Nat.le_of_ble_eq_true rfl⟩ hl.1 (Nat.le_of_ble_eq_true rfl) dX2_entriesOutside_21 ⟨Nat.zero_le _, Nat.zero_le _⟩ rfl (fun hg8 H locs hR hS => ?_)
      refine x_if_ne (tgt := 30) hx hb hg8 dX2_entriesOutside_24 (by decide) (fun ci9 => ?_) (fun ci9 => ?_)
      · rw [if_neg ci9] at hF
        obtain ⟨hq10, hF⟩ := xk_some hF
        refine x_iinc (lv' := [(4, .int (jI (v4 + (1 : Int)))), (0, .ref (adr b 2 v0)), (1, .long v1), (3, .int (jI v3))]) hx hb dX2_entriesOutside_30 hl (k := 3) rfl (by decide) rfl (fun ls hl => ?_)
        refine lv_goto (tgt := 5) hx hb dX2_entriesOutside_33 (by decide) ?_
        exact ih v0 v1 v3 (v4 + (1 : Int)) hv0 hv3 hq10 H locs hR hS ls (lv_sub hl [1, 2, 3, 0] rfl) hF
      · rw [if_pos ci9] at hF
        obtain ⟨hq11, hF⟩ := xk_some hF
        refine x_iinc (lv' := [(3, .int (jI (v3 + (1 : Int)))), (0, .ref (adr b 2 v0)), (1, .long v1), (4, .int (jI v4))]) hx hb dX2_entriesOutside_27 hl (k := 2) rfl (by decide) rfl (fun ls hl => ?_)
        obtain ⟨hq12, hF⟩ := xk_some hF
        refine x_iinc (lv' := [(4, .int (jI (v4 + (1 : Int)))), (3, .int (jI (v3 + (1 : Int)))), (0, .ref (adr b 2 v0)), (1, .long v1)]) hx hb dX2_entriesOutside_30 hl (k := 3) rfl (by decide) rfl (fun ls hl => ?_)
        refine lv_goto (tgt := 5) hx hb dX2_entriesOutside_33 (by decide) ?_
        exact ih v0 v1 (v3 + (1 : Int)) (v4 + (1 : Int)) hv0 hq11 hq12 H locs hR hS ls (lv_sub hl [2, 3, 1, 0] rfl) hF
def F_X2_entriesOutside (M : Mm) (a1 : Nat) (a2 : Int64) : Option (Int) := (F_X2_entriesOutside_5 M  FU a1 a2 (0 : Int) (0 : Int))
set_option maxHeartbeats 4000000 in
set_option maxRecDepth 100000 in
theorem c_X2_entriesOutside {l : Launch} {g : Gx} {b : Nat} {M : Mm} {a1 : Nat} {a2 : Int64} {r : Int} (ha1 : a1 < 99) (hF : F_X2_entriesOutside M a1 a2 = some r) : Ct l yX2_entriesOutside cX2_entriesOutside 5 (some .int) rmX2_entriesOutside g b [.ref (adr b 2 a1), .long a2] M (qI g b r M) := by
  refine ct_of (by decide +kernel) (Nat.le_of_ble_eq_true rfl) ?_
  intro p e s m args below meth c C0 hR ls hl
  obtain ⟨hx, hb, hr, hlocks, hml, hown, hts, hK⟩ := id C0
  have hS : va_S (AA b s.heap.size) s.heap s.heap [] := va_S.rf
  have hl : lv_has ls 5 [(0, .ref (adr b 2 a1)), (1, .long a2)] := hl
  obtain ⟨H, hH⟩ : ∃ z, z = s.heap := ⟨_, rfl⟩
  obtain ⟨locs, hlo⟩ : ∃ z : List Loc, z = [] := ⟨_, rfl⟩
  have hR : Rel g b M H := by rw [hH]; exact hR
  have hS : va_S (AA b s.heap.size) s.heap H locs := by rw [hH, hlo]; exact hS
  suffices hW : W p l e rmX2_entriesOutside s m args below meth c H locs 0 0 (MQ below (qI g b r M s.heap.size) args s 0 0 (AA b s.heap.size)) (F0 m 0 ls []) by rw [hH, hlo] at hW; exact hW
  rw [F_X2_entriesOutside] at hF
  refine x_iconst hx hb dX2_entriesOutside_0 ?_
  refine lv_istore_n (lv' := [(3, .int (jI (0 : Int))), (0, .ref (adr b 2 a1)), (1, .long a2)]) hx hb dX2_entriesOutside_1 rfl hl (by decide) rfl (fun ls hl => ?_)
  refine x_iconst hx hb dX2_entriesOutside_2 ?_
  refine lv_istore (lv' := [(4, .int (jI (0 : Int))), (3, .int (jI (0 : Int))), (0, .ref (adr b 2 a1)), (1, .long a2)]) hx hb dX2_entriesOutside_3 hl (by decide) rfl (fun ls hl => ?_)
  exact w_X2_entriesOutside_5 C0  FU a1 a2 (0 : Int) (0 : Int) ha1 (by decide : rg (0 : Int)) (by decide : rg (0 : Int)) H locs hR hS ls (lv_sub hl [2, 3, 1, 0] rfl) hF
abbrev rmX2_freedWithout : Room := { frames := 3, cells := 0, slots := 0, locals := 73 }
theorem hyX2_freedWithout : yX2_freedWithout.cls = RX2 ∧ yX2_freedWithout.cls ≠ "java/lang/invoke/MethodHandle" ∧ yX2_freedWithout.cls ≠ "java/lang/invoke/VarHandle" ∧ (parseMethodDescriptor yX2_freedWithout.desc).map (fun d => d.parameters.length) = some 1 := by decide +kernel
def F_X2_freedWithout_124 (rec76 : Mm → Nat → Int64 → Int → Int → Option (Int × Mm)) (M : Mm) (v0 : Nat) (v2 : Int64) (v4 : Int) (v5 : Int) (s0 : Int) : Option (Int × Mm) := (xk (0 ≤ v5 ∧ v5 < 32) (xb1 (F_X1_ownBlocks M (33 * v0 + v5.toNat)) fun y4 => (xb1 (F_X1_blocksFor M s0) fun y7 => (xk (rg (y4 - y7)) (xk (rg (v4 + (y4 - y7))) (xk (rg (v5 + (1 : Int))) (rec76 M v0 v2 (v4 + (y4 - y7)) (v5 + (1 : Int)))))))))
set_option maxHeartbeats 4000000 in
set_option maxRecDepth 100000 in
theorem w_X2_freedWithout_124 {p : Program} {l : Launch} {e : Env} {s : State} {m : MethodId} {args : Array Value} {below : List Frame} {meth : Method} {c : Code} {g : Gx} {b : Nat} (C0 : XA p s m meth c args RX2 cX2_freedWithout 7 (some .int) g) {r : Int} {M' : Mm} {rec76 : Mm → Nat → Int64 → Int → Int → Option (Int × Mm)} (hrec76 : ∀ (M : Mm) (v0 : Nat) (v2 : Int64) (v4 : Int) (v5 : Int) (hv0 : v0 < 3) (hv4 : rg v4) (hv5 : rg v5) (H : Heap) (locs : List Loc), Rel g b M H → va_S (AA b s.heap.size) s.heap H locs → ∀ ls : Array Slot, lv_has ls 7 [(0, .ref (adr b 1 v0)), (2, .long v2), (4, .int (jI v4)), (5, .int (jI v5))] → rec76 M v0 v2 v4 v5 = some (r, M') → W p l e rmX2_freedWithout s m args below meth c H locs 0 0 (MQ below (qI g b r M' s.heap.size) args s 0 0 (AA b s.heap.size)) (F0 m 76 ls [])) : ∀ (M : Mm) (v0 : Nat) (v2 : Int64) (v4 : Int) (v5 : Int) (s0 : Int) (hv0 : v0 < 3) (hv4 : rg v4) (hv5 : rg v5) (hs0 : rg s0) (H : Heap) (locs : List Loc), Rel g b M H → va_S (AA b s.heap.size) s.heap H locs → ∀ ls : Array Slot, lv_has ls 7 [(0, .ref (adr b 1 v0)), (2, .long v2), (4, .int (jI v4)), (5, .int (jI v5))] → F_X2_freedWithout_124 rec76 M v0 v2 v4 v5 s0 = some (r, M') → W p l e rmX2_freedWithout s m args below meth c H locs 0 0 (MQ below (qI g b r M' s.heap.size) args s 0 0 (AA b s.heap.size)) (F0 m 124 ls [.int (jI s0)]) := by
  obtain ⟨hx, hb, hr, hlocks, hml, hown, hts, hK⟩ := id C0
  intro M v0 v2 v4 v5 s0 hv0 hv4 hv5 hs0 H locs hR hS ls hl hF
  rw [F_X2_freedWithout_124] at hF
  refine lv_istore (lv' := [(6, .int (jI s0)), (0, .ref (adr b 1 v0)), (2, .long v2), (4, .int (jI v4)), (5, .int (jI v5))]) hx hb dX2_freedWithout_124 hl (by decide) rfl (fun ls hl => ?_)
  refine lv_iload hx hb dX2_freedWithout_126 (lv_at hl 3 rfl) ?_
  refine lv_aload_n hx hb dX2_freedWithout_128 rfl (lv_at hl 1 rfl) ?_
  refine gf_2_0 hx hb hts hown hK hR hv0 wd88 dX2_freedWithout_129 ?_
  refine lv_iload hx hb dX2_freedWithout_132 (lv_at hl 4 rfl) ?_
  obtain ⟨hi1, hF⟩ := xk_some hF
  refine x_aldN hx hb hK hR hv0 hv5 hi1 dX2_freedWithout_134 ?_
  have hj2 : (33 * v0 + v5.toNat) < 99 := by have := hv0; omega
  obtain ⟨y4, hc3, hF⟩ := xb1_some hF
  refine x_cVi (C := RX1) (T := TX1) (N := 12) (ci := 1) (As := []) (rest := [.int (jI v4)]) hx hb hml hown hts hK hR hS (c_X1_ownBlocks hj2 hc3) (ok2 hj2) rfl rfl wd408 wd409 wd410 wd3 wd411 hyX1_ownBlocks ⟨rfl, rfl⟩ ⟨Nat.le_of_ble_eq_true rfl, Nat.le_of_ble_eq_true rfl⟩ hl.1 (Nat.le_of_ble_eq_true rfl) dX2_freedWithout_135 ⟨Nat.zero_le _, Nat.zero_le _⟩ rfl (fun hg5 H locs hR hS => ?_)
  refine lv_iload hx hb dX2_freedWithout_138 (lv_at hl 0 rfl) ?_
  obtain ⟨y7, hc6, hF⟩ := xb1_some hF
  refine x_cSi (As := [.int (jI s0)]) (rest := [.int (jI y4), .int (jI v4)]) hx hb hml hown hts hK hR hS (c_X1_blocksFor hs0 hc6) wd540 wd413 wd3 wd414 hyX1_blocksFor ⟨rfl, rfl⟩ ⟨Nat.le_of_ble_eq_true rfl, Nat.le_of_ble_eq_true rfl⟩ hl.1 (Nat.le_of_ble_eq_true rfl) dX2_freedWithout_140 ⟨Nat.zero_le _, Nat.zero_le _⟩ rfl (fun hg8 H locs hR hS => ?_)
  obtain ⟨hq9, hF⟩ := xk_some hF
  refine x_isub hx hb dX2_freedWithout_143 ?_
  obtain ⟨hq10, hF⟩ := xk_some hF
  refine x_iadd hx hb dX2_freedWithout_144 ?_
  refine lv_istore (lv' := [(4, .int (jI (v4 + (y4 - y7)))), (6, .int (jI s0)), (0, .ref (adr b 1 v0)), (2, .long v2), (5, .int (jI v5))]) hx hb dX2_freedWithout_145 hl (by decide) rfl (fun ls hl => ?_)
  obtain ⟨hq11, hF⟩ := xk_some hF
  refine x_iinc (lv' := [(5, .int (jI (v5 + (1 : Int)))), (4, .int (jI (v4 + (y4 - y7)))), (6, .int (jI s0)), (0, .ref (adr b 1 v0)), (2, .long v2)]) hx hb dX2_freedWithout_147 hl (k := 4) rfl (by decide) rfl (fun ls hl => ?_)
  refine lv_goto (tgt := 76) hx hb dX2_freedWithout_150 (by decide) ?_
  exact hrec76 M v0 v2 (v4 + (y4 - y7)) (v5 + (1 : Int)) hv0 hq10 hq11 H locs hR hS ls (lv_sub hl [3, 4, 1, 0] rfl) hF
def F_X2_freedWithout_76  : Nat → Mm → Nat → Int64 → Int → Int → Option (Int × Mm)
  | 0, _, _, _, _, _ => none
  | n + 1, M, v0, v2, v4, v5 => (if (32 : Int) ≤ v5 then (some (v4, M)) else (xk (0 ≤ v5 ∧ v5 < 32) (if (M 2 (33 * v0 + v5.toNat) 0) = (2 : Int) then (xb1 (F_X2_isIn M v2 v5) fun y8 => (if y8 = 0 then (xk (0 ≤ v5 ∧ v5 < 32) (xb1 (F_X2_entriesOutside M (33 * v0 + v5.toNat) v2) fun y14 => (F_X2_freedWithout_124 (F_X2_freedWithout_76  n) M v0 v2 v4 v5 y14))) else (F_X2_freedWithout_124 (F_X2_freedWithout_76  n) M v0 v2 v4 v5 (0 : Int)))) else (xk (rg (v5 + (1 : Int))) (F_X2_freedWithout_76  n M v0 v2 v4 (v5 + (1 : Int)))))))
set_option maxHeartbeats 4000000 in
set_option maxRecDepth 100000 in
theorem w_X2_freedWithout_76 {p : Program} {l : Launch} {e : Env} {s : State} {m : MethodId} {args : Array Value} {below : List Frame} {meth : Method} {c : Code} {g : Gx} {b : Nat} (C0 : XA p s m meth c args RX2 cX2_freedWithout 7 (some .int) g) {r : Int} {M' : Mm} : ∀ n : Nat, ∀ (M : Mm) (v0 : Nat) (v2 : Int64) (v4 : Int) (v5 : Int) (hv0 : v0 < 3) (hv4 : rg v4) (hv5 : rg v5) (H : Heap) (locs : List Loc), Rel g b M H → va_S (AA b s.heap.size) s.heap H locs → ∀ ls : Array Slot, lv_has ls 7 [(0, .ref (adr b 1 v0)), (2, .long v2), (4, .int (jI v4)), (5, .int (jI v5))] → F_X2_freedWithout_76  n M v0 v2 v4 v5 = some (r, M') → W p l e rmX2_freedWithout s m args below meth c H locs 0 0 (MQ below (qI g b r M' s.heap.size) args s 0 0 (AA b s.heap.size)) (F0 m 76 ls []) := by
  obtain ⟨hx, hb, hr, hlocks, hml, hown, hts, hK⟩ := id C0
  intro n
  induction n with
  | zero =>
    intro M v0 v2 v4 v5 hv0 hv4 hv5 H locs hR hS ls hl hF
    rw [F_X2_freedWithout_76] at hF
    cases hF
  | succ n ih =>
    intro M v0 v2 v4 v5 hv0 hv4 hv5 H locs hR hS ls hl hF
    rw [F_X2_freedWithout_76] at hF
    refine lv_iload hx hb dX2_freedWithout_76 (lv_at hl 3 rfl) ?_
    refine lv_aload_n hx hb dX2_freedWithout_78 rfl (lv_at hl 0 rfl) ?_
    refine gf_2_0 hx hb hts hown hK hR hv0 wd88 dX2_freedWithout_79 ?_
    refine x_alenN hx hb hK hR hv0 dX2_freedWithout_82 ?_
    refine x_icmp_ge (tgt := 153) hx hb hv5 (by decide : rg (32 : Int)) dX2_freedWithout_83 (by decide) (fun ci1 => ?_) (fun ci1 => ?_)
    · rw [if_pos ci1] at hF
      refine lv_iload hx hb dX2_freedWithout_153 (lv_at hl 2 rfl) ?_
      cases hF
      exact x_iret hx hb hlocks hK hR hS hr hv4 dX2_freedWithout_155
    · rw [if_neg ci1] at hF
      refine lv_aload_n hx hb dX2_freedWithout_86 rfl (lv_at hl 0 rfl) ?_
      refine gf_2_0 hx hb hts hown hK hR hv0 wd88 dX2_freedWithout_87 ?_
      refine lv_iload hx hb dX2_freedWithout_90 (lv_at hl 3 rfl) ?_
      obtain ⟨hi2, hF⟩ := xk_some hF
      refine x_aldN hx hb hK hR hv0 hv5 hi2 dX2_freedWithout_92 ?_
      have hj3 : (33 * v0 + v5.toNat) < 99 := by have := hv0; omega
      refine gf_1_0 hx hb hts hown hK hR hj3 wd35 dX2_freedWithout_93 ?_
      have hg4 : rg (M 2 (33 * v0 + v5.toNat) 0) := hR.2 2 (33 * v0 + v5.toNat) 0 (by decide)
      refine x_iconst hx hb dX2_freedWithout_96 ?_
      refine x_icmp_ne (tgt := 147) hx hb hg4 (by decide : rg (2 : Int)) dX2_freedWithout_97 (by decide) (fun ci5 => ?_) (fun ci5 => ?_)
      · rw [if_neg ci5] at hF
        obtain ⟨hq6, hF⟩ := xk_some hF
        refine x_iinc (lv' := [(5, .int (jI (v5 + (1 : Int)))), (0, .ref (adr b 1 v0)), (2, .long v2), (4, .int (jI v4))]) hx hb dX2_freedWithout_147 hl (k := 3) rfl (by decide) rfl (fun ls hl => ?_)
        refine lv_goto (tgt := 76) hx hb dX2_freedWithout_150 (by decide) ?_
        exact ih M v0 v2 v4 (v5 + (1 : Int)) hv0 hv4 hq6 H locs hR hS ls (lv_sub hl [1, 2, 3, 0] rfl) hF
      · rw [if_pos ci5] at hF
        refine lv_lload_n hx hb dX2_freedWithout_100 rfl (lv_at hl 1 rfl) ?_
        refine lv_iload hx hb dX2_freedWithout_101 (lv_at hl 3 rfl) ?_
        obtain ⟨y8, hc7, hF⟩ := xb1_some hF
        refine x_cSi (As := [.long v2, .int (jI v5)]) (rest := []) hx hb hml hown hts hK hR hS (c_X2_isIn hv5 hc7) wd514 wd515 wd2 wd516 hyX2_isIn ⟨rfl, rfl⟩ ⟨Nat.le_of_ble_eq_true rfl, Nat.le_of_ble_eq_true rfl⟩ hl.1 (Nat.le_of_ble_eq_true rfl) dX2_freedWithout_103 ⟨Nat.zero_le _, Nat.zero_le _⟩ rfl (fun hg9 H locs hR hS => ?_)
        refine x_if_eq (tgt := 113) hx hb hg9 dX2_freedWithout_106 (by decide) (fun ci10 => ?_) (fun ci10 => ?_)
        · rw [if_pos ci10] at hF
          refine lv_aload_n hx hb dX2_freedWithout_113 rfl (lv_at hl 0 rfl) ?_
          refine gf_2_0 hx hb hts hown hK hR hv0 wd88 dX2_freedWithout_114 ?_
          refine lv_iload hx hb dX2_freedWithout_117 (lv_at hl 3 rfl) ?_
          obtain ⟨hi11, hF⟩ := xk_some hF
          refine x_aldN hx hb hK hR hv0 hv5 hi11 dX2_freedWithout_119 ?_
          have hj12 : (33 * v0 + v5.toNat) < 99 := by have := hv0; omega
          refine lv_lload_n hx hb dX2_freedWithout_120 rfl (lv_at hl 1 rfl) ?_
          obtain ⟨y14, hc13, hF⟩ := xb1_some hF
          refine x_cSi (As := [.ref (adr b 2 (33 * v0 + v5.toNat)), .long v2]) (rest := []) hx hb hml hown hts hK hR hS (c_X2_entriesOutside hj12 hc13) wd537 wd538 wd2 wd539 hyX2_entriesOutside ⟨rfl, rfl⟩ ⟨Nat.le_of_ble_eq_true rfl, Nat.le_of_ble_eq_true rfl⟩ hl.1 (Nat.le_of_ble_eq_true rfl) dX2_freedWithout_121 ⟨Nat.zero_le _, Nat.zero_le _⟩ rfl (fun hg15 H locs hR hS => ?_)
          exact w_X2_freedWithout_124 C0 ih M v0 v2 v4 v5 y14 hv0 hv4 hv5 hg15 H locs hR hS ls (lv_sub hl [0, 1, 2, 3] rfl) hF
        · rw [if_neg ci10] at hF
          refine x_iconst hx hb dX2_freedWithout_109 ?_
          refine lv_goto (tgt := 124) hx hb dX2_freedWithout_110 (by decide) ?_
          exact w_X2_freedWithout_124 C0 ih M v0 v2 v4 v5 (0 : Int) hv0 hv4 hv5 (by decide : rg (0 : Int)) H locs hR hS ls (lv_sub hl [0, 1, 2, 3] rfl) hF
def F_X2_freedWithout_17  : Nat → Mm → Nat → Int64 → Int → Int → Option (Int × Mm)
  | 0, _, _, _, _, _ => none
  | n + 1, M, v0, v2, v4, v5 => (if (128 : Int) ≤ v5 then (F_X2_freedWithout_76  FU M v0 v2 v4 (0 : Int)) else (if (128 : Int) ≤ v5 then (F_X2_freedWithout_76  FU M v0 v2 v4 (0 : Int)) else (xk (0 ≤ v5 ∧ v5 < 128) (if (M 9 v0 v5.toNat) ≤ 0 then (xk (rg (v5 + (1 : Int))) (F_X2_freedWithout_17  n M v0 v2 v4 (v5 + (1 : Int)))) else (xk (0 ≤ v5 ∧ v5 < 128) (xk (0 ≤ v5 ∧ v5 < 128) (if (M 9 v0 v5.toNat) = (M 8 v0 v5.toNat) then (xk (rg (v4 + (1 : Int))) (xk (rg (v5 + (1 : Int))) (F_X2_freedWithout_17  n M v0 v2 (v4 + (1 : Int)) (v5 + (1 : Int))))) else (xk (rg (v5 + (1 : Int))) (F_X2_freedWithout_17  n M v0 v2 v4 (v5 + (1 : Int)))))))))))
set_option maxHeartbeats 4000000 in
set_option maxRecDepth 100000 in
theorem w_X2_freedWithout_17 {p : Program} {l : Launch} {e : Env} {s : State} {m : MethodId} {args : Array Value} {below : List Frame} {meth : Method} {c : Code} {g : Gx} {b : Nat} (C0 : XA p s m meth c args RX2 cX2_freedWithout 7 (some .int) g) {r : Int} {M' : Mm} : ∀ n : Nat, ∀ (M : Mm) (v0 : Nat) (v2 : Int64) (v4 : Int) (v5 : Int) (hv0 : v0 < 3) (hv4 : rg v4) (hv5 : rg v5) (H : Heap) (locs : List Loc), Rel g b M H → va_S (AA b s.heap.size) s.heap H locs → ∀ ls : Array Slot, lv_has ls 7 [(0, .ref (adr b 1 v0)), (2, .long v2), (4, .int (jI v4)), (5, .int (jI v5))] → F_X2_freedWithout_17  n M v0 v2 v4 v5 = some (r, M') → W p l e rmX2_freedWithout s m args below meth c H locs 0 0 (MQ below (qI g b r M' s.heap.size) args s 0 0 (AA b s.heap.size)) (F0 m 17 ls []) := by
  obtain ⟨hx, hb, hr, hlocks, hml, hown, hts, hK⟩ := id C0
  intro n
  induction n with
  | zero =>
    intro M v0 v2 v4 v5 hv0 hv4 hv5 H locs hR hS ls hl hF
    rw [F_X2_freedWithout_17] at hF
    cases hF
  | succ n ih =>
    intro M v0 v2 v4 v5 hv0 hv4 hv5 H locs hR hS ls hl hF
    rw [F_X2_freedWithout_17] at hF
    refine lv_iload hx hb dX2_freedWithout_17 (lv_at hl 3 rfl) ?_
    refine lv_aload_n hx hb dX2_freedWithout_19 rfl (lv_at hl 0 rfl) ?_
    refine gf_2_6 hx hb hts hown hK hR hv0 wd95 dX2_freedWithout_20 ?_
    refine x_alen (K := 9) (n := (128 : Int)) hx hb hK hR (ok9 hv0) (by decide) (by decide +kernel) dX2_freedWithout_23 ?_
    refine x_icmp_ge (tgt := 73) hx hb hv5 (by decide : rg (128 : Int)) dX2_freedWithout_24 (by decide) (fun ci1 => ?_) (fun ci1 => ?_)
    · rw [if_pos ci1] at hF
      refine x_iconst hx hb dX2_freedWithout_73 ?_
      refine lv_istore (lv' := [(5, .int (jI (0 : Int))), (0, .ref (adr b 1 v0)), (2, .long v2), (4, .int (jI v4))]) hx hb dX2_freedWithout_74 hl (by decide) rfl (fun ls hl => ?_)
      exact w_X2_freedWithout_76 C0  FU M v0 v2 v4 (0 : Int) hv0 hv4 (by decide : rg (0 : Int)) H locs hR hS ls (lv_sub hl [1, 2, 3, 0] rfl) hF
    · rw [if_neg ci1] at hF
      refine lv_iload hx hb dX2_freedWithout_27 (lv_at hl 3 rfl) ?_
      refine lv_aload_n hx hb dX2_freedWithout_29 rfl (lv_at hl 0 rfl) ?_
      refine gf_2_4 hx hb hts hown hK hR hv0 wd92 dX2_freedWithout_30 ?_
      refine x_alen (K := 8) (n := (128 : Int)) hx hb hK hR (ok8 hv0) (by decide) (by decide +kernel) dX2_freedWithout_33 ?_
      refine x_icmp_ge (tgt := 73) hx hb hv5 (by decide : rg (128 : Int)) dX2_freedWithout_34 (by decide) (fun ci16 => ?_) (fun ci16 => ?_)
      · rw [if_pos ci16] at hF
        refine x_iconst hx hb dX2_freedWithout_73 ?_
        refine lv_istore (lv' := [(5, .int (jI (0 : Int))), (0, .ref (adr b 1 v0)), (2, .long v2), (4, .int (jI v4))]) hx hb dX2_freedWithout_74 hl (by decide) rfl (fun ls hl => ?_)
        exact w_X2_freedWithout_76 C0  FU M v0 v2 v4 (0 : Int) hv0 hv4 (by decide : rg (0 : Int)) H locs hR hS ls (lv_sub hl [1, 2, 3, 0] rfl) hF
      · rw [if_neg ci16] at hF
        refine lv_aload_n hx hb dX2_freedWithout_37 rfl (lv_at hl 0 rfl) ?_
        refine gf_2_6 hx hb hts hown hK hR hv0 wd95 dX2_freedWithout_38 ?_
        refine lv_iload hx hb dX2_freedWithout_41 (lv_at hl 3 rfl) ?_
        obtain ⟨hi17, hF⟩ := xk_some hF
        refine x_iald (K := 9) hx hb hK hR (ok9 hv0) (by decide) hv5 hi17 dX2_freedWithout_43 ?_
        have hg18 : rg (M 9 v0 v5.toNat) := hR.2 9 v0 _ (by decide)
        refine x_if_le (tgt := 67) hx hb hg18 dX2_freedWithout_44 (by decide) (fun ci19 => ?_) (fun ci19 => ?_)
        · rw [if_pos ci19] at hF
          obtain ⟨hq20, hF⟩ := xk_some hF
          refine x_iinc (lv' := [(5, .int (jI (v5 + (1 : Int)))), (0, .ref (adr b 1 v0)), (2, .long v2), (4, .int (jI v4))]) hx hb dX2_freedWithout_67 hl (k := 3) rfl (by decide) rfl (fun ls hl => ?_)
          refine lv_goto (tgt := 17) hx hb dX2_freedWithout_70 (by decide) ?_
          exact ih M v0 v2 v4 (v5 + (1 : Int)) hv0 hv4 hq20 H locs hR hS ls (lv_sub hl [1, 2, 3, 0] rfl) hF
        · rw [if_neg ci19] at hF
          refine lv_aload_n hx hb dX2_freedWithout_47 rfl (lv_at hl 0 rfl) ?_
          refine gf_2_6 hx hb hts hown hK hR hv0 wd95 dX2_freedWithout_48 ?_
          refine lv_iload hx hb dX2_freedWithout_51 (lv_at hl 3 rfl) ?_
          obtain ⟨hi21, hF⟩ := xk_some hF
          refine x_iald (K := 9) hx hb hK hR (ok9 hv0) (by decide) hv5 hi21 dX2_freedWithout_53 ?_
          have hg22 : rg (M 9 v0 v5.toNat) := hR.2 9 v0 _ (by decide)
          refine lv_aload_n hx hb dX2_freedWithout_54 rfl (lv_at hl 0 rfl) ?_
          refine gf_2_4 hx hb hts hown hK hR hv0 wd92 dX2_freedWithout_55 ?_
          refine lv_iload hx hb dX2_freedWithout_58 (lv_at hl 3 rfl) ?_
          obtain ⟨hi23, hF⟩ := xk_some hF
          refine x_iald (K := 8) hx hb hK hR (ok8 hv0) (by decide) hv5 hi23 dX2_freedWithout_60 ?_
          have hg24 : rg (M 8 v0 v5.toNat) := hR.2 8 v0 _ (by decide)
          refine x_icmp_ne (tgt := 67) hx hb hg22 hg24 dX2_freedWithout_61 (by decide) (fun ci25 => ?_) (fun ci25 => ?_)
          · rw [if_neg ci25] at hF
            obtain ⟨hq26, hF⟩ := xk_some hF
            refine x_iinc (lv' := [(5, .int (jI (v5 + (1 : Int)))), (0, .ref (adr b 1 v0)), (2, .long v2), (4, .int (jI v4))]) hx hb dX2_freedWithout_67 hl (k := 3) rfl (by decide) rfl (fun ls hl => ?_)
            refine lv_goto (tgt := 17) hx hb dX2_freedWithout_70 (by decide) ?_
            exact ih M v0 v2 v4 (v5 + (1 : Int)) hv0 hv4 hq26 H locs hR hS ls (lv_sub hl [1, 2, 3, 0] rfl) hF
          · rw [if_pos ci25] at hF
            obtain ⟨hq27, hF⟩ := xk_some hF
            refine x_iinc (lv' := [(4, .int (jI (v4 + (1 : Int)))), (0, .ref (adr b 1 v0)), (2, .long v2), (5, .int (jI v5))]) hx hb dX2_freedWithout_64 hl (k := 2) rfl (by decide) rfl (fun ls hl => ?_)
            obtain ⟨hq28, hF⟩ := xk_some hF
            refine x_iinc (lv' := [(5, .int (jI (v5 + (1 : Int)))), (4, .int (jI (v4 + (1 : Int)))), (0, .ref (adr b 1 v0)), (2, .long v2)]) hx hb dX2_freedWithout_67 hl (k := 3) rfl (by decide) rfl (fun ls hl => ?_)
            refine lv_goto (tgt := 17) hx hb dX2_freedWithout_70 (by decide) ?_
            exact ih M v0 v2 (v4 + (1 : Int)) (v5 + (1 : Int)) hv0 hq27 hq28 H locs hR hS ls (lv_sub hl [2, 3, 1, 0] rfl) hF
def F_X2_freedWithout (M : Mm) (o : Nat) (a1 : Int) : Option (Int × Mm) := (xb1 (F_X2_reach M o a1) fun y2 => (xb1 (F_X2_countHolders M o y2) fun M4 => (F_X2_freedWithout_17  FU M4 o y2 (0 : Int) (0 : Int))))
set_option maxHeartbeats 4000000 in
set_option maxRecDepth 100000 in
theorem c_X2_freedWithout {l : Launch} {g : Gx} {b : Nat} {M : Mm} {o : Nat} {a1 : Int} {r : Int} {M' : Mm} (ho : o < 3) (ha1 : rg a1) (hF : F_X2_freedWithout M o a1 = some (r, M')) : Ct l yX2_freedWithout cX2_freedWithout 7 (some .int) rmX2_freedWithout g b [.ref (adr b 1 o), .int (jI a1)] M (qI g b r M') := by
  refine ct_of (by decide +kernel) (Nat.le_of_ble_eq_true rfl) ?_
  intro p e s m args below meth c C0 hR ls hl
  obtain ⟨hx, hb, hr, hlocks, hml, hown, hts, hK⟩ := id C0
  have hS : va_S (AA b s.heap.size) s.heap s.heap [] := va_S.rf
  have hl : lv_has ls 7 [(0, .ref (adr b 1 o)), (1, .int (jI a1))] := hl
  obtain ⟨H, hH⟩ : ∃ z, z = s.heap := ⟨_, rfl⟩
  obtain ⟨locs, hlo⟩ : ∃ z : List Loc, z = [] := ⟨_, rfl⟩
  have hR : Rel g b M H := by rw [hH]; exact hR
  have hS : va_S (AA b s.heap.size) s.heap H locs := by rw [hH, hlo]; exact hS
  suffices hW : W p l e rmX2_freedWithout s m args below meth c H locs 0 0 (MQ below (qI g b r M' s.heap.size) args s 0 0 (AA b s.heap.size)) (F0 m 0 ls []) by rw [hH, hlo] at hW; exact hW
  rw [F_X2_freedWithout] at hF
  refine lv_aload_n hx hb dX2_freedWithout_0 rfl (lv_at hl 0 rfl) ?_
  refine lv_iload_n hx hb dX2_freedWithout_1 rfl (lv_at hl 1 rfl) ?_
  obtain ⟨y2, hc1, hF⟩ := xb1_some hF
  refine x_cVl (C := RX2) (T := TX2) (N := 8) (ci := 2) (As := [.int (jI a1)]) (rest := []) hx hb hml hown hts hK hR hS (c_X2_reach ho ha1 hc1) (ok1 ho) rfl rfl wd510 wd511 wd512 wd2 wd513 hyX2_reach ⟨rfl, rfl⟩ ⟨Nat.le_of_ble_eq_true rfl, Nat.le_of_ble_eq_true rfl⟩ hl.1 (Nat.le_of_ble_eq_true rfl) dX2_freedWithout_2 ⟨Nat.zero_le _, Nat.zero_le _⟩ rfl (fun H locs hR hS => ?_)
  refine lv_lstore_n (lv' := [(2, .long y2), (0, .ref (adr b 1 o)), (1, .int (jI a1))]) hx hb dX2_freedWithout_5 rfl hl (by decide) rfl (fun ls hl => ?_)
  refine lv_aload_n hx hb dX2_freedWithout_6 rfl (lv_at hl 1 rfl) ?_
  refine lv_lload_n hx hb dX2_freedWithout_7 rfl (lv_at hl 0 rfl) ?_
  obtain ⟨M4, hc3, hF⟩ := xb1_some hF
  refine x_cVv (C := RX2) (T := TX2) (N := 8) (ci := 2) (As := [.long y2]) (rest := []) hx hb hml hown hts hK hR hS (c_X2_countHolders ho hc3) (ok1 ho) rfl rfl wd525 wd526 wd527 wd2 wd528 hyX2_countHolders ⟨rfl, rfl⟩ ⟨Nat.le_of_ble_eq_true rfl, Nat.le_of_ble_eq_true rfl⟩ hl.1 (Nat.le_of_ble_eq_true rfl) dX2_freedWithout_8 ⟨Nat.zero_le _, Nat.zero_le _⟩ rfl (fun H locs hR hS => ?_)
  refine x_iconst hx hb dX2_freedWithout_11 ?_
  refine lv_istore (lv' := [(4, .int (jI (0 : Int))), (2, .long y2), (0, .ref (adr b 1 o)), (1, .int (jI a1))]) hx hb dX2_freedWithout_12 hl (by decide) rfl (fun ls hl => ?_)
  refine x_iconst hx hb dX2_freedWithout_14 ?_
  refine lv_istore (lv' := [(5, .int (jI (0 : Int))), (4, .int (jI (0 : Int))), (2, .long y2), (0, .ref (adr b 1 o)), (1, .int (jI a1))]) hx hb dX2_freedWithout_15 hl (by decide) rfl (fun ls hl => ?_)
  exact w_X2_freedWithout_17 C0  FU M4 o y2 (0 : Int) (0 : Int) ho (by decide : rg (0 : Int)) (by decide : rg (0 : Int)) H locs hR hS ls (lv_sub hl [3, 2, 1, 0] rfl) hF
abbrev rmX2_isWithin : Room := { frames := 1, cells := 0, slots := 0, locals := 21 }
theorem hyX2_isWithin : yX2_isWithin.cls = RX2 ∧ yX2_isWithin.cls ≠ "java/lang/invoke/MethodHandle" ∧ yX2_isWithin.cls ≠ "java/lang/invoke/VarHandle" ∧ (parseMethodDescriptor yX2_isWithin.desc).map (fun d => d.parameters.length) = some 2 := by decide +kernel
def F_X2_isWithin_36 (M : Mm)  (v2 : Int) (v3 : Int) : Option (Int) := (if v3 = v2 then (some (1 : Int)) else (some (0 : Int)))
set_option maxHeartbeats 4000000 in
set_option maxRecDepth 100000 in
theorem w_X2_isWithin_36 {p : Program} {l : Launch} {e : Env} {s : State} {m : MethodId} {args : Array Value} {below : List Frame} {meth : Method} {c : Code} {g : Gx} {b : Nat} (C0 : XA p s m meth c args RX2 cX2_isWithin 5 (some .boolean) g) {r : Int} {M : Mm} : ∀ (v2 : Int) (v3 : Int) (hv2 : rg v2) (hv3 : rg v3) (H : Heap) (locs : List Loc), Rel g b M H → va_S (AA b s.heap.size) s.heap H locs → ∀ ls : Array Slot, lv_has ls 5 [(2, .int (jI v2)), (3, .int (jI v3))] → F_X2_isWithin_36 M  v2 v3 = some r → W p l e rmX2_isWithin s m args below meth c H locs 0 0 (MQ below (qI g b r M s.heap.size) args s 0 0 (AA b s.heap.size)) (F0 m 36 ls []) := by
  obtain ⟨hx, hb, hr, hlocks, hml, hown, hts, hK⟩ := id C0
  intro v2 v3 hv2 hv3 H locs hR hS ls hl hF
  rw [F_X2_isWithin_36] at hF
  refine lv_iload_n hx hb dX2_isWithin_36 rfl (lv_at hl 1 rfl) ?_
  refine lv_iload_n hx hb dX2_isWithin_37 rfl (lv_at hl 0 rfl) ?_
  refine x_icmp_ne (tgt := 45) hx hb hv3 hv2 dX2_isWithin_38 (by decide) (fun ci1 => ?_) (fun ci1 => ?_)
  · rw [if_neg ci1] at hF
    refine x_iconst hx hb dX2_isWithin_45 ?_
    cases hF
    exact x_zret hx hb hlocks hK hR hS hr (by decide) dX2_isWithin_46
  · rw [if_pos ci1] at hF
    refine x_iconst hx hb dX2_isWithin_41 ?_
    refine lv_goto (tgt := 46) hx hb dX2_isWithin_42 (by decide) ?_
    cases hF
    exact x_zret hx hb hlocks hK hR hS hr (by decide) dX2_isWithin_46
def F_X2_isWithin_5 (M : Mm)  : Nat → Nat → Int → Int → Int → Option (Int)
  | 0, _, _, _, _ => none
  | n + 1, v0, v2, v3, v4 => (if (32 : Int) ≤ v4 then (F_X2_isWithin_36 M  v2 v3) else (if v3 = v2 then (F_X2_isWithin_36 M  v2 v3) else (if v3 = 0 then (F_X2_isWithin_36 M  v2 v3) else (xb1 (F_X2_at M v0 v3) fun y5 => (xk (rg (v4 + (1 : Int))) (F_X2_isWithin_5 M  n v0 v2 (M 2 y5 4) (v4 + (1 : Int))))))))
set_option maxHeartbeats 4000000 in
set_option maxRecDepth 100000 in
theorem w_X2_isWithin_5 {p : Program} {l : Launch} {e : Env} {s : State} {m : MethodId} {args : Array Value} {below : List Frame} {meth : Method} {c : Code} {g : Gx} {b : Nat} (C0 : XA p s m meth c args RX2 cX2_isWithin 5 (some .boolean) g) {r : Int} {M : Mm} : ∀ n : Nat, ∀ (v0 : Nat) (v2 : Int) (v3 : Int) (v4 : Int) (hv0 : v0 < 3) (hv2 : rg v2) (hv3 : rg v3) (hv4 : rg v4) (H : Heap) (locs : List Loc), Rel g b M H → va_S (AA b s.heap.size) s.heap H locs → ∀ ls : Array Slot, lv_has ls 5 [(0, .ref (adr b 1 v0)), (2, .int (jI v2)), (3, .int (jI v3)), (4, .int (jI v4))] → F_X2_isWithin_5 M  n v0 v2 v3 v4 = some r → W p l e rmX2_isWithin s m args below meth c H locs 0 0 (MQ below (qI g b r M s.heap.size) args s 0 0 (AA b s.heap.size)) (F0 m 5 ls []) := by
  obtain ⟨hx, hb, hr, hlocks, hml, hown, hts, hK⟩ := id C0
  intro n
  induction n with
  | zero =>
    intro v0 v2 v3 v4 hv0 hv2 hv3 hv4 H locs hR hS ls hl hF
    rw [F_X2_isWithin_5] at hF
    cases hF
  | succ n ih =>
    intro v0 v2 v3 v4 hv0 hv2 hv3 hv4 H locs hR hS ls hl hF
    rw [F_X2_isWithin_5] at hF
    refine lv_iload hx hb dX2_isWithin_5 (lv_at hl 3 rfl) ?_
    refine x_bipush hx hb (by decide +kernel) dX2_isWithin_7 ?_
    refine x_icmp_ge (tgt := 36) hx hb hv4 (by decide : rg (32 : Int)) dX2_isWithin_9 (by decide) (fun ci1 => ?_) (fun ci1 => ?_)
    · rw [if_pos ci1] at hF
      exact w_X2_isWithin_36 C0  v2 v3 hv2 hv3 H locs hR hS ls (lv_sub hl [1, 2] rfl) hF
    · rw [if_neg ci1] at hF
      refine lv_iload_n hx hb dX2_isWithin_12 rfl (lv_at hl 2 rfl) ?_
      refine lv_iload_n hx hb dX2_isWithin_13 rfl (lv_at hl 1 rfl) ?_
      refine x_icmp_eq (tgt := 36) hx hb hv3 hv2 dX2_isWithin_14 (by decide) (fun ci2 => ?_) (fun ci2 => ?_)
      · rw [if_pos ci2] at hF
        exact w_X2_isWithin_36 C0  v2 v3 hv2 hv3 H locs hR hS ls (lv_sub hl [1, 2] rfl) hF
      · rw [if_neg ci2] at hF
        refine lv_iload_n hx hb dX2_isWithin_17 rfl (lv_at hl 2 rfl) ?_
        refine x_if_eq (tgt := 36) hx hb hv3 dX2_isWithin_18 (by decide) (fun ci3 => ?_) (fun ci3 => ?_)
        · rw [if_pos ci3] at hF
          exact w_X2_isWithin_36 C0  v2 v3 hv2 hv3 H locs hR hS ls (lv_sub hl [1, 2] rfl) hF
        · rw [if_neg ci3] at hF
          refine lv_aload_n hx hb dX2_isWithin_21 rfl (lv_at hl 0 rfl) ?_
          refine lv_iload_n hx hb dX2_isWithin_22 rfl (lv_at hl 2 rfl) ?_
          obtain ⟨y5, hc4, hF⟩ := xb1_some hF
          refine x_cVr (C := RX2) (T := TX2) (N := 8) (ci := 2) (As := [.int (jI v3)]) (rest := []) hx hb hml hown hts hK hR hS (c_X2_at hv0 hv3 hc4) (ok1 hv0) rfl rfl wd254 wd255 wd256 wd2 wd257 hyX2_at ⟨rfl, rfl⟩ ⟨Nat.le_of_ble_eq_true rfl, Nat.le_of_ble_eq_true rfl⟩ hl.1 (Nat.le_of_ble_eq_true rfl) dX2_isWithin_23 ⟨Nat.zero_le _, Nat.zero_le _⟩ rfl (fun hg6 H locs hR hS => ?_)
          have hj7 : y5 < 99 := lt2 hg6
          refine gf_1_4 hx hb hts hown hK hR hj7 wd47 dX2_isWithin_26 ?_
          have hg8 : rg (M 2 y5 4) := hR.2 2 y5 4 (by decide)
          refine lv_istore_n (lv' := [(3, .int (jI (M 2 y5 4))), (0, .ref (adr b 1 v0)), (2, .int (jI v2)), (4, .int (jI v4))]) hx hb dX2_isWithin_29 rfl hl (by decide) rfl (fun ls hl => ?_)
          obtain ⟨hq9, hF⟩ := xk_some hF
          refine x_iinc (lv' := [(4, .int (jI (v4 + (1 : Int)))), (3, .int (jI (M 2 y5 4))), (0, .ref (adr b 1 v0)), (2, .int (jI v2))]) hx hb dX2_isWithin_30 hl (k := 3) rfl (by decide) rfl (fun ls hl => ?_)
          refine lv_goto (tgt := 5) hx hb dX2_isWithin_33 (by decide) ?_
          exact ih v0 v2 (M 2 y5 4) (v4 + (1 : Int)) hv0 hv2 hg8 hq9 H locs hR hS ls (lv_sub hl [2, 3, 1, 0] rfl) hF
def F_X2_isWithin (M : Mm) (o : Nat) (a1 : Int) (a2 : Int) : Option (Int) := (F_X2_isWithin_5 M  FU o a2 a1 (0 : Int))
set_option maxHeartbeats 4000000 in
set_option maxRecDepth 100000 in
theorem c_X2_isWithin {l : Launch} {g : Gx} {b : Nat} {M : Mm} {o : Nat} {a1 : Int} {a2 : Int} {r : Int} (ho : o < 3) (ha1 : rg a1) (ha2 : rg a2) (hF : F_X2_isWithin M o a1 a2 = some r) : Ct l yX2_isWithin cX2_isWithin 5 (some .boolean) rmX2_isWithin g b [.ref (adr b 1 o), .int (jI a1), .int (jI a2)] M (qI g b r M) := by
  refine ct_of (by decide +kernel) (Nat.le_of_ble_eq_true rfl) ?_
  intro p e s m args below meth c C0 hR ls hl
  obtain ⟨hx, hb, hr, hlocks, hml, hown, hts, hK⟩ := id C0
  have hS : va_S (AA b s.heap.size) s.heap s.heap [] := va_S.rf
  have hl : lv_has ls 5 [(0, .ref (adr b 1 o)), (1, .int (jI a1)), (2, .int (jI a2))] := hl
  obtain ⟨H, hH⟩ : ∃ z, z = s.heap := ⟨_, rfl⟩
  obtain ⟨locs, hlo⟩ : ∃ z : List Loc, z = [] := ⟨_, rfl⟩
  have hR : Rel g b M H := by rw [hH]; exact hR
  have hS : va_S (AA b s.heap.size) s.heap H locs := by rw [hH, hlo]; exact hS
  suffices hW : W p l e rmX2_isWithin s m args below meth c H locs 0 0 (MQ below (qI g b r M s.heap.size) args s 0 0 (AA b s.heap.size)) (F0 m 0 ls []) by rw [hH, hlo] at hW; exact hW
  rw [F_X2_isWithin] at hF
  refine lv_iload_n hx hb dX2_isWithin_0 rfl (lv_at hl 1 rfl) ?_
  refine lv_istore_n (lv' := [(3, .int (jI a1)), (0, .ref (adr b 1 o)), (1, .int (jI a1)), (2, .int (jI a2))]) hx hb dX2_isWithin_1 rfl hl (by decide) rfl (fun ls hl => ?_)
  refine x_iconst hx hb dX2_isWithin_2 ?_
  refine lv_istore (lv' := [(4, .int (jI (0 : Int))), (3, .int (jI a1)), (0, .ref (adr b 1 o)), (1, .int (jI a1)), (2, .int (jI a2))]) hx hb dX2_isWithin_3 hl (by decide) rfl (fun ls hl => ?_)
  exact w_X2_isWithin_5 C0  FU o a2 a1 (0 : Int) ho ha2 ha1 (by decide : rg (0 : Int)) H locs hR hS ls (lv_sub hl [2, 4, 1, 0] rfl) hF
abbrev rmX2_depth : Room := { frames := 1, cells := 0, slots := 0, locals := 21 }
theorem hyX2_depth : yX2_depth.cls = RX2 ∧ yX2_depth.cls ≠ "java/lang/invoke/MethodHandle" ∧ yX2_depth.cls ≠ "java/lang/invoke/VarHandle" ∧ (parseMethodDescriptor yX2_depth.desc).map (fun d => d.parameters.length) = some 1 := by decide +kernel
def F_X2_depth_4 (M : Mm)  : Nat → Nat → Int → Int → Option (Int)
  | 0, _, _, _ => none
  | n + 1, v0, v2, v3 => (if (32 : Int) ≤ v3 then (some v3) else (if v2 = 0 then (some v3) else (xb1 (F_X2_at M v0 v2) fun y4 => (xk (rg (v3 + (1 : Int))) (F_X2_depth_4 M  n v0 (M 2 y4 4) (v3 + (1 : Int)))))))
set_option maxHeartbeats 4000000 in
set_option maxRecDepth 100000 in
theorem w_X2_depth_4 {p : Program} {l : Launch} {e : Env} {s : State} {m : MethodId} {args : Array Value} {below : List Frame} {meth : Method} {c : Code} {g : Gx} {b : Nat} (C0 : XA p s m meth c args RX2 cX2_depth 4 (some .int) g) {r : Int} {M : Mm} : ∀ n : Nat, ∀ (v0 : Nat) (v2 : Int) (v3 : Int) (hv0 : v0 < 3) (hv2 : rg v2) (hv3 : rg v3) (H : Heap) (locs : List Loc), Rel g b M H → va_S (AA b s.heap.size) s.heap H locs → ∀ ls : Array Slot, lv_has ls 4 [(0, .ref (adr b 1 v0)), (2, .int (jI v2)), (3, .int (jI v3))] → F_X2_depth_4 M  n v0 v2 v3 = some r → W p l e rmX2_depth s m args below meth c H locs 0 0 (MQ below (qI g b r M s.heap.size) args s 0 0 (AA b s.heap.size)) (F0 m 4 ls []) := by
  obtain ⟨hx, hb, hr, hlocks, hml, hown, hts, hK⟩ := id C0
  intro n
  induction n with
  | zero =>
    intro v0 v2 v3 hv0 hv2 hv3 H locs hR hS ls hl hF
    rw [F_X2_depth_4] at hF
    cases hF
  | succ n ih =>
    intro v0 v2 v3 hv0 hv2 hv3 H locs hR hS ls hl hF
    rw [F_X2_depth_4] at hF
    refine lv_iload_n hx hb dX2_depth_4 rfl (lv_at hl 2 rfl) ?_
    refine x_bipush hx hb (by decide +kernel) dX2_depth_5 ?_
    refine x_icmp_ge (tgt := 29) hx hb hv3 (by decide : rg (32 : Int)) dX2_depth_7 (by decide) (fun ci1 => ?_) (fun ci1 => ?_)
    · rw [if_pos ci1] at hF
      refine lv_iload_n hx hb dX2_depth_29 rfl (lv_at hl 2 rfl) ?_
      cases hF
      exact x_iret hx hb hlocks hK hR hS hr hv3 dX2_depth_30
    · rw [if_neg ci1] at hF
      refine lv_iload_n hx hb dX2_depth_10 rfl (lv_at hl 1 rfl) ?_
      refine x_if_eq (tgt := 29) hx hb hv2 dX2_depth_11 (by decide) (fun ci2 => ?_) (fun ci2 => ?_)
      · rw [if_pos ci2] at hF
        refine lv_iload_n hx hb dX2_depth_29 rfl (lv_at hl 2 rfl) ?_
        cases hF
        exact x_iret hx hb hlocks hK hR hS hr hv3 dX2_depth_30
      · rw [if_neg ci2] at hF
        refine lv_aload_n hx hb dX2_depth_14 rfl (lv_at hl 0 rfl) ?_
        refine lv_iload_n hx hb dX2_depth_15 rfl (lv_at hl 1 rfl) ?_
        obtain ⟨y4, hc3, hF⟩ := xb1_some hF
        refine x_cVr (C := RX2) (T := TX2) (N := 8) (ci := 2) (As := [.int (jI v2)]) (rest := []) hx hb hml hown hts hK hR hS (c_X2_at hv0 hv2 hc3) (ok1 hv0) rfl rfl wd254 wd255 wd256 wd2 wd257 hyX2_at ⟨rfl, rfl⟩ ⟨Nat.le_of_ble_eq_true rfl, Nat.le_of_ble_eq_true rfl⟩ hl.1 (Nat.le_of_ble_eq_true rfl) dX2_depth_16 ⟨Nat.zero_le _, Nat.zero_le _⟩ rfl (fun hg5 H locs hR hS => ?_)
        have hj6 : y4 < 99 := lt2 hg5
        refine gf_1_4 hx hb hts hown hK hR hj6 wd47 dX2_depth_19 ?_
        have hg7 : rg (M 2 y4 4) := hR.2 2 y4 4 (by decide)
        refine lv_istore_n (lv' := [(2, .int (jI (M 2 y4 4))), (0, .ref (adr b 1 v0)), (3, .int (jI v3))]) hx hb dX2_depth_22 rfl hl (by decide) rfl (fun ls hl => ?_)
        obtain ⟨hq8, hF⟩ := xk_some hF
        refine x_iinc (lv' := [(3, .int (jI (v3 + (1 : Int)))), (2, .int (jI (M 2 y4 4))), (0, .ref (adr b 1 v0))]) hx hb dX2_depth_23 hl (k := 2) rfl (by decide) rfl (fun ls hl => ?_)
        refine lv_goto (tgt := 4) hx hb dX2_depth_26 (by decide) ?_
        exact ih v0 (M 2 y4 4) (v3 + (1 : Int)) hv0 hg7 hq8 H locs hR hS ls (lv_sub hl [2, 1, 0] rfl) hF
def F_X2_depth (M : Mm) (o : Nat) (a1 : Int) : Option (Int) := (F_X2_depth_4 M  FU o a1 (0 : Int))
set_option maxHeartbeats 4000000 in
set_option maxRecDepth 100000 in
theorem c_X2_depth {l : Launch} {g : Gx} {b : Nat} {M : Mm} {o : Nat} {a1 : Int} {r : Int} (ho : o < 3) (ha1 : rg a1) (hF : F_X2_depth M o a1 = some r) : Ct l yX2_depth cX2_depth 4 (some .int) rmX2_depth g b [.ref (adr b 1 o), .int (jI a1)] M (qI g b r M) := by
  refine ct_of (by decide +kernel) (Nat.le_of_ble_eq_true rfl) ?_
  intro p e s m args below meth c C0 hR ls hl
  obtain ⟨hx, hb, hr, hlocks, hml, hown, hts, hK⟩ := id C0
  have hS : va_S (AA b s.heap.size) s.heap s.heap [] := va_S.rf
  have hl : lv_has ls 4 [(0, .ref (adr b 1 o)), (1, .int (jI a1))] := hl
  obtain ⟨H, hH⟩ : ∃ z, z = s.heap := ⟨_, rfl⟩
  obtain ⟨locs, hlo⟩ : ∃ z : List Loc, z = [] := ⟨_, rfl⟩
  have hR : Rel g b M H := by rw [hH]; exact hR
  have hS : va_S (AA b s.heap.size) s.heap H locs := by rw [hH, hlo]; exact hS
  suffices hW : W p l e rmX2_depth s m args below meth c H locs 0 0 (MQ below (qI g b r M s.heap.size) args s 0 0 (AA b s.heap.size)) (F0 m 0 ls []) by rw [hH, hlo] at hW; exact hW
  rw [F_X2_depth] at hF
  refine lv_iload_n hx hb dX2_depth_0 rfl (lv_at hl 1 rfl) ?_
  refine lv_istore_n (lv' := [(2, .int (jI a1)), (0, .ref (adr b 1 o)), (1, .int (jI a1))]) hx hb dX2_depth_1 rfl hl (by decide) rfl (fun ls hl => ?_)
  refine x_iconst hx hb dX2_depth_2 ?_
  refine lv_istore_n (lv' := [(3, .int (jI (0 : Int))), (2, .int (jI a1)), (0, .ref (adr b 1 o)), (1, .int (jI a1))]) hx hb dX2_depth_3 rfl hl (by decide) rfl (fun ls hl => ?_)
  exact w_X2_depth_4 C0  FU o a1 (0 : Int) ho ha1 (by decide : rg (0 : Int)) H locs hR hS ls (lv_sub hl [2, 1, 0] rfl) hF
abbrev rmX2_origin : Room := { frames := 1, cells := 0, slots := 0, locals := 21 }
theorem hyX2_origin : yX2_origin.cls = RX2 ∧ yX2_origin.cls ≠ "java/lang/invoke/MethodHandle" ∧ yX2_origin.cls ≠ "java/lang/invoke/VarHandle" ∧ (parseMethodDescriptor yX2_origin.desc).map (fun d => d.parameters.length) = some 2 := by decide +kernel
def F_X2_origin_14 (M : Mm)  : Nat → Nat → Int → Int → Int → Option (Int)
  | 0, _, _, _, _ => none
  | n + 1, v0, v2, v3, v4 => (if v2 ≤ v4 then (some v3) else (xb1 (F_X2_at M v0 v3) fun y3 => (xk (rg (v4 + (1 : Int))) (F_X2_origin_14 M  n v0 v2 (M 2 y3 4) (v4 + (1 : Int))))))
set_option maxHeartbeats 4000000 in
set_option maxRecDepth 100000 in
theorem w_X2_origin_14 {p : Program} {l : Launch} {e : Env} {s : State} {m : MethodId} {args : Array Value} {below : List Frame} {meth : Method} {c : Code} {g : Gx} {b : Nat} (C0 : XA p s m meth c args RX2 cX2_origin 5 (some .int) g) {r : Int} {M : Mm} : ∀ n : Nat, ∀ (v0 : Nat) (v2 : Int) (v3 : Int) (v4 : Int) (hv0 : v0 < 3) (hv2 : rg v2) (hv3 : rg v3) (hv4 : rg v4) (H : Heap) (locs : List Loc), Rel g b M H → va_S (AA b s.heap.size) s.heap H locs → ∀ ls : Array Slot, lv_has ls 5 [(0, .ref (adr b 1 v0)), (2, .int (jI v2)), (3, .int (jI v3)), (4, .int (jI v4))] → F_X2_origin_14 M  n v0 v2 v3 v4 = some r → W p l e rmX2_origin s m args below meth c H locs 0 0 (MQ below (qI g b r M s.heap.size) args s 0 0 (AA b s.heap.size)) (F0 m 14 ls []) := by
  obtain ⟨hx, hb, hr, hlocks, hml, hown, hts, hK⟩ := id C0
  intro n
  induction n with
  | zero =>
    intro v0 v2 v3 v4 hv0 hv2 hv3 hv4 H locs hR hS ls hl hF
    rw [F_X2_origin_14] at hF
    cases hF
  | succ n ih =>
    intro v0 v2 v3 v4 hv0 hv2 hv3 hv4 H locs hR hS ls hl hF
    rw [F_X2_origin_14] at hF
    refine lv_iload hx hb dX2_origin_14 (lv_at hl 3 rfl) ?_
    refine lv_iload_n hx hb dX2_origin_16 rfl (lv_at hl 1 rfl) ?_
    refine x_icmp_ge (tgt := 35) hx hb hv4 hv2 dX2_origin_17 (by decide) (fun ci1 => ?_) (fun ci1 => ?_)
    · rw [if_pos ci1] at hF
      refine lv_iload_n hx hb dX2_origin_35 rfl (lv_at hl 2 rfl) ?_
      cases hF
      exact x_iret hx hb hlocks hK hR hS hr hv3 dX2_origin_36
    · rw [if_neg ci1] at hF
      refine lv_aload_n hx hb dX2_origin_20 rfl (lv_at hl 0 rfl) ?_
      refine lv_iload_n hx hb dX2_origin_21 rfl (lv_at hl 2 rfl) ?_
      obtain ⟨y3, hc2, hF⟩ := xb1_some hF
      refine x_cVr (C := RX2) (T := TX2) (N := 8) (ci := 2) (As := [.int (jI v3)]) (rest := []) hx hb hml hown hts hK hR hS (c_X2_at hv0 hv3 hc2) (ok1 hv0) rfl rfl wd254 wd255 wd256 wd2 wd257 hyX2_at ⟨rfl, rfl⟩ ⟨Nat.le_of_ble_eq_true rfl, Nat.le_of_ble_eq_true rfl⟩ hl.1 (Nat.le_of_ble_eq_true rfl) dX2_origin_22 ⟨Nat.zero_le _, Nat.zero_le _⟩ rfl (fun hg4 H locs hR hS => ?_)
      have hj5 : y3 < 99 := lt2 hg4
      refine gf_1_4 hx hb hts hown hK hR hj5 wd47 dX2_origin_25 ?_
      have hg6 : rg (M 2 y3 4) := hR.2 2 y3 4 (by decide)
      refine lv_istore_n (lv' := [(3, .int (jI (M 2 y3 4))), (0, .ref (adr b 1 v0)), (2, .int (jI v2)), (4, .int (jI v4))]) hx hb dX2_origin_28 rfl hl (by decide) rfl (fun ls hl => ?_)
      obtain ⟨hq7, hF⟩ := xk_some hF
      refine x_iinc (lv' := [(4, .int (jI (v4 + (1 : Int)))), (3, .int (jI (M 2 y3 4))), (0, .ref (adr b 1 v0)), (2, .int (jI v2))]) hx hb dX2_origin_29 hl (k := 3) rfl (by decide) rfl (fun ls hl => ?_)
      refine lv_goto (tgt := 14) hx hb dX2_origin_32 (by decide) ?_
      exact ih v0 v2 (M 2 y3 4) (v4 + (1 : Int)) hv0 hv2 hg6 hq7 H locs hR hS ls (lv_sub hl [2, 3, 1, 0] rfl) hF
def F_X2_origin (M : Mm) (o : Nat) (a1 : Int) (a2 : Int) : Option (Int) := (if a2 = (-1 : Int) then (F_X2_origin_14 M  FU o a2 (0 : Int) (0 : Int)) else (F_X2_origin_14 M  FU o a2 a1 (0 : Int)))
set_option maxHeartbeats 4000000 in
set_option maxRecDepth 100000 in
theorem c_X2_origin {l : Launch} {g : Gx} {b : Nat} {M : Mm} {o : Nat} {a1 : Int} {a2 : Int} {r : Int} (ho : o < 3) (ha1 : rg a1) (ha2 : rg a2) (hF : F_X2_origin M o a1 a2 = some r) : Ct l yX2_origin cX2_origin 5 (some .int) rmX2_origin g b [.ref (adr b 1 o), .int (jI a1), .int (jI a2)] M (qI g b r M) := by
  refine ct_of (by decide +kernel) (Nat.le_of_ble_eq_true rfl) ?_
  intro p e s m args below meth c C0 hR ls hl
  obtain ⟨hx, hb, hr, hlocks, hml, hown, hts, hK⟩ := id C0
  have hS : va_S (AA b s.heap.size) s.heap s.heap [] := va_S.rf
  have hl : lv_has ls 5 [(0, .ref (adr b 1 o)), (1, .int (jI a1)), (2, .int (jI a2))] := hl
  obtain ⟨H, hH⟩ : ∃ z, z = s.heap := ⟨_, rfl⟩
  obtain ⟨locs, hlo⟩ : ∃ z : List Loc, z = [] := ⟨_, rfl⟩
  have hR : Rel g b M H := by rw [hH]; exact hR
  have hS : va_S (AA b s.heap.size) s.heap H locs := by rw [hH, hlo]; exact hS
  suffices hW : W p l e rmX2_origin s m args below meth c H locs 0 0 (MQ below (qI g b r M s.heap.size) args s 0 0 (AA b s.heap.size)) (F0 m 0 ls []) by rw [hH, hlo] at hW; exact hW
  rw [F_X2_origin] at hF
  refine lv_iload_n hx hb dX2_origin_0 rfl (lv_at hl 2 rfl) ?_
  refine x_iconst hx hb dX2_origin_1 ?_
  refine x_icmp_ne (tgt := 9) hx hb ha2 (by decide : rg (-1 : Int)) dX2_origin_2 (by decide) (fun ci1 => ?_) (fun ci1 => ?_)
  · rw [if_neg ci1] at hF
    refine lv_iload_n hx hb dX2_origin_9 rfl (lv_at hl 1 rfl) ?_
    refine lv_istore_n (lv' := [(3, .int (jI a1)), (0, .ref (adr b 1 o)), (1, .int (jI a1)), (2, .int (jI a2))]) hx hb dX2_origin_10 rfl hl (by decide) rfl (fun ls hl => ?_)
    refine x_iconst hx hb dX2_origin_11 ?_
    refine lv_istore (lv' := [(4, .int (jI (0 : Int))), (3, .int (jI a1)), (0, .ref (adr b 1 o)), (1, .int (jI a1)), (2, .int (jI a2))]) hx hb dX2_origin_12 hl (by decide) rfl (fun ls hl => ?_)
    exact w_X2_origin_14 C0  FU o a2 a1 (0 : Int) ho ha2 ha1 (by decide : rg (0 : Int)) H locs hR hS ls (lv_sub hl [2, 4, 1, 0] rfl) hF
  · rw [if_pos ci1] at hF
    refine x_iconst hx hb dX2_origin_5 ?_
    refine lv_goto (tgt := 10) hx hb dX2_origin_6 (by decide) ?_
    refine lv_istore_n (lv' := [(3, .int (jI (0 : Int))), (0, .ref (adr b 1 o)), (1, .int (jI a1)), (2, .int (jI a2))]) hx hb dX2_origin_10 rfl hl (by decide) rfl (fun ls hl => ?_)
    refine x_iconst hx hb dX2_origin_11 ?_
    refine lv_istore (lv' := [(4, .int (jI (0 : Int))), (3, .int (jI (0 : Int))), (0, .ref (adr b 1 o)), (1, .int (jI a1)), (2, .int (jI a2))]) hx hb dX2_origin_12 hl (by decide) rfl (fun ls hl => ?_)
    exact w_X2_origin_14 C0  FU o a2 (0 : Int) (0 : Int) ho ha2 (by decide : rg (0 : Int)) (by decide : rg (0 : Int)) H locs hR hS ls (lv_sub hl [2, 4, 1, 0] rfl) hF
abbrev rmX2_found : Room := { frames := 2, cells := 0, slots := 0, locals := 45 }
theorem hyX2_found : yX2_found.cls = RX2 ∧ yX2_found.cls ≠ "java/lang/invoke/MethodHandle" ∧ yX2_found.cls ≠ "java/lang/invoke/VarHandle" ∧ (parseMethodDescriptor yX2_found.desc).map (fun d => d.parameters.length) = some 2 := by decide +kernel
def F_X2_found_157 (rec14 : Mm → Nat → Int → Int → Int → Int → Int → Option (Int × Mm)) (M : Mm) (v0 : Nat) (v5 : Int) (v6 : Int) (v7 : Int) (v8 : Int) : Option (Int × Mm) := (if v6 ≤ 0 then (some (v8, M)) else (if v6 ≤ (8 : Int) then (xk (rg (v6 + (-1 : Int))) (xk (0 ≤ (v6 + (-1 : Int)) ∧ (v6 + (-1 : Int)) < 8) (xk (rg (v7 + (1 : Int))) (rec14 M v0 v8 (M 10 v0 (v6 + (-1 : Int)).toNat) v5 (v6 + (-1 : Int)) (v7 + (1 : Int)))))) else (some (v8, M))))
set_option maxHeartbeats 4000000 in
set_option maxRecDepth 100000 in
theorem w_X2_found_157 {p : Program} {l : Launch} {e : Env} {s : State} {m : MethodId} {args : Array Value} {below : List Frame} {meth : Method} {c : Code} {g : Gx} {b : Nat} (C0 : XA p s m meth c args RX2 cX2_found 10 (some .int) g) {r : Int} {M' : Mm} {rec14 : Mm → Nat → Int → Int → Int → Int → Int → Option (Int × Mm)} (hrec14 : ∀ (M : Mm) (v0 : Nat) (v3 : Int) (v4 : Int) (v5 : Int) (v6 : Int) (v7 : Int) (hv0 : v0 < 3) (hv3 : rg v3) (hv4 : rg v4) (hv5 : rg v5) (hv6 : rg v6) (hv7 : rg v7) (H : Heap) (locs : List Loc), Rel g b M H → va_S (AA b s.heap.size) s.heap H locs → ∀ ls : Array Slot, lv_has ls 10 [(0, .ref (adr b 1 v0)), (3, .int (jI v3)), (4, .int (jI v4)), (5, .int (jI v5)), (6, .int (jI v6)), (7, .int (jI v7))] → rec14 M v0 v3 v4 v5 v6 v7 = some (r, M') → W p l e rmX2_found s m args below meth c H locs 0 0 (MQ below (qI g b r M' s.heap.size) args s 0 0 (AA b s.heap.size)) (F0 m 14 ls [])) : ∀ (M : Mm) (v0 : Nat) (v5 : Int) (v6 : Int) (v7 : Int) (v8 : Int) (hv0 : v0 < 3) (hv5 : rg v5) (hv6 : rg v6) (hv7 : rg v7) (hv8 : rg v8) (H : Heap) (locs : List Loc), Rel g b M H → va_S (AA b s.heap.size) s.heap H locs → ∀ ls : Array Slot, lv_has ls 10 [(0, .ref (adr b 1 v0)), (5, .int (jI v5)), (6, .int (jI v6)), (7, .int (jI v7)), (8, .int (jI v8))] → F_X2_found_157 rec14 M v0 v5 v6 v7 v8 = some (r, M') → W p l e rmX2_found s m args below meth c H locs 0 0 (MQ below (qI g b r M' s.heap.size) args s 0 0 (AA b s.heap.size)) (F0 m 157 ls []) := by
  obtain ⟨hx, hb, hr, hlocks, hml, hown, hts, hK⟩ := id C0
  intro M v0 v5 v6 v7 v8 hv0 hv5 hv6 hv7 hv8 H locs hR hS ls hl hF
  rw [F_X2_found_157] at hF
  refine lv_iload hx hb dX2_found_157 (lv_at hl 2 rfl) ?_
  refine x_if_le (tgt := 172) hx hb hv6 dX2_found_159 (by decide) (fun ci1 => ?_) (fun ci1 => ?_)
  · rw [if_pos ci1] at hF
    refine lv_iload hx hb dX2_found_172 (lv_at hl 4 rfl) ?_
    cases hF
    exact x_iret hx hb hlocks hK hR hS hr hv8 dX2_found_174
  · rw [if_neg ci1] at hF
    refine lv_iload hx hb dX2_found_162 (lv_at hl 2 rfl) ?_
    refine lv_aload_n hx hb dX2_found_164 rfl (lv_at hl 0 rfl) ?_
    refine gf_2_7 hx hb hts hown hK hR hv0 wd96 dX2_found_165 ?_
    refine x_alen (K := 10) (n := (8 : Int)) hx hb hK hR (ok10 hv0) (by decide) (by decide +kernel) dX2_found_168 ?_
    refine x_icmp_le (tgt := 175) hx hb hv6 (by decide : rg (8 : Int)) dX2_found_169 (by decide) (fun ci2 => ?_) (fun ci2 => ?_)
    · rw [if_pos ci2] at hF
      obtain ⟨hq3, hF⟩ := xk_some hF
      refine x_iinc (lv' := [(6, .int (jI (v6 + (-1 : Int)))), (0, .ref (adr b 1 v0)), (5, .int (jI v5)), (7, .int (jI v7)), (8, .int (jI v8))]) hx hb dX2_found_175 hl (k := 2) rfl (by decide) rfl (fun ls hl => ?_)
      refine lv_iload hx hb dX2_found_178 (lv_at hl 4 rfl) ?_
      refine lv_istore_n (lv' := [(3, .int (jI v8)), (6, .int (jI (v6 + (-1 : Int)))), (0, .ref (adr b 1 v0)), (5, .int (jI v5)), (7, .int (jI v7)), (8, .int (jI v8))]) hx hb dX2_found_180 rfl hl (by decide) rfl (fun ls hl => ?_)
      refine lv_aload_n hx hb dX2_found_181 rfl (lv_at hl 2 rfl) ?_
      refine gf_2_7 hx hb hts hown hK hR hv0 wd96 dX2_found_182 ?_
      refine lv_iload hx hb dX2_found_185 (lv_at hl 1 rfl) ?_
      obtain ⟨hi4, hF⟩ := xk_some hF
      refine x_iald (K := 10) hx hb hK hR (ok10 hv0) (by decide) hq3 hi4 dX2_found_187 ?_
      have hg5 : rg (M 10 v0 (v6 + (-1 : Int)).toNat) := hR.2 10 v0 _ (by decide)
      refine lv_istore (lv' := [(4, .int (jI (M 10 v0 (v6 + (-1 : Int)).toNat))), (3, .int (jI v8)), (6, .int (jI (v6 + (-1 : Int)))), (0, .ref (adr b 1 v0)), (5, .int (jI v5)), (7, .int (jI v7)), (8, .int (jI v8))]) hx hb dX2_found_188 hl (by decide) rfl (fun ls hl => ?_)
      obtain ⟨hq6, hF⟩ := xk_some hF
      refine x_iinc (lv' := [(7, .int (jI (v7 + (1 : Int)))), (4, .int (jI (M 10 v0 (v6 + (-1 : Int)).toNat))), (3, .int (jI v8)), (6, .int (jI (v6 + (-1 : Int)))), (0, .ref (adr b 1 v0)), (5, .int (jI v5)), (8, .int (jI v8))]) hx hb dX2_found_190 hl (k := 5) rfl (by decide) rfl (fun ls hl => ?_)
      refine lv_goto (tgt := 14) hx hb dX2_found_193 (by decide) ?_
      exact hrec14 M v0 v8 (M 10 v0 (v6 + (-1 : Int)).toNat) v5 (v6 + (-1 : Int)) (v7 + (1 : Int)) hv0 hv8 hg5 hv5 hq3 hq6 H locs hR hS ls (lv_sub hl [4, 2, 1, 5, 3, 0] rfl) hF
    · rw [if_neg ci2] at hF
      refine lv_iload hx hb dX2_found_172 (lv_at hl 4 rfl) ?_
      cases hF
      exact x_iret hx hb hlocks hK hR hS hr hv8 dX2_found_174
def F_X2_found_136 (rec14 : Mm → Nat → Int → Int → Int → Int → Int → Option (Int × Mm)) (M : Mm) (v0 : Nat) (v5 : Int) (v6 : Int) (v7 : Int) (v8 : Int) (v9 : Nat) : Option (Int × Mm) := (if (M 2 v9 6) = 0 then (F_X2_found_157 rec14 M v0 v5 v6 v7 v8) else (xk (rg (v7 + (1 : Int))) (rec14 M v0 v8 (M 2 v9 6) v5 v6 (v7 + (1 : Int)))))
set_option maxHeartbeats 4000000 in
set_option maxRecDepth 100000 in
theorem w_X2_found_136 {p : Program} {l : Launch} {e : Env} {s : State} {m : MethodId} {args : Array Value} {below : List Frame} {meth : Method} {c : Code} {g : Gx} {b : Nat} (C0 : XA p s m meth c args RX2 cX2_found 10 (some .int) g) {r : Int} {M' : Mm} {rec14 : Mm → Nat → Int → Int → Int → Int → Int → Option (Int × Mm)} (hrec14 : ∀ (M : Mm) (v0 : Nat) (v3 : Int) (v4 : Int) (v5 : Int) (v6 : Int) (v7 : Int) (hv0 : v0 < 3) (hv3 : rg v3) (hv4 : rg v4) (hv5 : rg v5) (hv6 : rg v6) (hv7 : rg v7) (H : Heap) (locs : List Loc), Rel g b M H → va_S (AA b s.heap.size) s.heap H locs → ∀ ls : Array Slot, lv_has ls 10 [(0, .ref (adr b 1 v0)), (3, .int (jI v3)), (4, .int (jI v4)), (5, .int (jI v5)), (6, .int (jI v6)), (7, .int (jI v7))] → rec14 M v0 v3 v4 v5 v6 v7 = some (r, M') → W p l e rmX2_found s m args below meth c H locs 0 0 (MQ below (qI g b r M' s.heap.size) args s 0 0 (AA b s.heap.size)) (F0 m 14 ls [])) : ∀ (M : Mm) (v0 : Nat) (v5 : Int) (v6 : Int) (v7 : Int) (v8 : Int) (v9 : Nat) (hv0 : v0 < 3) (hv5 : rg v5) (hv6 : rg v6) (hv7 : rg v7) (hv8 : rg v8) (hv9 : v9 < 99) (H : Heap) (locs : List Loc), Rel g b M H → va_S (AA b s.heap.size) s.heap H locs → ∀ ls : Array Slot, lv_has ls 10 [(0, .ref (adr b 1 v0)), (5, .int (jI v5)), (6, .int (jI v6)), (7, .int (jI v7)), (8, .int (jI v8)), (9, .ref (adr b 2 v9))] → F_X2_found_136 rec14 M v0 v5 v6 v7 v8 v9 = some (r, M') → W p l e rmX2_found s m args below meth c H locs 0 0 (MQ below (qI g b r M' s.heap.size) args s 0 0 (AA b s.heap.size)) (F0 m 136 ls []) := by
  obtain ⟨hx, hb, hr, hlocks, hml, hown, hts, hK⟩ := id C0
  intro M v0 v5 v6 v7 v8 v9 hv0 hv5 hv6 hv7 hv8 hv9 H locs hR hS ls hl hF
  rw [F_X2_found_136] at hF
  refine lv_aload hx hb dX2_found_136 (lv_at hl 5 rfl) ?_
  refine gf_1_6 hx hb hts hown hK hR hv9 wd52 dX2_found_138 ?_
  have hg1 : rg (M 2 v9 6) := hR.2 2 v9 6 (by decide)
  refine x_if_eq (tgt := 157) hx hb hg1 dX2_found_141 (by decide) (fun ci2 => ?_) (fun ci2 => ?_)
  · rw [if_pos ci2] at hF
    exact w_X2_found_157 C0 hrec14 M v0 v5 v6 v7 v8 hv0 hv5 hv6 hv7 hv8 H locs hR hS ls (lv_sub hl [0, 1, 2, 3, 4] rfl) hF
  · rw [if_neg ci2] at hF
    refine lv_iload hx hb dX2_found_144 (lv_at hl 4 rfl) ?_
    refine lv_istore_n (lv' := [(3, .int (jI v8)), (0, .ref (adr b 1 v0)), (5, .int (jI v5)), (6, .int (jI v6)), (7, .int (jI v7)), (8, .int (jI v8)), (9, .ref (adr b 2 v9))]) hx hb dX2_found_146 rfl hl (by decide) rfl (fun ls hl => ?_)
    refine lv_aload hx hb dX2_found_147 (lv_at hl 6 rfl) ?_
    refine gf_1_6 hx hb hts hown hK hR hv9 wd52 dX2_found_149 ?_
    have hg3 : rg (M 2 v9 6) := hR.2 2 v9 6 (by decide)
    refine lv_istore (lv' := [(4, .int (jI (M 2 v9 6))), (3, .int (jI v8)), (0, .ref (adr b 1 v0)), (5, .int (jI v5)), (6, .int (jI v6)), (7, .int (jI v7)), (8, .int (jI v8)), (9, .ref (adr b 2 v9))]) hx hb dX2_found_152 hl (by decide) rfl (fun ls hl => ?_)
    refine lv_goto (tgt := 190) hx hb dX2_found_154 (by decide) ?_
    obtain ⟨hq4, hF⟩ := xk_some hF
    refine x_iinc (lv' := [(7, .int (jI (v7 + (1 : Int)))), (4, .int (jI (M 2 v9 6))), (3, .int (jI v8)), (0, .ref (adr b 1 v0)), (5, .int (jI v5)), (6, .int (jI v6)), (8, .int (jI v8)), (9, .ref (adr b 2 v9))]) hx hb dX2_found_190 hl (k := 5) rfl (by decide) rfl (fun ls hl => ?_)
    refine lv_goto (tgt := 14) hx hb dX2_found_193 (by decide) ?_
    exact hrec14 M v0 v8 (M 2 v9 6) v5 v6 (v7 + (1 : Int)) hv0 hv8 hg3 hv5 hv6 hq4 H locs hR hS ls (lv_sub hl [3, 2, 1, 4, 5, 0] rfl) hF
def F_X2_found_14  : Nat → Mm → Nat → Int → Int → Int → Int → Int → Option (Int × Mm)
  | 0, _, _, _, _, _, _, _ => none
  | n + 1, M, v0, v3, v4, v5, v6, v7 => (if (16 : Int) < v7 then (some ((-6 : Int), M)) else (xb1 (F_X2_at M v0 v3) fun y3 => (if (M 2 y3 0) = (2 : Int) then (xb1 (F_X2_at M v0 v3) fun y9 => (xb1 (F_X1_nodeNamed M y9 v4) fun y13 => (if y13 = (-1 : Int) then (some ((-1 : Int), M)) else (xb1 (F_X2_at M v0 y13) fun y17 => (if (M 2 y17 0) = (3 : Int) then (xk (rg (v5 + (1 : Int))) (if (v5 + (1 : Int)) ≤ (8 : Int) then (xb1 (F_X2_origin M v0 v3 (M 2 y17 5)) fun y26 => (if (M 2 y17 7) = 0 then (F_X2_found_136 (F_X2_found_14  n) M v0 (v5 + (1 : Int)) v6 v7 y26 y17) else (if v6 < 0 then (F_X2_found_136 (F_X2_found_14  n) M v0 (v5 + (1 : Int)) v6 v7 y26 y17) else (if (8 : Int) ≤ v6 then (F_X2_found_136 (F_X2_found_14  n) M v0 (v5 + (1 : Int)) v6 v7 y26 y17) else (xk (0 ≤ v6 ∧ v6 < 8) (xl (mup M 10 v0 v6.toNat (M 2 y17 7)) fun M34 => (xk (rg (v6 + (1 : Int))) (F_X2_found_136 (F_X2_found_14  n) M34 v0 (v5 + (1 : Int)) (v6 + (1 : Int)) v7 y26 y17)))))))) else (some ((-6 : Int), M)))) else (F_X2_found_157 (F_X2_found_14  n) M v0 v5 v6 v7 y13)))))) else (some ((-3 : Int), M)))))
set_option maxHeartbeats 4000000 in
set_option maxRecDepth 100000 in
theorem w_X2_found_14 {p : Program} {l : Launch} {e : Env} {s : State} {m : MethodId} {args : Array Value} {below : List Frame} {meth : Method} {c : Code} {g : Gx} {b : Nat} (C0 : XA p s m meth c args RX2 cX2_found 10 (some .int) g) {r : Int} {M' : Mm} : ∀ n : Nat, ∀ (M : Mm) (v0 : Nat) (v3 : Int) (v4 : Int) (v5 : Int) (v6 : Int) (v7 : Int) (hv0 : v0 < 3) (hv3 : rg v3) (hv4 : rg v4) (hv5 : rg v5) (hv6 : rg v6) (hv7 : rg v7) (H : Heap) (locs : List Loc), Rel g b M H → va_S (AA b s.heap.size) s.heap H locs → ∀ ls : Array Slot, lv_has ls 10 [(0, .ref (adr b 1 v0)), (3, .int (jI v3)), (4, .int (jI v4)), (5, .int (jI v5)), (6, .int (jI v6)), (7, .int (jI v7))] → F_X2_found_14  n M v0 v3 v4 v5 v6 v7 = some (r, M') → W p l e rmX2_found s m args below meth c H locs 0 0 (MQ below (qI g b r M' s.heap.size) args s 0 0 (AA b s.heap.size)) (F0 m 14 ls []) := by
  obtain ⟨hx, hb, hr, hlocks, hml, hown, hts, hK⟩ := id C0
  intro n
  induction n with
  | zero =>
    intro M v0 v3 v4 v5 v6 v7 hv0 hv3 hv4 hv5 hv6 hv7 H locs hR hS ls hl hF
    rw [F_X2_found_14] at hF
    cases hF
  | succ n ih =>
    intro M v0 v3 v4 v5 v6 v7 hv0 hv3 hv4 hv5 hv6 hv7 H locs hR hS ls hl hF
    rw [F_X2_found_14] at hF
    refine lv_iload hx hb dX2_found_14 (lv_at hl 5 rfl) ?_
    refine x_bipush hx hb (by decide +kernel) dX2_found_16 ?_
    refine x_icmp_gt (tgt := 196) hx hb hv7 (by decide : rg (16 : Int)) dX2_found_18 (by decide) (fun ci1 => ?_) (fun ci1 => ?_)
    · rw [if_pos ci1] at hF
      refine x_bipush hx hb (by decide +kernel) dX2_found_196 ?_
      cases hF
      exact x_iret hx hb hlocks hK hR hS hr (by decide : rg (-6 : Int)) dX2_found_198
    · rw [if_neg ci1] at hF
      refine lv_aload_n hx hb dX2_found_21 rfl (lv_at hl 0 rfl) ?_
      refine lv_iload_n hx hb dX2_found_22 rfl (lv_at hl 1 rfl) ?_
      obtain ⟨y3, hc2, hF⟩ := xb1_some hF
      refine x_cVr (C := RX2) (T := TX2) (N := 8) (ci := 2) (As := [.int (jI v3)]) (rest := []) hx hb hml hown hts hK hR hS (c_X2_at hv0 hv3 hc2) (ok1 hv0) rfl rfl wd254 wd255 wd256 wd2 wd257 hyX2_at ⟨rfl, rfl⟩ ⟨Nat.le_of_ble_eq_true rfl, Nat.le_of_ble_eq_true rfl⟩ hl.1 (Nat.le_of_ble_eq_true rfl) dX2_found_23 ⟨Nat.zero_le _, Nat.zero_le _⟩ rfl (fun hg4 H locs hR hS => ?_)
      have hj5 : y3 < 99 := lt2 hg4
      refine gf_1_0 hx hb hts hown hK hR hj5 wd35 dX2_found_26 ?_
      have hg6 : rg (M 2 y3 0) := hR.2 2 y3 0 (by decide)
      refine x_iconst hx hb dX2_found_29 ?_
      refine x_icmp_eq (tgt := 36) hx hb hg6 (by decide : rg (2 : Int)) dX2_found_30 (by decide) (fun ci7 => ?_) (fun ci7 => ?_)
      · rw [if_pos ci7] at hF
        refine lv_aload_n hx hb dX2_found_36 rfl (lv_at hl 0 rfl) ?_
        refine lv_iload_n hx hb dX2_found_37 rfl (lv_at hl 1 rfl) ?_
        obtain ⟨y9, hc8, hF⟩ := xb1_some hF
        refine x_cVr (C := RX2) (T := TX2) (N := 8) (ci := 2) (As := [.int (jI v3)]) (rest := []) hx hb hml hown hts hK hR hS (c_X2_at hv0 hv3 hc8) (ok1 hv0) rfl rfl wd254 wd255 wd256 wd2 wd257 hyX2_at ⟨rfl, rfl⟩ ⟨Nat.le_of_ble_eq_true rfl, Nat.le_of_ble_eq_true rfl⟩ hl.1 (Nat.le_of_ble_eq_true rfl) dX2_found_38 ⟨Nat.zero_le _, Nat.zero_le _⟩ rfl (fun hg10 H locs hR hS => ?_)
        have hj11 : y9 < 99 := lt2 hg10
        refine lv_iload hx hb dX2_found_41 (lv_at hl 2 rfl) ?_
        obtain ⟨y13, hc12, hF⟩ := xb1_some hF
        refine x_cVi (C := RX1) (T := TX1) (N := 12) (ci := 1) (As := [.int (jI v4)]) (rest := []) hx hb hml hown hts hK hR hS (c_X1_nodeNamed hj11 hv4 hc12) (ok2 hj11) rfl rfl wd573 wd561 wd562 wd3 wd563 hyX1_nodeNamed ⟨rfl, rfl⟩ ⟨Nat.le_of_ble_eq_true rfl, Nat.le_of_ble_eq_true rfl⟩ hl.1 (Nat.le_of_ble_eq_true rfl) dX2_found_43 ⟨Nat.zero_le _, Nat.zero_le _⟩ rfl (fun hg14 H locs hR hS => ?_)
        refine lv_istore (lv' := [(8, .int (jI y13)), (0, .ref (adr b 1 v0)), (3, .int (jI v3)), (4, .int (jI v4)), (5, .int (jI v5)), (6, .int (jI v6)), (7, .int (jI v7))]) hx hb dX2_found_46 hl (by decide) rfl (fun ls hl => ?_)
        refine lv_iload hx hb dX2_found_48 (lv_at hl 0 rfl) ?_
        refine x_iconst hx hb dX2_found_50 ?_
        refine x_icmp_ne (tgt := 56) hx hb hg14 (by decide : rg (-1 : Int)) dX2_found_51 (by decide) (fun ci15 => ?_) (fun ci15 => ?_)
        · rw [if_neg ci15] at hF
          refine lv_aload_n hx hb dX2_found_56 rfl (lv_at hl 1 rfl) ?_
          refine lv_iload hx hb dX2_found_57 (lv_at hl 0 rfl) ?_
          obtain ⟨y17, hc16, hF⟩ := xb1_some hF
          refine x_cVr (C := RX2) (T := TX2) (N := 8) (ci := 2) (As := [.int (jI y13)]) (rest := []) hx hb hml hown hts hK hR hS (c_X2_at hv0 hg14 hc16) (ok1 hv0) rfl rfl wd254 wd255 wd256 wd2 wd257 hyX2_at ⟨rfl, rfl⟩ ⟨Nat.le_of_ble_eq_true rfl, Nat.le_of_ble_eq_true rfl⟩ hl.1 (Nat.le_of_ble_eq_true rfl) dX2_found_59 ⟨Nat.zero_le _, Nat.zero_le _⟩ rfl (fun hg18 H locs hR hS => ?_)
          have hj19 : y17 < 99 := lt2 hg18
          refine lv_astore (lv' := [(9, .ref (adr b 2 y17)), (8, .int (jI y13)), (0, .ref (adr b 1 v0)), (3, .int (jI v3)), (4, .int (jI v4)), (5, .int (jI v5)), (6, .int (jI v6)), (7, .int (jI v7))]) hx hb dX2_found_62 hl (by decide) rfl (fun ls hl => ?_)
          refine lv_aload hx hb dX2_found_64 (lv_at hl 0 rfl) ?_
          refine gf_1_0 hx hb hts hown hK hR hj19 wd35 dX2_found_66 ?_
          have hg20 : rg (M 2 y17 0) := hR.2 2 y17 0 (by decide)
          refine x_iconst hx hb dX2_found_69 ?_
          refine x_icmp_ne (tgt := 157) hx hb hg20 (by decide : rg (3 : Int)) dX2_found_70 (by decide) (fun ci21 => ?_) (fun ci21 => ?_)
          · rw [if_neg ci21] at hF
            exact w_X2_found_157 C0 ih M v0 v5 v6 v7 y13 hv0 hv5 hv6 hv7 hg14 H locs hR hS ls (lv_sub hl [2, 5, 6, 7, 1] rfl) hF
          · rw [if_pos ci21] at hF
            obtain ⟨hq22, hF⟩ := xk_some hF
            refine x_iinc (lv' := [(5, .int (jI (v5 + (1 : Int)))), (9, .ref (adr b 2 y17)), (8, .int (jI y13)), (0, .ref (adr b 1 v0)), (3, .int (jI v3)), (4, .int (jI v4)), (6, .int (jI v6)), (7, .int (jI v7))]) hx hb dX2_found_73 hl (k := 5) rfl (by decide) rfl (fun ls hl => ?_)
            refine lv_iload hx hb dX2_found_76 (lv_at hl 0 rfl) ?_
            refine x_bipush hx hb (by decide +kernel) dX2_found_78 ?_
            refine x_icmp_le (tgt := 86) hx hb hq22 (by decide : rg (8 : Int)) dX2_found_80 (by decide) (fun ci23 => ?_) (fun ci23 => ?_)
            · rw [if_pos ci23] at hF
              refine lv_aload_n hx hb dX2_found_86 rfl (lv_at hl 3 rfl) ?_
              refine lv_iload_n hx hb dX2_found_87 rfl (lv_at hl 4 rfl) ?_
              refine lv_aload hx hb dX2_found_88 (lv_at hl 1 rfl) ?_
              refine gf_1_5 hx hb hts hown hK hR hj19 wd50 dX2_found_90 ?_
              have hg24 : rg (M 2 y17 5) := hR.2 2 y17 5 (by decide)
              obtain ⟨y26, hc25, hF⟩ := xb1_some hF
              refine x_cVi (C := RX2) (T := TX2) (N := 8) (ci := 2) (As := [.int (jI v3), .int (jI (M 2 y17 5))]) (rest := []) hx hb hml hown hts hK hR hS (c_X2_origin hv0 hv3 hg24 hc25) (ok1 hv0) rfl rfl wd574 wd575 wd576 wd2 wd577 hyX2_origin ⟨rfl, rfl⟩ ⟨Nat.le_of_ble_eq_true rfl, Nat.le_of_ble_eq_true rfl⟩ hl.1 (Nat.le_of_ble_eq_true rfl) dX2_found_93 ⟨Nat.zero_le _, Nat.zero_le _⟩ rfl (fun hg27 H locs hR hS => ?_)
              refine lv_istore (lv' := [(8, .int (jI y26)), (5, .int (jI (v5 + (1 : Int)))), (9, .ref (adr b 2 y17)), (0, .ref (adr b 1 v0)), (3, .int (jI v3)), (4, .int (jI v4)), (6, .int (jI v6)), (7, .int (jI v7))]) hx hb dX2_found_96 hl (by decide) rfl (fun ls hl => ?_)
              refine lv_aload hx hb dX2_found_98 (lv_at hl 2 rfl) ?_
              refine gf_1_7 hx hb hts hown hK hR hj19 wd54 dX2_found_100 ?_
              have hg28 : rg (M 2 y17 7) := hR.2 2 y17 7 (by decide)
              refine x_if_eq (tgt := 136) hx hb hg28 dX2_found_103 (by decide) (fun ci29 => ?_) (fun ci29 => ?_)
              · rw [if_pos ci29] at hF
                exact w_X2_found_136 C0 ih M v0 (v5 + (1 : Int)) v6 v7 y26 y17 hv0 hq22 hv6 hv7 hg27 hj19 H locs hR hS ls (lv_sub hl [3, 1, 6, 7, 0, 2] rfl) hF
              · rw [if_neg ci29] at hF
                refine lv_iload hx hb dX2_found_106 (lv_at hl 6 rfl) ?_
                refine x_if_lt (tgt := 136) hx hb hv6 dX2_found_108 (by decide) (fun ci30 => ?_) (fun ci30 => ?_)
                · rw [if_pos ci30] at hF
                  exact w_X2_found_136 C0 ih M v0 (v5 + (1 : Int)) v6 v7 y26 y17 hv0 hq22 hv6 hv7 hg27 hj19 H locs hR hS ls (lv_sub hl [3, 1, 6, 7, 0, 2] rfl) hF
                · rw [if_neg ci30] at hF
                  refine lv_iload hx hb dX2_found_111 (lv_at hl 6 rfl) ?_
                  refine lv_aload_n hx hb dX2_found_113 rfl (lv_at hl 3 rfl) ?_
                  refine gf_2_7 hx hb hts hown hK hR hv0 wd96 dX2_found_114 ?_
                  refine x_alen (K := 10) (n := (8 : Int)) hx hb hK hR (ok10 hv0) (by decide) (by decide +kernel) dX2_found_117 ?_
                  refine x_icmp_ge (tgt := 136) hx hb hv6 (by decide : rg (8 : Int)) dX2_found_118 (by decide) (fun ci31 => ?_) (fun ci31 => ?_)
                  · rw [if_pos ci31] at hF
                    exact w_X2_found_136 C0 ih M v0 (v5 + (1 : Int)) v6 v7 y26 y17 hv0 hq22 hv6 hv7 hg27 hj19 H locs hR hS ls (lv_sub hl [3, 1, 6, 7, 0, 2] rfl) hF
                  · rw [if_neg ci31] at hF
                    refine lv_aload_n hx hb dX2_found_121 rfl (lv_at hl 3 rfl) ?_
                    refine gf_2_7 hx hb hts hown hK hR hv0 wd96 dX2_found_122 ?_
                    refine lv_iload hx hb dX2_found_125 (lv_at hl 6 rfl) ?_
                    refine lv_aload hx hb dX2_found_127 (lv_at hl 2 rfl) ?_
                    refine gf_1_7 hx hb hts hown hK hR hj19 wd54 dX2_found_129 ?_
                    have hg32 : rg (M 2 y17 7) := hR.2 2 y17 7 (by decide)
                    obtain ⟨hi33, hF⟩ := xk_some hF
                    refine x_iast (K := 10) hx hb hK hR hS (ok10 hv0) (by decide) hv6 hg32 hi33 dX2_found_132 (fun H locs hR hS => ?_)
                    obtain ⟨M34, eM, hF⟩ := xl_some hF
                    rw [eM] at hR
                    clear eM
                    obtain ⟨hq35, hF⟩ := xk_some hF
                    refine x_iinc (lv' := [(6, .int (jI (v6 + (1 : Int)))), (8, .int (jI y26)), (5, .int (jI (v5 + (1 : Int)))), (9, .ref (adr b 2 y17)), (0, .ref (adr b 1 v0)), (3, .int (jI v3)), (4, .int (jI v4)), (7, .int (jI v7))]) hx hb dX2_found_133 hl (k := 6) rfl (by decide) rfl (fun ls hl => ?_)
                    exact w_X2_found_136 C0 ih M34 v0 (v5 + (1 : Int)) (v6 + (1 : Int)) v7 y26 y17 hv0 hq22 hq35 hv7 hg27 hj19 H locs hR hS ls (lv_sub hl [4, 2, 0, 7, 1, 3] rfl) hF
            · rw [if_neg ci23] at hF
              refine x_bipush hx hb (by decide +kernel) dX2_found_83 ?_
              cases hF
              exact x_iret hx hb hlocks hK hR hS hr (by decide : rg (-6 : Int)) dX2_found_85
        · rw [if_pos ci15] at hF
          refine x_iconst hx hb dX2_found_54 ?_
          cases hF
          exact x_iret hx hb hlocks hK hR hS hr (by decide : rg (-1 : Int)) dX2_found_55
      · rw [if_neg ci7] at hF
        refine x_bipush hx hb (by decide +kernel) dX2_found_33 ?_
        cases hF
        exact x_iret hx hb hlocks hK hR hS hr (by decide : rg (-3 : Int)) dX2_found_35
def F_X2_found (M : Mm) (o : Nat) (a1 : Int) (a2 : Int) : Option (Int × Mm) := (F_X2_found_14  FU M o a1 a2 (0 : Int) (0 : Int) (0 : Int))
set_option maxHeartbeats 4000000 in
set_option maxRecDepth 100000 in
theorem c_X2_found {l : Launch} {g : Gx} {b : Nat} {M : Mm} {o : Nat} {a1 : Int} {a2 : Int} {r : Int} {M' : Mm} (ho : o < 3) (ha1 : rg a1) (ha2 : rg a2) (hF : F_X2_found M o a1 a2 = some (r, M')) : Ct l yX2_found cX2_found 10 (some .int) rmX2_found g b [.ref (adr b 1 o), .int (jI a1), .int (jI a2)] M (qI g b r M') := by
  refine ct_of (by decide +kernel) (Nat.le_of_ble_eq_true rfl) ?_
  intro p e s m args below meth c C0 hR ls hl
  obtain ⟨hx, hb, hr, hlocks, hml, hown, hts, hK⟩ := id C0
  have hS : va_S (AA b s.heap.size) s.heap s.heap [] := va_S.rf
  have hl : lv_has ls 10 [(0, .ref (adr b 1 o)), (1, .int (jI a1)), (2, .int (jI a2))] := hl
  obtain ⟨H, hH⟩ : ∃ z, z = s.heap := ⟨_, rfl⟩
  obtain ⟨locs, hlo⟩ : ∃ z : List Loc, z = [] := ⟨_, rfl⟩
  have hR : Rel g b M H := by rw [hH]; exact hR
  have hS : va_S (AA b s.heap.size) s.heap H locs := by rw [hH, hlo]; exact hS
  suffices hW : W p l e rmX2_found s m args below meth c H locs 0 0 (MQ below (qI g b r M' s.heap.size) args s 0 0 (AA b s.heap.size)) (F0 m 0 ls []) by rw [hH, hlo] at hW; exact hW
  rw [F_X2_found] at hF
  refine lv_iload_n hx hb dX2_found_0 rfl (lv_at hl 1 rfl) ?_
  refine lv_istore_n (lv' := [(3, .int (jI a1)), (0, .ref (adr b 1 o)), (1, .int (jI a1)), (2, .int (jI a2))]) hx hb dX2_found_1 rfl hl (by decide) rfl (fun ls hl => ?_)
  refine lv_iload_n hx hb dX2_found_2 rfl (lv_at hl 3 rfl) ?_
  refine lv_istore (lv' := [(4, .int (jI a2)), (3, .int (jI a1)), (0, .ref (adr b 1 o)), (1, .int (jI a1)), (2, .int (jI a2))]) hx hb dX2_found_3 hl (by decide) rfl (fun ls hl => ?_)
  refine x_iconst hx hb dX2_found_5 ?_
  refine lv_istore (lv' := [(5, .int (jI (0 : Int))), (4, .int (jI a2)), (3, .int (jI a1)), (0, .ref (adr b 1 o)), (1, .int (jI a1)), (2, .int (jI a2))]) hx hb dX2_found_6 hl (by decide) rfl (fun ls hl => ?_)
  refine x_iconst hx hb dX2_found_8 ?_
  refine lv_istore (lv' := [(6, .int (jI (0 : Int))), (5, .int (jI (0 : Int))), (4, .int (jI a2)), (3, .int (jI a1)), (0, .ref (adr b 1 o)), (1, .int (jI a1)), (2, .int (jI a2))]) hx hb dX2_found_9 hl (by decide) rfl (fun ls hl => ?_)
  refine x_iconst hx hb dX2_found_11 ?_
  refine lv_istore (lv' := [(7, .int (jI (0 : Int))), (6, .int (jI (0 : Int))), (5, .int (jI (0 : Int))), (4, .int (jI a2)), (3, .int (jI a1)), (0, .ref (adr b 1 o)), (1, .int (jI a1)), (2, .int (jI a2))]) hx hb dX2_found_12 hl (by decide) rfl (fun ls hl => ?_)
  exact w_X2_found_14 C0  FU M o a1 a2 (0 : Int) (0 : Int) (0 : Int) ho ha1 ha2 (by decide : rg (0 : Int)) (by decide : rg (0 : Int)) (by decide : rg (0 : Int)) H locs hR hS ls (lv_sub hl [5, 4, 3, 2, 1, 0] rfl) hF
