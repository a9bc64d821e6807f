section DR
variable {p : Program} {l : Launch} {e : Env} {R : Room} {s : State} {m : MethodId} {args : Array Value} {below : List Frame} {meth : Method} {c : Code} {H : Heap} {locs : List Loc} {cells slots : Nat} {Q : State → Prop}
variable {cc : ByteArray} {pc : Nat} {ls : Array Slot} {rest : List Value} {g : Gx} {b : Nat} {M : Mm} {ws : List dyE}
theorem x_dret (hexec : p.tables.exec = Jvm.exec) (hb : c.code = cc) (hlocks : meth.locks = false) (hK : va_K g.1 vwCl (tysX g) s) (hR : Rel g b M H) (hS : va_S (AA b s.heap.size) s.heap H locs) (hr : meth.sig.returnType = some .double) {r : UInt64} (hdg : decode cc pc = .ok (.dreturn, 1)) : W p l e R s m args below meth c H locs cells slots (MQ below (qD g b r M s.heap.size) args s cells slots (AA b s.heap.size)) (F0 m pc ls [.double r]) :=
  W.dret hexec hb hr (fun t ht hW => ⟨⟨r, (), rfl, rfl, by rw [ht]; exact hR, va_K.moved hW.alike hK⟩, hS.F ht⟩) hS.2.2 hdg hlocks
abbrev pD (g : Gx) (b : Nat) (r : UInt64) (M : Mm) (sz : Nat) : Array Value → State → Outcome → State → Prop := va_Qd (fun (x : UInt64) (_ : Unit) => x = r) (fun _ t => Wm g b M t) (AM b sz)
theorem y_dret (hexec : p.tables.exec = Jvm.exec) (hb : c.code = cc) (hlocks : meth.locks = false) (hK : va_K g.1 vwCl (tysX g) s) (hR : Rem g b M ws H) (hS : va_S (AM b s.heap.size) s.heap H locs) {mc ms : Nat} (hc1 : cells ≤ mc) (hc2 : slots ≤ ms) {r : UInt64} (hr : meth.sig.returnType = some .double) (hdg : decode cc pc = .ok (.dreturn, 1)) : W p l e R s m args below meth c H locs cells slots (MQ below (pD g b r M s.heap.size) args s mc ms (AM b s.heap.size)) (F0 m pc ls [.double r]) :=
  W.widen hc1 hc2 (W.dret hexec hb hr (fun t ht hW => ⟨⟨r, (), rfl, rfl, by rw [ht]; exact hR.none, va_K.moved hW.alike hK⟩, hS.F ht⟩) hS.2.2 hdg hlocks)
theorem x_cVd (hexec : p.tables.exec = Jvm.exec) (hb : c.code = cc) {nL : Nat} (hml : c.maxLocals = nL) {own : String} (hown : s.vm.findClass own = some m.cls) (hts : ∀ w ∈ wT, w.before args s = true) (hK : va_K g.1 vwCl (tysX g) s) (hR : Rel g b M H) (hS : va_S (AA b s.heap.size) s.heap H locs) {y : MethodName} {bytes : ByteArray} {maxL : Nat} {ret : Option FieldType} {rm : Room} {As : List Value} {K i : Nat} {r : UInt64} {M' : Mm} {index ci N : Nat} {C : String} {T : u_T} {fs : List Value} (hM : Ct l y bytes maxL ret rm g b (.ref (adr b K i) :: As) M (qD g b r M')) (ok : okK K i) (hcell : cellE g b M K i = .inr (ci, fs)) (hc : vwCl[ci]? = some (C, T, N)) (w1 : Cond.methodLink own index y ∈ wT) (w2 : Cond.instanceMethod y ∈ wT) (w3 : Cond.selects C y y ∈ wT) (w4 : Cond.initialized C ∈ wT) (w5 : Cond.code y bytes maxL ret ∈ wT) (hy : y.cls = C ∧ y.cls ≠ "java/lang/invoke/MethodHandle" ∧ y.cls ≠ "java/lang/invoke/VarHandle" ∧ (parseMethodDescriptor y.desc).map (fun d => d.parameters.length) = some As.length) (hrm : rm.cells = 0 ∧ rm.slots = 0) (hroom : rm.frames + 1 ≤ R.frames ∧ 8 + (maxL + 11) + rm.locals ≤ R.locals) (hsz : ls.size = nL) (hst : (rest.map fun v => v.category).sum ≤ 8) (hdg : decode cc pc = .ok (.invokevirtual index, 3)) (hcs : cells ≤ R.cells ∧ slots ≤ R.slots) {st : List Value} (hst0 : st = As.reverse ++ .ref (adr b K i) :: rest)
    (kk : ∀ (H1 : Heap) (locs1 : List Loc), Rel g b M' H1 → va_S (AA b s.heap.size) s.heap H1 locs1 → W p l e R s m args below meth c H1 locs1 cells slots Q (F0 m (pc + 3) ls (.double r :: rest))) : W p l e R s m args below meth c H locs cells slots Q (F0 m pc ls st) := by
  subst hst0
  refine va_calld (va_runV (As := As) (rest := rest) ⟨hexec, hb, hml, hown, hts⟩ (hM H.size) (cwV As.length hts (gV w1 w2 w3 w4 w5) rfl hrm.1 hrm.2 hy hroom) ⟨ct_blind, va_recv (q0 := 0) (fs := fs) hK (hR.P1 ok) hc (by rw [hcell]; rfl), fun U hU hW => ⟨rfl, by rw [hU], by rw [hU]; exact hR, va_K.moved hW.alike hK⟩⟩ rfl rfl hsz rfl (lv_room hst) hdg ⟨hcs.1, hcs.2⟩) hS (fun q _ h => AA_mono hS.1 q h) (fun q h => AA_mono hS.1 q h) (fun r0 u t H1 locs1 ht hvm hw hB hz1 hk1 hS1 => ?_)
  obtain rfl := hw
  exact kk H1 locs1 (by rw [← ht]; exact hB.1) hS1
end DR
abbrev rmX3_meanSize : Room := { frames := 1, cells := 0, slots := 0, locals := 21 }
theorem hyX3_meanSize : yX3_meanSize.cls = RX3 ∧ yX3_meanSize.cls ≠ "java/lang/invoke/MethodHandle" ∧ yX3_meanSize.cls ≠ "java/lang/invoke/VarHandle" ∧ (parseMethodDescriptor yX3_meanSize.desc).map (fun d => d.parameters.length) = some 0 := by decide +kernel
def F_X3_meanSize_10 (M : Mm)  : Nat → Int → Int → Int → Option (UInt64)
  | 0, _, _, _ => none
  | n + 1, v1, v2, v3 => (if (32 : Int) ≤ v3 then (if v1 = 0 then (some FP.dconst0) else none) else (xk (M 0 0 0 = 0 ∨ M 0 0 0 = 1) (xb1 (F_X2_at M ((M 0 0 0).toNat) v3) fun y6 => (if (M 2 y6 0) = (1 : Int) then (xk (rg (v1 + (1 : Int))) (xk (M 0 0 0 = 0 ∨ M 0 0 0 = 1) (xb1 (F_X2_at M ((M 0 0 0).toNat) v3) fun y16 => (xk (rg (v2 + (M 2 y16 3))) (xk (rg (v3 + (1 : Int))) (F_X3_meanSize_10 M  n (v1 + (1 : Int)) (v2 + (M 2 y16 3)) (v3 + (1 : Int)))))))) else (xk (rg (v3 + (1 : Int))) (F_X3_meanSize_10 M  n v1 v2 (v3 + (1 : Int))))))))
set_option maxHeartbeats 4000000 in
set_option maxRecDepth 100000 in
theorem w_X3_meanSize_10 {p : Program} {l : Launch} {e : Env} {s : State} {m : MethodId} {args : Array Value} {below : List Frame} {meth : Method} {c : Code} {g : Gx} {b : Nat} (C0 : XA p s m meth c args RX3 cX3_meanSize 4 (some .double) g) {r : UInt64} {M : Mm} : ∀ n : Nat, ∀ (v1 : Int) (v2 : Int) (v3 : Int) (hv1 : rg v1) (hv2 : rg v2) (hv3 : rg v3) (H : Heap) (locs : List Loc), Rel g b M H → va_S (AA b s.heap.size) s.heap H locs → ∀ ls : Array Slot, lv_has ls 4 [(0, .ref (adr b 0 0)), (1, .int (jI v1)), (2, .int (jI v2)), (3, .int (jI v3))] → F_X3_meanSize_10 M  n v1 v2 v3 = some r → W p l e rmX3_meanSize s m args below meth c H locs 0 0 (MQ below (qD g b r M s.heap.size) args s 0 0 (AA b s.heap.size)) (F0 m 10 ls []) := by
  obtain ⟨hx, hb, hr, hlocks, hml, hown, hts, hK⟩ := id C0
  intro n
  induction n with
  | zero =>
    intro v1 v2 v3 hv1 hv2 hv3 H locs hR hS ls hl hF
    rw [F_X3_meanSize_10] at hF
    cases hF
  | succ n ih =>
    intro v1 v2 v3 hv1 hv2 hv3 H locs hR hS ls hl hF
    rw [F_X3_meanSize_10] at hF
    refine lv_iload_n hx hb dX3_meanSize_10 rfl (lv_at hl 3 rfl) ?_
    refine x_bipush hx hb (by decide +kernel) dX3_meanSize_11 ?_
    refine x_icmp_ge (tgt := 54) hx hb hv3 (by decide : rg (32 : Int)) dX3_meanSize_13 (by decide) (fun ci1 => ?_) (fun ci1 => ?_)
    · rw [if_pos ci1] at hF
      refine lv_iload_n hx hb dX3_meanSize_54 rfl (lv_at hl 1 rfl) ?_
      refine x_if_ne (tgt := 62) hx hb hv1 dX3_meanSize_55 (by decide) (fun ci2 => ?_) (fun ci2 => ?_)
      · rw [if_neg ci2] at hF
        refine lv_iload_n hx hb dX3_meanSize_62 rfl (lv_at hl 2 rfl) ?_
        cases hF
      · rw [if_pos ci2] at hF
        refine lv_dconst0 hx hb dX3_meanSize_58 ?_
        refine lv_goto (tgt := 67) hx hb dX3_meanSize_59 (by decide) ?_
        cases hF
        exact x_dret hx hb hlocks hK hR hS hr dX3_meanSize_67
    · rw [if_neg ci1] at hF
      refine lv_aload_n hx hb dX3_meanSize_16 rfl (lv_at hl 0 rfl) ?_
      refine gf_3_0 hx hb hts hown hK hR wd139 dX3_meanSize_17 ?_
      obtain ⟨ht3, hF⟩ := xk_some hF
      have hj4 : (M 0 0 0).toNat < 3 := by omega
      refine lv_iload_n hx hb dX3_meanSize_20 rfl (lv_at hl 3 rfl) ?_
      obtain ⟨y6, hc5, hF⟩ := xb1_some hF
      refine x_cVr (C := RX2) (T := TX2) (N := 8) (ci := 2) (As := [.int (jI v3)]) (rest := []) hx hb hml hown hts hK hR hS (c_X2_at hj4 hv3 hc5) (ok1 hj4) rfl rfl wd265 wd266 wd267 wd2 wd268 hyX2_at ⟨rfl, rfl⟩ ⟨Nat.le_of_ble_eq_true rfl, Nat.le_of_ble_eq_true rfl⟩ hl.1 (Nat.le_of_ble_eq_true rfl) dX3_meanSize_21 ⟨Nat.zero_le _, Nat.zero_le _⟩ rfl (fun hg7 H locs hR hS => ?_)
      have hj8 : y6 < 99 := lt2 hg7
      refine gf_1_0 hx hb hts hown hK hR hj8 wd37 dX3_meanSize_24 ?_
      have hg9 : rg (M 2 y6 0) := hR.2 2 y6 0 (by decide)
      refine x_iconst hx hb dX3_meanSize_27 ?_
      refine x_icmp_ne (tgt := 48) hx hb hg9 (by decide : rg (1 : Int)) dX3_meanSize_28 (by decide) (fun ci10 => ?_) (fun ci10 => ?_)
      · rw [if_neg ci10] at hF
        obtain ⟨hq11, hF⟩ := xk_some hF
        refine x_iinc (lv' := [(3, .int (jI (v3 + (1 : Int)))), (0, .ref (adr b 0 0)), (1, .int (jI v1)), (2, .int (jI v2))]) hx hb dX3_meanSize_48 hl (k := 3) rfl (by decide) rfl (fun ls hl => ?_)
        refine lv_goto (tgt := 10) hx hb dX3_meanSize_51 (by decide) ?_
        exact ih v1 v2 (v3 + (1 : Int)) hv1 hv2 hq11 H locs hR hS ls (lv_sub hl [1, 2, 3, 0] rfl) hF
      · rw [if_pos ci10] at hF
        obtain ⟨hq12, hF⟩ := xk_some hF
        refine x_iinc (lv' := [(1, .int (jI (v1 + (1 : Int)))), (0, .ref (adr b 0 0)), (2, .int (jI v2)), (3, .int (jI v3))]) hx hb dX3_meanSize_31 hl (k := 1) rfl (by decide) rfl (fun ls hl => ?_)
        refine lv_iload_n hx hb dX3_meanSize_34 rfl (lv_at hl 2 rfl) ?_
        refine lv_aload_n hx hb dX3_meanSize_35 rfl (lv_at hl 1 rfl) ?_
        refine gf_3_0 hx hb hts hown hK hR wd139 dX3_meanSize_36 ?_
        obtain ⟨ht13, hF⟩ := xk_some hF
        have hj14 : (M 0 0 0).toNat < 3 := by omega
        refine lv_iload_n hx hb dX3_meanSize_39 rfl (lv_at hl 3 rfl) ?_
        obtain ⟨y16, hc15, hF⟩ := xb1_some hF
        refine x_cVr (C := RX2) (T := TX2) (N := 8) (ci := 2) (As := [.int (jI v3)]) (rest := [.int (jI v2)]) hx hb hml hown hts hK hR hS (c_X2_at hj14 hv3 hc15) (ok1 hj14) rfl rfl wd265 wd266 wd267 wd2 wd268 hyX2_at ⟨rfl, rfl⟩ ⟨Nat.le_of_ble_eq_true rfl, Nat.le_of_ble_eq_true rfl⟩ hl.1 (Nat.le_of_ble_eq_true rfl) dX3_meanSize_40 ⟨Nat.zero_le _, Nat.zero_le _⟩ rfl (fun hg17 H locs hR hS => ?_)
        have hj18 : y16 < 99 := lt2 hg17
        refine gf_1_3 hx hb hts hown hK hR hj18 wd45 dX3_meanSize_43 ?_
        have hg19 : rg (M 2 y16 3) := hR.2 2 y16 3 (by decide)
        obtain ⟨hq20, hF⟩ := xk_some hF
        refine x_iadd hx hb dX3_meanSize_46 ?_
        refine lv_istore_n (lv' := [(2, .int (jI (v2 + (M 2 y16 3)))), (1, .int (jI (v1 + (1 : Int)))), (0, .ref (adr b 0 0)), (3, .int (jI v3))]) hx hb dX3_meanSize_47 rfl hl (by decide) rfl (fun ls hl => ?_)
        obtain ⟨hq21, hF⟩ := xk_some hF
        refine x_iinc (lv' := [(3, .int (jI (v3 + (1 : Int)))), (2, .int (jI (v2 + (M 2 y16 3)))), (1, .int (jI (v1 + (1 : Int)))), (0, .ref (adr b 0 0))]) hx hb dX3_meanSize_48 hl (k := 3) rfl (by decide) rfl (fun ls hl => ?_)
        refine lv_goto (tgt := 10) hx hb dX3_meanSize_51 (by decide) ?_
        exact ih (v1 + (1 : Int)) (v2 + (M 2 y16 3)) (v3 + (1 : Int)) hq12 hq20 hq21 H locs hR hS ls (lv_sub hl [3, 2, 1, 0] rfl) hF
def F_X3_meanSize (M : Mm) : Option (UInt64) := (xb1 (F_X3_needPower M ) fun _ => (F_X3_meanSize_10 M  FU (0 : Int) (0 : Int) (0 : Int)))
set_option maxHeartbeats 4000000 in
set_option maxRecDepth 100000 in
theorem c_X3_meanSize {l : Launch} {g : Gx} {b : Nat} {M : Mm} {r : UInt64} (hF : F_X3_meanSize M  = some r) : Ct l yX3_meanSize cX3_meanSize 4 (some .double) rmX3_meanSize g b [.ref (adr b 0 0)] M (qD g b r M) := by
  refine ct_of (by decide +kernel) (Nat.le_of_ble_eq_true rfl) ?_
  intro p e s m args below meth c C0 hR ls hl
  obtain ⟨hx, hb, hr, hlocks, hml, hown, hts, hK⟩ := id C0
  have hS : va_S (AA b s.heap.size) s.heap s.heap [] := va_S.rf
  have hl : lv_has ls 4 [(0, .ref (adr b 0 0))] := hl
  obtain ⟨H, hH⟩ : ∃ z, z = s.heap := ⟨_, rfl⟩
  obtain ⟨locs, hlo⟩ : ∃ z : List Loc, z = [] := ⟨_, rfl⟩
  have hR : Rel g b M H := by rw [hH]; exact hR
  have hS : va_S (AA b s.heap.size) s.heap H locs := by rw [hH, hlo]; exact hS
  suffices hW : W p l e rmX3_meanSize s m args below meth c H locs 0 0 (MQ below (qD g b r M s.heap.size) args s 0 0 (AA b s.heap.size)) (F0 m 0 ls []) by rw [hH, hlo] at hW; exact hW
  rw [F_X3_meanSize] at hF
  refine lv_aload_n hx hb dX3_meanSize_0 rfl (lv_at hl 0 rfl) ?_
  obtain ⟨_, hc1, hF⟩ := xb1_some hF
  refine x_cVv (C := RX3) (T := TX3) (N := 9) (ci := 3) (As := []) (rest := []) hx hb hml hown hts hK hR hS (c_X3_needPower  hc1) ok0 rfl rfl wd189 wd191 ws1 wd1 wd192 hyX3_needPower ⟨rfl, rfl⟩ ⟨Nat.le_of_ble_eq_true rfl, Nat.le_of_ble_eq_true rfl⟩ hl.1 (Nat.le_of_ble_eq_true rfl) dX3_meanSize_1 ⟨Nat.zero_le _, Nat.zero_le _⟩ rfl (fun H locs hR hS => ?_)
  refine x_iconst hx hb dX3_meanSize_4 ?_
  refine lv_istore_n (lv' := [(1, .int (jI (0 : Int))), (0, .ref (adr b 0 0))]) hx hb dX3_meanSize_5 rfl hl (by decide) rfl (fun ls hl => ?_)
  refine x_iconst hx hb dX3_meanSize_6 ?_
  refine lv_istore_n (lv' := [(2, .int (jI (0 : Int))), (1, .int (jI (0 : Int))), (0, .ref (adr b 0 0))]) hx hb dX3_meanSize_7 rfl hl (by decide) rfl (fun ls hl => ?_)
  refine x_iconst hx hb dX3_meanSize_8 ?_
  refine lv_istore_n (lv' := [(3, .int (jI (0 : Int))), (2, .int (jI (0 : Int))), (1, .int (jI (0 : Int))), (0, .ref (adr b 0 0))]) hx hb dX3_meanSize_9 rfl hl (by decide) rfl (fun ls hl => ?_)
  exact w_X3_meanSize_10 C0  FU (0 : Int) (0 : Int) (0 : Int) (by decide : rg (0 : Int)) (by decide : rg (0 : Int)) (by decide : rg (0 : Int)) H locs hR hS ls (lv_sub hl [3, 2, 1, 0] rfl) hF
abbrev rmX4_meanSize : Room := { frames := 2, cells := 0, slots := 0, locals := 41 }
theorem hyX4_meanSize : yX4_meanSize.cls = RX4 ∧ yX4_meanSize.cls ≠ "java/lang/invoke/MethodHandle" ∧ yX4_meanSize.cls ≠ "java/lang/invoke/VarHandle" ∧ (parseMethodDescriptor yX4_meanSize.desc).map (fun d => d.parameters.length) = some 0 := by decide +kernel
def F_X4_meanSize_39 (rec15 : Mm → Int → Int → Int → Option (UInt64 × Mm)) (M : Mm) (v2 : Int) (v3 : Int) (s0 : Int) (s1 : Int) : Option (UInt64 × Mm) := (xk (rg (s0 + s1)) (xb1 (F_X4_is M 1 v3 (1 : Int)) fun y3 => (if y3 = 0 then (xk (rg (v2 + (0 : Int))) (xk (rg (v3 + (1 : Int))) (rec15 M (s0 + s1) (v2 + (0 : Int)) (v3 + (1 : Int))))) else (xk (rg ((64 : Int) + v3)) (xk (0 ≤ ((64 : Int) + v3) ∧ ((64 : Int) + v3) < 4805) (xk (rg (v2 + (M 1 0 ((64 : Int) + v3).toNat))) (xk (rg (v3 + (1 : Int))) (rec15 M (s0 + s1) (v2 + (M 1 0 ((64 : Int) + v3).toNat)) (v3 + (1 : Int))))))))))
set_option maxHeartbeats 4000000 in
set_option maxRecDepth 100000 in
theorem w_X4_meanSize_39 {p : Program} {l : Launch} {e : Env} {s : State} {m : MethodId} {args : Array Value} {below : List Frame} {meth : Method} {c : Code} {g : Gx} {b : Nat} (C0 : XA p s m meth c args RX4 cX4_meanSize 4 (some .double) g) {r : UInt64} {M' : Mm} {rec15 : Mm → Int → Int → Int → Option (UInt64 × Mm)} (hrec15 : ∀ (M : Mm) (v1 : Int) (v2 : Int) (v3 : Int)  (hv1 : rg v1) (hv2 : rg v2) (hv3 : rg v3) (H : Heap) (locs : List Loc) (cells slots : Nat), cells + 0 ≤ 0 ∧ slots + 0 ≤ 0 → Rem g b M [] H → va_S (AM b s.heap.size) s.heap H locs → ∀ ls : Array Slot, lv_has ls 4 [(0, .ref (b + 0)), (1, .int (jI v1)), (2, .int (jI v2)), (3, .int (jI v3))] → rec15 M  v1 v2 v3 = some (r, M') → W p l e rmX4_meanSize s m args below meth c H locs cells slots (MQ below (pD g b r M' s.heap.size) args s 0 0 (AM b s.heap.size)) (F0 m 15 ls [])) : ∀ (M : Mm) (v2 : Int) (v3 : Int) (s0 : Int) (s1 : Int)  (hv2 : rg v2) (hv3 : rg v3) (hs0 : rg s0) (hs1 : rg s1) (H : Heap) (locs : List Loc) (cells slots : Nat), cells + 0 ≤ 0 ∧ slots + 0 ≤ 0 → Rem g b M [] H → va_S (AM b s.heap.size) s.heap H locs → ∀ ls : Array Slot, lv_has ls 4 [(0, .ref (b + 0)), (2, .int (jI v2)), (3, .int (jI v3))] → F_X4_meanSize_39 rec15 M  v2 v3 s0 s1 = some (r, M') → W p l e rmX4_meanSize s m args below meth c H locs cells slots (MQ below (pD g b r M' s.heap.size) args s 0 0 (AM b s.heap.size)) (F0 m 39 ls [.int (jI s1), .int (jI s0)]) := by
  obtain ⟨hx, hb, hr, hlocks, hml, hown, hts, hK⟩ := id C0
  intro M v2 v3 s0 s1 hv2 hv3 hs0 hs1 H locs cells slots hbu hR hS ls hl hF
  rw [F_X4_meanSize_39] at hF
  obtain ⟨hq1, hF⟩ := xk_some hF
  refine x_iadd hx hb dX4_meanSize_39 ?_
  refine lv_istore_n (lv' := [(1, .int (jI (s0 + s1))), (0, .ref (b + 0)), (2, .int (jI v2)), (3, .int (jI v3))]) hx hb dX4_meanSize_40 rfl hl (by decide) rfl (fun ls hl => ?_)
  refine lv_iload_n hx hb dX4_meanSize_41 rfl (lv_at hl 2 rfl) ?_
  refine lv_aload_n hx hb dX4_meanSize_42 rfl (lv_at hl 1 rfl) ?_
  refine hf_0 hx hb hts hown hK hR wd1113 dX4_meanSize_43 ?_
  refine lv_iload_n hx hb dX4_meanSize_46 rfl (lv_at hl 3 rfl) ?_
  refine x_iconst hx hb dX4_meanSize_47 ?_
  obtain ⟨y3, hc2, hF⟩ := xb1_some hF
  refine y_cSi (As := [.ref (b + 1), .int (jI v3), .int (jI (1 : Int))]) (rest := [.int (jI v2)]) (wc := []) hx hb hml hown hts hK hR hS hR.none (c_X4_is (by decide) hv3 (by decide : rg (1 : Int)) hc2) wd1194 wd1195 wd5 wd1196 hyX4_is ⟨rfl, rfl⟩ ⟨Nat.le_of_ble_eq_true rfl, Nat.le_of_ble_eq_true rfl⟩ hl.1 (Nat.le_of_ble_eq_true rfl) dX4_meanSize_48 ⟨by have := hbu; simp only [rmX4_meanSize]; omega, by have := hbu; simp only [rmX4_meanSize]; omega⟩ rfl (fun hg4 H locs hR hS => ?_)
  refine x_if_eq (tgt := 66) hx hb hg4 dX4_meanSize_51 (by decide) (fun ci5 => ?_) (fun ci5 => ?_)
  · rw [if_pos ci5] at hF
    refine x_iconst hx hb dX4_meanSize_66 ?_
    obtain ⟨hq6, hF⟩ := xk_some hF
    refine x_iadd hx hb dX4_meanSize_67 ?_
    refine lv_istore_n (lv' := [(2, .int (jI (v2 + (0 : Int)))), (1, .int (jI (s0 + s1))), (0, .ref (b + 0)), (3, .int (jI v3))]) hx hb dX4_meanSize_68 rfl hl (by decide) rfl (fun ls hl => ?_)
    obtain ⟨hq7, hF⟩ := xk_some hF
    refine x_iinc (lv' := [(3, .int (jI (v3 + (1 : Int)))), (2, .int (jI (v2 + (0 : Int)))), (1, .int (jI (s0 + s1))), (0, .ref (b + 0))]) hx hb dX4_meanSize_69 hl (k := 3) rfl (by decide) rfl (fun ls hl => ?_)
    refine lv_goto (tgt := 15) hx hb dX4_meanSize_72 (by decide) ?_
    exact hrec15 M (s0 + s1) (v2 + (0 : Int)) (v3 + (1 : Int)) hq1 hq6 hq7 H locs _ _ (by omega) hR hS ls (lv_sub hl [3, 2, 1, 0] rfl) hF
  · rw [if_neg ci5] at hF
    refine lv_aload_n hx hb dX4_meanSize_54 rfl (lv_at hl 1 rfl) ?_
    refine hf_0 hx hb hts hown hK hR wd1113 dX4_meanSize_55 ?_
    refine x_bipush hx hb (by decide +kernel) dX4_meanSize_58 ?_
    refine lv_iload_n hx hb dX4_meanSize_60 rfl (lv_at hl 3 rfl) ?_
    obtain ⟨hq8, hF⟩ := xk_some hF
    refine x_iadd hx hb dX4_meanSize_61 ?_
    obtain ⟨hi9, hF⟩ := xk_some hF
    refine y_iald (K := 1) hx hb hK hR (by decide) hq8 hi9 dX4_meanSize_62 ?_
    have hg10 : rg (M 1 0 ((64 : Int) + v3).toNat) := hR.2.1 1 _ (Or.inl (by decide))
    refine lv_goto (tgt := 67) hx hb dX4_meanSize_63 (by decide) ?_
    obtain ⟨hq11, hF⟩ := xk_some hF
    refine x_iadd hx hb dX4_meanSize_67 ?_
    refine lv_istore_n (lv' := [(2, .int (jI (v2 + (M 1 0 ((64 : Int) + v3).toNat)))), (1, .int (jI (s0 + s1))), (0, .ref (b + 0)), (3, .int (jI v3))]) hx hb dX4_meanSize_68 rfl hl (by decide) rfl (fun ls hl => ?_)
    obtain ⟨hq12, hF⟩ := xk_some hF
    refine x_iinc (lv' := [(3, .int (jI (v3 + (1 : Int)))), (2, .int (jI (v2 + (M 1 0 ((64 : Int) + v3).toNat)))), (1, .int (jI (s0 + s1))), (0, .ref (b + 0))]) hx hb dX4_meanSize_69 hl (k := 3) rfl (by decide) rfl (fun ls hl => ?_)
    refine lv_goto (tgt := 15) hx hb dX4_meanSize_72 (by decide) ?_
    exact hrec15 M (s0 + s1) (v2 + (M 1 0 ((64 : Int) + v3).toNat)) (v3 + (1 : Int)) hq1 hq11 hq12 H locs _ _ (by omega) hR hS ls (lv_sub hl [3, 2, 1, 0] rfl) hF
def F_X4_meanSize_15  : Nat → Mm → Int → Int → Int → Option (UInt64 × Mm)
  | 0, _, _, _, _ => none
  | n + 1, M, v1, v2, v3 => (if (32 : Int) ≤ v3 then (if v1 = 0 then (some (FP.dconst0, M)) else none) else (xb1 (F_X4_is M 1 v3 (1 : Int)) fun y4 => (if y4 = 0 then (F_X4_meanSize_39 (F_X4_meanSize_15  n) M v2 v3 v1 (0 : Int)) else (F_X4_meanSize_39 (F_X4_meanSize_15  n) M v2 v3 v1 (1 : Int)))))
set_option maxHeartbeats 4000000 in
set_option maxRecDepth 100000 in
theorem w_X4_meanSize_15 {p : Program} {l : Launch} {e : Env} {s : State} {m : MethodId} {args : Array Value} {below : List Frame} {meth : Method} {c : Code} {g : Gx} {b : Nat} (C0 : XA p s m meth c args RX4 cX4_meanSize 4 (some .double) g) {r : UInt64} {M' : Mm} : ∀ n : Nat, ∀ (M : Mm) (v1 : Int) (v2 : Int) (v3 : Int)  (hv1 : rg v1) (hv2 : rg v2) (hv3 : rg v3) (H : Heap) (locs : List Loc) (cells slots : Nat), cells + 0 ≤ 0 ∧ slots + 0 ≤ 0 → Rem g b M [] H → va_S (AM b s.heap.size) s.heap H locs → ∀ ls : Array Slot, lv_has ls 4 [(0, .ref (b + 0)), (1, .int (jI v1)), (2, .int (jI v2)), (3, .int (jI v3))] → F_X4_meanSize_15  n M  v1 v2 v3 = some (r, M') → W p l e rmX4_meanSize s m args below meth c H locs cells slots (MQ below (pD g b r M' s.heap.size) args s 0 0 (AM b s.heap.size)) (F0 m 15 ls []) := by
  obtain ⟨hx, hb, hr, hlocks, hml, hown, hts, hK⟩ := id C0
  intro n
  induction n with
  | zero =>
    intro M v1 v2 v3 hv1 hv2 hv3 H locs cells slots hbu hR hS ls hl hF
    rw [F_X4_meanSize_15] at hF
    cases hF
  | succ n ih =>
    intro M v1 v2 v3 hv1 hv2 hv3 H locs cells slots hbu hR hS ls hl hF
    rw [F_X4_meanSize_15] at hF
    refine lv_iload_n hx hb dX4_meanSize_15 rfl (lv_at hl 3 rfl) ?_
    refine x_bipush hx hb (by decide +kernel) dX4_meanSize_16 ?_
    refine x_icmp_ge (tgt := 75) hx hb hv3 (by decide : rg (32 : Int)) dX4_meanSize_18 (by decide) (fun ci1 => ?_) (fun ci1 => ?_)
    · rw [if_pos ci1] at hF
      refine lv_iload_n hx hb dX4_meanSize_75 rfl (lv_at hl 1 rfl) ?_
      refine x_if_ne (tgt := 83) hx hb hv1 dX4_meanSize_76 (by decide) (fun ci2 => ?_) (fun ci2 => ?_)
      · rw [if_neg ci2] at hF
        refine lv_iload_n hx hb dX4_meanSize_83 rfl (lv_at hl 2 rfl) ?_
        cases hF
      · rw [if_pos ci2] at hF
        refine lv_dconst0 hx hb dX4_meanSize_79 ?_
        refine lv_goto (tgt := 88) hx hb dX4_meanSize_80 (by decide) ?_
        cases hF
        exact y_dret hx hb hlocks hK hR hS (by have := hbu; omega) (by have := hbu; omega) hr dX4_meanSize_88
    · rw [if_neg ci1] at hF
      refine lv_iload_n hx hb dX4_meanSize_21 rfl (lv_at hl 1 rfl) ?_
      refine lv_aload_n hx hb dX4_meanSize_22 rfl (lv_at hl 0 rfl) ?_
      refine hf_0 hx hb hts hown hK hR wd1113 dX4_meanSize_23 ?_
      refine lv_iload_n hx hb dX4_meanSize_26 rfl (lv_at hl 3 rfl) ?_
      refine x_iconst hx hb dX4_meanSize_27 ?_
      obtain ⟨y4, hc3, hF⟩ := xb1_some hF
      refine y_cSi (As := [.ref (b + 1), .int (jI v3), .int (jI (1 : Int))]) (rest := [.int (jI v1)]) (wc := []) hx hb hml hown hts hK hR hS hR.none (c_X4_is (by decide) hv3 (by decide : rg (1 : Int)) hc3) wd1194 wd1195 wd5 wd1196 hyX4_is ⟨rfl, rfl⟩ ⟨Nat.le_of_ble_eq_true rfl, Nat.le_of_ble_eq_true rfl⟩ hl.1 (Nat.le_of_ble_eq_true rfl) dX4_meanSize_28 ⟨by have := hbu; simp only [rmX4_meanSize]; omega, by have := hbu; simp only [rmX4_meanSize]; omega⟩ rfl (fun hg5 H locs hR hS => ?_)
      refine x_if_eq (tgt := 38) hx hb hg5 dX4_meanSize_31 (by decide) (fun ci6 => ?_) (fun ci6 => ?_)
      · rw [if_pos ci6] at hF
        refine x_iconst hx hb dX4_meanSize_38 ?_
        exact w_X4_meanSize_39 C0 ih M v2 v3 v1 (0 : Int) hv2 hv3 hv1 (by decide : rg (0 : Int)) H locs _ _ (by omega) hR hS ls (lv_sub hl [0, 2, 3] rfl) hF
      · rw [if_neg ci6] at hF
        refine x_iconst hx hb dX4_meanSize_34 ?_
        refine lv_goto (tgt := 39) hx hb dX4_meanSize_35 (by decide) ?_
        exact w_X4_meanSize_39 C0 ih M v2 v3 v1 (1 : Int) hv2 hv3 hv1 (by decide : rg (1 : Int)) H locs _ _ (by omega) hR hS ls (lv_sub hl [0, 2, 3] rfl) hF
def F_X4_meanSize (M : Mm) : Option (UInt64 × Mm) := (xb2 (F_X4_isOff M ) fun y2 M3 => (if y2 = 0 then (F_X4_meanSize_15  FU M3 (0 : Int) (0 : Int) (0 : Int)) else (some (FP.dconst0, M3))))
set_option maxHeartbeats 4000000 in
set_option maxRecDepth 100000 in
theorem c_X4_meanSize {l : Launch} {g : Gx} {b : Nat} {M : Mm} {r : UInt64} {M' : Mm} (hF : F_X4_meanSize M  = some (r, M')) : Cm l yX4_meanSize cX4_meanSize 4 (some .double) rmX4_meanSize g b [.ref (b + 0)] M [] 0 0 (pD g b r M') := by
  refine cm_of (by decide +kernel) (Nat.le_of_ble_eq_true rfl) ?_
  intro p e s m args below meth c C0 hR ls hl
  obtain ⟨hx, hb, hr, hlocks, hml, hown, hts, hK⟩ := id C0
  have hS : va_S (AM b s.heap.size) s.heap s.heap [] := va_S.rf
  have hl : lv_has ls 4 [(0, .ref (b + 0))] := hl
  obtain ⟨H, hH⟩ : ∃ z, z = s.heap := ⟨_, rfl⟩
  obtain ⟨locs, hlo⟩ : ∃ z : List Loc, z = [] := ⟨_, rfl⟩
  obtain ⟨cells, hce⟩ : ∃ z : Nat, z = 0 := ⟨_, rfl⟩
  obtain ⟨slots, hsl⟩ : ∃ z : Nat, z = 0 := ⟨_, rfl⟩
  have hbu := And.intro hce hsl
  have hR : Rem g b M [] H := by rw [hH]; exact hR
  have hS : va_S (AM b s.heap.size) s.heap H locs := by rw [hH, hlo]; exact hS
  suffices hW : W p l e rmX4_meanSize s m args below meth c H locs cells slots (MQ below (pD g b r M' s.heap.size) args s 0 0 (AM b s.heap.size)) (F0 m 0 ls []) by rw [hH, hlo, hce, hsl] at hW; exact hW
  rw [F_X4_meanSize] at hF
  refine lv_aload_n hx hb dX4_meanSize_0 rfl (lv_at hl 0 rfl) ?_
  obtain ⟨y2, M3, hc1, hF⟩ := xb2_some hF
  refine y_cVi (As := []) (rest := []) (wc := []) hx hb hml hown hts hK hR hS hR.none (c_X4_isOff  hc1) wd1168 wd1170 ws24 wd5 wd1171 hyX4_isOff ⟨rfl, rfl⟩ ⟨Nat.le_of_ble_eq_true rfl, Nat.le_of_ble_eq_true rfl⟩ hl.1 (Nat.le_of_ble_eq_true rfl) dX4_meanSize_1 ⟨by have := hbu; simp only [rmX4_meanSize]; omega, by have := hbu; simp only [rmX4_meanSize]; omega⟩ rfl (fun hg4 H locs hR hS => ?_)
  refine x_if_eq (tgt := 9) hx hb hg4 dX4_meanSize_4 (by decide) (fun ci5 => ?_) (fun ci5 => ?_)
  · rw [if_pos ci5] at hF
    refine x_iconst hx hb dX4_meanSize_9 ?_
    refine lv_istore_n (lv' := [(1, .int (jI (0 : Int))), (0, .ref (b + 0))]) hx hb dX4_meanSize_10 rfl hl (by decide) rfl (fun ls hl => ?_)
    refine x_iconst hx hb dX4_meanSize_11 ?_
    refine lv_istore_n (lv' := [(2, .int (jI (0 : Int))), (1, .int (jI (0 : Int))), (0, .ref (b + 0))]) hx hb dX4_meanSize_12 rfl hl (by decide) rfl (fun ls hl => ?_)
    refine x_iconst hx hb dX4_meanSize_13 ?_
    refine lv_istore_n (lv' := [(3, .int (jI (0 : Int))), (2, .int (jI (0 : Int))), (1, .int (jI (0 : Int))), (0, .ref (b + 0))]) hx hb dX4_meanSize_14 rfl hl (by decide) rfl (fun ls hl => ?_)
    exact w_X4_meanSize_15 C0  FU M3 (0 : Int) (0 : Int) (0 : Int) (by decide : rg (0 : Int)) (by decide : rg (0 : Int)) (by decide : rg (0 : Int)) H locs _ _ (by omega) hR hS ls (lv_sub hl [3, 2, 1, 0] rfl) hF
  · rw [if_neg ci5] at hF
    refine lv_dconst0 hx hb dX4_meanSize_7 ?_
    cases hF
    exact y_dret hx hb hlocks hK hR hS (by have := hbu; omega) (by have := hbu; omega) hr dX4_meanSize_8
section LC
variable {p : Program} {l : Launch} {e : Env} {R : Room} {S : State} {m : MethodId} {below : List Frame} {meth : Method} {c : Code} {H : Heap} {locs : List Loc} {cells slots : Nat} {Q : State → Prop}
variable {pc : Nat} {ls : Array Slot} {rest : List Value} {g : Gx} {b L : Nat} {xs : Nat → Int32}
theorem z_refd (A0 : LA p S m c b L xs g) {q o : Nat} {Mr Mr' : Mm} {Post : Heap → Prop} (hP : ∀ H H' : Heap, H'[o]? = H[o]? → Post H → Post H') (hW : LQ g S.heap.size q o Mr Post H) (hS : va_S (fun a => S.heap.size ≤ a) S.heap H locs)
    {y : MethodName} {bytes : ByteArray} {maxL : Nat} {ret : Option FieldType} {rm : Room} {As : List Value} {r : UInt64} {index mc ms : Nat} (hM : Cm l y bytes maxL ret rm g q (.ref (q + 0) :: As) Mr [] mc ms (pD g q r Mr'))
    (w1 : Cond.methodLink "JournalDiskLaw" index y ∈ wT) (w2 : Cond.instanceMethod y ∈ wT) (w3 : Cond.selects RX4 y y ∈ wT) (w5 : Cond.code y bytes maxL ret ∈ wT) (hy : y.cls = RX4 ∧ y.cls ≠ "java/lang/invoke/MethodHandle" ∧ y.cls ≠ "java/lang/invoke/VarHandle" ∧ (parseMethodDescriptor y.desc).map (fun d => d.parameters.length) = some As.length)
    (hrm : rm.cells = mc ∧ rm.slots = ms) (hroom : rm.frames + 1 ≤ R.frames ∧ 8 + (maxL + 11) + rm.locals ≤ R.locals) (hsz : ls.size = 9) (hst : (rest.map fun v => v.category).sum ≤ 8) (hdg : decode cL_law pc = .ok (.invokevirtual index, 3)) (hcs : cells + mc ≤ R.cells ∧ slots + ms ≤ R.slots) {st : List Value} (hst0 : st = As.reverse ++ .ref q :: rest)
    (kk : ∀ (H1 : Heap) (locs1 : List Loc), LQ g S.heap.size q o Mr' Post H1 → va_S (fun a => S.heap.size ≤ a) S.heap H1 locs1 → W p l e R S m #[.ref b] below meth c H1 locs1 (cells + mc) (slots + ms) Q (F0 m (pc + 3) ls (.double r :: rest))) : W p l e R S m #[.ref b] below meth c H locs cells slots Q (F0 m pc ls st) := by
  subst hst0
  obtain ⟨hx, hb, hml, hown, hts, hX, hbl, hK, hTH, hNP, hNW⟩ := A0
  obtain ⟨hR, hPo, k1, k2, k3⟩ := hW
  have hZ := hS.1
  refine va_calld (va_runV (As := As) (rest := rest) ⟨hx, hb, hml, hown, hts⟩ (hM H.size) (cwV As.length hts (gV w1 w2 w3 wd5 w5) rfl hrm.1 hrm.2 hy hroom) ⟨cm_blind, va_recv (q0 := 0) (ci := 4) (q := (RX4, TX4, 14)) (fs := [.ref (q + 1), .ref (q + 2), .ref (q + 3), .ref (q + 4), .ref (q + 5), .ref (q + 6), .int (jI (Mr 0 0 6)), .int (jI (Mr 0 0 7)), .int (jI (Mr 0 0 8)), .int (jI (Mr 0 0 9)), .int (jI (Mr 0 0 10)), .int (jI (Mr 0 0 11)), .int (jI (Mr 0 0 12)), .long (jL (Mr 0 0 13))]) hK (hR.P1 (K := 0) (by decide)) rfl rfl, fun U hU hW => ⟨rfl, by rw [hU], by rw [hU]; exact hR, va_K.moved hW.alike hK⟩⟩ rfl rfl hsz rfl (lv_room hst) hdg ⟨hcs.1, hcs.2⟩) hS (fun a _ h => ?_) (fun a h => ?_) (fun r0 u t H1 locs1 ht hvm hw hB hz1 hk1 hS1 => ?_)
  · rcases h with h | h <;> omega
  · rcases h with h | h <;> omega
  · subst hw
    exact kk H1 locs1 ⟨by rw [← ht]; exact hB.1, hP H H1 (hk1 o k3 (fun h => by rcases h with h | h <;> omega)) hPo, k1, k2, by omega⟩ hS1
end LC
abbrev rmL_meanSize : Room := { frames := rmX3_meanSize.frames + 1, cells := 1, slots := 6, locals := 8 + (4 + 11) + rmX3_meanSize.locals }
abbrev hhL_meanSize : List (Nat × Nat × Nat × Nat) := [(0, 7, 10, 13)]
set_option maxHeartbeats 4000000 in
set_option maxRecDepth 100000 in
theorem nL_meanSize {l : Launch} {g : Gx} {b o : Nat} {r : UInt64} {M M' : Mm} (hC : Ct l yX3_meanSize cX3_meanSize 4 (some .double) rmX3_meanSize g b [.ref (adr b 0 0)] M (qD g b r M')) : Lt l yL_meanSize cL_meanSize 3 hhL_meanSize rmL_meanSize g b o [.ref (adr b 0 0), .ref o] M (ODp g b o) 0 M' (OD g o r) := by
  refine lt_of (by decide +kernel) (Nat.le_of_ble_eq_true rfl) ?_
  intro p e s m args below meth c C0 hTH hNP hPre hTab hR ls hl
  obtain ⟨hx, hb, hr, hlocks, hml, hown, hts, hK⟩ := id C0
  have hS : va_S (AA b s.heap.size) s.heap s.heap [] := va_S.rf
  have hl : lv_has ls 3 [(0, .ref (adr b 0 0)), (1, .ref o)] := hl
  obtain ⟨H, hH⟩ : ∃ z, z = s.heap := ⟨_, rfl⟩
  obtain ⟨locs, hlo⟩ : ∃ z : List Loc, z = [] := ⟨_, rfl⟩
  have hR : Rel g b M H := by rw [hH]; exact hR
  have hS : va_S (AA b s.heap.size) s.heap H locs := by rw [hH, hlo]; exact hS
  obtain ⟨⟨x0, hO⟩, hA⟩ := hPre
  rw [← hH] at hO
  suffices hW : W p l e rmL_meanSize s m args below meth c H locs 0 0 (vx_MQ below (wqI g b 0 M' (OD g o r) o s.heap.size) noX args s 1 6 (AO b o s.heap.size)) (F0 m 0 ls []) by rw [hH, hlo] at hW; exact hW
  refine lv_aload_n hx hb dL_meanSize_0 rfl (lv_at hl 1 rfl) ?_
  refine lv_iconst hx hb (v := jI 0) dL_meanSize_1 rfl ?_
  refine lv_aload_n hx hb dL_meanSize_2 rfl (lv_at hl 0 rfl) ?_
  refine x_cVd (As := []) (rest := [.int (jI 0), .ref o]) hx hb hml hown hts hK hR hS hC ok0 rfl (ci := 3) (C := RX3) (T := TX3) (N := 9) rfl wd1052 wd1053 wd1054 wd1 wd1055 hyX3_meanSize ⟨rfl, rfl⟩ ⟨Nat.le_of_ble_eq_true rfl, Nat.le_of_ble_eq_true rfl⟩ hl.1 (Nat.le_of_ble_eq_true rfl) dL_meanSize_3 ⟨Nat.zero_le _, Nat.zero_le _⟩ rfl ?_
  intro H1 locs1 hR hS1
  have hO1 : ∃ x, OD g o x H1 := ⟨x0, hO.kept (by
    have h9 := hS1.2.1 o (by obtain ⟨f, h1, -⟩ := hO; rw [hH] at h1; exact (Array.getElem?_eq_some_iff.mp h1).1) hA
    rw [h9, hH])⟩
  have hS := AO_S (o := o) hS1
  refine x_wsd hx hb hK hR hO1 hA hS dL_meanSize_6 ?_
  intro H2 locs2 hR hO2 hS
  refine lv_goto (tgt := 13) hx hb dL_meanSize_7 rfl ?_
  refine lv_iconst hx hb (v := jI 0) dL_meanSize_13 rfl ?_
  exact x_wend hx hb hlocks hK hR hO2 hS hr (Nat.zero_le _) (Nat.zero_le _) dL_meanSize_14
theorem hyLL_meanSize : yL_meanSize.cls = "JournalDiskLaw" ∧ yL_meanSize.cls ≠ "java/lang/invoke/MethodHandle" ∧ yL_meanSize.cls ≠ "java/lang/invoke/VarHandle" ∧ (parseMethodDescriptor yL_meanSize.desc).map (fun d => d.parameters.length) = some 2 := by decide +kernel
set_option maxHeartbeats 4000000 in
set_option maxRecDepth 100000 in
theorem k_meanSize {p : Program} {l : Launch} {e : Env} {S : State} {m : MethodId} {below : List Frame} {meth : Method} {c : Code} {H : Heap} {locs : List Loc} {Q : State → Prop} {ls : Array Slot} {g : Gx} {b L : Nat} {xs : Nat → Int32} (A0 : LA p S m c b L xs g) {q o d : Nat} {M Mr Mr' M' : Mm} (hLW : LW g S.heap.size q o d M Mr H) (hS : va_S (fun a => S.heap.size ≤ a) S.heap H locs) (hl : lv_has ls 9 [(5, .int (jI 0)), (4, .ref d), (3, .ref o), (2, .ref q), (1, .ref S.heap.size), (0, .ref b)]) {r : UInt64} (hrr : ∀ op, Op.cmpValue (FP.dcmp r r) op = 0) (hC : Lt l yL_meanSize cL_meanSize 3 hhL_meanSize rmL_meanSize g S.heap.size d [.ref (adr S.heap.size 0 0), .ref d] M (ODp g S.heap.size d) 0 M' (OD g d r)) (hPre : ODp g S.heap.size d H) (hM : Cm l yX4_meanSize cX4_meanSize 4 (some .double) rmX4_meanSize g q [.ref (q + 0)] Mr [] 0 0 (pD g q r Mr')) (hT : F_X4_thrown Mr' = some 0)
    (kk : ∀ (H1 : Heap) (locs1 : List Loc) (ls1 : Array Slot), va_S (fun a => S.heap.size ≤ a) S.heap H1 locs1 → lv_has ls1 9 [(5, .int (jI 0)), (0, .ref b)] → W p l e room_1 S m #[.ref b] below meth c H1 locs1 (440 + 1 + 0) (25558 + 6 + 0) Q (F0 m 4280 ls1 [])) : W p l e room_1 S m #[.ref b] below meth c H locs 440 25558 Q (F0 m 4128 ls []) := by
  obtain ⟨hx, hb, hml, hown, hts, hX, hbl, hK, hTH, hNP, hNW⟩ := id A0
  refine lv_aload_n hx hb dL_law_4128 rfl (lv_at hl 4 rfl) ?_
  refine lv_aload hx hb dL_law_4129 (lv_at hl 1 rfl) ?_
  refine z_wrap (As := [.ref (adr S.heap.size 0 0), .ref d]) (rest := []) A0 hLW hS (Or.inr rfl) hC hPre wd1049 wd1050 wd1051 hyLL_meanSize ⟨rfl, rfl⟩ ⟨Nat.le_of_ble_eq_true rfl, Nat.le_of_ble_eq_true rfl⟩ hl.1 (Nat.le_of_ble_eq_true rfl) dL_law_4131 ⟨Nat.le_of_ble_eq_true rfl, Nat.le_of_ble_eq_true rfl⟩ rfl (fun H locs hW hS => ?_)
  refine lv_istore (lv' := [(6, .int (jI 0)), (5, .int (jI 0)), (4, .ref d), (3, .ref o), (2, .ref q), (1, .ref S.heap.size), (0, .ref b)]) hx hb dL_law_4134 hl (by decide) rfl (fun ls hl => ?_)
  refine lv_aload_n hx hb dL_law_4136 rfl (lv_at hl 4 rfl) ?_
  refine z_refd (As := []) (rest := []) (mc := 0) (ms := 0) A0 (Post := OD g d r) (fun H H' e h => h.kept e) hW hS hM wd1644 wd1645 wd1646 wd1647 hyX4_meanSize ⟨rfl, rfl⟩ ⟨Nat.le_of_ble_eq_true rfl, Nat.le_of_ble_eq_true rfl⟩ hl.1 (Nat.le_of_ble_eq_true rfl) dL_law_4137 ⟨Nat.le_of_ble_eq_true rfl, Nat.le_of_ble_eq_true rfl⟩ rfl (fun H locs hW hS => ?_)
  refine lv_dstore (lv' := [(7, .double r), (6, .int (jI 0)), (5, .int (jI 0)), (4, .ref d), (3, .ref o), (2, .ref q), (1, .ref S.heap.size), (0, .ref b)]) hx hb dL_law_4140 hl (by decide) rfl (fun ls hl => ?_)
  refine z_thr A0 (Post := OD g d r) (fun H H' e h => h.kept e) hW hS hl.1 (lv_at hl 5 rfl) (lv_at hl 1 rfl) hT wd1156 ⟨Nat.le_of_ble_eq_true rfl, Nat.le_of_ble_eq_true rfl⟩ ⟨Nat.le_of_ble_eq_true rfl, Nat.le_of_ble_eq_true rfl⟩ dL_law_4142 dL_law_4143 dL_law_4146 dL_law_4148 (fun H locs hW hS => ?_)
  have hend : W p l e room_1 S m #[.ref b] below meth c H locs (440 + 1 + 0) (25558 + 6 + 0) Q (F0 m 4190 ls []) := lv_goto (tgt := 4280) hx hb dL_law_4190 rfl (kk H locs ls hS (lv_sub hl [2, 7] rfl))
  refine lv_iload hx hb dL_law_4153 (lv_at hl 1 rfl) ?_
  refine lv_if_ne (tgt := 4190) hx hb dL_law_4155 rfl (fun _ => hend) (fun ci => ?_)
  obtain ⟨f, hf, hv⟩ := hW.2.1
  refine lv_aload hx hb dL_law_4158 (lv_at hl 3 rfl) ?_
  refine lv_iconst (v := jI 0) hx hb dL_law_4160 rfl ?_
  refine va_dald (D := g.1) (cl := vwCl) (tys := tysX g) (ws := [(d, .inl (g.2 5, 1, .inr (.inr (.inr (.inl f)))))]) hx hb hK (fun k q hq => ?_) 0 5 rfl rfl (jI_in rg_0 (by decide)) dL_law_4161 ?_
  · match k, hq with
    | 0, hq => cases hq; exact hf
    | k + 1, hq => simp at hq
  rw [show (jI 0).toNatClampNeg = 0 from by decide +kernel, hv]
  refine lv_dload hx hb dL_law_4162 (lv_at hl 0 rfl) ?_
  refine lv_dcmp hx hb dL_law_4164 ?_
  exact lv_if_eq (tgt := 4190) hx hb dL_law_4165 rfl (fun _ => hend) (fun ci => absurd (hrr _) ci)
