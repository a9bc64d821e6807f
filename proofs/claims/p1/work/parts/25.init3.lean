abbrev rmX4_init : Room := { frames := 1, cells := 6, slots := 16347, locals := 40 }
theorem hyX4_init : yX4_init.cls ≠ "java/lang/invoke/MethodHandle" ∧ yX4_init.cls ≠ "java/lang/invoke/VarHandle" ∧ (parseMethodDescriptor yX4_init.desc).map (fun d => d.parameters.length) = some 0 := by decide +kernel
def F_X4_init_111  : Nat → Mm → Int → Option (Mm)
  | 0, _, _ => none
  | n + 1, M, v1 => (if (6 : Int) ≤ v1 then (some M) else (xk (0 ≤ v1 ∧ v1 < 6) (xl (mup M 4 0 v1.toNat (-1 : Int)) fun M3 => (xk (rg (v1 + (1 : Int))) (F_X4_init_111  n M3 (v1 + (1 : Int)))))))
set_option maxHeartbeats 4000000 in
set_option maxRecDepth 100000 in
theorem w_X4_init_111 {p : Program} {l : Launch} {e : Env} {s : State} {m : MethodId} {args : Array Value} {below : List Frame} {meth : Method} {c : Code} {g : Gx} {b : Nat} (C0 : XA p s m meth c args RX4 cX4_init 2 none g) {M' : Mm} : ∀ n : Nat, ∀ (M : Mm) (v1 : Int)  (hv1 : rg v1) (H : Heap) (locs : List Loc) (cells slots : Nat), cells + 0 ≤ 6 ∧ slots + 0 ≤ 16347 → Rem g b M [] H → va_S (AM b s.heap.size) s.heap H locs → ∀ ls : Array Slot, lv_has ls 2 [(0, .ref (b + 0)), (1, .int (jI v1))] → F_X4_init_111  n M  v1 = some M' → W p l e rmX4_init s m args below meth c H locs cells slots (MQ below (pV g b M' s.heap.size) args s 6 16347 (AM b s.heap.size)) (F0 m 111 ls []) := by
  obtain ⟨hx, hb, hr, hlocks, hml, hown, hts, hK⟩ := id C0
  intro n
  induction n with
  | zero =>
    intro M v1 hv1 H locs cells slots hbu hR hS ls hl hF
    rw [F_X4_init_111] at hF
    cases hF
  | succ n ih =>
    intro M v1 hv1 H locs cells slots hbu hR hS ls hl hF
    rw [F_X4_init_111] at hF
    refine lv_iload_n hx hb dX4_init_111 rfl (lv_at hl 1 rfl) ?_
    refine x_bipush hx hb (by decide +kernel) dX4_init_112 ?_
    refine x_icmp_ge (tgt := 130) hx hb hv1 (by decide : rg (6 : Int)) dX4_init_114 (by decide) (fun ci1 => ?_) (fun ci1 => ?_)
    · rw [if_pos ci1] at hF
      cases hF
      exact y_vret hx hb hlocks hK hR hS (by have := hbu; omega) (by have := hbu; omega) hr dX4_init_130
    · rw [if_neg ci1] at hF
      refine lv_aload_n hx hb dX4_init_117 rfl (lv_at hl 0 rfl) ?_
      refine hf_3 hx hb hts hown hK hR wd1116 dX4_init_118 ?_
      refine lv_iload_n hx hb dX4_init_121 rfl (lv_at hl 1 rfl) ?_
      refine x_iconst hx hb dX4_init_122 ?_
      obtain ⟨hi2, hF⟩ := xk_some hF
      refine y_iast (K := 4) hx hb hK hR hS (by decide) hv1 (by decide : rg (-1 : Int)) hi2 dX4_init_123 (fun H locs hR hS => ?_)
      obtain ⟨M3, eM, hF⟩ := xl_some hF
      rw [eM] at hR
      clear eM
      obtain ⟨hq4, hF⟩ := xk_some hF
      refine x_iinc (lv' := [(1, .int (jI (v1 + (1 : Int)))), (0, .ref (b + 0))]) hx hb dX4_init_124 hl (k := 1) rfl (by decide) rfl (fun ls hl => ?_)
      refine lv_goto (tgt := 111) hx hb dX4_init_127 (by decide) ?_
      exact ih M3 (v1 + (1 : Int)) hq4 H locs _ _ (by omega) hR hS ls (lv_sub hl [1, 0] rfl) hF
def F_X4_init_70  : Nat → Mm → Int → Option (Mm)
  | 0, _, _ => none
  | n + 1, M, v1 => (if (4 : Int) ≤ v1 then (xl (mcp M 1 0 (0 : Int).toNat 2 0 (0 : Int).toNat (4805 : Int).toNat) fun M2 => (F_X4_init_111  FU M2 (0 : Int))) else (xk (rg ((1600 : Int) + v1)) (xk (0 ≤ ((1600 : Int) + v1) ∧ ((1600 : Int) + v1) < 4805) (xl (mup M 1 0 ((1600 : Int) + v1).toNat (120 : Int)) fun M7 => (xk (rg (v1 + (1 : Int))) (F_X4_init_70  n M7 (v1 + (1 : Int))))))))
set_option maxHeartbeats 4000000 in
set_option maxRecDepth 100000 in
theorem w_X4_init_70 {p : Program} {l : Launch} {e : Env} {s : State} {m : MethodId} {args : Array Value} {below : List Frame} {meth : Method} {c : Code} {g : Gx} {b : Nat} (C0 : XA p s m meth c args RX4 cX4_init 2 none g) {M' : Mm} : ∀ n : Nat, ∀ (M : Mm) (v1 : Int)  (hv1 : rg v1) (H : Heap) (locs : List Loc) (cells slots : Nat), cells + 0 ≤ 6 ∧ slots + 0 ≤ 16347 → Rem g b M [] H → va_S (AM b s.heap.size) s.heap H locs → ∀ ls : Array Slot, lv_has ls 2 [(0, .ref (b + 0)), (1, .int (jI v1))] → F_X4_init_70  n M  v1 = some M' → W p l e rmX4_init s m args below meth c H locs cells slots (MQ below (pV g b M' s.heap.size) args s 6 16347 (AM b s.heap.size)) (F0 m 70 ls []) := by
  obtain ⟨hx, hb, hr, hlocks, hml, hown, hts, hK⟩ := id C0
  intro n
  induction n with
  | zero =>
    intro M v1 hv1 H locs cells slots hbu hR hS ls hl hF
    rw [F_X4_init_70] at hF
    cases hF
  | succ n ih =>
    intro M v1 hv1 H locs cells slots hbu hR hS ls hl hF
    rw [F_X4_init_70] at hF
    refine lv_iload_n hx hb dX4_init_70 rfl (lv_at hl 1 rfl) ?_
    refine x_iconst hx hb dX4_init_71 ?_
    refine x_icmp_ge (tgt := 93) hx hb hv1 (by decide : rg (4 : Int)) dX4_init_72 (by decide) (fun ci1 => ?_) (fun ci1 => ?_)
    · rw [if_pos ci1] at hF
      refine lv_aload_n hx hb dX4_init_93 rfl (lv_at hl 0 rfl) ?_
      refine hf_0 hx hb hts hown hK hR wd1113 dX4_init_94 ?_
      refine x_iconst hx hb dX4_init_97 ?_
      refine lv_aload_n hx hb dX4_init_98 rfl (lv_at hl 0 rfl) ?_
      refine hf_1 hx hb hts hown hK hR wd1114 dX4_init_99 ?_
      refine x_iconst hx hb dX4_init_102 ?_
      refine x_sipush hx hb (by decide +kernel) dX4_init_103 ?_
      refine y_copy (K := 1) (K2 := 2) hx hb hml hl.1 hts hown wd1112 wd348 wd347 wd6 hK hR hS (by decide) (by decide) (by decide : rg (0 : Int)) (by decide : rg (0 : Int)) (by decide : rg (4805 : Int)) (by decide) (by decide) (by decide) (by decide) (by decide) (Nat.le_of_ble_eq_true rfl) (by decide +kernel) dX4_init_106 (fun H locs hR hS => ?_)
      obtain ⟨M2, eM, hF⟩ := xl_some hF
      rw [eM] at hR
      clear eM
      refine x_iconst hx hb dX4_init_109 ?_
      refine lv_istore_n (lv' := [(1, .int (jI (0 : Int))), (0, .ref (b + 0))]) hx hb dX4_init_110 rfl hl (by decide) rfl (fun ls hl => ?_)
      exact w_X4_init_111 C0  FU M2 (0 : Int) (by decide : rg (0 : Int)) H locs _ _ (by omega) hR hS ls (lv_sub hl [1, 0] rfl) hF
    · rw [if_neg ci1] at hF
      refine lv_aload_n hx hb dX4_init_75 rfl (lv_at hl 0 rfl) ?_
      refine hf_0 hx hb hts hown hK hR wd1113 dX4_init_76 ?_
      refine x_sipush hx hb (by decide +kernel) dX4_init_79 ?_
      refine lv_iload_n hx hb dX4_init_82 rfl (lv_at hl 1 rfl) ?_
      obtain ⟨hq5, hF⟩ := xk_some hF
      refine x_iadd hx hb dX4_init_83 ?_
      refine x_bipush hx hb (by decide +kernel) dX4_init_84 ?_
      obtain ⟨hi6, hF⟩ := xk_some hF
      refine y_iast (K := 1) hx hb hK hR hS (by decide) hq5 (by decide : rg (120 : Int)) hi6 dX4_init_86 (fun H locs hR hS => ?_)
      obtain ⟨M7, eM, hF⟩ := xl_some hF
      rw [eM] at hR
      clear eM
      obtain ⟨hq8, hF⟩ := xk_some hF
      refine x_iinc (lv' := [(1, .int (jI (v1 + (1 : Int)))), (0, .ref (b + 0))]) hx hb dX4_init_87 hl (k := 1) rfl (by decide) rfl (fun ls hl => ?_)
      refine lv_goto (tgt := 70) hx hb dX4_init_90 (by decide) ?_
      exact ih M7 (v1 + (1 : Int)) hq8 H locs _ _ (by omega) hR hS ls (lv_sub hl [1, 0] rfl) hF
def F_X4_init_61  (M : Mm) : Option (Mm) := (xk (0 ≤ (0 : Int) ∧ (0 : Int) < 4805) (xl (mup M 1 0 (0 : Int).toNat (2 : Int)) fun M2 => (F_X4_init_70  FU M2 (0 : Int))))
set_option maxHeartbeats 4000000 in
set_option maxRecDepth 100000 in
theorem w_X4_init_61 {p : Program} {l : Launch} {e : Env} {s : State} {m : MethodId} {args : Array Value} {below : List Frame} {meth : Method} {c : Code} {g : Gx} {b : Nat} (C0 : XA p s m meth c args RX4 cX4_init 2 none g) {M' : Mm} : ∀ (M : Mm)    (H : Heap) (locs : List Loc) (cells slots : Nat), cells + 0 ≤ 6 ∧ slots + 0 ≤ 16347 → Rem g b M [] H → va_S (AM b s.heap.size) s.heap H locs → ∀ ls : Array Slot, lv_has ls 2 [(0, .ref (b + 0))] → F_X4_init_61  M  = some M' → W p l e rmX4_init s m args below meth c H locs cells slots (MQ below (pV g b M' s.heap.size) args s 6 16347 (AM b s.heap.size)) (F0 m 61 ls []) := by
  obtain ⟨hx, hb, hr, hlocks, hml, hown, hts, hK⟩ := id C0
  intro M H locs cells slots hbu hR hS ls hl hF
  rw [F_X4_init_61] at hF
  refine lv_aload_n hx hb dX4_init_61 rfl (lv_at hl 0 rfl) ?_
  refine hf_0 hx hb hts hown hK hR wd1113 dX4_init_62 ?_
  refine x_iconst hx hb dX4_init_65 ?_
  refine x_iconst hx hb dX4_init_66 ?_
  obtain ⟨hi1, hF⟩ := xk_some hF
  refine y_iast (K := 1) hx hb hK hR hS (by decide) (by decide : rg (0 : Int)) (by decide : rg (2 : Int)) hi1 dX4_init_67 (fun H locs hR hS => ?_)
  obtain ⟨M2, eM, hF⟩ := xl_some hF
  rw [eM] at hR
  clear eM
  refine x_iconst hx hb dX4_init_68 ?_
  refine lv_istore_n (lv' := [(1, .int (jI (0 : Int))), (0, .ref (b + 0))]) hx hb dX4_init_69 rfl hl (by decide) rfl (fun ls hl => ?_)
  exact w_X4_init_70 C0  FU M2 (0 : Int) (by decide : rg (0 : Int)) H locs _ _ (by omega) hR hS ls (lv_sub hl [1, 0] rfl) hF
def N00 : Mm := fun K _ k => if K = 0 ∧ k = 9 then -1 else 0
set_option maxHeartbeats 4000000 in
set_option maxRecDepth 100000 in
theorem c_X4_init {l : Launch} {g : Gx} {q : Nat} {M' : Mm} (hF : F_X4_init_61 N00 = some M') : Met l yX4_init (Cond.code yX4_init cX4_init 2 none :: wT) rmX4_init (va_Pc [.ref q] (fun U => U.heap.size = q + 1 ∧ va_at g.1 vwCl (q, .inr (4, [.null, .null, .null, .null, .null, .null, .int (jI 0), .int (jI 0), .int (jI 0), .int (jI 0), .int (jI 0), .int (jI 0), .int (jI 0), .long 0])) U.heap ∧ va_K g.1 vwCl (tysX g) U)) (pV g q M' (q + 1)) 6 16347 (AM q (q + 1)) := by
  refine Met.ofW (cc := cX4_init) (maxL := 2) (ret := none) (by decide +kernel) rfl ?_
  intro p e s m args below meth c s₁ B hml hv
  obtain ⟨rfl, hsz, hat, hK⟩ := hv
  have hts := atoms_spec (ws := Cond.code yX4_init cX4_init 2 none :: wT) B.pre
  rw [lg_entry_eq]
  have C0 : XA p s m meth c #[.ref q] RX4 cX4_init 2 none g := ⟨B.exec, B.bytes, B.returns, B.notSynchronized, hml, findClass_of_methodNamed B.named, fun w hw => hts w (List.mem_cons_of_mem _ hw), hK⟩
  have hname : meth.name = "<init>" := (name_of_methodNamed B.named B.method).1
  clear hts
  obtain ⟨hx, hb, hr, hlocks, hml, hown, hts, hK⟩ := id C0
  have hl0 := lv_entry [.ref q] (n := 2) (Nat.le_of_ble_eq_true rfl)
  generalize (lg_sl [Value.ref q] ++ List.replicate (2 - (lg_sl [Value.ref q]).length) Slot.unset).toArray = ls at hl0 ⊢
  have hl : lv_has ls 2 [(0, .ref q)] := hl0
  have hC : CW g (fup (fun _ => none) q (.inr (4, [.null, .null, .null, .null, .null, .null, .int (jI 0), .int (jI 0), .int (jI 0), .int (jI 0), .int (jI 0), .int (jI 0), .int (jI 0), .long 0]))) (q + 1) s.heap := by
    refine ⟨hsz, fun a e9 ha => ?_⟩
    unfold fup at ha
    split at ha
    · rename_i h1
      cases ha
      rw [h1]
      exact hat
    · cases ha
  have hS : va_S (fun a => q ≤ a) s.heap s.heap [] := va_S.rf
  rw [← hsz]
  obtain ⟨H, hH⟩ : ∃ z, z = s.heap := ⟨_, rfl⟩
  obtain ⟨locs, hlo⟩ : ∃ z : List Loc, z = [] := ⟨_, rfl⟩
  have hC : CW g (fup (fun _ => none) q (.inr (4, [.null, .null, .null, .null, .null, .null, .int (jI 0), .int (jI 0), .int (jI 0), .int (jI 0), .int (jI 0), .int (jI 0), .int (jI 0), .long 0]))) (q + 1) H := by rw [hH]; exact hC
  have hS : va_S (fun a => q ≤ a) s.heap H locs := by rw [hH, hlo]; exact hS
  suffices hW : W p l e rmX4_init s m #[.ref q] below meth c H locs 0 0 (MQ below (pV g q M' s.heap.size) #[.ref q] s 6 16347 (AM q s.heap.size)) (F0 m 0 ls []) by rw [hH, hlo] at hW; exact hW
  clear hH hlo
  obtain ⟨f0, ef⟩ : ∃ z : Nat → Option va_E, z = fup (fun _ => none) q (.inr (4, [.null, .null, .null, .null, .null, .null, .int (jI 0), .int (jI 0), .int (jI 0), .int (jI 0), .int (jI 0), .int (jI 0), .int (jI 0), .long 0])) := ⟨_, rfl⟩
  rw [← ef] at hC
  have n0 : f0 q = some (.inr (4, [.null, .null, .null, .null, .null, .null, .int (jI 0), .int (jI 0), .int (jI 0), .int (jI 0), .int (jI 0), .int (jI 0), .int (jI 0), .long 0])) := by rw [ef]; unfold fup; rw [if_pos rfl]
  clear ef
  refine lv_aload_n hx hb dX4_init_0 rfl (lv_at hl 0 rfl) ?_
  refine W.objInit hx hb hown (hts _ wd1111) (hts _ wd20) (hts _ wd21) rfl (by rw [hml]; exact hl.1) rfl dX4_init_1 (Nat.le_of_ble_eq_true rfl) (Nat.le_of_ble_eq_true rfl) ?_
  refine W.eq (g2 := F0 m 4 ls []) rfl ?_
  refine lv_aload_n hx hb dX4_init_4 rfl (lv_at hl 0 rfl) ?_
  refine x_sipush hx hb (by decide +kernel) dX4_init_5 ?_
  refine i_newa (N := 4805) hx hb hts wdInt hK hC hS (by decide) rfl (by decide) (by simp only [rmX4_init]; omega) (by simp only [rmX4_init]; omega) dX4_init_8 (fun H hC hS => ?_)
  obtain ⟨f1, ef⟩ : ∃ z, z = fup f0 (q + 1) (.inl (g.2 0, 4805, .inl (fun _ => jI 0))) := ⟨_, rfl⟩
  rw [← ef] at hC
  have n0 : f1 (q) = some (.inr (4, [.null, .null, .null, .null, .null, .null, .int (jI 0), .int (jI 0), .int (jI 0), .int (jI 0), .int (jI 0), .int (jI 0), .int (jI 0), .long 0])) := by rw [ef]; unfold fup; rw [if_neg (by omega)]; exact n0
  have n1 : f1 (q + 1) = some (.inl (g.2 0, 4805, .inl (fun _ => jI 0))) := by rw [ef]; unfold fup; rw [if_pos rfl]
  clear ef
  have hC : CW g f1 (q + 2) H := hC
  refine i_put (C := RX4) (T := TX4) (N := 14) (ci := 4) (fs := [.null, .null, .null, .null, .null, .null, .int (jI 0), .int (jI 0), .int (jI 0), .int (jI 0), .int (jI 0), .int (jI 0), .int (jI 0), .long 0]) (ty := tyX4 0) (v := .ref (q + 1)) hx hb hts inX4 tyX4 tyX4_ok nmX4 hown hname hK hC hS (by omega) n0 rfl 0 (by decide) wd1113 (fun _ h => h) (fun _ => rfl) (by decide +kernel) rfl rfl (show 0 < 14 by decide) dX4_init_10 (fun H locs hC hS => ?_)
  have hC : CW g (fup f1 (q) (.inr (4, [.ref (q + 1), .null, .null, .null, .null, .null, .int (jI 0), .int (jI 0), .int (jI 0), .int (jI 0), .int (jI 0), .int (jI 0), .int (jI 0), .long 0]))) (q + 2) H := hC
  obtain ⟨f2, ef⟩ : ∃ z, z = fup f1 (q) (.inr (4, [.ref (q + 1), .null, .null, .null, .null, .null, .int (jI 0), .int (jI 0), .int (jI 0), .int (jI 0), .int (jI 0), .int (jI 0), .int (jI 0), .long 0])) := ⟨_, rfl⟩
  rw [← ef] at hC
  have n0 : f2 (q) = some (.inr (4, [.ref (q + 1), .null, .null, .null, .null, .null, .int (jI 0), .int (jI 0), .int (jI 0), .int (jI 0), .int (jI 0), .int (jI 0), .int (jI 0), .long 0])) := by rw [ef]; unfold fup; rw [if_pos rfl]
  have n1 : f2 (q + 1) = some (.inl (g.2 0, 4805, .inl (fun _ => jI 0))) := by rw [ef]; unfold fup; rw [if_neg (by omega)]; exact n1
  clear ef
  refine lv_aload_n hx hb dX4_init_13 rfl (lv_at hl 0 rfl) ?_
  refine x_sipush hx hb (by decide +kernel) dX4_init_14 ?_
  refine i_newa (N := 4805) hx hb hts wdInt hK hC hS (by decide) rfl (by decide) (by simp only [rmX4_init]; omega) (by simp only [rmX4_init]; omega) dX4_init_17 (fun H hC hS => ?_)
  obtain ⟨f3, ef⟩ : ∃ z, z = fup f2 (q + 2) (.inl (g.2 0, 4805, .inl (fun _ => jI 0))) := ⟨_, rfl⟩
  rw [← ef] at hC
  have n0 : f3 (q) = some (.inr (4, [.ref (q + 1), .null, .null, .null, .null, .null, .int (jI 0), .int (jI 0), .int (jI 0), .int (jI 0), .int (jI 0), .int (jI 0), .int (jI 0), .long 0])) := by rw [ef]; unfold fup; rw [if_neg (by omega)]; exact n0
  have n1 : f3 (q + 1) = some (.inl (g.2 0, 4805, .inl (fun _ => jI 0))) := by rw [ef]; unfold fup; rw [if_neg (by omega)]; exact n1
  have n2 : f3 (q + 2) = some (.inl (g.2 0, 4805, .inl (fun _ => jI 0))) := by rw [ef]; unfold fup; rw [if_pos rfl]
  clear ef
  have hC : CW g f3 (q + 3) H := hC
  refine i_put (C := RX4) (T := TX4) (N := 14) (ci := 4) (fs := [.ref (q + 1), .null, .null, .null, .null, .null, .int (jI 0), .int (jI 0), .int (jI 0), .int (jI 0), .int (jI 0), .int (jI 0), .int (jI 0), .long 0]) (ty := tyX4 1) (v := .ref (q + 2)) hx hb hts inX4 tyX4 tyX4_ok nmX4 hown hname hK hC hS (by omega) n0 rfl 1 (by decide) wd1114 (fun _ h => h) (fun _ => rfl) (by decide +kernel) rfl rfl (show 1 < 14 by decide) dX4_init_19 (fun H locs hC hS => ?_)
  have hC : CW g (fup f3 (q) (.inr (4, [.ref (q + 1), .ref (q + 2), .null, .null, .null, .null, .int (jI 0), .int (jI 0), .int (jI 0), .int (jI 0), .int (jI 0), .int (jI 0), .int (jI 0), .long 0]))) (q + 3) H := hC
  obtain ⟨f4, ef⟩ : ∃ z, z = fup f3 (q) (.inr (4, [.ref (q + 1), .ref (q + 2), .null, .null, .null, .null, .int (jI 0), .int (jI 0), .int (jI 0), .int (jI 0), .int (jI 0), .int (jI 0), .int (jI 0), .long 0])) := ⟨_, rfl⟩
  rw [← ef] at hC
  have n0 : f4 (q) = some (.inr (4, [.ref (q + 1), .ref (q + 2), .null, .null, .null, .null, .int (jI 0), .int (jI 0), .int (jI 0), .int (jI 0), .int (jI 0), .int (jI 0), .int (jI 0), .long 0])) := by rw [ef]; unfold fup; rw [if_pos rfl]
  have n1 : f4 (q + 1) = some (.inl (g.2 0, 4805, .inl (fun _ => jI 0))) := by rw [ef]; unfold fup; rw [if_neg (by omega)]; exact n1
  have n2 : f4 (q + 2) = some (.inl (g.2 0, 4805, .inl (fun _ => jI 0))) := by rw [ef]; unfold fup; rw [if_neg (by omega)]; exact n2
  clear ef
  refine lv_aload_n hx hb dX4_init_22 rfl (lv_at hl 0 rfl) ?_
  refine x_sipush hx hb (by decide +kernel) dX4_init_23 ?_
  refine i_newa (N := 4805) hx hb hts wdInt hK hC hS (by decide) rfl (by decide) (by simp only [rmX4_init]; omega) (by simp only [rmX4_init]; omega) dX4_init_26 (fun H hC hS => ?_)
  obtain ⟨f5, ef⟩ : ∃ z, z = fup f4 (q + 3) (.inl (g.2 0, 4805, .inl (fun _ => jI 0))) := ⟨_, rfl⟩
  rw [← ef] at hC
  have n0 : f5 (q) = some (.inr (4, [.ref (q + 1), .ref (q + 2), .null, .null, .null, .null, .int (jI 0), .int (jI 0), .int (jI 0), .int (jI 0), .int (jI 0), .int (jI 0), .int (jI 0), .long 0])) := by rw [ef]; unfold fup; rw [if_neg (by omega)]; exact n0
  have n1 : f5 (q + 1) = some (.inl (g.2 0, 4805, .inl (fun _ => jI 0))) := by rw [ef]; unfold fup; rw [if_neg (by omega)]; exact n1
  have n2 : f5 (q + 2) = some (.inl (g.2 0, 4805, .inl (fun _ => jI 0))) := by rw [ef]; unfold fup; rw [if_neg (by omega)]; exact n2
  have n3 : f5 (q + 3) = some (.inl (g.2 0, 4805, .inl (fun _ => jI 0))) := by rw [ef]; unfold fup; rw [if_pos rfl]
  clear ef
  have hC : CW g f5 (q + 4) H := hC
  refine i_put (C := RX4) (T := TX4) (N := 14) (ci := 4) (fs := [.ref (q + 1), .ref (q + 2), .null, .null, .null, .null, .int (jI 0), .int (jI 0), .int (jI 0), .int (jI 0), .int (jI 0), .int (jI 0), .int (jI 0), .long 0]) (ty := tyX4 2) (v := .ref (q + 3)) hx hb hts inX4 tyX4 tyX4_ok nmX4 hown hname hK hC hS (by omega) n0 rfl 2 (by decide) wd1115 (fun _ h => h) (fun _ => rfl) (by decide +kernel) rfl rfl (show 2 < 14 by decide) dX4_init_28 (fun H locs hC hS => ?_)
  have hC : CW g (fup f5 (q) (.inr (4, [.ref (q + 1), .ref (q + 2), .ref (q + 3), .null, .null, .null, .int (jI 0), .int (jI 0), .int (jI 0), .int (jI 0), .int (jI 0), .int (jI 0), .int (jI 0), .long 0]))) (q + 4) H := hC
  obtain ⟨f6, ef⟩ : ∃ z, z = fup f5 (q) (.inr (4, [.ref (q + 1), .ref (q + 2), .ref (q + 3), .null, .null, .null, .int (jI 0), .int (jI 0), .int (jI 0), .int (jI 0), .int (jI 0), .int (jI 0), .int (jI 0), .long 0])) := ⟨_, rfl⟩
  rw [← ef] at hC
  have n0 : f6 (q) = some (.inr (4, [.ref (q + 1), .ref (q + 2), .ref (q + 3), .null, .null, .null, .int (jI 0), .int (jI 0), .int (jI 0), .int (jI 0), .int (jI 0), .int (jI 0), .int (jI 0), .long 0])) := by rw [ef]; unfold fup; rw [if_pos rfl]
  have n1 : f6 (q + 1) = some (.inl (g.2 0, 4805, .inl (fun _ => jI 0))) := by rw [ef]; unfold fup; rw [if_neg (by omega)]; exact n1
  have n2 : f6 (q + 2) = some (.inl (g.2 0, 4805, .inl (fun _ => jI 0))) := by rw [ef]; unfold fup; rw [if_neg (by omega)]; exact n2
  have n3 : f6 (q + 3) = some (.inl (g.2 0, 4805, .inl (fun _ => jI 0))) := by rw [ef]; unfold fup; rw [if_neg (by omega)]; exact n3
  clear ef
  refine lv_aload_n hx hb dX4_init_31 rfl (lv_at hl 0 rfl) ?_
  refine x_bipush hx hb (by decide +kernel) dX4_init_32 ?_
  refine i_newa (N := 6) hx hb hts wdInt hK hC hS (by decide) rfl (by decide) (by simp only [rmX4_init]; omega) (by simp only [rmX4_init]; omega) dX4_init_34 (fun H hC hS => ?_)
  obtain ⟨f7, ef⟩ : ∃ z, z = fup f6 (q + 4) (.inl (g.2 0, 6, .inl (fun _ => jI 0))) := ⟨_, rfl⟩
  rw [← ef] at hC
  have n0 : f7 (q) = some (.inr (4, [.ref (q + 1), .ref (q + 2), .ref (q + 3), .null, .null, .null, .int (jI 0), .int (jI 0), .int (jI 0), .int (jI 0), .int (jI 0), .int (jI 0), .int (jI 0), .long 0])) := by rw [ef]; unfold fup; rw [if_neg (by omega)]; exact n0
  have n1 : f7 (q + 1) = some (.inl (g.2 0, 4805, .inl (fun _ => jI 0))) := by rw [ef]; unfold fup; rw [if_neg (by omega)]; exact n1
  have n2 : f7 (q + 2) = some (.inl (g.2 0, 4805, .inl (fun _ => jI 0))) := by rw [ef]; unfold fup; rw [if_neg (by omega)]; exact n2
  have n3 : f7 (q + 3) = some (.inl (g.2 0, 4805, .inl (fun _ => jI 0))) := by rw [ef]; unfold fup; rw [if_neg (by omega)]; exact n3
  have n4 : f7 (q + 4) = some (.inl (g.2 0, 6, .inl (fun _ => jI 0))) := by rw [ef]; unfold fup; rw [if_pos rfl]
  clear ef
  have hC : CW g f7 (q + 5) H := hC
  refine i_put (C := RX4) (T := TX4) (N := 14) (ci := 4) (fs := [.ref (q + 1), .ref (q + 2), .ref (q + 3), .null, .null, .null, .int (jI 0), .int (jI 0), .int (jI 0), .int (jI 0), .int (jI 0), .int (jI 0), .int (jI 0), .long 0]) (ty := tyX4 3) (v := .ref (q + 4)) hx hb hts inX4 tyX4 tyX4_ok nmX4 hown hname hK hC hS (by omega) n0 rfl 3 (by decide) wd1116 (fun _ h => h) (fun _ => rfl) (by decide +kernel) rfl rfl (show 3 < 14 by decide) dX4_init_36 (fun H locs hC hS => ?_)
  have hC : CW g (fup f7 (q) (.inr (4, [.ref (q + 1), .ref (q + 2), .ref (q + 3), .ref (q + 4), .null, .null, .int (jI 0), .int (jI 0), .int (jI 0), .int (jI 0), .int (jI 0), .int (jI 0), .int (jI 0), .long 0]))) (q + 5) H := hC
  obtain ⟨f8, ef⟩ : ∃ z, z = fup f7 (q) (.inr (4, [.ref (q + 1), .ref (q + 2), .ref (q + 3), .ref (q + 4), .null, .null, .int (jI 0), .int (jI 0), .int (jI 0), .int (jI 0), .int (jI 0), .int (jI 0), .int (jI 0), .long 0])) := ⟨_, rfl⟩
  rw [← ef] at hC
  have n0 : f8 (q) = some (.inr (4, [.ref (q + 1), .ref (q + 2), .ref (q + 3), .ref (q + 4), .null, .null, .int (jI 0), .int (jI 0), .int (jI 0), .int (jI 0), .int (jI 0), .int (jI 0), .int (jI 0), .long 0])) := by rw [ef]; unfold fup; rw [if_pos rfl]
  have n1 : f8 (q + 1) = some (.inl (g.2 0, 4805, .inl (fun _ => jI 0))) := by rw [ef]; unfold fup; rw [if_neg (by omega)]; exact n1
  have n2 : f8 (q + 2) = some (.inl (g.2 0, 4805, .inl (fun _ => jI 0))) := by rw [ef]; unfold fup; rw [if_neg (by omega)]; exact n2
  have n3 : f8 (q + 3) = some (.inl (g.2 0, 4805, .inl (fun _ => jI 0))) := by rw [ef]; unfold fup; rw [if_neg (by omega)]; exact n3
  have n4 : f8 (q + 4) = some (.inl (g.2 0, 6, .inl (fun _ => jI 0))) := by rw [ef]; unfold fup; rw [if_neg (by omega)]; exact n4
  clear ef
  refine lv_aload_n hx hb dX4_init_39 rfl (lv_at hl 0 rfl) ?_
  refine x_bipush hx hb (by decide +kernel) dX4_init_40 ?_
  refine i_newa (N := 6) hx hb hts wdInt hK hC hS (by decide) rfl (by decide) (by simp only [rmX4_init]; omega) (by simp only [rmX4_init]; omega) dX4_init_42 (fun H hC hS => ?_)
  obtain ⟨f9, ef⟩ : ∃ z, z = fup f8 (q + 5) (.inl (g.2 0, 6, .inl (fun _ => jI 0))) := ⟨_, rfl⟩
  rw [← ef] at hC
  have n0 : f9 (q) = some (.inr (4, [.ref (q + 1), .ref (q + 2), .ref (q + 3), .ref (q + 4), .null, .null, .int (jI 0), .int (jI 0), .int (jI 0), .int (jI 0), .int (jI 0), .int (jI 0), .int (jI 0), .long 0])) := by rw [ef]; unfold fup; rw [if_neg (by omega)]; exact n0
  have n1 : f9 (q + 1) = some (.inl (g.2 0, 4805, .inl (fun _ => jI 0))) := by rw [ef]; unfold fup; rw [if_neg (by omega)]; exact n1
  have n2 : f9 (q + 2) = some (.inl (g.2 0, 4805, .inl (fun _ => jI 0))) := by rw [ef]; unfold fup; rw [if_neg (by omega)]; exact n2
  have n3 : f9 (q + 3) = some (.inl (g.2 0, 4805, .inl (fun _ => jI 0))) := by rw [ef]; unfold fup; rw [if_neg (by omega)]; exact n3
  have n4 : f9 (q + 4) = some (.inl (g.2 0, 6, .inl (fun _ => jI 0))) := by rw [ef]; unfold fup; rw [if_neg (by omega)]; exact n4
  have n5 : f9 (q + 5) = some (.inl (g.2 0, 6, .inl (fun _ => jI 0))) := by rw [ef]; unfold fup; rw [if_pos rfl]
  clear ef
  have hC : CW g f9 (q + 6) H := hC
  refine i_put (C := RX4) (T := TX4) (N := 14) (ci := 4) (fs := [.ref (q + 1), .ref (q + 2), .ref (q + 3), .ref (q + 4), .null, .null, .int (jI 0), .int (jI 0), .int (jI 0), .int (jI 0), .int (jI 0), .int (jI 0), .int (jI 0), .long 0]) (ty := tyX4 4) (v := .ref (q + 5)) hx hb hts inX4 tyX4 tyX4_ok nmX4 hown hname hK hC hS (by omega) n0 rfl 4 (by decide) wd1117 (fun _ h => h) (fun _ => rfl) (by decide +kernel) rfl rfl (show 4 < 14 by decide) dX4_init_44 (fun H locs hC hS => ?_)
  have hC : CW g (fup f9 (q) (.inr (4, [.ref (q + 1), .ref (q + 2), .ref (q + 3), .ref (q + 4), .ref (q + 5), .null, .int (jI 0), .int (jI 0), .int (jI 0), .int (jI 0), .int (jI 0), .int (jI 0), .int (jI 0), .long 0]))) (q + 6) H := hC
  obtain ⟨f10, ef⟩ : ∃ z, z = fup f9 (q) (.inr (4, [.ref (q + 1), .ref (q + 2), .ref (q + 3), .ref (q + 4), .ref (q + 5), .null, .int (jI 0), .int (jI 0), .int (jI 0), .int (jI 0), .int (jI 0), .int (jI 0), .int (jI 0), .long 0])) := ⟨_, rfl⟩
  rw [← ef] at hC
  have n0 : f10 (q) = some (.inr (4, [.ref (q + 1), .ref (q + 2), .ref (q + 3), .ref (q + 4), .ref (q + 5), .null, .int (jI 0), .int (jI 0), .int (jI 0), .int (jI 0), .int (jI 0), .int (jI 0), .int (jI 0), .long 0])) := by rw [ef]; unfold fup; rw [if_pos rfl]
  have n1 : f10 (q + 1) = some (.inl (g.2 0, 4805, .inl (fun _ => jI 0))) := by rw [ef]; unfold fup; rw [if_neg (by omega)]; exact n1
  have n2 : f10 (q + 2) = some (.inl (g.2 0, 4805, .inl (fun _ => jI 0))) := by rw [ef]; unfold fup; rw [if_neg (by omega)]; exact n2
  have n3 : f10 (q + 3) = some (.inl (g.2 0, 4805, .inl (fun _ => jI 0))) := by rw [ef]; unfold fup; rw [if_neg (by omega)]; exact n3
  have n4 : f10 (q + 4) = some (.inl (g.2 0, 6, .inl (fun _ => jI 0))) := by rw [ef]; unfold fup; rw [if_neg (by omega)]; exact n4
  have n5 : f10 (q + 5) = some (.inl (g.2 0, 6, .inl (fun _ => jI 0))) := by rw [ef]; unfold fup; rw [if_neg (by omega)]; exact n5
  clear ef
  refine lv_aload_n hx hb dX4_init_47 rfl (lv_at hl 0 rfl) ?_
  refine x_sipush hx hb (by decide +kernel) dX4_init_48 ?_
  refine i_newa (N := 1920) hx hb hts wdInt hK hC hS (by decide) rfl (by decide) (by simp only [rmX4_init]; omega) (by simp only [rmX4_init]; omega) dX4_init_51 (fun H hC hS => ?_)
  obtain ⟨f11, ef⟩ : ∃ z, z = fup f10 (q + 6) (.inl (g.2 0, 1920, .inl (fun _ => jI 0))) := ⟨_, rfl⟩
  rw [← ef] at hC
  have n0 : f11 (q) = some (.inr (4, [.ref (q + 1), .ref (q + 2), .ref (q + 3), .ref (q + 4), .ref (q + 5), .null, .int (jI 0), .int (jI 0), .int (jI 0), .int (jI 0), .int (jI 0), .int (jI 0), .int (jI 0), .long 0])) := by rw [ef]; unfold fup; rw [if_neg (by omega)]; exact n0
  have n1 : f11 (q + 1) = some (.inl (g.2 0, 4805, .inl (fun _ => jI 0))) := by rw [ef]; unfold fup; rw [if_neg (by omega)]; exact n1
  have n2 : f11 (q + 2) = some (.inl (g.2 0, 4805, .inl (fun _ => jI 0))) := by rw [ef]; unfold fup; rw [if_neg (by omega)]; exact n2
  have n3 : f11 (q + 3) = some (.inl (g.2 0, 4805, .inl (fun _ => jI 0))) := by rw [ef]; unfold fup; rw [if_neg (by omega)]; exact n3
  have n4 : f11 (q + 4) = some (.inl (g.2 0, 6, .inl (fun _ => jI 0))) := by rw [ef]; unfold fup; rw [if_neg (by omega)]; exact n4
  have n5 : f11 (q + 5) = some (.inl (g.2 0, 6, .inl (fun _ => jI 0))) := by rw [ef]; unfold fup; rw [if_neg (by omega)]; exact n5
  have n6 : f11 (q + 6) = some (.inl (g.2 0, 1920, .inl (fun _ => jI 0))) := by rw [ef]; unfold fup; rw [if_pos rfl]
  clear ef
  have hC : CW g f11 (q + 7) H := hC
  refine i_put (C := RX4) (T := TX4) (N := 14) (ci := 4) (fs := [.ref (q + 1), .ref (q + 2), .ref (q + 3), .ref (q + 4), .ref (q + 5), .null, .int (jI 0), .int (jI 0), .int (jI 0), .int (jI 0), .int (jI 0), .int (jI 0), .int (jI 0), .long 0]) (ty := tyX4 5) (v := .ref (q + 6)) hx hb hts inX4 tyX4 tyX4_ok nmX4 hown hname hK hC hS (by omega) n0 rfl 5 (by decide) wd1118 (fun _ h => h) (fun _ => rfl) (by decide +kernel) rfl rfl (show 5 < 14 by decide) dX4_init_53 (fun H locs hC hS => ?_)
  have hC : CW g (fup f11 (q) (.inr (4, [.ref (q + 1), .ref (q + 2), .ref (q + 3), .ref (q + 4), .ref (q + 5), .ref (q + 6), .int (jI 0), .int (jI 0), .int (jI 0), .int (jI 0), .int (jI 0), .int (jI 0), .int (jI 0), .long 0]))) (q + 7) H := hC
  obtain ⟨f12, ef⟩ : ∃ z, z = fup f11 (q) (.inr (4, [.ref (q + 1), .ref (q + 2), .ref (q + 3), .ref (q + 4), .ref (q + 5), .ref (q + 6), .int (jI 0), .int (jI 0), .int (jI 0), .int (jI 0), .int (jI 0), .int (jI 0), .int (jI 0), .long 0])) := ⟨_, rfl⟩
  rw [← ef] at hC
  have n0 : f12 (q) = some (.inr (4, [.ref (q + 1), .ref (q + 2), .ref (q + 3), .ref (q + 4), .ref (q + 5), .ref (q + 6), .int (jI 0), .int (jI 0), .int (jI 0), .int (jI 0), .int (jI 0), .int (jI 0), .int (jI 0), .long 0])) := by rw [ef]; unfold fup; rw [if_pos rfl]
  have n1 : f12 (q + 1) = some (.inl (g.2 0, 4805, .inl (fun _ => jI 0))) := by rw [ef]; unfold fup; rw [if_neg (by omega)]; exact n1
  have n2 : f12 (q + 2) = some (.inl (g.2 0, 4805, .inl (fun _ => jI 0))) := by rw [ef]; unfold fup; rw [if_neg (by omega)]; exact n2
  have n3 : f12 (q + 3) = some (.inl (g.2 0, 4805, .inl (fun _ => jI 0))) := by rw [ef]; unfold fup; rw [if_neg (by omega)]; exact n3
  have n4 : f12 (q + 4) = some (.inl (g.2 0, 6, .inl (fun _ => jI 0))) := by rw [ef]; unfold fup; rw [if_neg (by omega)]; exact n4
  have n5 : f12 (q + 5) = some (.inl (g.2 0, 6, .inl (fun _ => jI 0))) := by rw [ef]; unfold fup; rw [if_neg (by omega)]; exact n5
  have n6 : f12 (q + 6) = some (.inl (g.2 0, 1920, .inl (fun _ => jI 0))) := by rw [ef]; unfold fup; rw [if_neg (by omega)]; exact n6
  clear ef
  refine lv_aload_n hx hb dX4_init_56 rfl (lv_at hl 0 rfl) ?_
  refine x_iconst hx hb dX4_init_57 ?_
  refine i_put (C := RX4) (T := TX4) (N := 14) (ci := 4) (fs := [.ref (q + 1), .ref (q + 2), .ref (q + 3), .ref (q + 4), .ref (q + 5), .ref (q + 6), .int (jI 0), .int (jI 0), .int (jI 0), .int (jI 0), .int (jI 0), .int (jI 0), .int (jI 0), .long 0]) (ty := tyX4 9) (v := .int (jI (-1 : Int))) hx hb hts inX4 tyX4 tyX4_ok nmX4 hown hname hK hC hS (by omega) n0 rfl 9 (by decide) wd1122 (fun _ h => h) (fun _ => rfl) (by decide +kernel) rfl rfl (show 9 < 14 by decide) dX4_init_58 (fun H locs hC hS => ?_)
  have hC : CW g (fup f12 (q) (.inr (4, [.ref (q + 1), .ref (q + 2), .ref (q + 3), .ref (q + 4), .ref (q + 5), .ref (q + 6), .int (jI 0), .int (jI 0), .int (jI 0), .int (jI (-1 : Int)), .int (jI 0), .int (jI 0), .int (jI 0), .long 0]))) (q + 7) H := hC
  obtain ⟨f13, ef⟩ : ∃ z, z = fup f12 (q) (.inr (4, [.ref (q + 1), .ref (q + 2), .ref (q + 3), .ref (q + 4), .ref (q + 5), .ref (q + 6), .int (jI 0), .int (jI 0), .int (jI 0), .int (jI (-1 : Int)), .int (jI 0), .int (jI 0), .int (jI 0), .long 0])) := ⟨_, rfl⟩
  rw [← ef] at hC
  have n0 : f13 (q) = some (.inr (4, [.ref (q + 1), .ref (q + 2), .ref (q + 3), .ref (q + 4), .ref (q + 5), .ref (q + 6), .int (jI 0), .int (jI 0), .int (jI 0), .int (jI (-1 : Int)), .int (jI 0), .int (jI 0), .int (jI 0), .long 0])) := by rw [ef]; unfold fup; rw [if_pos rfl]
  have n1 : f13 (q + 1) = some (.inl (g.2 0, 4805, .inl (fun _ => jI 0))) := by rw [ef]; unfold fup; rw [if_neg (by omega)]; exact n1
  have n2 : f13 (q + 2) = some (.inl (g.2 0, 4805, .inl (fun _ => jI 0))) := by rw [ef]; unfold fup; rw [if_neg (by omega)]; exact n2
  have n3 : f13 (q + 3) = some (.inl (g.2 0, 4805, .inl (fun _ => jI 0))) := by rw [ef]; unfold fup; rw [if_neg (by omega)]; exact n3
  have n4 : f13 (q + 4) = some (.inl (g.2 0, 6, .inl (fun _ => jI 0))) := by rw [ef]; unfold fup; rw [if_neg (by omega)]; exact n4
  have n5 : f13 (q + 5) = some (.inl (g.2 0, 6, .inl (fun _ => jI 0))) := by rw [ef]; unfold fup; rw [if_neg (by omega)]; exact n5
  have n6 : f13 (q + 6) = some (.inl (g.2 0, 1920, .inl (fun _ => jI 0))) := by rw [ef]; unfold fup; rw [if_neg (by omega)]; exact n6
  clear ef
  have hR : Rem g q N00 [] H := by
    refine ⟨fun K hK7 => hC.2 _ _ ?_, fun K k _ => ?_, DYN.nil⟩
    · rcases (show K = 0 ∨ K = 1 ∨ K = 2 ∨ K = 3 ∨ K = 4 ∨ K = 5 ∨ K = 6 by omega) with rfl | rfl | rfl | rfl | rfl | rfl | rfl
      · exact n0
      · exact n1
      · exact n2
      · exact n3
      · exact n4
      · exact n5
      · exact n6
    · unfold N00
      split <;> decide
  have hS : va_S (AM q s.heap.size) s.heap H locs := ⟨hS.1, fun a h1 h2 => hS.2.1 a h1 (fun h3 => h2 (by unfold AM; rw [hsz]; omega)), fun z hz => by have := hS.2.2 z hz; unfold AM; rw [hsz]; omega⟩
  exact w_X4_init_61 C0 N00 H locs _ _ (by omega) hR hS ls (lv_sub hl [0] rfl) hF
