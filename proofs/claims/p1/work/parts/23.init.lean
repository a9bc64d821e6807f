theorem wdInt : Cond.arrayClass .int ∈ wT := wd88
theorem wdLong : Cond.arrayClass .long ∈ wT := wd115
def ndF (g : Gx) (srt : Int) (q : Nat) : Nat → Option va_E := fun a => if a = q then some (.inr (1, [.int (jI srt), .int (jI 0), .int (jI 0), .int (jI 0), .int (jI 0), .int (jI 0), .int (jI 0), .int (jI 0), .int (jI 0), .ref (q + 1), .ref (q + 2), .ref (q + 3)])) else if a = q + 1 then some (.inl (g.2 0, 12, .inl (fun _ => jI 0))) else if a = q + 2 then some (.inl (g.2 0, 12, .inl (fun _ => jI 0))) else if a = q + 3 then some (.inl (g.2 0, 20, .inl (fun _ => jI 0))) else none
def hdF (g : Gx) (q : Nat) : Nat → Option va_E := fun a => if a = q then some (.inr (0, [.int (jI 0), .int (jI 0), .int (jI 0), .ref (q + 1)])) else if a = q + 1 then some (.inl (g.2 0, 320, .inl (fun _ => jI 0))) else none
abbrev rmX1_init : Room := { frames := 1, cells := 3, slots := 44, locals := 32 }
theorem hyX1_init : yX1_init.cls ≠ "java/lang/invoke/MethodHandle" ∧ yX1_init.cls ≠ "java/lang/invoke/VarHandle" ∧ (parseMethodDescriptor yX1_init.desc).map (fun d => d.parameters.length) = some 0 := by decide +kernel
set_option maxHeartbeats 4000000 in
set_option maxRecDepth 100000 in
theorem c_X1_init {l : Launch} {g : Gx} {q : Nat} : IC l yX1_init cX1_init 1 rmX1_init g q (.inr (1, [.int (jI 0), .int (jI 0), .int (jI 0), .int (jI 0), .int (jI 0), .int (jI 0), .int (jI 0), .int (jI 0), .int (jI 0), .null, .null, .null])) (fun _ => True) 4 (ndF g 0 q) 3 44 := by
  refine ic_of (by decide +kernel) (by decide) ?_
  intro p e s m args below meth c C0 hname hNW hC ls hl
  obtain ⟨hx, hb, hr, hlocks, hml, hown, hts, hK⟩ := id C0
  have hown : s.vm.findClass RX1 = some m.cls := hown
  have hS : va_S (fun a => q ≤ a) s.heap s.heap [] := va_S.rf
  obtain ⟨H, hH⟩ : ∃ z, z = s.heap := ⟨_, rfl⟩
  obtain ⟨locs, hlo⟩ : ∃ z : List Loc, z = [] := ⟨_, rfl⟩
  have hC : CW g (fup (fun _ => none) q (.inr (1, [.int (jI 0), .int (jI 0), .int (jI 0), .int (jI 0), .int (jI 0), .int (jI 0), .int (jI 0), .int (jI 0), .int (jI 0), .null, .null, .null]))) (q + 1) H := by rw [hH]; exact hC
  have hS : va_S (fun a => q ≤ a) s.heap H locs := by rw [hH, hlo]; exact hS
  suffices hW : W p l e rmX1_init s m args below meth c H locs 0 0 (MQ below (va_Qv (fun (_ : Unit) => True) (fun _ t => CW g (ndF g 0 q) (q + 4) t.heap) (fun a => q ≤ a)) args s 3 44 (fun a => q ≤ a)) (F0 m 0 ls []) by rw [hH, hlo] at hW; exact hW
  clear hH hlo
  obtain ⟨f0, ef⟩ : ∃ z : Nat → Option va_E, z = fup (fun _ => none) q (.inr (1, [.int (jI 0), .int (jI 0), .int (jI 0), .int (jI 0), .int (jI 0), .int (jI 0), .int (jI 0), .int (jI 0), .int (jI 0), .null, .null, .null])) := ⟨_, rfl⟩
  rw [← ef] at hC
  have n0 : f0 q = some (.inr (1, [.int (jI 0), .int (jI 0), .int (jI 0), .int (jI 0), .int (jI 0), .int (jI 0), .int (jI 0), .int (jI 0), .int (jI 0), .null, .null, .null])) := by rw [ef]; unfold fup; rw [if_pos rfl]
  clear ef
  refine lv_aload_n hx hb dX1_init_0 rfl (lv_at hl 0 rfl) ?_
  refine W.objInit hx hb hown (hts _ wd34) (hts _ wd20) (hts _ wd21) rfl (by rw [hml]; exact hl.1) rfl dX1_init_1 (Nat.le_of_ble_eq_true rfl) (Nat.le_of_ble_eq_true rfl) ?_
  refine W.eq (g2 := F0 m 4 ls []) rfl ?_
  refine lv_aload_n hx hb dX1_init_4 rfl (lv_at hl 0 rfl) ?_
  refine x_iconst hx hb dX1_init_5 ?_
  refine i_put (C := RX1) (T := TX1) (N := 12) (ci := 1) (fs := [.int (jI 0), .int (jI 0), .int (jI 0), .int (jI 0), .int (jI 0), .int (jI 0), .int (jI 0), .int (jI 0), .int (jI 0), .null, .null, .null]) (ty := tyX1 0) (v := .int (jI (0 : Int))) hx hb hts inX1 tyX1 tyX1_ok nmX1 hown hname hK hC hS (by omega) n0 rfl 0 (by decide) wd35 (fun _ h => h) (fun _ => rfl) (by decide +kernel) rfl rfl (show 0 < 12 by decide) dX1_init_6 (fun H locs hC hS => ?_)
  have hC : CW g (fup f0 (q) (.inr (1, [.int (jI (0 : Int)), .int (jI 0), .int (jI 0), .int (jI 0), .int (jI 0), .int (jI 0), .int (jI 0), .int (jI 0), .int (jI 0), .null, .null, .null]))) (q + 1) H := hC
  obtain ⟨f1, ef⟩ : ∃ z, z = fup f0 (q) (.inr (1, [.int (jI (0 : Int)), .int (jI 0), .int (jI 0), .int (jI 0), .int (jI 0), .int (jI 0), .int (jI 0), .int (jI 0), .int (jI 0), .null, .null, .null])) := ⟨_, rfl⟩
  rw [← ef] at hC
  have n0 : f1 (q) = some (.inr (1, [.int (jI (0 : Int)), .int (jI 0), .int (jI 0), .int (jI 0), .int (jI 0), .int (jI 0), .int (jI 0), .int (jI 0), .int (jI 0), .null, .null, .null])) := by rw [ef]; unfold fup; rw [if_pos rfl]
  clear ef
  refine lv_aload_n hx hb dX1_init_9 rfl (lv_at hl 0 rfl) ?_
  refine x_iconst hx hb dX1_init_10 ?_
  refine i_put (C := RX1) (T := TX1) (N := 12) (ci := 1) (fs := [.int (jI (0 : Int)), .int (jI 0), .int (jI 0), .int (jI 0), .int (jI 0), .int (jI 0), .int (jI 0), .int (jI 0), .int (jI 0), .null, .null, .null]) (ty := tyX1 1) (v := .int (jI (0 : Int))) hx hb hts inX1 tyX1 tyX1_ok nmX1 hown hname hK hC hS (by omega) n0 rfl 1 (by decide) wd38 (fun _ h => h) (fun _ => rfl) (by decide +kernel) rfl rfl (show 1 < 12 by decide) dX1_init_11 (fun H locs hC hS => ?_)
  have hC : CW g (fup f1 (q) (.inr (1, [.int (jI (0 : Int)), .int (jI (0 : Int)), .int (jI 0), .int (jI 0), .int (jI 0), .int (jI 0), .int (jI 0), .int (jI 0), .int (jI 0), .null, .null, .null]))) (q + 1) H := hC
  obtain ⟨f2, ef⟩ : ∃ z, z = fup f1 (q) (.inr (1, [.int (jI (0 : Int)), .int (jI (0 : Int)), .int (jI 0), .int (jI 0), .int (jI 0), .int (jI 0), .int (jI 0), .int (jI 0), .int (jI 0), .null, .null, .null])) := ⟨_, rfl⟩
  rw [← ef] at hC
  have n0 : f2 (q) = some (.inr (1, [.int (jI (0 : Int)), .int (jI (0 : Int)), .int (jI 0), .int (jI 0), .int (jI 0), .int (jI 0), .int (jI 0), .int (jI 0), .int (jI 0), .null, .null, .null])) := by rw [ef]; unfold fup; rw [if_pos rfl]
  clear ef
  refine lv_aload_n hx hb dX1_init_14 rfl (lv_at hl 0 rfl) ?_
  refine x_iconst hx hb dX1_init_15 ?_
  refine i_put (C := RX1) (T := TX1) (N := 12) (ci := 1) (fs := [.int (jI (0 : Int)), .int (jI (0 : Int)), .int (jI 0), .int (jI 0), .int (jI 0), .int (jI 0), .int (jI 0), .int (jI 0), .int (jI 0), .null, .null, .null]) (ty := tyX1 2) (v := .int (jI (0 : Int))) hx hb hts inX1 tyX1 tyX1_ok nmX1 hown hname hK hC hS (by omega) n0 rfl 2 (by decide) wd41 (fun _ h => h) (fun _ => rfl) (by decide +kernel) rfl rfl (show 2 < 12 by decide) dX1_init_16 (fun H locs hC hS => ?_)
  have hC : CW g (fup f2 (q) (.inr (1, [.int (jI (0 : Int)), .int (jI (0 : Int)), .int (jI (0 : Int)), .int (jI 0), .int (jI 0), .int (jI 0), .int (jI 0), .int (jI 0), .int (jI 0), .null, .null, .null]))) (q + 1) H := hC
  obtain ⟨f3, ef⟩ : ∃ z, z = fup f2 (q) (.inr (1, [.int (jI (0 : Int)), .int (jI (0 : Int)), .int (jI (0 : Int)), .int (jI 0), .int (jI 0), .int (jI 0), .int (jI 0), .int (jI 0), .int (jI 0), .null, .null, .null])) := ⟨_, rfl⟩
  rw [← ef] at hC
  have n0 : f3 (q) = some (.inr (1, [.int (jI (0 : Int)), .int (jI (0 : Int)), .int (jI (0 : Int)), .int (jI 0), .int (jI 0), .int (jI 0), .int (jI 0), .int (jI 0), .int (jI 0), .null, .null, .null])) := by rw [ef]; unfold fup; rw [if_pos rfl]
  clear ef
  refine lv_aload_n hx hb dX1_init_19 rfl (lv_at hl 0 rfl) ?_
  refine x_iconst hx hb dX1_init_20 ?_
  refine i_put (C := RX1) (T := TX1) (N := 12) (ci := 1) (fs := [.int (jI (0 : Int)), .int (jI (0 : Int)), .int (jI (0 : Int)), .int (jI 0), .int (jI 0), .int (jI 0), .int (jI 0), .int (jI 0), .int (jI 0), .null, .null, .null]) (ty := tyX1 3) (v := .int (jI (0 : Int))) hx hb hts inX1 tyX1 tyX1_ok nmX1 hown hname hK hC hS (by omega) n0 rfl 3 (by decide) wd44 (fun _ h => h) (fun _ => rfl) (by decide +kernel) rfl rfl (show 3 < 12 by decide) dX1_init_21 (fun H locs hC hS => ?_)
  have hC : CW g (fup f3 (q) (.inr (1, [.int (jI (0 : Int)), .int (jI (0 : Int)), .int (jI (0 : Int)), .int (jI (0 : Int)), .int (jI 0), .int (jI 0), .int (jI 0), .int (jI 0), .int (jI 0), .null, .null, .null]))) (q + 1) H := hC
  obtain ⟨f4, ef⟩ : ∃ z, z = fup f3 (q) (.inr (1, [.int (jI (0 : Int)), .int (jI (0 : Int)), .int (jI (0 : Int)), .int (jI (0 : Int)), .int (jI 0), .int (jI 0), .int (jI 0), .int (jI 0), .int (jI 0), .null, .null, .null])) := ⟨_, rfl⟩
  rw [← ef] at hC
  have n0 : f4 (q) = some (.inr (1, [.int (jI (0 : Int)), .int (jI (0 : Int)), .int (jI (0 : Int)), .int (jI (0 : Int)), .int (jI 0), .int (jI 0), .int (jI 0), .int (jI 0), .int (jI 0), .null, .null, .null])) := by rw [ef]; unfold fup; rw [if_pos rfl]
  clear ef
  refine lv_aload_n hx hb dX1_init_24 rfl (lv_at hl 0 rfl) ?_
  refine x_iconst hx hb dX1_init_25 ?_
  refine i_put (C := RX1) (T := TX1) (N := 12) (ci := 1) (fs := [.int (jI (0 : Int)), .int (jI (0 : Int)), .int (jI (0 : Int)), .int (jI (0 : Int)), .int (jI 0), .int (jI 0), .int (jI 0), .int (jI 0), .int (jI 0), .null, .null, .null]) (ty := tyX1 4) (v := .int (jI (0 : Int))) hx hb hts inX1 tyX1 tyX1_ok nmX1 hown hname hK hC hS (by omega) n0 rfl 4 (by decide) wd47 (fun _ h => h) (fun _ => rfl) (by decide +kernel) rfl rfl (show 4 < 12 by decide) dX1_init_26 (fun H locs hC hS => ?_)
  have hC : CW g (fup f4 (q) (.inr (1, [.int (jI (0 : Int)), .int (jI (0 : Int)), .int (jI (0 : Int)), .int (jI (0 : Int)), .int (jI (0 : Int)), .int (jI 0), .int (jI 0), .int (jI 0), .int (jI 0), .null, .null, .null]))) (q + 1) H := hC
  obtain ⟨f5, ef⟩ : ∃ z, z = fup f4 (q) (.inr (1, [.int (jI (0 : Int)), .int (jI (0 : Int)), .int (jI (0 : Int)), .int (jI (0 : Int)), .int (jI (0 : Int)), .int (jI 0), .int (jI 0), .int (jI 0), .int (jI 0), .null, .null, .null])) := ⟨_, rfl⟩
  rw [← ef] at hC
  have n0 : f5 (q) = some (.inr (1, [.int (jI (0 : Int)), .int (jI (0 : Int)), .int (jI (0 : Int)), .int (jI (0 : Int)), .int (jI (0 : Int)), .int (jI 0), .int (jI 0), .int (jI 0), .int (jI 0), .null, .null, .null])) := by rw [ef]; unfold fup; rw [if_pos rfl]
  clear ef
  refine lv_aload_n hx hb dX1_init_29 rfl (lv_at hl 0 rfl) ?_
  refine x_iconst hx hb dX1_init_30 ?_
  refine i_put (C := RX1) (T := TX1) (N := 12) (ci := 1) (fs := [.int (jI (0 : Int)), .int (jI (0 : Int)), .int (jI (0 : Int)), .int (jI (0 : Int)), .int (jI (0 : Int)), .int (jI 0), .int (jI 0), .int (jI 0), .int (jI 0), .null, .null, .null]) (ty := tyX1 5) (v := .int (jI (0 : Int))) hx hb hts inX1 tyX1 tyX1_ok nmX1 hown hname hK hC hS (by omega) n0 rfl 5 (by decide) wd50 (fun _ h => h) (fun _ => rfl) (by decide +kernel) rfl rfl (show 5 < 12 by decide) dX1_init_31 (fun H locs hC hS => ?_)
  have hC : CW g (fup f5 (q) (.inr (1, [.int (jI (0 : Int)), .int (jI (0 : Int)), .int (jI (0 : Int)), .int (jI (0 : Int)), .int (jI (0 : Int)), .int (jI (0 : Int)), .int (jI 0), .int (jI 0), .int (jI 0), .null, .null, .null]))) (q + 1) H := hC
  obtain ⟨f6, ef⟩ : ∃ z, z = fup f5 (q) (.inr (1, [.int (jI (0 : Int)), .int (jI (0 : Int)), .int (jI (0 : Int)), .int (jI (0 : Int)), .int (jI (0 : Int)), .int (jI (0 : Int)), .int (jI 0), .int (jI 0), .int (jI 0), .null, .null, .null])) := ⟨_, rfl⟩
  rw [← ef] at hC
  have n0 : f6 (q) = some (.inr (1, [.int (jI (0 : Int)), .int (jI (0 : Int)), .int (jI (0 : Int)), .int (jI (0 : Int)), .int (jI (0 : Int)), .int (jI (0 : Int)), .int (jI 0), .int (jI 0), .int (jI 0), .null, .null, .null])) := by rw [ef]; unfold fup; rw [if_pos rfl]
  clear ef
  refine lv_aload_n hx hb dX1_init_34 rfl (lv_at hl 0 rfl) ?_
  refine x_iconst hx hb dX1_init_35 ?_
  refine i_put (C := RX1) (T := TX1) (N := 12) (ci := 1) (fs := [.int (jI (0 : Int)), .int (jI (0 : Int)), .int (jI (0 : Int)), .int (jI (0 : Int)), .int (jI (0 : Int)), .int (jI (0 : Int)), .int (jI 0), .int (jI 0), .int (jI 0), .null, .null, .null]) (ty := tyX1 6) (v := .int (jI (0 : Int))) hx hb hts inX1 tyX1 tyX1_ok nmX1 hown hname hK hC hS (by omega) n0 rfl 6 (by decide) wd52 (fun _ h => h) (fun _ => rfl) (by decide +kernel) rfl rfl (show 6 < 12 by decide) dX1_init_36 (fun H locs hC hS => ?_)
  have hC : CW g (fup f6 (q) (.inr (1, [.int (jI (0 : Int)), .int (jI (0 : Int)), .int (jI (0 : Int)), .int (jI (0 : Int)), .int (jI (0 : Int)), .int (jI (0 : Int)), .int (jI (0 : Int)), .int (jI 0), .int (jI 0), .null, .null, .null]))) (q + 1) H := hC
  obtain ⟨f7, ef⟩ : ∃ z, z = fup f6 (q) (.inr (1, [.int (jI (0 : Int)), .int (jI (0 : Int)), .int (jI (0 : Int)), .int (jI (0 : Int)), .int (jI (0 : Int)), .int (jI (0 : Int)), .int (jI (0 : Int)), .int (jI 0), .int (jI 0), .null, .null, .null])) := ⟨_, rfl⟩
  rw [← ef] at hC
  have n0 : f7 (q) = some (.inr (1, [.int (jI (0 : Int)), .int (jI (0 : Int)), .int (jI (0 : Int)), .int (jI (0 : Int)), .int (jI (0 : Int)), .int (jI (0 : Int)), .int (jI (0 : Int)), .int (jI 0), .int (jI 0), .null, .null, .null])) := by rw [ef]; unfold fup; rw [if_pos rfl]
  clear ef
  refine lv_aload_n hx hb dX1_init_39 rfl (lv_at hl 0 rfl) ?_
  refine x_iconst hx hb dX1_init_40 ?_
  refine i_put (C := RX1) (T := TX1) (N := 12) (ci := 1) (fs := [.int (jI (0 : Int)), .int (jI (0 : Int)), .int (jI (0 : Int)), .int (jI (0 : Int)), .int (jI (0 : Int)), .int (jI (0 : Int)), .int (jI (0 : Int)), .int (jI 0), .int (jI 0), .null, .null, .null]) (ty := tyX1 7) (v := .int (jI (0 : Int))) hx hb hts inX1 tyX1 tyX1_ok nmX1 hown hname hK hC hS (by omega) n0 rfl 7 (by decide) wd54 (fun _ h => h) (fun _ => rfl) (by decide +kernel) rfl rfl (show 7 < 12 by decide) dX1_init_41 (fun H locs hC hS => ?_)
  have hC : CW g (fup f7 (q) (.inr (1, [.int (jI (0 : Int)), .int (jI (0 : Int)), .int (jI (0 : Int)), .int (jI (0 : Int)), .int (jI (0 : Int)), .int (jI (0 : Int)), .int (jI (0 : Int)), .int (jI (0 : Int)), .int (jI 0), .null, .null, .null]))) (q + 1) H := hC
  obtain ⟨f8, ef⟩ : ∃ z, z = fup f7 (q) (.inr (1, [.int (jI (0 : Int)), .int (jI (0 : Int)), .int (jI (0 : Int)), .int (jI (0 : Int)), .int (jI (0 : Int)), .int (jI (0 : Int)), .int (jI (0 : Int)), .int (jI (0 : Int)), .int (jI 0), .null, .null, .null])) := ⟨_, rfl⟩
  rw [← ef] at hC
  have n0 : f8 (q) = some (.inr (1, [.int (jI (0 : Int)), .int (jI (0 : Int)), .int (jI (0 : Int)), .int (jI (0 : Int)), .int (jI (0 : Int)), .int (jI (0 : Int)), .int (jI (0 : Int)), .int (jI (0 : Int)), .int (jI 0), .null, .null, .null])) := by rw [ef]; unfold fup; rw [if_pos rfl]
  clear ef
  refine lv_aload_n hx hb dX1_init_44 rfl (lv_at hl 0 rfl) ?_
  refine x_iconst hx hb dX1_init_45 ?_
  refine i_put (C := RX1) (T := TX1) (N := 12) (ci := 1) (fs := [.int (jI (0 : Int)), .int (jI (0 : Int)), .int (jI (0 : Int)), .int (jI (0 : Int)), .int (jI (0 : Int)), .int (jI (0 : Int)), .int (jI (0 : Int)), .int (jI (0 : Int)), .int (jI 0), .null, .null, .null]) (ty := tyX1 8) (v := .int (jI (0 : Int))) hx hb hts inX1 tyX1 tyX1_ok nmX1 hown hname hK hC hS (by omega) n0 rfl 8 (by decide) wd56 (fun _ h => h) (fun _ => rfl) (by decide +kernel) rfl rfl (show 8 < 12 by decide) dX1_init_46 (fun H locs hC hS => ?_)
  have hC : CW g (fup f8 (q) (.inr (1, [.int (jI (0 : Int)), .int (jI (0 : Int)), .int (jI (0 : Int)), .int (jI (0 : Int)), .int (jI (0 : Int)), .int (jI (0 : Int)), .int (jI (0 : Int)), .int (jI (0 : Int)), .int (jI (0 : Int)), .null, .null, .null]))) (q + 1) H := hC
  obtain ⟨f9, ef⟩ : ∃ z, z = fup f8 (q) (.inr (1, [.int (jI (0 : Int)), .int (jI (0 : Int)), .int (jI (0 : Int)), .int (jI (0 : Int)), .int (jI (0 : Int)), .int (jI (0 : Int)), .int (jI (0 : Int)), .int (jI (0 : Int)), .int (jI (0 : Int)), .null, .null, .null])) := ⟨_, rfl⟩
  rw [← ef] at hC
  have n0 : f9 (q) = some (.inr (1, [.int (jI (0 : Int)), .int (jI (0 : Int)), .int (jI (0 : Int)), .int (jI (0 : Int)), .int (jI (0 : Int)), .int (jI (0 : Int)), .int (jI (0 : Int)), .int (jI (0 : Int)), .int (jI (0 : Int)), .null, .null, .null])) := by rw [ef]; unfold fup; rw [if_pos rfl]
  clear ef
  refine lv_aload_n hx hb dX1_init_49 rfl (lv_at hl 0 rfl) ?_
  refine x_bipush hx hb (by decide +kernel) dX1_init_50 ?_
  refine i_newa (N := 12) hx hb hts wdInt hK hC hS (by decide) rfl (by decide) (by simp only [rmX1_init]; omega) (by simp only [rmX1_init]; omega) dX1_init_52 (fun H hC hS => ?_)
  obtain ⟨f10, ef⟩ : ∃ z, z = fup f9 (q + 1) (.inl (g.2 0, 12, .inl (fun _ => jI 0))) := ⟨_, rfl⟩
  rw [← ef] at hC
  have n0 : f10 (q) = some (.inr (1, [.int (jI (0 : Int)), .int (jI (0 : Int)), .int (jI (0 : Int)), .int (jI (0 : Int)), .int (jI (0 : Int)), .int (jI (0 : Int)), .int (jI (0 : Int)), .int (jI (0 : Int)), .int (jI (0 : Int)), .null, .null, .null])) := by rw [ef]; unfold fup; rw [if_neg (by omega)]; exact n0
  have n1 : f10 (q + 1) = some (.inl (g.2 0, 12, .inl (fun _ => jI 0))) := by rw [ef]; unfold fup; rw [if_pos rfl]
  clear ef
  have hC : CW g f10 (q + 2) H := hC
  refine i_put (C := RX1) (T := TX1) (N := 12) (ci := 1) (fs := [.int (jI (0 : Int)), .int (jI (0 : Int)), .int (jI (0 : Int)), .int (jI (0 : Int)), .int (jI (0 : Int)), .int (jI (0 : Int)), .int (jI (0 : Int)), .int (jI (0 : Int)), .int (jI (0 : Int)), .null, .null, .null]) (ty := tyX1 9) (v := .ref (q + 1)) hx hb hts inX1 tyX1 tyX1_ok nmX1 hown hname hK hC hS (by omega) n0 rfl 9 (by decide) wd59 (fun _ h => h) (fun _ => rfl) (by decide +kernel) rfl rfl (show 9 < 12 by decide) dX1_init_54 (fun H locs hC hS => ?_)
  have hC : CW g (fup f10 (q) (.inr (1, [.int (jI (0 : Int)), .int (jI (0 : Int)), .int (jI (0 : Int)), .int (jI (0 : Int)), .int (jI (0 : Int)), .int (jI (0 : Int)), .int (jI (0 : Int)), .int (jI (0 : Int)), .int (jI (0 : Int)), .ref (q + 1), .null, .null]))) (q + 2) H := hC
  obtain ⟨f11, ef⟩ : ∃ z, z = fup f10 (q) (.inr (1, [.int (jI (0 : Int)), .int (jI (0 : Int)), .int (jI (0 : Int)), .int (jI (0 : Int)), .int (jI (0 : Int)), .int (jI (0 : Int)), .int (jI (0 : Int)), .int (jI (0 : Int)), .int (jI (0 : Int)), .ref (q + 1), .null, .null])) := ⟨_, rfl⟩
  rw [← ef] at hC
  have n0 : f11 (q) = some (.inr (1, [.int (jI (0 : Int)), .int (jI (0 : Int)), .int (jI (0 : Int)), .int (jI (0 : Int)), .int (jI (0 : Int)), .int (jI (0 : Int)), .int (jI (0 : Int)), .int (jI (0 : Int)), .int (jI (0 : Int)), .ref (q + 1), .null, .null])) := by rw [ef]; unfold fup; rw [if_pos rfl]
  have n1 : f11 (q + 1) = some (.inl (g.2 0, 12, .inl (fun _ => jI 0))) := by rw [ef]; unfold fup; rw [if_neg (by omega)]; exact n1
  clear ef
  refine lv_aload_n hx hb dX1_init_57 rfl (lv_at hl 0 rfl) ?_
  refine x_bipush hx hb (by decide +kernel) dX1_init_58 ?_
  refine i_newa (N := 12) hx hb hts wdInt hK hC hS (by decide) rfl (by decide) (by simp only [rmX1_init]; omega) (by simp only [rmX1_init]; omega) dX1_init_60 (fun H hC hS => ?_)
  obtain ⟨f12, ef⟩ : ∃ z, z = fup f11 (q + 2) (.inl (g.2 0, 12, .inl (fun _ => jI 0))) := ⟨_, rfl⟩
  rw [← ef] at hC
  have n0 : f12 (q) = some (.inr (1, [.int (jI (0 : Int)), .int (jI (0 : Int)), .int (jI (0 : Int)), .int (jI (0 : Int)), .int (jI (0 : Int)), .int (jI (0 : Int)), .int (jI (0 : Int)), .int (jI (0 : Int)), .int (jI (0 : Int)), .ref (q + 1), .null, .null])) := by rw [ef]; unfold fup; rw [if_neg (by omega)]; exact n0
  have n1 : f12 (q + 1) = some (.inl (g.2 0, 12, .inl (fun _ => jI 0))) := by rw [ef]; unfold fup; rw [if_neg (by omega)]; exact n1
  have n2 : f12 (q + 2) = some (.inl (g.2 0, 12, .inl (fun _ => jI 0))) := by rw [ef]; unfold fup; rw [if_pos rfl]
  clear ef
  have hC : CW g f12 (q + 3) H := hC
  refine i_put (C := RX1) (T := TX1) (N := 12) (ci := 1) (fs := [.int (jI (0 : Int)), .int (jI (0 : Int)), .int (jI (0 : Int)), .int (jI (0 : Int)), .int (jI (0 : Int)), .int (jI (0 : Int)), .int (jI (0 : Int)), .int (jI (0 : Int)), .int (jI (0 : Int)), .ref (q + 1), .null, .null]) (ty := tyX1 10) (v := .ref (q + 2)) hx hb hts inX1 tyX1 tyX1_ok nmX1 hown hname hK hC hS (by omega) n0 rfl 10 (by decide) wd60 (fun _ h => h) (fun _ => rfl) (by decide +kernel) rfl rfl (show 10 < 12 by decide) dX1_init_62 (fun H locs hC hS => ?_)
  have hC : CW g (fup f12 (q) (.inr (1, [.int (jI (0 : Int)), .int (jI (0 : Int)), .int (jI (0 : Int)), .int (jI (0 : Int)), .int (jI (0 : Int)), .int (jI (0 : Int)), .int (jI (0 : Int)), .int (jI (0 : Int)), .int (jI (0 : Int)), .ref (q + 1), .ref (q + 2), .null]))) (q + 3) H := hC
  obtain ⟨f13, ef⟩ : ∃ z, z = fup f12 (q) (.inr (1, [.int (jI (0 : Int)), .int (jI (0 : Int)), .int (jI (0 : Int)), .int (jI (0 : Int)), .int (jI (0 : Int)), .int (jI (0 : Int)), .int (jI (0 : Int)), .int (jI (0 : Int)), .int (jI (0 : Int)), .ref (q + 1), .ref (q + 2), .null])) := ⟨_, rfl⟩
  rw [← ef] at hC
  have n0 : f13 (q) = some (.inr (1, [.int (jI (0 : Int)), .int (jI (0 : Int)), .int (jI (0 : Int)), .int (jI (0 : Int)), .int (jI (0 : Int)), .int (jI (0 : Int)), .int (jI (0 : Int)), .int (jI (0 : Int)), .int (jI (0 : Int)), .ref (q + 1), .ref (q + 2), .null])) := by rw [ef]; unfold fup; rw [if_pos rfl]
  have n1 : f13 (q + 1) = some (.inl (g.2 0, 12, .inl (fun _ => jI 0))) := by rw [ef]; unfold fup; rw [if_neg (by omega)]; exact n1
  have n2 : f13 (q + 2) = some (.inl (g.2 0, 12, .inl (fun _ => jI 0))) := by rw [ef]; unfold fup; rw [if_neg (by omega)]; exact n2
  clear ef
  refine lv_aload_n hx hb dX1_init_65 rfl (lv_at hl 0 rfl) ?_
  refine x_bipush hx hb (by decide +kernel) dX1_init_66 ?_
  refine i_newa (N := 20) hx hb hts wdInt hK hC hS (by decide) rfl (by decide) (by simp only [rmX1_init]; omega) (by simp only [rmX1_init]; omega) dX1_init_68 (fun H hC hS => ?_)
  obtain ⟨f14, ef⟩ : ∃ z, z = fup f13 (q + 3) (.inl (g.2 0, 20, .inl (fun _ => jI 0))) := ⟨_, rfl⟩
  rw [← ef] at hC
  have n0 : f14 (q) = some (.inr (1, [.int (jI (0 : Int)), .int (jI (0 : Int)), .int (jI (0 : Int)), .int (jI (0 : Int)), .int (jI (0 : Int)), .int (jI (0 : Int)), .int (jI (0 : Int)), .int (jI (0 : Int)), .int (jI (0 : Int)), .ref (q + 1), .ref (q + 2), .null])) := by rw [ef]; unfold fup; rw [if_neg (by omega)]; exact n0
  have n1 : f14 (q + 1) = some (.inl (g.2 0, 12, .inl (fun _ => jI 0))) := by rw [ef]; unfold fup; rw [if_neg (by omega)]; exact n1
  have n2 : f14 (q + 2) = some (.inl (g.2 0, 12, .inl (fun _ => jI 0))) := by rw [ef]; unfold fup; rw [if_neg (by omega)]; exact n2
  have n3 : f14 (q + 3) = some (.inl (g.2 0, 20, .inl (fun _ => jI 0))) := by rw [ef]; unfold fup; rw [if_pos rfl]
  clear ef
  have hC : CW g f14 (q + 4) H := hC
  refine i_put (C := RX1) (T := TX1) (N := 12) (ci := 1) (fs := [.int (jI (0 : Int)), .int (jI (0 : Int)), .int (jI (0 : Int)), .int (jI (0 : Int)), .int (jI (0 : Int)), .int (jI (0 : Int)), .int (jI (0 : Int)), .int (jI (0 : Int)), .int (jI (0 : Int)), .ref (q + 1), .ref (q + 2), .null]) (ty := tyX1 11) (v := .ref (q + 3)) hx hb hts inX1 tyX1 tyX1_ok nmX1 hown hname hK hC hS (by omega) n0 rfl 11 (by decide) wd61 (fun _ h => h) (fun _ => rfl) (by decide +kernel) rfl rfl (show 11 < 12 by decide) dX1_init_70 (fun H locs hC hS => ?_)
  have hC : CW g (fup f14 (q) (.inr (1, [.int (jI (0 : Int)), .int (jI (0 : Int)), .int (jI (0 : Int)), .int (jI (0 : Int)), .int (jI (0 : Int)), .int (jI (0 : Int)), .int (jI (0 : Int)), .int (jI (0 : Int)), .int (jI (0 : Int)), .ref (q + 1), .ref (q + 2), .ref (q + 3)]))) (q + 4) H := hC
  obtain ⟨f15, ef⟩ : ∃ z, z = fup f14 (q) (.inr (1, [.int (jI (0 : Int)), .int (jI (0 : Int)), .int (jI (0 : Int)), .int (jI (0 : Int)), .int (jI (0 : Int)), .int (jI (0 : Int)), .int (jI (0 : Int)), .int (jI (0 : Int)), .int (jI (0 : Int)), .ref (q + 1), .ref (q + 2), .ref (q + 3)])) := ⟨_, rfl⟩
  rw [← ef] at hC
  have n0 : f15 (q) = some (.inr (1, [.int (jI (0 : Int)), .int (jI (0 : Int)), .int (jI (0 : Int)), .int (jI (0 : Int)), .int (jI (0 : Int)), .int (jI (0 : Int)), .int (jI (0 : Int)), .int (jI (0 : Int)), .int (jI (0 : Int)), .ref (q + 1), .ref (q + 2), .ref (q + 3)])) := by rw [ef]; unfold fup; rw [if_pos rfl]
  have n1 : f15 (q + 1) = some (.inl (g.2 0, 12, .inl (fun _ => jI 0))) := by rw [ef]; unfold fup; rw [if_neg (by omega)]; exact n1
  have n2 : f15 (q + 2) = some (.inl (g.2 0, 12, .inl (fun _ => jI 0))) := by rw [ef]; unfold fup; rw [if_neg (by omega)]; exact n2
  have n3 : f15 (q + 3) = some (.inl (g.2 0, 20, .inl (fun _ => jI 0))) := by rw [ef]; unfold fup; rw [if_neg (by omega)]; exact n3
  clear ef
  refine i_end (n := 4) hx hb hlocks hC ?_ (by omega) hS (by omega) (by omega) hr dX1_init_73
  intro a e9 ha
  unfold ndF at ha
  by_cases zn0 : a = q
  · rw [if_pos zn0] at ha; cases ha; rw [zn0]; exact n0
  rw [if_neg zn0] at ha
  by_cases zn1 : a = q + 1
  · rw [if_pos zn1] at ha; cases ha; rw [zn1]; exact n1
  rw [if_neg zn1] at ha
  by_cases zn2 : a = q + 2
  · rw [if_pos zn2] at ha; cases ha; rw [zn2]; exact n2
  rw [if_neg zn2] at ha
  by_cases zn3 : a = q + 3
  · rw [if_pos zn3] at ha; cases ha; rw [zn3]; exact n3
  rw [if_neg zn3] at ha
  cases ha
abbrev rmX0_init : Room := { frames := 1, cells := 1, slots := 320, locals := 32 }
theorem hyX0_init : yX0_init.cls ≠ "java/lang/invoke/MethodHandle" ∧ yX0_init.cls ≠ "java/lang/invoke/VarHandle" ∧ (parseMethodDescriptor yX0_init.desc).map (fun d => d.parameters.length) = some 0 := by decide +kernel
set_option maxHeartbeats 4000000 in
set_option maxRecDepth 100000 in
theorem c_X0_init {l : Launch} {g : Gx} {q : Nat} : IC l yX0_init cX0_init 1 rmX0_init g q (.inr (0, [.int (jI 0), .int (jI 0), .int (jI 0), .null])) (fun _ => True) 2 (hdF g q) 1 320 := by
  refine ic_of (by decide +kernel) (by decide) ?_
  intro p e s m args below meth c C0 hname hNW hC ls hl
  obtain ⟨hx, hb, hr, hlocks, hml, hown, hts, hK⟩ := id C0
  have hown : s.vm.findClass RX0 = some m.cls := hown
  have hS : va_S (fun a => q ≤ a) s.heap s.heap [] := va_S.rf
  obtain ⟨H, hH⟩ : ∃ z, z = s.heap := ⟨_, rfl⟩
  obtain ⟨locs, hlo⟩ : ∃ z : List Loc, z = [] := ⟨_, rfl⟩
  have hC : CW g (fup (fun _ => none) q (.inr (0, [.int (jI 0), .int (jI 0), .int (jI 0), .null]))) (q + 1) H := by rw [hH]; exact hC
  have hS : va_S (fun a => q ≤ a) s.heap H locs := by rw [hH, hlo]; exact hS
  suffices hW : W p l e rmX0_init s m args below meth c H locs 0 0 (MQ below (va_Qv (fun (_ : Unit) => True) (fun _ t => CW g (hdF g q) (q + 2) t.heap) (fun a => q ≤ a)) args s 1 320 (fun a => q ≤ a)) (F0 m 0 ls []) by rw [hH, hlo] at hW; exact hW
  clear hH hlo
  obtain ⟨f0, ef⟩ : ∃ z : Nat → Option va_E, z = fup (fun _ => none) q (.inr (0, [.int (jI 0), .int (jI 0), .int (jI 0), .null])) := ⟨_, rfl⟩
  rw [← ef] at hC
  have n0 : f0 q = some (.inr (0, [.int (jI 0), .int (jI 0), .int (jI 0), .null])) := by rw [ef]; unfold fup; rw [if_pos rfl]
  clear ef
  refine lv_aload_n hx hb dX0_init_0 rfl (lv_at hl 0 rfl) ?_
  refine W.objInit hx hb hown (hts _ wd122) (hts _ wd20) (hts _ wd21) rfl (by rw [hml]; exact hl.1) rfl dX0_init_1 (Nat.le_of_ble_eq_true rfl) (Nat.le_of_ble_eq_true rfl) ?_
  refine W.eq (g2 := F0 m 4 ls []) rfl ?_
  refine lv_aload_n hx hb dX0_init_4 rfl (lv_at hl 0 rfl) ?_
  refine x_iconst hx hb dX0_init_5 ?_
  refine i_put (C := RX0) (T := TX0) (N := 4) (ci := 0) (fs := [.int (jI 0), .int (jI 0), .int (jI 0), .null]) (ty := tyX0 0) (v := .int (jI (0 : Int))) hx hb hts inX0 tyX0 tyX0_ok nmX0 hown hname hK hC hS (by omega) n0 rfl 0 (by decide) wd123 (fun _ h => h) (fun _ => rfl) (by decide +kernel) (by decide +kernel) (by decide +kernel) (show 0 < 4 by decide) dX0_init_6 (fun H locs hC hS => ?_)
  have hC : CW g (fup f0 (q) (.inr (0, [.int (jI (0 : Int)), .int (jI 0), .int (jI 0), .null]))) (q + 1) H := hC
  obtain ⟨f1, ef⟩ : ∃ z, z = fup f0 (q) (.inr (0, [.int (jI (0 : Int)), .int (jI 0), .int (jI 0), .null])) := ⟨_, rfl⟩
  rw [← ef] at hC
  have n0 : f1 (q) = some (.inr (0, [.int (jI (0 : Int)), .int (jI 0), .int (jI 0), .null])) := by rw [ef]; unfold fup; rw [if_pos rfl]
  clear ef
  refine lv_aload_n hx hb dX0_init_9 rfl (lv_at hl 0 rfl) ?_
  refine x_iconst hx hb dX0_init_10 ?_
  refine i_put (C := RX0) (T := TX0) (N := 4) (ci := 0) (fs := [.int (jI (0 : Int)), .int (jI 0), .int (jI 0), .null]) (ty := tyX0 1) (v := .int (jI (0 : Int))) hx hb hts inX0 tyX0 tyX0_ok nmX0 hown hname hK hC hS (by omega) n0 rfl 1 (by decide) wd125 (fun _ h => h) (fun _ => rfl) (by decide +kernel) rfl rfl (show 1 < 4 by decide) dX0_init_11 (fun H locs hC hS => ?_)
  have hC : CW g (fup f1 (q) (.inr (0, [.int (jI (0 : Int)), .int (jI (0 : Int)), .int (jI 0), .null]))) (q + 1) H := hC
  obtain ⟨f2, ef⟩ : ∃ z, z = fup f1 (q) (.inr (0, [.int (jI (0 : Int)), .int (jI (0 : Int)), .int (jI 0), .null])) := ⟨_, rfl⟩
  rw [← ef] at hC
  have n0 : f2 (q) = some (.inr (0, [.int (jI (0 : Int)), .int (jI (0 : Int)), .int (jI 0), .null])) := by rw [ef]; unfold fup; rw [if_pos rfl]
  clear ef
  refine lv_aload_n hx hb dX0_init_14 rfl (lv_at hl 0 rfl) ?_
  refine x_iconst hx hb dX0_init_15 ?_
  refine i_put (C := RX0) (T := TX0) (N := 4) (ci := 0) (fs := [.int (jI (0 : Int)), .int (jI (0 : Int)), .int (jI 0), .null]) (ty := tyX0 2) (v := .int (jI (0 : Int))) hx hb hts inX0 tyX0 tyX0_ok nmX0 hown hname hK hC hS (by omega) n0 rfl 2 (by decide) wd127 (fun _ h => h) (fun _ => rfl) (by decide +kernel) rfl rfl (show 2 < 4 by decide) dX0_init_16 (fun H locs hC hS => ?_)
  have hC : CW g (fup f2 (q) (.inr (0, [.int (jI (0 : Int)), .int (jI (0 : Int)), .int (jI (0 : Int)), .null]))) (q + 1) H := hC
  obtain ⟨f3, ef⟩ : ∃ z, z = fup f2 (q) (.inr (0, [.int (jI (0 : Int)), .int (jI (0 : Int)), .int (jI (0 : Int)), .null])) := ⟨_, rfl⟩
  rw [← ef] at hC
  have n0 : f3 (q) = some (.inr (0, [.int (jI (0 : Int)), .int (jI (0 : Int)), .int (jI (0 : Int)), .null])) := by rw [ef]; unfold fup; rw [if_pos rfl]
  clear ef
  refine lv_aload_n hx hb dX0_init_19 rfl (lv_at hl 0 rfl) ?_
  refine x_sipush hx hb (by decide +kernel) dX0_init_20 ?_
  refine i_newa (N := 320) hx hb hts wdInt hK hC hS (by decide) rfl (by decide) (by simp only [rmX0_init]; omega) (by simp only [rmX0_init]; omega) dX0_init_23 (fun H hC hS => ?_)
  obtain ⟨f4, ef⟩ : ∃ z, z = fup f3 (q + 1) (.inl (g.2 0, 320, .inl (fun _ => jI 0))) := ⟨_, rfl⟩
  rw [← ef] at hC
  have n0 : f4 (q) = some (.inr (0, [.int (jI (0 : Int)), .int (jI (0 : Int)), .int (jI (0 : Int)), .null])) := by rw [ef]; unfold fup; rw [if_neg (by omega)]; exact n0
  have n1 : f4 (q + 1) = some (.inl (g.2 0, 320, .inl (fun _ => jI 0))) := by rw [ef]; unfold fup; rw [if_pos rfl]
  clear ef
  have hC : CW g f4 (q + 2) H := hC
  refine i_put (C := RX0) (T := TX0) (N := 4) (ci := 0) (fs := [.int (jI (0 : Int)), .int (jI (0 : Int)), .int (jI (0 : Int)), .null]) (ty := tyX0 3) (v := .ref (q + 1)) hx hb hts inX0 tyX0 tyX0_ok nmX0 hown hname hK hC hS (by omega) n0 rfl 3 (by decide) wd129 (fun _ h => h) (fun _ => rfl) (by decide +kernel) rfl rfl (show 3 < 4 by decide) dX0_init_25 (fun H locs hC hS => ?_)
  have hC : CW g (fup f4 (q) (.inr (0, [.int (jI (0 : Int)), .int (jI (0 : Int)), .int (jI (0 : Int)), .ref (q + 1)]))) (q + 2) H := hC
  obtain ⟨f5, ef⟩ : ∃ z, z = fup f4 (q) (.inr (0, [.int (jI (0 : Int)), .int (jI (0 : Int)), .int (jI (0 : Int)), .ref (q + 1)])) := ⟨_, rfl⟩
  rw [← ef] at hC
  have n0 : f5 (q) = some (.inr (0, [.int (jI (0 : Int)), .int (jI (0 : Int)), .int (jI (0 : Int)), .ref (q + 1)])) := by rw [ef]; unfold fup; rw [if_pos rfl]
  have n1 : f5 (q + 1) = some (.inl (g.2 0, 320, .inl (fun _ => jI 0))) := by rw [ef]; unfold fup; rw [if_neg (by omega)]; exact n1
  clear ef
  refine i_end (n := 2) hx hb hlocks hC ?_ (by omega) hS (by omega) (by omega) hr dX0_init_28
  intro a e9 ha
  unfold hdF at ha
  by_cases zn0 : a = q
  · rw [if_pos zn0] at ha; cases ha; rw [zn0]; exact n0
  rw [if_neg zn0] at ha
  by_cases zn1 : a = q + 1
  · rw [if_pos zn1] at ha; cases ha; rw [zn1]; exact n1
  rw [if_neg zn1] at ha
  cases ha
def TrP (g : Gx) (q n : Nat) (srt : Int) (mq : Nat) (f : Nat → Option va_E) : Prop :=
  f q = some (.inr (2, [.ref (q + 1), .ref (q + 2), .ref (q + 6), .ref (q + 7), .ref (q + 8), .int (jI 0), .ref (q + 9), .ref (q + 10)])) ∧ f (q + 1) = some (.inl (g.2 1, 32, .inr (.inr (.inr (.inr (fun k => if k < n then some (q + 11 + 4 * k) else none)))))) ∧ (∀ a, q + 2 ≤ a → a < q + 6 → f a = ndF g 0 (q + 2) a) ∧
  f (q + 6) = some (.inl (g.2 0, 4, .inl (fun k => jI (if k < mq then 120 else 0)))) ∧ f (q + 7) = some (.inl (g.2 4, 256, .inr (.inl (fun _ => 0)))) ∧ f (q + 8) = some (.inl (g.2 0, 128, .inl (fun _ => jI 0))) ∧ f (q + 9) = some (.inl (g.2 0, 128, .inl (fun _ => jI 0))) ∧ f (q + 10) = some (.inl (g.2 0, 8, .inl (fun _ => jI 0))) ∧
  ∀ i, i < n → ∀ a, q + 11 + 4 * i ≤ a → a < q + 11 + 4 * i + 4 → f a = ndF g (if i = 0 then srt else 0) (q + 11 + 4 * i) a
def trC (g : Gx) (q : Nat) : Nat → Option va_E := fun a =>
  if a = q then some (.inr (2, [.ref (q + 1), .ref (q + 2), .ref (q + 6), .ref (q + 7), .ref (q + 8), .int (jI 0), .ref (q + 9), .ref (q + 10)])) else if a = q + 1 then some (.inl (g.2 1, 32, .inr (.inr (.inr (.inr (fun k => if k < 32 then some (q + 11 + 4 * k) else none)))))) else if q + 2 ≤ a ∧ a < q + 6 then ndF g 0 (q + 2) a else
  if a = q + 6 then some (.inl (g.2 0, 4, .inl (fun k => jI (if k < 4 then 120 else 0)))) else if a = q + 7 then some (.inl (g.2 4, 256, .inr (.inl (fun _ => 0)))) else if a = q + 8 then some (.inl (g.2 0, 128, .inl (fun _ => jI 0))) else if a = q + 9 then some (.inl (g.2 0, 128, .inl (fun _ => jI 0))) else if a = q + 10 then some (.inl (g.2 0, 8, .inl (fun _ => jI 0))) else
  if q + 11 ≤ a ∧ a < q + 139 then ndF g (if (a - (q + 11)) / 4 = 0 then 2 else 0) (q + 11 + 4 * ((a - (q + 11)) / 4)) a else none
theorem trC_of {g : Gx} {q : Nat} {f : Nat → Option va_E} (h : TrP g q 32 2 4 f) : ∀ a e, trC g q a = some e → f a = some e := by
  obtain ⟨h0, h1, h2, h6, h7, h8, h9, h10, hn⟩ := h
  intro a e ha
  unfold trC at ha
  by_cases z0 : a = q
  · rw [if_pos z0] at ha; rw [z0, h0]; exact ha
  rw [if_neg z0] at ha
  by_cases z1 : a = q + 1
  · rw [if_pos z1] at ha; rw [z1, h1]; exact ha
  rw [if_neg z1] at ha
  by_cases z2 : q + 2 ≤ a ∧ a < q + 6
  · rw [if_pos z2] at ha; rw [h2 a z2.1 z2.2]; exact ha
  rw [if_neg z2] at ha
  by_cases z6 : a = q + 6
  · rw [if_pos z6] at ha; rw [z6, h6]; exact ha
  rw [if_neg z6] at ha
  by_cases z7 : a = q + 7
  · rw [if_pos z7] at ha; rw [z7, h7]; exact ha
  rw [if_neg z7] at ha
  by_cases z8 : a = q + 8
  · rw [if_pos z8] at ha; rw [z8, h8]; exact ha
  rw [if_neg z8] at ha
  by_cases z9 : a = q + 9
  · rw [if_pos z9] at ha; rw [z9, h9]; exact ha
  rw [if_neg z9] at ha
  by_cases z10 : a = q + 10
  · rw [if_pos z10] at ha; rw [z10, h10]; exact ha
  rw [if_neg z10] at ha
  by_cases z11 : q + 11 ≤ a ∧ a < q + 139
  · rw [if_pos z11] at ha
    rw [hn ((a - (q + 11)) / 4) (by omega) a (by omega) (by omega)]
    exact ha
  · rw [if_neg z11] at ha
    cases ha
abbrev rmX2_init : Room := { frames := 2, cells := 138, slots := 2404, locals := 52 }
theorem hyX2_init : yX2_init.cls ≠ "java/lang/invoke/MethodHandle" ∧ yX2_init.cls ≠ "java/lang/invoke/VarHandle" ∧ (parseMethodDescriptor yX2_init.desc).map (fun d => d.parameters.length) = some 0 := by decide +kernel
set_option maxHeartbeats 4000000 in
set_option maxRecDepth 100000 in
theorem tr_q {p : Program} {l : Launch} {e : Env} {s : State} {m : MethodId} {args : Array Value} {below : List Frame} {meth : Method} {c : Code} {g : Gx} {q : Nat} (C0 : XA p s m meth c args RX2 cX2_init 2 none g) (hname : meth.name = "<init>") : ∀ (k n : Nat) (f : Nat → Option va_E) (H : Heap) (locs : List Loc), n + k = 4 → TrP g q 32 2 n f → CW g f (q + 139) H → va_S (fun a => q ≤ a) s.heap H locs → ∀ ls : Array Slot, lv_has ls 2 [(0, .ref q), (1, .int (jI (n : Int)))] → W p l e rmX2_init s m args below meth c H locs 138 2404 (MQ below (va_Qv (fun (_ : Unit) => True) (fun _ t => CW g (trC g q) (q + 139) t.heap) (fun a => q ≤ a)) args s 138 2404 (fun a => q ≤ a)) (F0 m 113 ls []) := by
  obtain ⟨hx, hb, hr, hlocks, hml, hown, hts, hK⟩ := id C0
  intro k
  induction k with
  | zero =>
    intro n f H locs hn hp hC hS ls hl
    obtain rfl : n = 4 := by omega
    refine lv_iload_n hx hb dX2_init_113 rfl (lv_at hl 1 rfl) ?_
    refine lv_aload_n hx hb dX2_init_114 rfl (lv_at hl 0 rfl) ?_
    refine i_get (C := RX2) (T := TX2) (N := 8) (ci := 2) (fs := [.ref (q + 1), .ref (q + 2), .ref (q + 6), .ref (q + 7), .ref (q + 8), .int (jI 0), .ref (q + 9), .ref (q + 10)]) (v := .ref (q + 6)) hx hb hts inX2 hown hK hC hp.1 rfl 2 (by decide) wd91 (fun _ h => h) rfl dX2_init_115 ?_
    refine i_alen (n := (4 : Int)) (t0 := 0) hx hb hK hC hp.2.2.2.1 rfl (show Int32.ofNat 4 = jI 4 by decide +kernel) dX2_init_118 ?_
    refine x_icmp_ge (tgt := 136) hx hb (by decide) (by decide) dX2_init_119 (by decide) (fun ci => ?_) (fun ci => absurd (by decide) ci)
    exact i_end (n := 139) hx hb hlocks hC (trC_of hp) rfl hS (Nat.le_refl _) (Nat.le_refl _) hr dX2_init_136
  | succ k ih =>
    intro n f H locs hn hp hC hS ls hl
    have hrn : rg (n : Int) := by constructor <;> omega
    refine lv_iload_n hx hb dX2_init_113 rfl (lv_at hl 1 rfl) ?_
    refine lv_aload_n hx hb dX2_init_114 rfl (lv_at hl 0 rfl) ?_
    refine i_get (C := RX2) (T := TX2) (N := 8) (ci := 2) (fs := [.ref (q + 1), .ref (q + 2), .ref (q + 6), .ref (q + 7), .ref (q + 8), .int (jI 0), .ref (q + 9), .ref (q + 10)]) (v := .ref (q + 6)) hx hb hts inX2 hown hK hC hp.1 rfl 2 (by decide) wd91 (fun _ h => h) rfl dX2_init_115 ?_
    refine i_alen (n := (4 : Int)) (t0 := 0) hx hb hK hC hp.2.2.2.1 rfl (show Int32.ofNat 4 = jI 4 by decide +kernel) dX2_init_118 ?_
    refine x_icmp_ge (tgt := 136) hx hb hrn (by decide) dX2_init_119 (by decide) (fun ci => absurd ci (by omega)) (fun ci => ?_)
    refine lv_aload_n hx hb dX2_init_122 rfl (lv_at hl 0 rfl) ?_
    refine i_get (C := RX2) (T := TX2) (N := 8) (ci := 2) (fs := [.ref (q + 1), .ref (q + 2), .ref (q + 6), .ref (q + 7), .ref (q + 8), .int (jI 0), .ref (q + 9), .ref (q + 10)]) (v := .ref (q + 6)) hx hb hts inX2 hown hK hC hp.1 rfl 2 (by decide) wd91 (fun _ h => h) rfl dX2_init_123 ?_
    refine lv_iload_n hx hb dX2_init_126 rfl (lv_at hl 1 rfl) ?_
    refine x_bipush hx hb (by decide +kernel) dX2_init_127 ?_
    refine i_iast (N := 4) hx hb hK hC hS (by omega) hp.2.2.2.1 hrn (by omega) dX2_init_129 (fun H locs hC hS => ?_)
    obtain ⟨f2, ef⟩ : ∃ z, z = fup f (q + 6) (.inl (g.2 0, 4, .inl (fun k => jI (if k = (n : Int).toNat then 120 else if k < n then 120 else 0)))) := ⟨_, rfl⟩
    rw [← ef] at hC
    refine x_iinc (lv' := [(1, .int (jI ((n : Int) + 1))), (0, .ref q)]) hx hb dX2_init_130 hl (k := 1) rfl (by decide) rfl (fun ls hl => ?_)
    refine lv_goto (tgt := 113) hx hb dX2_init_133 (by decide) ?_
    refine ih (n + 1) f2 H locs (by omega) ?_ hC hS ls (lv_sub hl [1, 0] rfl)
    obtain ⟨h0, h1, h2, h6, h7, h8, h9, h10, hn2⟩ := hp
    refine ⟨?_, ?_, ?_, ?_, ?_, ?_, ?_, ?_, ?_⟩
    · rw [ef]; unfold fup; rw [if_neg (by omega)]; exact h0
    · rw [ef]; unfold fup; rw [if_neg (by omega)]; exact h1
    · intro a h3 h4; rw [ef]; unfold fup; rw [if_neg (by omega)]; exact h2 a h3 h4
    · rw [ef]; unfold fup; rw [if_pos rfl]
      refine congrArg (fun F : Nat → Int32 => (some (.inl (g.2 0, 4, .inl F)) : Option va_E)) (funext fun k => ?_)
      congr 1
      by_cases hk : k = (n : Int).toNat
      · rw [if_pos hk, if_pos (by omega)]
      · rw [if_neg hk]
        by_cases hk2 : k < n
        · rw [if_pos hk2, if_pos (by omega)]
        · rw [if_neg hk2, if_neg (by omega)]
    · rw [ef]; unfold fup; rw [if_neg (by omega)]; exact h7
    · rw [ef]; unfold fup; rw [if_neg (by omega)]; exact h8
    · rw [ef]; unfold fup; rw [if_neg (by omega)]; exact h9
    · rw [ef]; unfold fup; rw [if_neg (by omega)]; exact h10
    · intro i hi a h3 h4; rw [ef]; unfold fup; rw [if_neg (by omega)]; exact hn2 i hi a h3 h4
set_option maxHeartbeats 4000000 in
set_option maxRecDepth 100000 in
theorem tr_t {p : Program} {l : Launch} {e : Env} {s : State} {m : MethodId} {args : Array Value} {below : List Frame} {meth : Method} {c : Code} {g : Gx} {q : Nat} (C0 : XA p s m meth c args RX2 cX2_init 2 none g) (hname : meth.name = "<init>") {f : Nat → Option va_E} {H : Heap} {locs : List Loc} (hp : TrP g q 32 0 0 f) (hC : CW g f (q + 139) H) (hS : va_S (fun a => q ≤ a) s.heap H locs) {ls : Array Slot} {v1 : Value} (hl : lv_has ls 2 [(0, .ref q), (1, v1)]) : W p l e rmX2_init s m args below meth c H locs 138 2404 (MQ below (va_Qv (fun (_ : Unit) => True) (fun _ t => CW g (trC g q) (q + 139) t.heap) (fun a => q ≤ a)) args s 138 2404 (fun a => q ≤ a)) (F0 m 101 ls []) := by
  obtain ⟨hx, hb, hr, hlocks, hml, hown, hts, hK⟩ := id C0
  refine lv_aload_n hx hb dX2_init_101 rfl (lv_at hl 0 rfl) ?_
  refine i_get (C := RX2) (T := TX2) (N := 8) (ci := 2) (fs := [.ref (q + 1), .ref (q + 2), .ref (q + 6), .ref (q + 7), .ref (q + 8), .int (jI 0), .ref (q + 9), .ref (q + 10)]) (v := .ref (q + 1)) hx hb hts inX2 hown hK hC hp.1 rfl 0 (by decide) wd89 (fun _ h => h) rfl dX2_init_102 ?_
  refine x_iconst hx hb dX2_init_105 ?_
  refine i_aldq (t0 := 1) (v := q + 11) hx hb hK hC hp.2.1 rfl (by decide) (by decide) rfl dX2_init_106 ?_
  refine x_iconst hx hb dX2_init_107 ?_
  have hq : f (q + 11) = some (.inr (1, [.int (jI 0), .int (jI 0), .int (jI 0), .int (jI 0), .int (jI 0), .int (jI 0), .int (jI 0), .int (jI 0), .int (jI 0), .ref (q + 11 + 1), .ref (q + 11 + 2), .ref (q + 11 + 3)])) := by
    rw [hp.2.2.2.2.2.2.2.2 0 (by decide) (q + 11) (by omega) (by omega)]
    unfold ndF
    rw [if_pos (by omega)]
    rfl
  refine i_put (C := RX1) (T := TX1) (N := 12) (ci := 1) (fs := [.int (jI 0), .int (jI 0), .int (jI 0), .int (jI 0), .int (jI 0), .int (jI 0), .int (jI 0), .int (jI 0), .int (jI 0), .ref (q + 11 + 1), .ref (q + 11 + 2), .ref (q + 11 + 3)]) (ty := .int) (v := .int (jI 2)) hx hb hts inX1 tyX1 tyX1_ok nmX1 hown hname hK hC hS (by omega) hq rfl 0 (by decide) wd36 (fun _ h => h) (fun h => nomatch h) (by decide +kernel) rfl rfl (show 0 < 12 by decide) dX2_init_108 (fun H locs hC hS => ?_)
  obtain ⟨f2, ef⟩ : ∃ z, z = fup f (q + 11) (.inr (1, [.int (jI 2), .int (jI 0), .int (jI 0), .int (jI 0), .int (jI 0), .int (jI 0), .int (jI 0), .int (jI 0), .int (jI 0), .ref (q + 11 + 1), .ref (q + 11 + 2), .ref (q + 11 + 3)])) := ⟨_, rfl⟩
  have hC : CW g (fup f (q + 11) (.inr (1, [.int (jI 2), .int (jI 0), .int (jI 0), .int (jI 0), .int (jI 0), .int (jI 0), .int (jI 0), .int (jI 0), .int (jI 0), .ref (q + 11 + 1), .ref (q + 11 + 2), .ref (q + 11 + 3)]))) (q + 139) H := hC
  rw [← ef] at hC
  refine x_iconst hx hb dX2_init_111 ?_
  refine lv_istore_n (lv' := [(1, .int (jI 0)), (0, .ref q)]) hx hb dX2_init_112 rfl hl (by decide) rfl (fun ls hl => ?_)
  refine tr_q C0 hname 4 0 f2 H locs rfl ?_ hC hS ls (lv_sub hl [1, 0] rfl)
  obtain ⟨h0, h1, h2, h6, h7, h8, h9, h10, hn2⟩ := hp
  refine ⟨?_, ?_, ?_, ?_, ?_, ?_, ?_, ?_, ?_⟩
  · rw [ef]; unfold fup; rw [if_neg (by omega)]; exact h0
  · rw [ef]; unfold fup; rw [if_neg (by omega)]; exact h1
  · intro a h3 h4; rw [ef]; unfold fup; rw [if_neg (by omega)]; exact h2 a h3 h4
  · rw [ef]; unfold fup; rw [if_neg (by omega)]; exact h6
  · rw [ef]; unfold fup; rw [if_neg (by omega)]; exact h7
  · rw [ef]; unfold fup; rw [if_neg (by omega)]; exact h8
  · rw [ef]; unfold fup; rw [if_neg (by omega)]; exact h9
  · rw [ef]; unfold fup; rw [if_neg (by omega)]; exact h10
  · intro i hi a h3 h4
    rw [ef]; unfold fup
    by_cases z : a = q + 11
    · obtain rfl : i = 0 := by omega
      rw [if_pos z, z]; unfold ndF; rw [if_pos (by omega)]; rfl
    · rw [if_neg z, hn2 i hi a h3 h4]
      by_cases hi0 : i = 0
      · subst hi0
        unfold ndF
        simp only [if_neg (show ¬ a = q + 11 + 4 * 0 by omega)]
      · rw [if_neg hi0, if_neg hi0]
set_option maxHeartbeats 4000000 in
set_option maxRecDepth 100000 in
theorem tr_n {p : Program} {l : Launch} {e : Env} {s : State} {m : MethodId} {args : Array Value} {below : List Frame} {meth : Method} {c : Code} {g : Gx} {q : Nat} (C0 : XA p s m meth c args RX2 cX2_init 2 none g) (hname : meth.name = "<init>") (hNW : va_Nw (.methodLinkNest RX2 17 yX1_init "JournalDisk") s ∧ va_AO "JournalDisk$Node" s) : ∀ (k n : Nat) (f : Nat → Option va_E) (H : Heap) (locs : List Loc), n + k = 32 → TrP g q n 0 0 f → CW g f (q + 11 + 4 * n) H → va_S (fun a => q ≤ a) s.heap H locs → ∀ ls : Array Slot, lv_has ls 2 [(0, .ref q), (1, .int (jI (n : Int)))] → W p l e rmX2_init s m args below meth c H locs (10 + 4 * n) (612 + 56 * n) (MQ below (va_Qv (fun (_ : Unit) => True) (fun _ t => CW g (trC g q) (q + 139) t.heap) (fun a => q ≤ a)) args s 138 2404 (fun a => q ≤ a)) (F0 m 73 ls []) := by
  obtain ⟨hx, hb, hr, hlocks, hml, hown, hts, hK⟩ := id C0
  intro k
  induction k with
  | zero =>
    intro n f H locs hn hp hC hS ls hl
    obtain rfl : n = 32 := by omega
    refine lv_iload_n hx hb dX2_init_73 rfl (lv_at hl 1 rfl) ?_
    refine lv_aload_n hx hb dX2_init_74 rfl (lv_at hl 0 rfl) ?_
    refine i_get (C := RX2) (T := TX2) (N := 8) (ci := 2) (fs := [.ref (q + 1), .ref (q + 2), .ref (q + 6), .ref (q + 7), .ref (q + 8), .int (jI 0), .ref (q + 9), .ref (q + 10)]) (v := .ref (q + 1)) hx hb hts inX2 hown hK hC hp.1 rfl 0 (by decide) wd89 (fun _ h => h) rfl dX2_init_75 ?_
    refine i_alen (n := (32 : Int)) (t0 := 1) hx hb hK hC hp.2.1 rfl (show Int32.ofNat 32 = jI 32 by decide +kernel) dX2_init_78 ?_
    refine x_icmp_ge (tgt := 101) hx hb (by decide) (by decide) dX2_init_79 (by decide) (fun ci => ?_) (fun ci => absurd (by decide) ci)
    exact tr_t C0 hname hp hC hS hl
  | succ k ih =>
    intro n f H locs hn hp hC hS ls hl
    have hrn : rg (n : Int) := by constructor <;> omega
    refine lv_iload_n hx hb dX2_init_73 rfl (lv_at hl 1 rfl) ?_
    refine lv_aload_n hx hb dX2_init_74 rfl (lv_at hl 0 rfl) ?_
    refine i_get (C := RX2) (T := TX2) (N := 8) (ci := 2) (fs := [.ref (q + 1), .ref (q + 2), .ref (q + 6), .ref (q + 7), .ref (q + 8), .int (jI 0), .ref (q + 9), .ref (q + 10)]) (v := .ref (q + 1)) hx hb hts inX2 hown hK hC hp.1 rfl 0 (by decide) wd89 (fun _ h => h) rfl dX2_init_75 ?_
    refine i_alen (n := (32 : Int)) (t0 := 1) hx hb hK hC hp.2.1 rfl (show Int32.ofNat 32 = jI 32 by decide +kernel) dX2_init_78 ?_
    refine x_icmp_ge (tgt := 101) hx hb hrn (by decide) dX2_init_79 (by decide) (fun ci => absurd ci (by omega)) (fun ci => ?_)
    refine lv_aload_n hx hb dX2_init_82 rfl (lv_at hl 0 rfl) ?_
    refine i_get (C := RX2) (T := TX2) (N := 8) (ci := 2) (fs := [.ref (q + 1), .ref (q + 2), .ref (q + 6), .ref (q + 7), .ref (q + 8), .int (jI 0), .ref (q + 9), .ref (q + 10)]) (v := .ref (q + 1)) hx hb hts inX2 hown hK hC hp.1 rfl 0 (by decide) wd89 (fun _ h => h) rfl dX2_init_83 ?_
    refine lv_iload_n hx hb dX2_init_86 rfl (lv_at hl 1 rfl) ?_
    refine i_new (C := RX1) (T := TX1) (N := 12) (ci := 1) (fs := [.int (jI 0), .int (jI 0), .int (jI 0), .int (jI 0), .int (jI 0), .int (jI 0), .int (jI 0), .int (jI 0), .int (jI 0), .null, .null, .null]) hx hb hts inX1 tyX1 tyX1_ok hown wd28 wd30 wd3 hK hC hS rfl (fun j hj => by rcases (show j = 0 ∨ j = 1 ∨ j = 2 ∨ j = 3 ∨ j = 4 ∨ j = 5 ∨ j = 6 ∨ j = 7 ∨ j = 8 ∨ j = 9 ∨ j = 10 ∨ j = 11 by omega) with rfl | rfl | rfl | rfl | rfl | rfl | rfl | rfl | rfl | rfl | rfl | rfl <;> decide +kernel) (by simp only [rmX2_init]; omega) (by simp only [rmX2_init]; omega) dX2_init_87 (fun H hC hS => ?_)
    refine lv_dup hx hb dX2_init_90 rfl ?_
    refine i_init (q := q + 11 + 4 * n) (index := 17) hx hb hml hown hts hK hC hS (by omega) (c_X1_init (l := l) (g := g)) (by unfold fup; rw [if_pos rfl]) (fun _ _ => trivial) (fun _ _ _ _ _ => trivial) (Or.inr ⟨_, hNW.1⟩) wd32 wd3 wd33 rfl hyX1_init ⟨rfl, rfl⟩ ⟨Nat.le_of_ble_eq_true rfl, Nat.le_of_ble_eq_true rfl⟩ hl.1 (Nat.le_of_ble_eq_true rfl) dX2_init_91 ⟨by simp only [rmX2_init]; omega, by simp only [rmX2_init]; omega⟩ (fun H locs hC hS => ?_)
    obtain ⟨f2, ef⟩ : ∃ z : Nat → Option va_E, z = (fun a => if q + 11 + 4 * n ≤ a then ndF g 0 (q + 11 + 4 * n) a else fup f (q + 11 + 4 * n) (.inr (1, [.int (jI 0), .int (jI 0), .int (jI 0), .int (jI 0), .int (jI 0), .int (jI 0), .int (jI 0), .int (jI 0), .int (jI 0), .null, .null, .null])) a) := ⟨_, rfl⟩
    rw [← ef] at hC
    have lo2 : ∀ a, a < q + 11 + 4 * n → f2 a = f a := by
      intro a ha
      rw [ef]
      show (if q + 11 + 4 * n ≤ a then _ else _) = _
      rw [if_neg (by omega)]
      unfold fup
      rw [if_neg (by omega)]
    have hi2 : ∀ a, q + 11 + 4 * n ≤ a → f2 a = ndF g 0 (q + 11 + 4 * n) a := by
      intro a ha
      rw [ef]
      show (if q + 11 + 4 * n ≤ a then _ else _) = _
      rw [if_pos ha]
    clear ef
    obtain ⟨h0, h1, h2, h6, h7, h8, h9, h10, hn2⟩ := hp
    refine i_aast (t0 := 1) (ci := 1) (r := (RX1, TX1, 12)) hx hb hK hC hS (by omega) ((lo2 _ (by omega)).trans h1) rfl ((hi2 _ (Nat.le_refl _)).trans (by unfold ndF; rw [if_pos rfl])) rfl hrn (by omega) dX2_init_94 (fun H locs hC hS => ?_)
    obtain ⟨f3, ef⟩ : ∃ z : Nat → Option va_E, z = fup f2 (q + 1) (.inl (g.2 1, 32, .inr (.inr (.inr (.inr (fun k => if k = (n : Int).toNat then some (q + 11 + 4 * n) else if k < n then some (q + 11 + 4 * k) else none)))))) := ⟨_, rfl⟩
    rw [← ef] at hC
    refine x_iinc (lv' := [(1, .int (jI ((n : Int) + 1))), (0, .ref q)]) hx hb dX2_init_95 hl (k := 1) rfl (by decide) rfl (fun ls hl => ?_)
    refine lv_goto (tgt := 73) hx hb dX2_init_98 (by decide) ?_
    refine W.widen (k := 10 + 4 * (n + 1)) (n := 612 + 56 * (n + 1)) (by omega) (by omega) ?_
    refine ih (n + 1) f3 H locs (by omega) ?_ (by rw [show q + 11 + 4 * (n + 1) = q + 11 + 4 * n + 4 by omega]; exact hC) hS ls (lv_sub hl [1, 0] rfl)
    refine ⟨?_, ?_, ?_, ?_, ?_, ?_, ?_, ?_, ?_⟩
    · rw [ef]; unfold fup; rw [if_neg (by omega), lo2 _ (by omega)]; exact h0
    · rw [ef]; unfold fup; rw [if_pos rfl]
      refine congrArg (fun F : Nat → Option Nat => (some (.inl (g.2 1, 32, .inr (.inr (.inr (.inr F))))) : Option va_E)) (funext fun k => ?_)
      by_cases hk : k = (n : Int).toNat
      · rw [if_pos hk, if_pos (by omega), show k = n by omega]
      · rw [if_neg hk]
        by_cases hk2 : k < n
        · rw [if_pos hk2, if_pos (by omega)]
        · rw [if_neg hk2, if_neg (by omega)]
    · intro a h3 h4; rw [ef]; unfold fup; rw [if_neg (by omega), lo2 _ (by omega)]; exact h2 a h3 h4
    · rw [ef]; unfold fup; rw [if_neg (by omega), lo2 _ (by omega)]; exact h6
    · rw [ef]; unfold fup; rw [if_neg (by omega), lo2 _ (by omega)]; exact h7
    · rw [ef]; unfold fup; rw [if_neg (by omega), lo2 _ (by omega)]; exact h8
    · rw [ef]; unfold fup; rw [if_neg (by omega), lo2 _ (by omega)]; exact h9
    · rw [ef]; unfold fup; rw [if_neg (by omega), lo2 _ (by omega)]; exact h10
    · intro i hi a h3 h4
      rw [ef]; unfold fup; rw [if_neg (by omega)]
      by_cases hin : i = n
      · rw [hin] at h3 h4 ⊢
        rw [hi2 a h3]
        split <;> rfl
      · rw [lo2 a (by omega)]; exact hn2 i (by omega) a h3 h4
set_option maxHeartbeats 4000000 in
set_option maxRecDepth 100000 in
theorem c_X2_init {l : Launch} {g : Gx} {q : Nat} : IC l yX2_init cX2_init 2 rmX2_init g q (.inr (2, [.null, .null, .null, .null, .null, .int (jI 0), .null, .null])) (fun U => va_Nw (.methodLinkNest RX2 17 yX1_init "JournalDisk") U ∧ va_AO "JournalDisk$Node" U) 139 (trC g q) 138 2404 := by
  refine ic_of (by decide +kernel) (by decide) ?_
  intro p e s m args below meth c C0 hname hNW hC ls hl
  obtain ⟨hx, hb, hr, hlocks, hml, hown, hts, hK⟩ := id C0
  have hown : s.vm.findClass RX2 = some m.cls := hown
  have hS : va_S (fun a => q ≤ a) s.heap s.heap [] := va_S.rf
  obtain ⟨H, hH⟩ : ∃ z, z = s.heap := ⟨_, rfl⟩
  obtain ⟨locs, hlo⟩ : ∃ z : List Loc, z = [] := ⟨_, rfl⟩
  have hC : CW g (fup (fun _ => none) q (.inr (2, [.null, .null, .null, .null, .null, .int (jI 0), .null, .null]))) (q + 1) H := by rw [hH]; exact hC
  have hS : va_S (fun a => q ≤ a) s.heap H locs := by rw [hH, hlo]; exact hS
  suffices hW : W p l e rmX2_init s m args below meth c H locs 0 0 (MQ below (va_Qv (fun (_ : Unit) => True) (fun _ t => CW g (trC g q) (q + 139) t.heap) (fun a => q ≤ a)) args s 138 2404 (fun a => q ≤ a)) (F0 m 0 ls []) by rw [hH, hlo] at hW; exact hW
  clear hH hlo
  obtain ⟨f0, ef⟩ : ∃ z : Nat → Option va_E, z = fup (fun _ => none) q (.inr (2, [.null, .null, .null, .null, .null, .int (jI 0), .null, .null])) := ⟨_, rfl⟩
  rw [← ef] at hC
  have n0 : f0 q = some (.inr (2, [.null, .null, .null, .null, .null, .int (jI 0), .null, .null])) := by rw [ef]; unfold fup; rw [if_pos rfl]
  clear ef
  refine lv_aload_n hx hb dX2_init_0 rfl (lv_at hl 0 rfl) ?_
  refine W.objInit hx hb hown (hts _ wd27) (hts _ wd20) (hts _ wd21) rfl (by rw [hml]; exact hl.1) rfl dX2_init_1 (Nat.le_of_ble_eq_true rfl) (Nat.le_of_ble_eq_true rfl) ?_
  refine W.eq (g2 := F0 m 4 ls []) rfl ?_
  refine lv_aload_n hx hb dX2_init_4 rfl (lv_at hl 0 rfl) ?_
  refine x_bipush hx hb (by decide +kernel) dX2_init_5 ?_
  refine i_newq (C := "JournalDisk$Node") (t0 := 1) (cA0 := g.2 1) (N := 32) hx hb hts hown wd28 hNW.2 hK rfl hC hS (by decide) rfl (by decide) (by simp only [rmX2_init]; omega) (by simp only [rmX2_init]; omega) dX2_init_7 (fun H hC hS => ?_)
  obtain ⟨f1, ef⟩ : ∃ z, z = fup f0 (q + 1) (.inl (g.2 1, 32, .inr (.inr (.inr (.inr (fun _ => none)))))) := ⟨_, rfl⟩
  rw [← ef] at hC
  have n0 : f1 (q) = some (.inr (2, [.null, .null, .null, .null, .null, .int (jI 0), .null, .null])) := by rw [ef]; unfold fup; rw [if_neg (by omega)]; exact n0
  have n1 : f1 (q + 1) = some (.inl (g.2 1, 32, .inr (.inr (.inr (.inr (fun _ => none)))))) := by rw [ef]; unfold fup; rw [if_pos rfl]
  clear ef
  have hC : CW g f1 (q + 2) H := hC
  refine i_put (C := RX2) (T := TX2) (N := 8) (ci := 2) (fs := [.null, .null, .null, .null, .null, .int (jI 0), .null, .null]) (ty := tyX2 0) (v := .ref (q + 1)) hx hb hts inX2 tyX2 tyX2_ok nmX2 hown hname hK hC hS (by omega) n0 rfl 0 (by decide) wd89 (fun _ h => h) (fun _ => rfl) (by decide +kernel) rfl rfl (show 0 < 8 by decide) dX2_init_10 (fun H locs hC hS => ?_)
  have hC : CW g (fup f1 (q) (.inr (2, [.ref (q + 1), .null, .null, .null, .null, .int (jI 0), .null, .null]))) (q + 2) H := hC
  obtain ⟨f2, ef⟩ : ∃ z, z = fup f1 (q) (.inr (2, [.ref (q + 1), .null, .null, .null, .null, .int (jI 0), .null, .null])) := ⟨_, rfl⟩
  rw [← ef] at hC
  have n0 : f2 (q) = some (.inr (2, [.ref (q + 1), .null, .null, .null, .null, .int (jI 0), .null, .null])) := by rw [ef]; unfold fup; rw [if_pos rfl]
  have n1 : f2 (q + 1) = some (.inl (g.2 1, 32, .inr (.inr (.inr (.inr (fun _ => none)))))) := by rw [ef]; unfold fup; rw [if_neg (by omega)]; exact n1
  clear ef
  refine lv_aload_n hx hb dX2_init_13 rfl (lv_at hl 0 rfl) ?_
  refine i_new (C := RX1) (T := TX1) (N := 12) (ci := 1) (fs := [.int (jI 0), .int (jI 0), .int (jI 0), .int (jI 0), .int (jI 0), .int (jI 0), .int (jI 0), .int (jI 0), .int (jI 0), .null, .null, .null]) hx hb hts inX1 tyX1 tyX1_ok hown wd28 wd30 wd3 hK hC hS rfl (fun j hj => by rcases (show j = 0 ∨ j = 1 ∨ j = 2 ∨ j = 3 ∨ j = 4 ∨ j = 5 ∨ j = 6 ∨ j = 7 ∨ j = 8 ∨ j = 9 ∨ j = 10 ∨ j = 11 by omega) with rfl | rfl | rfl | rfl | rfl | rfl | rfl | rfl | rfl | rfl | rfl | rfl <;> decide +kernel) (by simp only [rmX2_init]; omega) (by simp only [rmX2_init]; omega) dX2_init_14 (fun H hC hS => ?_)
  obtain ⟨f3, ef⟩ : ∃ z, z = fup f2 (q + 2) (.inr (1, [.int (jI 0), .int (jI 0), .int (jI 0), .int (jI 0), .int (jI 0), .int (jI 0), .int (jI 0), .int (jI 0), .int (jI 0), .null, .null, .null])) := ⟨_, rfl⟩
  rw [← ef] at hC
  have n0 : f3 (q) = some (.inr (2, [.ref (q + 1), .null, .null, .null, .null, .int (jI 0), .null, .null])) := by rw [ef]; unfold fup; rw [if_neg (by omega)]; exact n0
  have n1 : f3 (q + 1) = some (.inl (g.2 1, 32, .inr (.inr (.inr (.inr (fun _ => none)))))) := by rw [ef]; unfold fup; rw [if_neg (by omega)]; exact n1
  have n2 : f3 (q + 2) = some (.inr (1, [.int (jI 0), .int (jI 0), .int (jI 0), .int (jI 0), .int (jI 0), .int (jI 0), .int (jI 0), .int (jI 0), .int (jI 0), .null, .null, .null])) := by rw [ef]; unfold fup; rw [if_pos rfl]
  clear ef
  have hC : CW g f3 (q + 2 + 1) H := hC
  refine lv_dup hx hb dX2_init_17 rfl ?_
  refine i_init (q := q + 2) (index := 17) hx hb hml hown hts hK hC hS (by omega) (c_X1_init (l := l) (g := g)) n2 (fun _ _ => trivial) (fun _ _ _ _ _ => trivial) (Or.inr ⟨_, hNW.1⟩) wd32 wd3 wd33 rfl hyX1_init ⟨rfl, rfl⟩ ⟨Nat.le_of_ble_eq_true rfl, Nat.le_of_ble_eq_true rfl⟩ hl.1 (Nat.le_of_ble_eq_true rfl) dX2_init_18 ⟨by simp only [rmX2_init]; omega, by simp only [rmX2_init]; omega⟩ (fun H locs hC hS => ?_)
  obtain ⟨f4, ef⟩ : ∃ z : Nat → Option va_E, z = (fun a => if q + 2 ≤ a then ndF g 0 (q + 2) a else f3 a) := ⟨_, rfl⟩
  rw [← ef] at hC
  have n0 : f4 (q) = some (.inr (2, [.ref (q + 1), .null, .null, .null, .null, .int (jI 0), .null, .null])) := by rw [ef]; show (if q + 2 ≤ q then _ else _) = _; rw [if_neg (by omega)]; exact n0
  have n1 : f4 (q + 1) = some (.inl (g.2 1, 32, .inr (.inr (.inr (.inr (fun _ => none)))))) := by rw [ef]; show (if q + 2 ≤ q + 1 then _ else _) = _; rw [if_neg (by omega)]; exact n1
  have n22 : ∀ a, q + 2 ≤ a → a < q + 6 → f4 a = ndF g 0 (q + 2) a := by intro a ha1 ha2; rw [ef]; show (if q + 2 ≤ a then _ else _) = _; rw [if_pos ha1]
  clear ef
  have hC : CW g f4 (q + 6) H := by have h9 := hC; simpa [Nat.add_assoc] using h9
  refine i_put (C := RX2) (T := TX2) (N := 8) (ci := 2) (fs := [.ref (q + 1), .null, .null, .null, .null, .int (jI 0), .null, .null]) (ty := tyX2 1) (v := .ref (q + 2)) hx hb hts inX2 tyX2 tyX2_ok nmX2 hown hname hK hC hS (by omega) n0 rfl 1 (by decide) wd90 (fun _ h => h) (fun _ => rfl) (by decide +kernel) rfl rfl (show 1 < 8 by decide) dX2_init_21 (fun H locs hC hS => ?_)
  have hC : CW g (fup f4 (q) (.inr (2, [.ref (q + 1), .ref (q + 2), .null, .null, .null, .int (jI 0), .null, .null]))) (q + 6) H := hC
  obtain ⟨f5, ef⟩ : ∃ z, z = fup f4 (q) (.inr (2, [.ref (q + 1), .ref (q + 2), .null, .null, .null, .int (jI 0), .null, .null])) := ⟨_, rfl⟩
  rw [← ef] at hC
  have n0 : f5 (q) = some (.inr (2, [.ref (q + 1), .ref (q + 2), .null, .null, .null, .int (jI 0), .null, .null])) := by rw [ef]; unfold fup; rw [if_pos rfl]
  have n1 : f5 (q + 1) = some (.inl (g.2 1, 32, .inr (.inr (.inr (.inr (fun _ => none)))))) := by rw [ef]; unfold fup; rw [if_neg (by omega)]; exact n1
  have n22 : ∀ a, q + 2 ≤ a → a < q + 6 → f5 a = ndF g 0 (q + 2) a := by intro a ha1 ha2; rw [ef]; unfold fup; rw [if_neg (by omega)]; exact n22 a ha1 ha2
  clear ef
  refine lv_aload_n hx hb dX2_init_24 rfl (lv_at hl 0 rfl) ?_
  refine x_iconst hx hb dX2_init_25 ?_
  refine i_newa (N := 4) hx hb hts wdInt hK hC hS (by decide) rfl (by decide) (by simp only [rmX2_init]; omega) (by simp only [rmX2_init]; omega) dX2_init_26 (fun H hC hS => ?_)
  obtain ⟨f6, ef⟩ : ∃ z, z = fup f5 (q + 6) (.inl (g.2 0, 4, .inl (fun _ => jI 0))) := ⟨_, rfl⟩
  rw [← ef] at hC
  have n0 : f6 (q) = some (.inr (2, [.ref (q + 1), .ref (q + 2), .null, .null, .null, .int (jI 0), .null, .null])) := by rw [ef]; unfold fup; rw [if_neg (by omega)]; exact n0
  have n1 : f6 (q + 1) = some (.inl (g.2 1, 32, .inr (.inr (.inr (.inr (fun _ => none)))))) := by rw [ef]; unfold fup; rw [if_neg (by omega)]; exact n1
  have n22 : ∀ a, q + 2 ≤ a → a < q + 6 → f6 a = ndF g 0 (q + 2) a := by intro a ha1 ha2; rw [ef]; unfold fup; rw [if_neg (by omega)]; exact n22 a ha1 ha2
  have n3 : f6 (q + 6) = some (.inl (g.2 0, 4, .inl (fun _ => jI 0))) := by rw [ef]; unfold fup; rw [if_pos rfl]
  clear ef
  have hC : CW g f6 (q + 7) H := hC
  refine i_put (C := RX2) (T := TX2) (N := 8) (ci := 2) (fs := [.ref (q + 1), .ref (q + 2), .null, .null, .null, .int (jI 0), .null, .null]) (ty := tyX2 2) (v := .ref (q + 6)) hx hb hts inX2 tyX2 tyX2_ok nmX2 hown hname hK hC hS (by omega) n0 rfl 2 (by decide) wd91 (fun _ h => h) (fun _ => rfl) (by decide +kernel) rfl rfl (show 2 < 8 by decide) dX2_init_28 (fun H locs hC hS => ?_)
  have hC : CW g (fup f6 (q) (.inr (2, [.ref (q + 1), .ref (q + 2), .ref (q + 6), .null, .null, .int (jI 0), .null, .null]))) (q + 7) H := hC
  obtain ⟨f7, ef⟩ : ∃ z, z = fup f6 (q) (.inr (2, [.ref (q + 1), .ref (q + 2), .ref (q + 6), .null, .null, .int (jI 0), .null, .null])) := ⟨_, rfl⟩
  rw [← ef] at hC
  have n0 : f7 (q) = some (.inr (2, [.ref (q + 1), .ref (q + 2), .ref (q + 6), .null, .null, .int (jI 0), .null, .null])) := by rw [ef]; unfold fup; rw [if_pos rfl]
  have n1 : f7 (q + 1) = some (.inl (g.2 1, 32, .inr (.inr (.inr (.inr (fun _ => none)))))) := by rw [ef]; unfold fup; rw [if_neg (by omega)]; exact n1
  have n22 : ∀ a, q + 2 ≤ a → a < q + 6 → f7 a = ndF g 0 (q + 2) a := by intro a ha1 ha2; rw [ef]; unfold fup; rw [if_neg (by omega)]; exact n22 a ha1 ha2
  have n3 : f7 (q + 6) = some (.inl (g.2 0, 4, .inl (fun _ => jI 0))) := by rw [ef]; unfold fup; rw [if_neg (by omega)]; exact n3
  clear ef
  refine lv_aload_n hx hb dX2_init_31 rfl (lv_at hl 0 rfl) ?_
  refine x_sipush hx hb (by decide +kernel) dX2_init_32 ?_
  refine i_newl (N := 256) hx hb hts wdLong hK hC hS (by decide) rfl (by decide) (by simp only [rmX2_init]; omega) (by simp only [rmX2_init]; omega) dX2_init_35 (fun H hC hS => ?_)
  obtain ⟨f8, ef⟩ : ∃ z, z = fup f7 (q + 7) (.inl (g.2 4, 256, .inr (.inl (fun _ => 0)))) := ⟨_, rfl⟩
  rw [← ef] at hC
  have n0 : f8 (q) = some (.inr (2, [.ref (q + 1), .ref (q + 2), .ref (q + 6), .null, .null, .int (jI 0), .null, .null])) := by rw [ef]; unfold fup; rw [if_neg (by omega)]; exact n0
  have n1 : f8 (q + 1) = some (.inl (g.2 1, 32, .inr (.inr (.inr (.inr (fun _ => none)))))) := by rw [ef]; unfold fup; rw [if_neg (by omega)]; exact n1
  have n22 : ∀ a, q + 2 ≤ a → a < q + 6 → f8 a = ndF g 0 (q + 2) a := by intro a ha1 ha2; rw [ef]; unfold fup; rw [if_neg (by omega)]; exact n22 a ha1 ha2
  have n3 : f8 (q + 6) = some (.inl (g.2 0, 4, .inl (fun _ => jI 0))) := by rw [ef]; unfold fup; rw [if_neg (by omega)]; exact n3
  have n4 : f8 (q + 7) = some (.inl (g.2 4, 256, .inr (.inl (fun _ => 0)))) := by rw [ef]; unfold fup; rw [if_pos rfl]
  clear ef
  have hC : CW g f8 (q + 8) H := hC
  refine i_put (C := RX2) (T := TX2) (N := 8) (ci := 2) (fs := [.ref (q + 1), .ref (q + 2), .ref (q + 6), .null, .null, .int (jI 0), .null, .null]) (ty := tyX2 3) (v := .ref (q + 7)) hx hb hts inX2 tyX2 tyX2_ok nmX2 hown hname hK hC hS (by omega) n0 rfl 3 (by decide) wd92 (fun _ h => h) (fun _ => rfl) (by decide +kernel) rfl rfl (show 3 < 8 by decide) dX2_init_37 (fun H locs hC hS => ?_)
  have hC : CW g (fup f8 (q) (.inr (2, [.ref (q + 1), .ref (q + 2), .ref (q + 6), .ref (q + 7), .null, .int (jI 0), .null, .null]))) (q + 8) H := hC
  obtain ⟨f9, ef⟩ : ∃ z, z = fup f8 (q) (.inr (2, [.ref (q + 1), .ref (q + 2), .ref (q + 6), .ref (q + 7), .null, .int (jI 0), .null, .null])) := ⟨_, rfl⟩
  rw [← ef] at hC
  have n0 : f9 (q) = some (.inr (2, [.ref (q + 1), .ref (q + 2), .ref (q + 6), .ref (q + 7), .null, .int (jI 0), .null, .null])) := by rw [ef]; unfold fup; rw [if_pos rfl]
  have n1 : f9 (q + 1) = some (.inl (g.2 1, 32, .inr (.inr (.inr (.inr (fun _ => none)))))) := by rw [ef]; unfold fup; rw [if_neg (by omega)]; exact n1
  have n22 : ∀ a, q + 2 ≤ a → a < q + 6 → f9 a = ndF g 0 (q + 2) a := by intro a ha1 ha2; rw [ef]; unfold fup; rw [if_neg (by omega)]; exact n22 a ha1 ha2
  have n3 : f9 (q + 6) = some (.inl (g.2 0, 4, .inl (fun _ => jI 0))) := by rw [ef]; unfold fup; rw [if_neg (by omega)]; exact n3
  have n4 : f9 (q + 7) = some (.inl (g.2 4, 256, .inr (.inl (fun _ => 0)))) := by rw [ef]; unfold fup; rw [if_neg (by omega)]; exact n4
  clear ef
  refine lv_aload_n hx hb dX2_init_40 rfl (lv_at hl 0 rfl) ?_
  refine x_sipush hx hb (by decide +kernel) dX2_init_41 ?_
  refine i_newa (N := 128) hx hb hts wdInt hK hC hS (by decide) rfl (by decide) (by simp only [rmX2_init]; omega) (by simp only [rmX2_init]; omega) dX2_init_44 (fun H hC hS => ?_)
  obtain ⟨f10, ef⟩ : ∃ z, z = fup f9 (q + 8) (.inl (g.2 0, 128, .inl (fun _ => jI 0))) := ⟨_, rfl⟩
  rw [← ef] at hC
  have n0 : f10 (q) = some (.inr (2, [.ref (q + 1), .ref (q + 2), .ref (q + 6), .ref (q + 7), .null, .int (jI 0), .null, .null])) := by rw [ef]; unfold fup; rw [if_neg (by omega)]; exact n0
  have n1 : f10 (q + 1) = some (.inl (g.2 1, 32, .inr (.inr (.inr (.inr (fun _ => none)))))) := by rw [ef]; unfold fup; rw [if_neg (by omega)]; exact n1
  have n22 : ∀ a, q + 2 ≤ a → a < q + 6 → f10 a = ndF g 0 (q + 2) a := by intro a ha1 ha2; rw [ef]; unfold fup; rw [if_neg (by omega)]; exact n22 a ha1 ha2
  have n3 : f10 (q + 6) = some (.inl (g.2 0, 4, .inl (fun _ => jI 0))) := by rw [ef]; unfold fup; rw [if_neg (by omega)]; exact n3
  have n4 : f10 (q + 7) = some (.inl (g.2 4, 256, .inr (.inl (fun _ => 0)))) := by rw [ef]; unfold fup; rw [if_neg (by omega)]; exact n4
  have n5 : f10 (q + 8) = some (.inl (g.2 0, 128, .inl (fun _ => jI 0))) := by rw [ef]; unfold fup; rw [if_pos rfl]
  clear ef
  have hC : CW g f10 (q + 9) H := hC
  refine i_put (C := RX2) (T := TX2) (N := 8) (ci := 2) (fs := [.ref (q + 1), .ref (q + 2), .ref (q + 6), .ref (q + 7), .null, .int (jI 0), .null, .null]) (ty := tyX2 4) (v := .ref (q + 8)) hx hb hts inX2 tyX2 tyX2_ok nmX2 hown hname hK hC hS (by omega) n0 rfl 4 (by decide) wd93 (fun _ h => h) (fun _ => rfl) (by decide +kernel) rfl rfl (show 4 < 8 by decide) dX2_init_46 (fun H locs hC hS => ?_)
  have hC : CW g (fup f10 (q) (.inr (2, [.ref (q + 1), .ref (q + 2), .ref (q + 6), .ref (q + 7), .ref (q + 8), .int (jI 0), .null, .null]))) (q + 9) H := hC
  obtain ⟨f11, ef⟩ : ∃ z, z = fup f10 (q) (.inr (2, [.ref (q + 1), .ref (q + 2), .ref (q + 6), .ref (q + 7), .ref (q + 8), .int (jI 0), .null, .null])) := ⟨_, rfl⟩
  rw [← ef] at hC
  have n0 : f11 (q) = some (.inr (2, [.ref (q + 1), .ref (q + 2), .ref (q + 6), .ref (q + 7), .ref (q + 8), .int (jI 0), .null, .null])) := by rw [ef]; unfold fup; rw [if_pos rfl]
  have n1 : f11 (q + 1) = some (.inl (g.2 1, 32, .inr (.inr (.inr (.inr (fun _ => none)))))) := by rw [ef]; unfold fup; rw [if_neg (by omega)]; exact n1
  have n22 : ∀ a, q + 2 ≤ a → a < q + 6 → f11 a = ndF g 0 (q + 2) a := by intro a ha1 ha2; rw [ef]; unfold fup; rw [if_neg (by omega)]; exact n22 a ha1 ha2
  have n3 : f11 (q + 6) = some (.inl (g.2 0, 4, .inl (fun _ => jI 0))) := by rw [ef]; unfold fup; rw [if_neg (by omega)]; exact n3
  have n4 : f11 (q + 7) = some (.inl (g.2 4, 256, .inr (.inl (fun _ => 0)))) := by rw [ef]; unfold fup; rw [if_neg (by omega)]; exact n4
  have n5 : f11 (q + 8) = some (.inl (g.2 0, 128, .inl (fun _ => jI 0))) := by rw [ef]; unfold fup; rw [if_neg (by omega)]; exact n5
  clear ef
  refine lv_aload_n hx hb dX2_init_49 rfl (lv_at hl 0 rfl) ?_
  refine x_iconst hx hb dX2_init_50 ?_
  refine i_put (C := RX2) (T := TX2) (N := 8) (ci := 2) (fs := [.ref (q + 1), .ref (q + 2), .ref (q + 6), .ref (q + 7), .ref (q + 8), .int (jI 0), .null, .null]) (ty := tyX2 5) (v := .int (jI (0 : Int))) hx hb hts inX2 tyX2 tyX2_ok nmX2 hown hname hK hC hS (by omega) n0 rfl 5 (by decide) wd94 (fun _ h => h) (fun _ => rfl) (by decide +kernel) rfl rfl (show 5 < 8 by decide) dX2_init_51 (fun H locs hC hS => ?_)
  have hC : CW g (fup f11 (q) (.inr (2, [.ref (q + 1), .ref (q + 2), .ref (q + 6), .ref (q + 7), .ref (q + 8), .int (jI (0 : Int)), .null, .null]))) (q + 9) H := hC
  obtain ⟨f12, ef⟩ : ∃ z, z = fup f11 (q) (.inr (2, [.ref (q + 1), .ref (q + 2), .ref (q + 6), .ref (q + 7), .ref (q + 8), .int (jI (0 : Int)), .null, .null])) := ⟨_, rfl⟩
  rw [← ef] at hC
  have n0 : f12 (q) = some (.inr (2, [.ref (q + 1), .ref (q + 2), .ref (q + 6), .ref (q + 7), .ref (q + 8), .int (jI (0 : Int)), .null, .null])) := by rw [ef]; unfold fup; rw [if_pos rfl]
  have n1 : f12 (q + 1) = some (.inl (g.2 1, 32, .inr (.inr (.inr (.inr (fun _ => none)))))) := by rw [ef]; unfold fup; rw [if_neg (by omega)]; exact n1
  have n22 : ∀ a, q + 2 ≤ a → a < q + 6 → f12 a = ndF g 0 (q + 2) a := by intro a ha1 ha2; rw [ef]; unfold fup; rw [if_neg (by omega)]; exact n22 a ha1 ha2
  have n3 : f12 (q + 6) = some (.inl (g.2 0, 4, .inl (fun _ => jI 0))) := by rw [ef]; unfold fup; rw [if_neg (by omega)]; exact n3
  have n4 : f12 (q + 7) = some (.inl (g.2 4, 256, .inr (.inl (fun _ => 0)))) := by rw [ef]; unfold fup; rw [if_neg (by omega)]; exact n4
  have n5 : f12 (q + 8) = some (.inl (g.2 0, 128, .inl (fun _ => jI 0))) := by rw [ef]; unfold fup; rw [if_neg (by omega)]; exact n5
  clear ef
  refine lv_aload_n hx hb dX2_init_54 rfl (lv_at hl 0 rfl) ?_
  refine x_sipush hx hb (by decide +kernel) dX2_init_55 ?_
  refine i_newa (N := 128) hx hb hts wdInt hK hC hS (by decide) rfl (by decide) (by simp only [rmX2_init]; omega) (by simp only [rmX2_init]; omega) dX2_init_58 (fun H hC hS => ?_)
  obtain ⟨f13, ef⟩ : ∃ z, z = fup f12 (q + 9) (.inl (g.2 0, 128, .inl (fun _ => jI 0))) := ⟨_, rfl⟩
  rw [← ef] at hC
  have n0 : f13 (q) = some (.inr (2, [.ref (q + 1), .ref (q + 2), .ref (q + 6), .ref (q + 7), .ref (q + 8), .int (jI (0 : Int)), .null, .null])) := by rw [ef]; unfold fup; rw [if_neg (by omega)]; exact n0
  have n1 : f13 (q + 1) = some (.inl (g.2 1, 32, .inr (.inr (.inr (.inr (fun _ => none)))))) := by rw [ef]; unfold fup; rw [if_neg (by omega)]; exact n1
  have n22 : ∀ a, q + 2 ≤ a → a < q + 6 → f13 a = ndF g 0 (q + 2) a := by intro a ha1 ha2; rw [ef]; unfold fup; rw [if_neg (by omega)]; exact n22 a ha1 ha2
  have n3 : f13 (q + 6) = some (.inl (g.2 0, 4, .inl (fun _ => jI 0))) := by rw [ef]; unfold fup; rw [if_neg (by omega)]; exact n3
  have n4 : f13 (q + 7) = some (.inl (g.2 4, 256, .inr (.inl (fun _ => 0)))) := by rw [ef]; unfold fup; rw [if_neg (by omega)]; exact n4
  have n5 : f13 (q + 8) = some (.inl (g.2 0, 128, .inl (fun _ => jI 0))) := by rw [ef]; unfold fup; rw [if_neg (by omega)]; exact n5
  have n6 : f13 (q + 9) = some (.inl (g.2 0, 128, .inl (fun _ => jI 0))) := by rw [ef]; unfold fup; rw [if_pos rfl]
  clear ef
  have hC : CW g f13 (q + 10) H := hC
  refine i_put (C := RX2) (T := TX2) (N := 8) (ci := 2) (fs := [.ref (q + 1), .ref (q + 2), .ref (q + 6), .ref (q + 7), .ref (q + 8), .int (jI (0 : Int)), .null, .null]) (ty := tyX2 6) (v := .ref (q + 9)) hx hb hts inX2 tyX2 tyX2_ok nmX2 hown hname hK hC hS (by omega) n0 rfl 6 (by decide) wd96 (fun _ h => h) (fun _ => rfl) (by decide +kernel) rfl rfl (show 6 < 8 by decide) dX2_init_60 (fun H locs hC hS => ?_)
  have hC : CW g (fup f13 (q) (.inr (2, [.ref (q + 1), .ref (q + 2), .ref (q + 6), .ref (q + 7), .ref (q + 8), .int (jI (0 : Int)), .ref (q + 9), .null]))) (q + 10) H := hC
  obtain ⟨f14, ef⟩ : ∃ z, z = fup f13 (q) (.inr (2, [.ref (q + 1), .ref (q + 2), .ref (q + 6), .ref (q + 7), .ref (q + 8), .int (jI (0 : Int)), .ref (q + 9), .null])) := ⟨_, rfl⟩
  rw [← ef] at hC
  have n0 : f14 (q) = some (.inr (2, [.ref (q + 1), .ref (q + 2), .ref (q + 6), .ref (q + 7), .ref (q + 8), .int (jI (0 : Int)), .ref (q + 9), .null])) := by rw [ef]; unfold fup; rw [if_pos rfl]
  have n1 : f14 (q + 1) = some (.inl (g.2 1, 32, .inr (.inr (.inr (.inr (fun _ => none)))))) := by rw [ef]; unfold fup; rw [if_neg (by omega)]; exact n1
  have n22 : ∀ a, q + 2 ≤ a → a < q + 6 → f14 a = ndF g 0 (q + 2) a := by intro a ha1 ha2; rw [ef]; unfold fup; rw [if_neg (by omega)]; exact n22 a ha1 ha2
  have n3 : f14 (q + 6) = some (.inl (g.2 0, 4, .inl (fun _ => jI 0))) := by rw [ef]; unfold fup; rw [if_neg (by omega)]; exact n3
  have n4 : f14 (q + 7) = some (.inl (g.2 4, 256, .inr (.inl (fun _ => 0)))) := by rw [ef]; unfold fup; rw [if_neg (by omega)]; exact n4
  have n5 : f14 (q + 8) = some (.inl (g.2 0, 128, .inl (fun _ => jI 0))) := by rw [ef]; unfold fup; rw [if_neg (by omega)]; exact n5
  have n6 : f14 (q + 9) = some (.inl (g.2 0, 128, .inl (fun _ => jI 0))) := by rw [ef]; unfold fup; rw [if_neg (by omega)]; exact n6
  clear ef
  refine lv_aload_n hx hb dX2_init_63 rfl (lv_at hl 0 rfl) ?_
  refine x_bipush hx hb (by decide +kernel) dX2_init_64 ?_
  refine i_newa (N := 8) hx hb hts wdInt hK hC hS (by decide) rfl (by decide) (by simp only [rmX2_init]; omega) (by simp only [rmX2_init]; omega) dX2_init_66 (fun H hC hS => ?_)
  obtain ⟨f15, ef⟩ : ∃ z, z = fup f14 (q + 10) (.inl (g.2 0, 8, .inl (fun _ => jI 0))) := ⟨_, rfl⟩
  rw [← ef] at hC
  have n0 : f15 (q) = some (.inr (2, [.ref (q + 1), .ref (q + 2), .ref (q + 6), .ref (q + 7), .ref (q + 8), .int (jI (0 : Int)), .ref (q + 9), .null])) := by rw [ef]; unfold fup; rw [if_neg (by omega)]; exact n0
  have n1 : f15 (q + 1) = some (.inl (g.2 1, 32, .inr (.inr (.inr (.inr (fun _ => none)))))) := by rw [ef]; unfold fup; rw [if_neg (by omega)]; exact n1
  have n22 : ∀ a, q + 2 ≤ a → a < q + 6 → f15 a = ndF g 0 (q + 2) a := by intro a ha1 ha2; rw [ef]; unfold fup; rw [if_neg (by omega)]; exact n22 a ha1 ha2
  have n3 : f15 (q + 6) = some (.inl (g.2 0, 4, .inl (fun _ => jI 0))) := by rw [ef]; unfold fup; rw [if_neg (by omega)]; exact n3
  have n4 : f15 (q + 7) = some (.inl (g.2 4, 256, .inr (.inl (fun _ => 0)))) := by rw [ef]; unfold fup; rw [if_neg (by omega)]; exact n4
  have n5 : f15 (q + 8) = some (.inl (g.2 0, 128, .inl (fun _ => jI 0))) := by rw [ef]; unfold fup; rw [if_neg (by omega)]; exact n5
  have n6 : f15 (q + 9) = some (.inl (g.2 0, 128, .inl (fun _ => jI 0))) := by rw [ef]; unfold fup; rw [if_neg (by omega)]; exact n6
  have n7 : f15 (q + 10) = some (.inl (g.2 0, 8, .inl (fun _ => jI 0))) := by rw [ef]; unfold fup; rw [if_pos rfl]
  clear ef
  have hC : CW g f15 (q + 11) H := hC
  refine i_put (C := RX2) (T := TX2) (N := 8) (ci := 2) (fs := [.ref (q + 1), .ref (q + 2), .ref (q + 6), .ref (q + 7), .ref (q + 8), .int (jI (0 : Int)), .ref (q + 9), .null]) (ty := tyX2 7) (v := .ref (q + 10)) hx hb hts inX2 tyX2 tyX2_ok nmX2 hown hname hK hC hS (by omega) n0 rfl 7 (by decide) wd97 (fun _ h => h) (fun _ => rfl) (by decide +kernel) rfl rfl (show 7 < 8 by decide) dX2_init_68 (fun H locs hC hS => ?_)
  have hC : CW g (fup f15 (q) (.inr (2, [.ref (q + 1), .ref (q + 2), .ref (q + 6), .ref (q + 7), .ref (q + 8), .int (jI (0 : Int)), .ref (q + 9), .ref (q + 10)]))) (q + 11) H := hC
  obtain ⟨f16, ef⟩ : ∃ z, z = fup f15 (q) (.inr (2, [.ref (q + 1), .ref (q + 2), .ref (q + 6), .ref (q + 7), .ref (q + 8), .int (jI (0 : Int)), .ref (q + 9), .ref (q + 10)])) := ⟨_, rfl⟩
  rw [← ef] at hC
  have n0 : f16 (q) = some (.inr (2, [.ref (q + 1), .ref (q + 2), .ref (q + 6), .ref (q + 7), .ref (q + 8), .int (jI (0 : Int)), .ref (q + 9), .ref (q + 10)])) := by rw [ef]; unfold fup; rw [if_pos rfl]
  have n1 : f16 (q + 1) = some (.inl (g.2 1, 32, .inr (.inr (.inr (.inr (fun _ => none)))))) := by rw [ef]; unfold fup; rw [if_neg (by omega)]; exact n1
  have n22 : ∀ a, q + 2 ≤ a → a < q + 6 → f16 a = ndF g 0 (q + 2) a := by intro a ha1 ha2; rw [ef]; unfold fup; rw [if_neg (by omega)]; exact n22 a ha1 ha2
  have n3 : f16 (q + 6) = some (.inl (g.2 0, 4, .inl (fun _ => jI 0))) := by rw [ef]; unfold fup; rw [if_neg (by omega)]; exact n3
  have n4 : f16 (q + 7) = some (.inl (g.2 4, 256, .inr (.inl (fun _ => 0)))) := by rw [ef]; unfold fup; rw [if_neg (by omega)]; exact n4
  have n5 : f16 (q + 8) = some (.inl (g.2 0, 128, .inl (fun _ => jI 0))) := by rw [ef]; unfold fup; rw [if_neg (by omega)]; exact n5
  have n6 : f16 (q + 9) = some (.inl (g.2 0, 128, .inl (fun _ => jI 0))) := by rw [ef]; unfold fup; rw [if_neg (by omega)]; exact n6
  have n7 : f16 (q + 10) = some (.inl (g.2 0, 8, .inl (fun _ => jI 0))) := by rw [ef]; unfold fup; rw [if_neg (by omega)]; exact n7
  clear ef
  refine x_iconst hx hb dX2_init_71 ?_
  refine lv_istore_n (lv' := [(1, .int (jI 0)), (0, .ref q)]) hx hb dX2_init_72 rfl hl (by decide) rfl (fun ls hl => ?_)
  refine W.widen (k := 10) (n := 612) (by omega) (by omega) ?_
  exact tr_n C0 hname hNW 32 0 f16 H locs rfl ⟨n0, n1, n22, n3, n4, n5, n6, n7, fun i hi => absurd hi (Nat.not_lt_zero i)⟩ hC hS ls (lv_sub hl [1, 0] rfl)
