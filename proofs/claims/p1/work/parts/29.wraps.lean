abbrev rmL_makeFile : Room := { frames := max rmX3_makeFile.frames rmTX3_makeFile.frames + 1, cells := 1, slots := 6, locals := 8 + (3 + 11) + max rmX3_makeFile.locals rmTX3_makeFile.locals }
abbrev hhL_makeFile : List (Nat × Nat × Nat × Nat) := [(0, 10, 13, 13), (0, 10, 17, 15), (0, 10, 21, 17)]
theorem hyL_makeFile : yX3_makeFile.cls = RX3 ∧ yX3_makeFile.cls ≠ "java/lang/invoke/MethodHandle" ∧ yX3_makeFile.cls ≠ "java/lang/invoke/VarHandle" ∧ (parseMethodDescriptor yX3_makeFile.desc).map (fun d => d.parameters.length) = some 2 := by decide +kernel
set_option maxHeartbeats 4000000 in
set_option maxRecDepth 100000 in
theorem nL_makeFile {l : Launch} {g : Gx} {b o : Nat} {p0 : Int} {p1 : Int} {M M' : Mm} {r : Int} (hC : Ct l yX3_makeFile cX3_makeFile 3 (some .int) rmX3_makeFile g b [.ref (adr b 0 0), .int (jI p0), .int (jI p1)] M (qI g b r M')) : Lt l yL_makeFile cL_makeFile 5 hhL_makeFile rmL_makeFile g b o [.ref (adr b 0 0), .int (jI p0), .int (jI p1), .ref o] M (OLp g b o) 0 M' (OL g o (jI r).toInt64) := by
  refine lt_of (by decide +kernel) (Nat.le_of_ble_eq_true rfl) ?_
  intro p e s m args below meth c C0 hTH hNP hPre hTab hR ls hl
  obtain ⟨hx, hb, hr, hlocks, hml, hown, hts, hK⟩ := id C0
  have hS : va_S (AA b s.heap.size) s.heap s.heap [] := va_S.rf
  have hl : lv_has ls 5 [(0, .ref (adr b 0 0)), (1, .int (jI p0)), (2, .int (jI p1)), (3, .ref o)] := hl
  obtain ⟨H, hH⟩ : ∃ z, z = s.heap := ⟨_, rfl⟩
  obtain ⟨locs, hlo⟩ : ∃ z : List Loc, z = [] := ⟨_, rfl⟩
  have hR : Rel g b M H := by rw [hH]; exact hR
  have hS : va_S (AA b s.heap.size) s.heap H locs := by rw [hH, hlo]; exact hS
  obtain ⟨⟨x0, hO⟩, hA⟩ := hPre
  suffices hW : W p l e rmL_makeFile s m args below meth c H locs 0 0 (vx_MQ below (wqI g b 0 M' (OL g o (jI r).toInt64) o s.heap.size) noX args s 1 6 (AO b o s.heap.size)) (F0 m 0 ls []) by rw [hH, hlo] at hW; exact hW
  refine lv_aload_n hx hb dL_makeFile_0 rfl (lv_at hl 3 rfl) ?_
  refine lv_iconst hx hb (v := jI 0) dL_makeFile_1 rfl ?_
  refine lv_aload_n hx hb dL_makeFile_2 rfl (lv_at hl 0 rfl) ?_
  refine lv_iload_n hx hb dL_makeFile_3 rfl (lv_at hl 1 rfl) ?_
  refine lv_iload_n hx hb dL_makeFile_4 rfl (lv_at hl 2 rfl) ?_
  refine x_cVi (As := [.int (jI p0), .int (jI p1)]) (rest := [.int (jI 0), .ref o]) hx hb hml hown hts hK hR hS hC ok0 rfl (ci := 3) (C := RX3) (T := TX3) (N := 9) rfl wd181 wd182 wd183 wd1 wd184 hyL_makeFile ⟨rfl, rfl⟩ ⟨Nat.le_trans (Nat.succ_le_succ (Nat.le_max_left _ _)) (Nat.le_refl _), Nat.add_le_add_left (Nat.le_max_left _ _) _⟩ hl.1 (Nat.le_of_ble_eq_true rfl) dL_makeFile_5 ⟨Nat.zero_le _, Nat.zero_le _⟩ rfl ?_
  intro hr0 H1 locs1 hR hS1
  have hO1 : ∃ x, OL g o x H1 := ⟨x0, hO.kept (hS1.2.1 o (Array.getElem?_eq_some_iff.mp hO.choose_spec.1).1 hA)⟩
  have hS := AO_S (o := o) hS1
  refine lv_i2l hx hb dL_makeFile_8 rfl ?_
  refine x_wst hx hb hK hR hO1 hA hS dL_makeFile_9 ?_
  intro H2 locs2 hR hO2 hS
  refine lv_goto (tgt := 25) hx hb dL_makeFile_10 rfl ?_
  refine lv_iconst hx hb (v := jI 0) dL_makeFile_25 rfl ?_
  exact x_wend hx hb hlocks hK hR hO2 hS hr (Nat.zero_le _) (Nat.zero_le _) dL_makeFile_26
set_option maxHeartbeats 4000000 in
set_option maxRecDepth 100000 in
theorem tL_makeFile_1 {l : Launch} {g : Gx} {b o : Nat} {p0 : Int} {p1 : Int} {M : Mm} (hC : Tt l yX3_makeFile cX3_makeFile 3 (some .int) rmTX3_makeFile g b [.ref (adr b 0 0), .int (jI p0), .int (jI p1)] M 1) : Lt l yL_makeFile cL_makeFile 5 hhL_makeFile rmL_makeFile g b o [.ref (adr b 0 0), .int (jI p0), .int (jI p1), .ref o] M (OLp g b o) 1 M (fun H => ∃ x, OL g o x H) := by
  refine lt_of (by decide +kernel) (Nat.le_of_ble_eq_true rfl) ?_
  intro p e s m args below meth c C0 hTH hNP hPre hTab hR ls hl
  obtain ⟨hx, hb, hr, hlocks, hml, hown, hts, hK⟩ := id C0
  have hS : va_S (AA b s.heap.size) s.heap s.heap [] := va_S.rf
  have hl : lv_has ls 5 [(0, .ref (adr b 0 0)), (1, .int (jI p0)), (2, .int (jI p1)), (3, .ref o)] := hl
  obtain ⟨H, hH⟩ : ∃ z, z = s.heap := ⟨_, rfl⟩
  obtain ⟨locs, hlo⟩ : ∃ z : List Loc, z = [] := ⟨_, rfl⟩
  have hR : Rel g b M H := by rw [hH]; exact hR
  have hS : va_S (AA b s.heap.size) s.heap H locs := by rw [hH, hlo]; exact hS
  obtain ⟨⟨x0, hO⟩, hA⟩ := hPre
  suffices hW : W p l e rmL_makeFile s m args below meth c H locs 0 0 (vx_MQ below (wqI g b 1 M (fun H => ∃ x, OL g o x H) o s.heap.size) noX args s 1 6 (AO b o s.heap.size)) (F0 m 0 ls []) by rw [hH, hlo] at hW; exact hW
  refine lv_aload_n hx hb dL_makeFile_0 rfl (lv_at hl 3 rfl) ?_
  refine lv_iconst hx hb (v := jI 0) dL_makeFile_1 rfl ?_
  refine lv_aload_n hx hb dL_makeFile_2 rfl (lv_at hl 0 rfl) ?_
  refine lv_iload_n hx hb dL_makeFile_3 rfl (lv_at hl 1 rfl) ?_
  refine lv_iload_n hx hb dL_makeFile_4 rfl (lv_at hl 2 rfl) ?_
  refine x_tC (As := [.int (jI p0), .int (jI p1)]) (rest := [.int (jI 0), .ref o]) hx hb hml hown hts hK hTH hR hS hC wd181 wd182 wd183 wd1 wd184 hyL_makeFile ⟨rfl, rfl⟩ ⟨Nat.le_trans (Nat.succ_le_succ (Nat.le_max_right _ _)) (Nat.le_refl _), Nat.add_le_add_left (Nat.le_max_right _ _) _⟩ hl.1 (Nat.le_of_ble_eq_true rfl) dL_makeFile_5 ⟨Nat.le_refl _, Nat.le_refl _⟩ rfl ?_
  intro H1 locs1 q ce hR hS1 hce hcv hcl
  have hS := AO_S (o := o) hS1
  refine vx_catch (name := exN 1) hown [] ⟨0, 10, 13, 13⟩ [⟨0, 10, 17, 15⟩, ⟨0, 10, 21, 17⟩] hTab (fun z hz => by cases hz) (by decide +kernel) (by decide) (hts _ wd178) hTH.2.2.1 hce hcv hcl ?_
  refine lv_astore hx hb dL_makeFile_13 hl (by decide) rfl ?_
  intro ls1 hl1
  refine lv_iconst hx hb (v := jI 1) dL_makeFile_15 rfl ?_
  exact x_wend hx hb hlocks hK hR ⟨x0, hO.kept (hS1.2.1 o (Array.getElem?_eq_some_iff.mp hO.choose_spec.1).1 hA)⟩ hS hr (Nat.le_refl _) (Nat.le_refl _) dL_makeFile_16
set_option maxHeartbeats 4000000 in
set_option maxRecDepth 100000 in
theorem tL_makeFile_2 {l : Launch} {g : Gx} {b o : Nat} {p0 : Int} {p1 : Int} {M : Mm} (hC : Tt l yX3_makeFile cX3_makeFile 3 (some .int) rmTX3_makeFile g b [.ref (adr b 0 0), .int (jI p0), .int (jI p1)] M 2) : Lt l yL_makeFile cL_makeFile 5 hhL_makeFile rmL_makeFile g b o [.ref (adr b 0 0), .int (jI p0), .int (jI p1), .ref o] M (OLp g b o) 2 M (fun H => ∃ x, OL g o x H) := by
  refine lt_of (by decide +kernel) (Nat.le_of_ble_eq_true rfl) ?_
  intro p e s m args below meth c C0 hTH hNP hPre hTab hR ls hl
  obtain ⟨hx, hb, hr, hlocks, hml, hown, hts, hK⟩ := id C0
  have hS : va_S (AA b s.heap.size) s.heap s.heap [] := va_S.rf
  have hl : lv_has ls 5 [(0, .ref (adr b 0 0)), (1, .int (jI p0)), (2, .int (jI p1)), (3, .ref o)] := hl
  obtain ⟨H, hH⟩ : ∃ z, z = s.heap := ⟨_, rfl⟩
  obtain ⟨locs, hlo⟩ : ∃ z : List Loc, z = [] := ⟨_, rfl⟩
  have hR : Rel g b M H := by rw [hH]; exact hR
  have hS : va_S (AA b s.heap.size) s.heap H locs := by rw [hH, hlo]; exact hS
  obtain ⟨⟨x0, hO⟩, hA⟩ := hPre
  suffices hW : W p l e rmL_makeFile s m args below meth c H locs 0 0 (vx_MQ below (wqI g b 2 M (fun H => ∃ x, OL g o x H) o s.heap.size) noX args s 1 6 (AO b o s.heap.size)) (F0 m 0 ls []) by rw [hH, hlo] at hW; exact hW
  refine lv_aload_n hx hb dL_makeFile_0 rfl (lv_at hl 3 rfl) ?_
  refine lv_iconst hx hb (v := jI 0) dL_makeFile_1 rfl ?_
  refine lv_aload_n hx hb dL_makeFile_2 rfl (lv_at hl 0 rfl) ?_
  refine lv_iload_n hx hb dL_makeFile_3 rfl (lv_at hl 1 rfl) ?_
  refine lv_iload_n hx hb dL_makeFile_4 rfl (lv_at hl 2 rfl) ?_
  refine x_tC (As := [.int (jI p0), .int (jI p1)]) (rest := [.int (jI 0), .ref o]) hx hb hml hown hts hK hTH hR hS hC wd181 wd182 wd183 wd1 wd184 hyL_makeFile ⟨rfl, rfl⟩ ⟨Nat.le_trans (Nat.succ_le_succ (Nat.le_max_right _ _)) (Nat.le_refl _), Nat.add_le_add_left (Nat.le_max_right _ _) _⟩ hl.1 (Nat.le_of_ble_eq_true rfl) dL_makeFile_5 ⟨Nat.le_refl _, Nat.le_refl _⟩ rfl ?_
  intro H1 locs1 q ce hR hS1 hce hcv hcl
  have hS := AO_S (o := o) hS1
  refine vx_catch (name := exN 2) hown [⟨0, 10, 13, 13⟩] ⟨0, 10, 17, 15⟩ [⟨0, 10, 21, 17⟩] hTab (by intro z hz; simp only [List.mem_cons, List.not_mem_nil, or_false] at hz; rcases hz with rfl; exact Or.inr ⟨by decide, exN 1, hts _ wd178, hNP.1⟩) (by decide +kernel) (by decide) (hts _ wd179) hTH.2.2.2.1 hce hcv hcl ?_
  refine lv_astore hx hb dL_makeFile_17 hl (by decide) rfl ?_
  intro ls1 hl1
  refine lv_iconst hx hb (v := jI 2) dL_makeFile_19 rfl ?_
  exact x_wend hx hb hlocks hK hR ⟨x0, hO.kept (hS1.2.1 o (Array.getElem?_eq_some_iff.mp hO.choose_spec.1).1 hA)⟩ hS hr (Nat.le_refl _) (Nat.le_refl _) dL_makeFile_20
set_option maxHeartbeats 4000000 in
set_option maxRecDepth 100000 in
theorem tL_makeFile_3 {l : Launch} {g : Gx} {b o : Nat} {p0 : Int} {p1 : Int} {M : Mm} (hC : Tt l yX3_makeFile cX3_makeFile 3 (some .int) rmTX3_makeFile g b [.ref (adr b 0 0), .int (jI p0), .int (jI p1)] M 3) : Lt l yL_makeFile cL_makeFile 5 hhL_makeFile rmL_makeFile g b o [.ref (adr b 0 0), .int (jI p0), .int (jI p1), .ref o] M (OLp g b o) 3 M (fun H => ∃ x, OL g o x H) := by
  refine lt_of (by decide +kernel) (Nat.le_of_ble_eq_true rfl) ?_
  intro p e s m args below meth c C0 hTH hNP hPre hTab hR ls hl
  obtain ⟨hx, hb, hr, hlocks, hml, hown, hts, hK⟩ := id C0
  have hS : va_S (AA b s.heap.size) s.heap s.heap [] := va_S.rf
  have hl : lv_has ls 5 [(0, .ref (adr b 0 0)), (1, .int (jI p0)), (2, .int (jI p1)), (3, .ref o)] := hl
  obtain ⟨H, hH⟩ : ∃ z, z = s.heap := ⟨_, rfl⟩
  obtain ⟨locs, hlo⟩ : ∃ z : List Loc, z = [] := ⟨_, rfl⟩
  have hR : Rel g b M H := by rw [hH]; exact hR
  have hS : va_S (AA b s.heap.size) s.heap H locs := by rw [hH, hlo]; exact hS
  obtain ⟨⟨x0, hO⟩, hA⟩ := hPre
  suffices hW : W p l e rmL_makeFile s m args below meth c H locs 0 0 (vx_MQ below (wqI g b 3 M (fun H => ∃ x, OL g o x H) o s.heap.size) noX args s 1 6 (AO b o s.heap.size)) (F0 m 0 ls []) by rw [hH, hlo] at hW; exact hW
  refine lv_aload_n hx hb dL_makeFile_0 rfl (lv_at hl 3 rfl) ?_
  refine lv_iconst hx hb (v := jI 0) dL_makeFile_1 rfl ?_
  refine lv_aload_n hx hb dL_makeFile_2 rfl (lv_at hl 0 rfl) ?_
  refine lv_iload_n hx hb dL_makeFile_3 rfl (lv_at hl 1 rfl) ?_
  refine lv_iload_n hx hb dL_makeFile_4 rfl (lv_at hl 2 rfl) ?_
  refine x_tC (As := [.int (jI p0), .int (jI p1)]) (rest := [.int (jI 0), .ref o]) hx hb hml hown hts hK hTH hR hS hC wd181 wd182 wd183 wd1 wd184 hyL_makeFile ⟨rfl, rfl⟩ ⟨Nat.le_trans (Nat.succ_le_succ (Nat.le_max_right _ _)) (Nat.le_refl _), Nat.add_le_add_left (Nat.le_max_right _ _) _⟩ hl.1 (Nat.le_of_ble_eq_true rfl) dL_makeFile_5 ⟨Nat.le_refl _, Nat.le_refl _⟩ rfl ?_
  intro H1 locs1 q ce hR hS1 hce hcv hcl
  have hS := AO_S (o := o) hS1
  refine vx_catch (name := exN 3) hown [⟨0, 10, 13, 13⟩, ⟨0, 10, 17, 15⟩] ⟨0, 10, 21, 17⟩ [] hTab (by
      intro z hz
      simp only [List.mem_cons, List.not_mem_nil, or_false] at hz
      rcases hz with rfl | rfl
      · exact Or.inr ⟨by decide, exN 1, hts _ wd178, hNP.2.1⟩
      · exact Or.inr ⟨by decide, exN 2, hts _ wd179, hNP.2.2⟩) (by decide +kernel) (by decide) (hts _ wd180) hTH.2.2.2.2.1 hce hcv hcl ?_
  refine lv_astore hx hb dL_makeFile_21 hl (by decide) rfl ?_
  intro ls1 hl1
  refine lv_iconst hx hb (v := jI 3) dL_makeFile_23 rfl ?_
  exact x_wend hx hb hlocks hK hR ⟨x0, hO.kept (hS1.2.1 o (Array.getElem?_eq_some_iff.mp hO.choose_spec.1).1 hA)⟩ hS hr (Nat.le_refl _) (Nat.le_refl _) dL_makeFile_24
abbrev rmL_makeFolder : Room := { frames := max rmX3_makeFolder.frames rmTX3_makeFolder.frames + 1, cells := 1, slots := 6, locals := 8 + (3 + 11) + max rmX3_makeFolder.locals rmTX3_makeFolder.locals }
abbrev hhL_makeFolder : List (Nat × Nat × Nat × Nat) := [(0, 10, 13, 13), (0, 10, 17, 15), (0, 10, 21, 17)]
theorem hyL_makeFolder : yX3_makeFolder.cls = RX3 ∧ yX3_makeFolder.cls ≠ "java/lang/invoke/MethodHandle" ∧ yX3_makeFolder.cls ≠ "java/lang/invoke/VarHandle" ∧ (parseMethodDescriptor yX3_makeFolder.desc).map (fun d => d.parameters.length) = some 2 := by decide +kernel
set_option maxHeartbeats 4000000 in
set_option maxRecDepth 100000 in
theorem nL_makeFolder {l : Launch} {g : Gx} {b o : Nat} {p0 : Int} {p1 : Int} {M M' : Mm} {r : Int} (hC : Ct l yX3_makeFolder cX3_makeFolder 3 (some .int) rmX3_makeFolder g b [.ref (adr b 0 0), .int (jI p0), .int (jI p1)] M (qI g b r M')) : Lt l yL_makeFolder cL_makeFolder 5 hhL_makeFolder rmL_makeFolder g b o [.ref (adr b 0 0), .int (jI p0), .int (jI p1), .ref o] M (OLp g b o) 0 M' (OL g o (jI r).toInt64) := by
  refine lt_of (by decide +kernel) (Nat.le_of_ble_eq_true rfl) ?_
  intro p e s m args below meth c C0 hTH hNP hPre hTab hR ls hl
  obtain ⟨hx, hb, hr, hlocks, hml, hown, hts, hK⟩ := id C0
  have hS : va_S (AA b s.heap.size) s.heap s.heap [] := va_S.rf
  have hl : lv_has ls 5 [(0, .ref (adr b 0 0)), (1, .int (jI p0)), (2, .int (jI p1)), (3, .ref o)] := hl
  obtain ⟨H, hH⟩ : ∃ z, z = s.heap := ⟨_, rfl⟩
  obtain ⟨locs, hlo⟩ : ∃ z : List Loc, z = [] := ⟨_, rfl⟩
  have hR : Rel g b M H := by rw [hH]; exact hR
  have hS : va_S (AA b s.heap.size) s.heap H locs := by rw [hH, hlo]; exact hS
  obtain ⟨⟨x0, hO⟩, hA⟩ := hPre
  suffices hW : W p l e rmL_makeFolder s m args below meth c H locs 0 0 (vx_MQ below (wqI g b 0 M' (OL g o (jI r).toInt64) o s.heap.size) noX args s 1 6 (AO b o s.heap.size)) (F0 m 0 ls []) by rw [hH, hlo] at hW; exact hW
  refine lv_aload_n hx hb dL_makeFolder_0 rfl (lv_at hl 3 rfl) ?_
  refine lv_iconst hx hb (v := jI 0) dL_makeFolder_1 rfl ?_
  refine lv_aload_n hx hb dL_makeFolder_2 rfl (lv_at hl 0 rfl) ?_
  refine lv_iload_n hx hb dL_makeFolder_3 rfl (lv_at hl 1 rfl) ?_
  refine lv_iload_n hx hb dL_makeFolder_4 rfl (lv_at hl 2 rfl) ?_
  refine x_cVi (As := [.int (jI p0), .int (jI p1)]) (rest := [.int (jI 0), .ref o]) hx hb hml hown hts hK hR hS hC ok0 rfl (ci := 3) (C := RX3) (T := TX3) (N := 9) rfl wd419 wd420 wd421 wd1 wd422 hyL_makeFolder ⟨rfl, rfl⟩ ⟨Nat.le_trans (Nat.succ_le_succ (Nat.le_max_left _ _)) (Nat.le_refl _), Nat.add_le_add_left (Nat.le_max_left _ _) _⟩ hl.1 (Nat.le_of_ble_eq_true rfl) dL_makeFolder_5 ⟨Nat.zero_le _, Nat.zero_le _⟩ rfl ?_
  intro hr0 H1 locs1 hR hS1
  have hO1 : ∃ x, OL g o x H1 := ⟨x0, hO.kept (hS1.2.1 o (Array.getElem?_eq_some_iff.mp hO.choose_spec.1).1 hA)⟩
  have hS := AO_S (o := o) hS1
  refine lv_i2l hx hb dL_makeFolder_8 rfl ?_
  refine x_wst hx hb hK hR hO1 hA hS dL_makeFolder_9 ?_
  intro H2 locs2 hR hO2 hS
  refine lv_goto (tgt := 25) hx hb dL_makeFolder_10 rfl ?_
  refine lv_iconst hx hb (v := jI 0) dL_makeFolder_25 rfl ?_
  exact x_wend hx hb hlocks hK hR hO2 hS hr (Nat.zero_le _) (Nat.zero_le _) dL_makeFolder_26
set_option maxHeartbeats 4000000 in
set_option maxRecDepth 100000 in
theorem tL_makeFolder_1 {l : Launch} {g : Gx} {b o : Nat} {p0 : Int} {p1 : Int} {M : Mm} (hC : Tt l yX3_makeFolder cX3_makeFolder 3 (some .int) rmTX3_makeFolder g b [.ref (adr b 0 0), .int (jI p0), .int (jI p1)] M 1) : Lt l yL_makeFolder cL_makeFolder 5 hhL_makeFolder rmL_makeFolder g b o [.ref (adr b 0 0), .int (jI p0), .int (jI p1), .ref o] M (OLp g b o) 1 M (fun H => ∃ x, OL g o x H) := by
  refine lt_of (by decide +kernel) (Nat.le_of_ble_eq_true rfl) ?_
  intro p e s m args below meth c C0 hTH hNP hPre hTab hR ls hl
  obtain ⟨hx, hb, hr, hlocks, hml, hown, hts, hK⟩ := id C0
  have hS : va_S (AA b s.heap.size) s.heap s.heap [] := va_S.rf
  have hl : lv_has ls 5 [(0, .ref (adr b 0 0)), (1, .int (jI p0)), (2, .int (jI p1)), (3, .ref o)] := hl
  obtain ⟨H, hH⟩ : ∃ z, z = s.heap := ⟨_, rfl⟩
  obtain ⟨locs, hlo⟩ : ∃ z : List Loc, z = [] := ⟨_, rfl⟩
  have hR : Rel g b M H := by rw [hH]; exact hR
  have hS : va_S (AA b s.heap.size) s.heap H locs := by rw [hH, hlo]; exact hS
  obtain ⟨⟨x0, hO⟩, hA⟩ := hPre
  suffices hW : W p l e rmL_makeFolder s m args below meth c H locs 0 0 (vx_MQ below (wqI g b 1 M (fun H => ∃ x, OL g o x H) o s.heap.size) noX args s 1 6 (AO b o s.heap.size)) (F0 m 0 ls []) by rw [hH, hlo] at hW; exact hW
  refine lv_aload_n hx hb dL_makeFolder_0 rfl (lv_at hl 3 rfl) ?_
  refine lv_iconst hx hb (v := jI 0) dL_makeFolder_1 rfl ?_
  refine lv_aload_n hx hb dL_makeFolder_2 rfl (lv_at hl 0 rfl) ?_
  refine lv_iload_n hx hb dL_makeFolder_3 rfl (lv_at hl 1 rfl) ?_
  refine lv_iload_n hx hb dL_makeFolder_4 rfl (lv_at hl 2 rfl) ?_
  refine x_tC (As := [.int (jI p0), .int (jI p1)]) (rest := [.int (jI 0), .ref o]) hx hb hml hown hts hK hTH hR hS hC wd419 wd420 wd421 wd1 wd422 hyL_makeFolder ⟨rfl, rfl⟩ ⟨Nat.le_trans (Nat.succ_le_succ (Nat.le_max_right _ _)) (Nat.le_refl _), Nat.add_le_add_left (Nat.le_max_right _ _) _⟩ hl.1 (Nat.le_of_ble_eq_true rfl) dL_makeFolder_5 ⟨Nat.le_refl _, Nat.le_refl _⟩ rfl ?_
  intro H1 locs1 q ce hR hS1 hce hcv hcl
  have hS := AO_S (o := o) hS1
  refine vx_catch (name := exN 1) hown [] ⟨0, 10, 13, 13⟩ [⟨0, 10, 17, 15⟩, ⟨0, 10, 21, 17⟩] hTab (fun z hz => by cases hz) (by decide +kernel) (by decide) (hts _ wd178) hTH.2.2.1 hce hcv hcl ?_
  refine lv_astore hx hb dL_makeFolder_13 hl (by decide) rfl ?_
  intro ls1 hl1
  refine lv_iconst hx hb (v := jI 1) dL_makeFolder_15 rfl ?_
  exact x_wend hx hb hlocks hK hR ⟨x0, hO.kept (hS1.2.1 o (Array.getElem?_eq_some_iff.mp hO.choose_spec.1).1 hA)⟩ hS hr (Nat.le_refl _) (Nat.le_refl _) dL_makeFolder_16
set_option maxHeartbeats 4000000 in
set_option maxRecDepth 100000 in
theorem tL_makeFolder_2 {l : Launch} {g : Gx} {b o : Nat} {p0 : Int} {p1 : Int} {M : Mm} (hC : Tt l yX3_makeFolder cX3_makeFolder 3 (some .int) rmTX3_makeFolder g b [.ref (adr b 0 0), .int (jI p0), .int (jI p1)] M 2) : Lt l yL_makeFolder cL_makeFolder 5 hhL_makeFolder rmL_makeFolder g b o [.ref (adr b 0 0), .int (jI p0), .int (jI p1), .ref o] M (OLp g b o) 2 M (fun H => ∃ x, OL g o x H) := by
  refine lt_of (by decide +kernel) (Nat.le_of_ble_eq_true rfl) ?_
  intro p e s m args below meth c C0 hTH hNP hPre hTab hR ls hl
  obtain ⟨hx, hb, hr, hlocks, hml, hown, hts, hK⟩ := id C0
  have hS : va_S (AA b s.heap.size) s.heap s.heap [] := va_S.rf
  have hl : lv_has ls 5 [(0, .ref (adr b 0 0)), (1, .int (jI p0)), (2, .int (jI p1)), (3, .ref o)] := hl
  obtain ⟨H, hH⟩ : ∃ z, z = s.heap := ⟨_, rfl⟩
  obtain ⟨locs, hlo⟩ : ∃ z : List Loc, z = [] := ⟨_, rfl⟩
  have hR : Rel g b M H := by rw [hH]; exact hR
  have hS : va_S (AA b s.heap.size) s.heap H locs := by rw [hH, hlo]; exact hS
  obtain ⟨⟨x0, hO⟩, hA⟩ := hPre
  suffices hW : W p l e rmL_makeFolder s m args below meth c H locs 0 0 (vx_MQ below (wqI g b 2 M (fun H => ∃ x, OL g o x H) o s.heap.size) noX args s 1 6 (AO b o s.heap.size)) (F0 m 0 ls []) by rw [hH, hlo] at hW; exact hW
  refine lv_aload_n hx hb dL_makeFolder_0 rfl (lv_at hl 3 rfl) ?_
  refine lv_iconst hx hb (v := jI 0) dL_makeFolder_1 rfl ?_
  refine lv_aload_n hx hb dL_makeFolder_2 rfl (lv_at hl 0 rfl) ?_
  refine lv_iload_n hx hb dL_makeFolder_3 rfl (lv_at hl 1 rfl) ?_
  refine lv_iload_n hx hb dL_makeFolder_4 rfl (lv_at hl 2 rfl) ?_
  refine x_tC (As := [.int (jI p0), .int (jI p1)]) (rest := [.int (jI 0), .ref o]) hx hb hml hown hts hK hTH hR hS hC wd419 wd420 wd421 wd1 wd422 hyL_makeFolder ⟨rfl, rfl⟩ ⟨Nat.le_trans (Nat.succ_le_succ (Nat.le_max_right _ _)) (Nat.le_refl _), Nat.add_le_add_left (Nat.le_max_right _ _) _⟩ hl.1 (Nat.le_of_ble_eq_true rfl) dL_makeFolder_5 ⟨Nat.le_refl _, Nat.le_refl _⟩ rfl ?_
  intro H1 locs1 q ce hR hS1 hce hcv hcl
  have hS := AO_S (o := o) hS1
  refine vx_catch (name := exN 2) hown [⟨0, 10, 13, 13⟩] ⟨0, 10, 17, 15⟩ [⟨0, 10, 21, 17⟩] hTab (by intro z hz; simp only [List.mem_cons, List.not_mem_nil, or_false] at hz; rcases hz with rfl; exact Or.inr ⟨by decide, exN 1, hts _ wd178, hNP.1⟩) (by decide +kernel) (by decide) (hts _ wd179) hTH.2.2.2.1 hce hcv hcl ?_
  refine lv_astore hx hb dL_makeFolder_17 hl (by decide) rfl ?_
  intro ls1 hl1
  refine lv_iconst hx hb (v := jI 2) dL_makeFolder_19 rfl ?_
  exact x_wend hx hb hlocks hK hR ⟨x0, hO.kept (hS1.2.1 o (Array.getElem?_eq_some_iff.mp hO.choose_spec.1).1 hA)⟩ hS hr (Nat.le_refl _) (Nat.le_refl _) dL_makeFolder_20
set_option maxHeartbeats 4000000 in
set_option maxRecDepth 100000 in
theorem tL_makeFolder_3 {l : Launch} {g : Gx} {b o : Nat} {p0 : Int} {p1 : Int} {M : Mm} (hC : Tt l yX3_makeFolder cX3_makeFolder 3 (some .int) rmTX3_makeFolder g b [.ref (adr b 0 0), .int (jI p0), .int (jI p1)] M 3) : Lt l yL_makeFolder cL_makeFolder 5 hhL_makeFolder rmL_makeFolder g b o [.ref (adr b 0 0), .int (jI p0), .int (jI p1), .ref o] M (OLp g b o) 3 M (fun H => ∃ x, OL g o x H) := by
  refine lt_of (by decide +kernel) (Nat.le_of_ble_eq_true rfl) ?_
  intro p e s m args below meth c C0 hTH hNP hPre hTab hR ls hl
  obtain ⟨hx, hb, hr, hlocks, hml, hown, hts, hK⟩ := id C0
  have hS : va_S (AA b s.heap.size) s.heap s.heap [] := va_S.rf
  have hl : lv_has ls 5 [(0, .ref (adr b 0 0)), (1, .int (jI p0)), (2, .int (jI p1)), (3, .ref o)] := hl
  obtain ⟨H, hH⟩ : ∃ z, z = s.heap := ⟨_, rfl⟩
  obtain ⟨locs, hlo⟩ : ∃ z : List Loc, z = [] := ⟨_, rfl⟩
  have hR : Rel g b M H := by rw [hH]; exact hR
  have hS : va_S (AA b s.heap.size) s.heap H locs := by rw [hH, hlo]; exact hS
  obtain ⟨⟨x0, hO⟩, hA⟩ := hPre
  suffices hW : W p l e rmL_makeFolder s m args below meth c H locs 0 0 (vx_MQ below (wqI g b 3 M (fun H => ∃ x, OL g o x H) o s.heap.size) noX args s 1 6 (AO b o s.heap.size)) (F0 m 0 ls []) by rw [hH, hlo] at hW; exact hW
  refine lv_aload_n hx hb dL_makeFolder_0 rfl (lv_at hl 3 rfl) ?_
  refine lv_iconst hx hb (v := jI 0) dL_makeFolder_1 rfl ?_
  refine lv_aload_n hx hb dL_makeFolder_2 rfl (lv_at hl 0 rfl) ?_
  refine lv_iload_n hx hb dL_makeFolder_3 rfl (lv_at hl 1 rfl) ?_
  refine lv_iload_n hx hb dL_makeFolder_4 rfl (lv_at hl 2 rfl) ?_
  refine x_tC (As := [.int (jI p0), .int (jI p1)]) (rest := [.int (jI 0), .ref o]) hx hb hml hown hts hK hTH hR hS hC wd419 wd420 wd421 wd1 wd422 hyL_makeFolder ⟨rfl, rfl⟩ ⟨Nat.le_trans (Nat.succ_le_succ (Nat.le_max_right _ _)) (Nat.le_refl _), Nat.add_le_add_left (Nat.le_max_right _ _) _⟩ hl.1 (Nat.le_of_ble_eq_true rfl) dL_makeFolder_5 ⟨Nat.le_refl _, Nat.le_refl _⟩ rfl ?_
  intro H1 locs1 q ce hR hS1 hce hcv hcl
  have hS := AO_S (o := o) hS1
  refine vx_catch (name := exN 3) hown [⟨0, 10, 13, 13⟩, ⟨0, 10, 17, 15⟩] ⟨0, 10, 21, 17⟩ [] hTab (by
      intro z hz
      simp only [List.mem_cons, List.not_mem_nil, or_false] at hz
      rcases hz with rfl | rfl
      · exact Or.inr ⟨by decide, exN 1, hts _ wd178, hNP.2.1⟩
      · exact Or.inr ⟨by decide, exN 2, hts _ wd179, hNP.2.2⟩) (by decide +kernel) (by decide) (hts _ wd180) hTH.2.2.2.2.1 hce hcv hcl ?_
  refine lv_astore hx hb dL_makeFolder_21 hl (by decide) rfl ?_
  intro ls1 hl1
  refine lv_iconst hx hb (v := jI 3) dL_makeFolder_23 rfl ?_
  exact x_wend hx hb hlocks hK hR ⟨x0, hO.kept (hS1.2.1 o (Array.getElem?_eq_some_iff.mp hO.choose_spec.1).1 hA)⟩ hS hr (Nat.le_refl _) (Nat.le_refl _) dL_makeFolder_24
abbrev rmL_makeLink : Room := { frames := max rmX3_makeLink.frames rmTX3_makeLink.frames + 1, cells := 1, slots := 6, locals := 8 + (8 + 11) + max rmX3_makeLink.locals rmTX3_makeLink.locals }
abbrev hhL_makeLink : List (Nat × Nat × Nat × Nat) := [(0, 16, 19, 13), (0, 16, 23, 15), (0, 16, 27, 17)]
theorem hyL_makeLink : yX3_makeLink.cls = RX3 ∧ yX3_makeLink.cls ≠ "java/lang/invoke/MethodHandle" ∧ yX3_makeLink.cls ≠ "java/lang/invoke/VarHandle" ∧ (parseMethodDescriptor yX3_makeLink.desc).map (fun d => d.parameters.length) = some 5 := by decide +kernel
set_option maxHeartbeats 4000000 in
set_option maxRecDepth 100000 in
theorem nL_makeLink {l : Launch} {g : Gx} {b o : Nat} {p0 : Int} {p1 : Int} {p2 : Int} {p3 : Int} {p4 : Int} {M M' : Mm} {r : Int} (hC : Ct l yX3_makeLink cX3_makeLink 8 (some .int) rmX3_makeLink g b [.ref (adr b 0 0), .int (jI p0), .int (jI p1), .int (jI p2), .int (jI p3), .int (jI p4)] M (qI g b r M')) : Lt l yL_makeLink cL_makeLink 8 hhL_makeLink rmL_makeLink g b o [.ref (adr b 0 0), .int (jI p0), .int (jI p1), .int (jI p2), .int (jI p3), .int (jI p4), .ref o] M (OLp g b o) 0 M' (OL g o (jI r).toInt64) := by
  refine lt_of (by decide +kernel) (Nat.le_of_ble_eq_true rfl) ?_
  intro p e s m args below meth c C0 hTH hNP hPre hTab hR ls hl
  obtain ⟨hx, hb, hr, hlocks, hml, hown, hts, hK⟩ := id C0
  have hS : va_S (AA b s.heap.size) s.heap s.heap [] := va_S.rf
  have hl : lv_has ls 8 [(0, .ref (adr b 0 0)), (1, .int (jI p0)), (2, .int (jI p1)), (3, .int (jI p2)), (4, .int (jI p3)), (5, .int (jI p4)), (6, .ref o)] := hl
  obtain ⟨H, hH⟩ : ∃ z, z = s.heap := ⟨_, rfl⟩
  obtain ⟨locs, hlo⟩ : ∃ z : List Loc, z = [] := ⟨_, rfl⟩
  have hR : Rel g b M H := by rw [hH]; exact hR
  have hS : va_S (AA b s.heap.size) s.heap H locs := by rw [hH, hlo]; exact hS
  obtain ⟨⟨x0, hO⟩, hA⟩ := hPre
  suffices hW : W p l e rmL_makeLink s m args below meth c H locs 0 0 (vx_MQ below (wqI g b 0 M' (OL g o (jI r).toInt64) o s.heap.size) noX args s 1 6 (AO b o s.heap.size)) (F0 m 0 ls []) by rw [hH, hlo] at hW; exact hW
  refine lv_aload hx hb dL_makeLink_0 (lv_at hl 6 rfl) ?_
  refine lv_iconst hx hb (v := jI 0) dL_makeLink_2 rfl ?_
  refine lv_aload_n hx hb dL_makeLink_3 rfl (lv_at hl 0 rfl) ?_
  refine lv_iload_n hx hb dL_makeLink_4 rfl (lv_at hl 1 rfl) ?_
  refine lv_iload_n hx hb dL_makeLink_5 rfl (lv_at hl 2 rfl) ?_
  refine lv_iload_n hx hb dL_makeLink_6 rfl (lv_at hl 3 rfl) ?_
  refine lv_iload hx hb dL_makeLink_7 (lv_at hl 4 rfl) ?_
  refine lv_iload hx hb dL_makeLink_9 (lv_at hl 5 rfl) ?_
  refine x_cVi (As := [.int (jI p0), .int (jI p1), .int (jI p2), .int (jI p3), .int (jI p4)]) (rest := [.int (jI 0), .ref o]) hx hb hml hown hts hK hR hS hC ok0 rfl (ci := 3) (C := RX3) (T := TX3) (N := 9) rfl wd426 wd427 wd428 wd1 wd429 hyL_makeLink ⟨rfl, rfl⟩ ⟨Nat.le_trans (Nat.succ_le_succ (Nat.le_max_left _ _)) (Nat.le_refl _), Nat.add_le_add_left (Nat.le_max_left _ _) _⟩ hl.1 (Nat.le_of_ble_eq_true rfl) dL_makeLink_11 ⟨Nat.zero_le _, Nat.zero_le _⟩ rfl ?_
  intro hr0 H1 locs1 hR hS1
  have hO1 : ∃ x, OL g o x H1 := ⟨x0, hO.kept (hS1.2.1 o (Array.getElem?_eq_some_iff.mp hO.choose_spec.1).1 hA)⟩
  have hS := AO_S (o := o) hS1
  refine lv_i2l hx hb dL_makeLink_14 rfl ?_
  refine x_wst hx hb hK hR hO1 hA hS dL_makeLink_15 ?_
  intro H2 locs2 hR hO2 hS
  refine lv_goto (tgt := 31) hx hb dL_makeLink_16 rfl ?_
  refine lv_iconst hx hb (v := jI 0) dL_makeLink_31 rfl ?_
  exact x_wend hx hb hlocks hK hR hO2 hS hr (Nat.zero_le _) (Nat.zero_le _) dL_makeLink_32
set_option maxHeartbeats 4000000 in
set_option maxRecDepth 100000 in
theorem tL_makeLink_1 {l : Launch} {g : Gx} {b o : Nat} {p0 : Int} {p1 : Int} {p2 : Int} {p3 : Int} {p4 : Int} {M : Mm} (hC : Tt l yX3_makeLink cX3_makeLink 8 (some .int) rmTX3_makeLink g b [.ref (adr b 0 0), .int (jI p0), .int (jI p1), .int (jI p2), .int (jI p3), .int (jI p4)] M 1) : Lt l yL_makeLink cL_makeLink 8 hhL_makeLink rmL_makeLink g b o [.ref (adr b 0 0), .int (jI p0), .int (jI p1), .int (jI p2), .int (jI p3), .int (jI p4), .ref o] M (OLp g b o) 1 M (fun H => ∃ x, OL g o x H) := by
  refine lt_of (by decide +kernel) (Nat.le_of_ble_eq_true rfl) ?_
  intro p e s m args below meth c C0 hTH hNP hPre hTab hR ls hl
  obtain ⟨hx, hb, hr, hlocks, hml, hown, hts, hK⟩ := id C0
  have hS : va_S (AA b s.heap.size) s.heap s.heap [] := va_S.rf
  have hl : lv_has ls 8 [(0, .ref (adr b 0 0)), (1, .int (jI p0)), (2, .int (jI p1)), (3, .int (jI p2)), (4, .int (jI p3)), (5, .int (jI p4)), (6, .ref o)] := hl
  obtain ⟨H, hH⟩ : ∃ z, z = s.heap := ⟨_, rfl⟩
  obtain ⟨locs, hlo⟩ : ∃ z : List Loc, z = [] := ⟨_, rfl⟩
  have hR : Rel g b M H := by rw [hH]; exact hR
  have hS : va_S (AA b s.heap.size) s.heap H locs := by rw [hH, hlo]; exact hS
  obtain ⟨⟨x0, hO⟩, hA⟩ := hPre
  suffices hW : W p l e rmL_makeLink s m args below meth c H locs 0 0 (vx_MQ below (wqI g b 1 M (fun H => ∃ x, OL g o x H) o s.heap.size) noX args s 1 6 (AO b o s.heap.size)) (F0 m 0 ls []) by rw [hH, hlo] at hW; exact hW
  refine lv_aload hx hb dL_makeLink_0 (lv_at hl 6 rfl) ?_
  refine lv_iconst hx hb (v := jI 0) dL_makeLink_2 rfl ?_
  refine lv_aload_n hx hb dL_makeLink_3 rfl (lv_at hl 0 rfl) ?_
  refine lv_iload_n hx hb dL_makeLink_4 rfl (lv_at hl 1 rfl) ?_
  refine lv_iload_n hx hb dL_makeLink_5 rfl (lv_at hl 2 rfl) ?_
  refine lv_iload_n hx hb dL_makeLink_6 rfl (lv_at hl 3 rfl) ?_
  refine lv_iload hx hb dL_makeLink_7 (lv_at hl 4 rfl) ?_
  refine lv_iload hx hb dL_makeLink_9 (lv_at hl 5 rfl) ?_
  refine x_tC (As := [.int (jI p0), .int (jI p1), .int (jI p2), .int (jI p3), .int (jI p4)]) (rest := [.int (jI 0), .ref o]) hx hb hml hown hts hK hTH hR hS hC wd426 wd427 wd428 wd1 wd429 hyL_makeLink ⟨rfl, rfl⟩ ⟨Nat.le_trans (Nat.succ_le_succ (Nat.le_max_right _ _)) (Nat.le_refl _), Nat.add_le_add_left (Nat.le_max_right _ _) _⟩ hl.1 (Nat.le_of_ble_eq_true rfl) dL_makeLink_11 ⟨Nat.le_refl _, Nat.le_refl _⟩ rfl ?_
  intro H1 locs1 q ce hR hS1 hce hcv hcl
  have hS := AO_S (o := o) hS1
  refine vx_catch (name := exN 1) hown [] ⟨0, 16, 19, 13⟩ [⟨0, 16, 23, 15⟩, ⟨0, 16, 27, 17⟩] hTab (fun z hz => by cases hz) (by decide +kernel) (by decide) (hts _ wd178) hTH.2.2.1 hce hcv hcl ?_
  refine lv_astore hx hb dL_makeLink_19 hl (by decide) rfl ?_
  intro ls1 hl1
  refine lv_iconst hx hb (v := jI 1) dL_makeLink_21 rfl ?_
  exact x_wend hx hb hlocks hK hR ⟨x0, hO.kept (hS1.2.1 o (Array.getElem?_eq_some_iff.mp hO.choose_spec.1).1 hA)⟩ hS hr (Nat.le_refl _) (Nat.le_refl _) dL_makeLink_22
set_option maxHeartbeats 4000000 in
set_option maxRecDepth 100000 in
theorem tL_makeLink_2 {l : Launch} {g : Gx} {b o : Nat} {p0 : Int} {p1 : Int} {p2 : Int} {p3 : Int} {p4 : Int} {M : Mm} (hC : Tt l yX3_makeLink cX3_makeLink 8 (some .int) rmTX3_makeLink g b [.ref (adr b 0 0), .int (jI p0), .int (jI p1), .int (jI p2), .int (jI p3), .int (jI p4)] M 2) : Lt l yL_makeLink cL_makeLink 8 hhL_makeLink rmL_makeLink g b o [.ref (adr b 0 0), .int (jI p0), .int (jI p1), .int (jI p2), .int (jI p3), .int (jI p4), .ref o] M (OLp g b o) 2 M (fun H => ∃ x, OL g o x H) := by
  refine lt_of (by decide +kernel) (Nat.le_of_ble_eq_true rfl) ?_
  intro p e s m args below meth c C0 hTH hNP hPre hTab hR ls hl
  obtain ⟨hx, hb, hr, hlocks, hml, hown, hts, hK⟩ := id C0
  have hS : va_S (AA b s.heap.size) s.heap s.heap [] := va_S.rf
  have hl : lv_has ls 8 [(0, .ref (adr b 0 0)), (1, .int (jI p0)), (2, .int (jI p1)), (3, .int (jI p2)), (4, .int (jI p3)), (5, .int (jI p4)), (6, .ref o)] := hl
  obtain ⟨H, hH⟩ : ∃ z, z = s.heap := ⟨_, rfl⟩
  obtain ⟨locs, hlo⟩ : ∃ z : List Loc, z = [] := ⟨_, rfl⟩
  have hR : Rel g b M H := by rw [hH]; exact hR
  have hS : va_S (AA b s.heap.size) s.heap H locs := by rw [hH, hlo]; exact hS
  obtain ⟨⟨x0, hO⟩, hA⟩ := hPre
  suffices hW : W p l e rmL_makeLink s m args below meth c H locs 0 0 (vx_MQ below (wqI g b 2 M (fun H => ∃ x, OL g o x H) o s.heap.size) noX args s 1 6 (AO b o s.heap.size)) (F0 m 0 ls []) by rw [hH, hlo] at hW; exact hW
  refine lv_aload hx hb dL_makeLink_0 (lv_at hl 6 rfl) ?_
  refine lv_iconst hx hb (v := jI 0) dL_makeLink_2 rfl ?_
  refine lv_aload_n hx hb dL_makeLink_3 rfl (lv_at hl 0 rfl) ?_
  refine lv_iload_n hx hb dL_makeLink_4 rfl (lv_at hl 1 rfl) ?_
  refine lv_iload_n hx hb dL_makeLink_5 rfl (lv_at hl 2 rfl) ?_
  refine lv_iload_n hx hb dL_makeLink_6 rfl (lv_at hl 3 rfl) ?_
  refine lv_iload hx hb dL_makeLink_7 (lv_at hl 4 rfl) ?_
  refine lv_iload hx hb dL_makeLink_9 (lv_at hl 5 rfl) ?_
  refine x_tC (As := [.int (jI p0), .int (jI p1), .int (jI p2), .int (jI p3), .int (jI p4)]) (rest := [.int (jI 0), .ref o]) hx hb hml hown hts hK hTH hR hS hC wd426 wd427 wd428 wd1 wd429 hyL_makeLink ⟨rfl, rfl⟩ ⟨Nat.le_trans (Nat.succ_le_succ (Nat.le_max_right _ _)) (Nat.le_refl _), Nat.add_le_add_left (Nat.le_max_right _ _) _⟩ hl.1 (Nat.le_of_ble_eq_true rfl) dL_makeLink_11 ⟨Nat.le_refl _, Nat.le_refl _⟩ rfl ?_
  intro H1 locs1 q ce hR hS1 hce hcv hcl
  have hS := AO_S (o := o) hS1
  refine vx_catch (name := exN 2) hown [⟨0, 16, 19, 13⟩] ⟨0, 16, 23, 15⟩ [⟨0, 16, 27, 17⟩] hTab (by intro z hz; simp only [List.mem_cons, List.not_mem_nil, or_false] at hz; rcases hz with rfl; exact Or.inr ⟨by decide, exN 1, hts _ wd178, hNP.1⟩) (by decide +kernel) (by decide) (hts _ wd179) hTH.2.2.2.1 hce hcv hcl ?_
  refine lv_astore hx hb dL_makeLink_23 hl (by decide) rfl ?_
  intro ls1 hl1
  refine lv_iconst hx hb (v := jI 2) dL_makeLink_25 rfl ?_
  exact x_wend hx hb hlocks hK hR ⟨x0, hO.kept (hS1.2.1 o (Array.getElem?_eq_some_iff.mp hO.choose_spec.1).1 hA)⟩ hS hr (Nat.le_refl _) (Nat.le_refl _) dL_makeLink_26
set_option maxHeartbeats 4000000 in
set_option maxRecDepth 100000 in
theorem tL_makeLink_3 {l : Launch} {g : Gx} {b o : Nat} {p0 : Int} {p1 : Int} {p2 : Int} {p3 : Int} {p4 : Int} {M : Mm} (hC : Tt l yX3_makeLink cX3_makeLink 8 (some .int) rmTX3_makeLink g b [.ref (adr b 0 0), .int (jI p0), .int (jI p1), .int (jI p2), .int (jI p3), .int (jI p4)] M 3) : Lt l yL_makeLink cL_makeLink 8 hhL_makeLink rmL_makeLink g b o [.ref (adr b 0 0), .int (jI p0), .int (jI p1), .int (jI p2), .int (jI p3), .int (jI p4), .ref o] M (OLp g b o) 3 M (fun H => ∃ x, OL g o x H) := by
  refine lt_of (by decide +kernel) (Nat.le_of_ble_eq_true rfl) ?_
  intro p e s m args below meth c C0 hTH hNP hPre hTab hR ls hl
  obtain ⟨hx, hb, hr, hlocks, hml, hown, hts, hK⟩ := id C0
  have hS : va_S (AA b s.heap.size) s.heap s.heap [] := va_S.rf
  have hl : lv_has ls 8 [(0, .ref (adr b 0 0)), (1, .int (jI p0)), (2, .int (jI p1)), (3, .int (jI p2)), (4, .int (jI p3)), (5, .int (jI p4)), (6, .ref o)] := hl
  obtain ⟨H, hH⟩ : ∃ z, z = s.heap := ⟨_, rfl⟩
  obtain ⟨locs, hlo⟩ : ∃ z : List Loc, z = [] := ⟨_, rfl⟩
  have hR : Rel g b M H := by rw [hH]; exact hR
  have hS : va_S (AA b s.heap.size) s.heap H locs := by rw [hH, hlo]; exact hS
  obtain ⟨⟨x0, hO⟩, hA⟩ := hPre
  suffices hW : W p l e rmL_makeLink s m args below meth c H locs 0 0 (vx_MQ below (wqI g b 3 M (fun H => ∃ x, OL g o x H) o s.heap.size) noX args s 1 6 (AO b o s.heap.size)) (F0 m 0 ls []) by rw [hH, hlo] at hW; exact hW
  refine lv_aload hx hb dL_makeLink_0 (lv_at hl 6 rfl) ?_
  refine lv_iconst hx hb (v := jI 0) dL_makeLink_2 rfl ?_
  refine lv_aload_n hx hb dL_makeLink_3 rfl (lv_at hl 0 rfl) ?_
  refine lv_iload_n hx hb dL_makeLink_4 rfl (lv_at hl 1 rfl) ?_
  refine lv_iload_n hx hb dL_makeLink_5 rfl (lv_at hl 2 rfl) ?_
  refine lv_iload_n hx hb dL_makeLink_6 rfl (lv_at hl 3 rfl) ?_
  refine lv_iload hx hb dL_makeLink_7 (lv_at hl 4 rfl) ?_
  refine lv_iload hx hb dL_makeLink_9 (lv_at hl 5 rfl) ?_
  refine x_tC (As := [.int (jI p0), .int (jI p1), .int (jI p2), .int (jI p3), .int (jI p4)]) (rest := [.int (jI 0), .ref o]) hx hb hml hown hts hK hTH hR hS hC wd426 wd427 wd428 wd1 wd429 hyL_makeLink ⟨rfl, rfl⟩ ⟨Nat.le_trans (Nat.succ_le_succ (Nat.le_max_right _ _)) (Nat.le_refl _), Nat.add_le_add_left (Nat.le_max_right _ _) _⟩ hl.1 (Nat.le_of_ble_eq_true rfl) dL_makeLink_11 ⟨Nat.le_refl _, Nat.le_refl _⟩ rfl ?_
  intro H1 locs1 q ce hR hS1 hce hcv hcl
  have hS := AO_S (o := o) hS1
  refine vx_catch (name := exN 3) hown [⟨0, 16, 19, 13⟩, ⟨0, 16, 23, 15⟩] ⟨0, 16, 27, 17⟩ [] hTab (by
      intro z hz
      simp only [List.mem_cons, List.not_mem_nil, or_false] at hz
      rcases hz with rfl | rfl
      · exact Or.inr ⟨by decide, exN 1, hts _ wd178, hNP.2.1⟩
      · exact Or.inr ⟨by decide, exN 2, hts _ wd179, hNP.2.2⟩) (by decide +kernel) (by decide) (hts _ wd180) hTH.2.2.2.2.1 hce hcv hcl ?_
  refine lv_astore hx hb dL_makeLink_27 hl (by decide) rfl ?_
  intro ls1 hl1
  refine lv_iconst hx hb (v := jI 3) dL_makeLink_29 rfl ?_
  exact x_wend hx hb hlocks hK hR ⟨x0, hO.kept (hS1.2.1 o (Array.getElem?_eq_some_iff.mp hO.choose_spec.1).1 hA)⟩ hS hr (Nat.le_refl _) (Nat.le_refl _) dL_makeLink_30
abbrev rmL_cloneFile : Room := { frames := max rmX3_cloneFile.frames rmTX3_cloneFile.frames + 1, cells := 1, slots := 6, locals := 8 + (6 + 11) + max rmX3_cloneFile.locals rmTX3_cloneFile.locals }
abbrev hhL_cloneFile : List (Nat × Nat × Nat × Nat) := [(0, 12, 15, 13), (0, 12, 19, 15), (0, 12, 23, 17)]
theorem hyL_cloneFile : yX3_cloneFile.cls = RX3 ∧ yX3_cloneFile.cls ≠ "java/lang/invoke/MethodHandle" ∧ yX3_cloneFile.cls ≠ "java/lang/invoke/VarHandle" ∧ (parseMethodDescriptor yX3_cloneFile.desc).map (fun d => d.parameters.length) = some 3 := by decide +kernel
set_option maxHeartbeats 4000000 in
set_option maxRecDepth 100000 in
theorem nL_cloneFile {l : Launch} {g : Gx} {b o : Nat} {p0 : Int} {p1 : Int} {p2 : Int} {M M' : Mm} {r : Int} (hC : Ct l yX3_cloneFile cX3_cloneFile 6 (some .int) rmX3_cloneFile g b [.ref (adr b 0 0), .int (jI p0), .int (jI p1), .int (jI p2)] M (qI g b r M')) : Lt l yL_cloneFile cL_cloneFile 6 hhL_cloneFile rmL_cloneFile g b o [.ref (adr b 0 0), .int (jI p0), .int (jI p1), .int (jI p2), .ref o] M (OLp g b o) 0 M' (OL g o (jI r).toInt64) := by
  refine lt_of (by decide +kernel) (Nat.le_of_ble_eq_true rfl) ?_
  intro p e s m args below meth c C0 hTH hNP hPre hTab hR ls hl
  obtain ⟨hx, hb, hr, hlocks, hml, hown, hts, hK⟩ := id C0
  have hS : va_S (AA b s.heap.size) s.heap s.heap [] := va_S.rf
  have hl : lv_has ls 6 [(0, .ref (adr b 0 0)), (1, .int (jI p0)), (2, .int (jI p1)), (3, .int (jI p2)), (4, .ref o)] := hl
  obtain ⟨H, hH⟩ : ∃ z, z = s.heap := ⟨_, rfl⟩
  obtain ⟨locs, hlo⟩ : ∃ z : List Loc, z = [] := ⟨_, rfl⟩
  have hR : Rel g b M H := by rw [hH]; exact hR
  have hS : va_S (AA b s.heap.size) s.heap H locs := by rw [hH, hlo]; exact hS
  obtain ⟨⟨x0, hO⟩, hA⟩ := hPre
  suffices hW : W p l e rmL_cloneFile s m args below meth c H locs 0 0 (vx_MQ below (wqI g b 0 M' (OL g o (jI r).toInt64) o s.heap.size) noX args s 1 6 (AO b o s.heap.size)) (F0 m 0 ls []) by rw [hH, hlo] at hW; exact hW
  refine lv_aload hx hb dL_cloneFile_0 (lv_at hl 4 rfl) ?_
  refine lv_iconst hx hb (v := jI 0) dL_cloneFile_2 rfl ?_
  refine lv_aload_n hx hb dL_cloneFile_3 rfl (lv_at hl 0 rfl) ?_
  refine lv_iload_n hx hb dL_cloneFile_4 rfl (lv_at hl 1 rfl) ?_
  refine lv_iload_n hx hb dL_cloneFile_5 rfl (lv_at hl 2 rfl) ?_
  refine lv_iload_n hx hb dL_cloneFile_6 rfl (lv_at hl 3 rfl) ?_
  refine x_cVi (As := [.int (jI p0), .int (jI p1), .int (jI p2)]) (rest := [.int (jI 0), .ref o]) hx hb hml hown hts hK hR hS hC ok0 rfl (ci := 3) (C := RX3) (T := TX3) (N := 9) rfl wd434 wd435 wd436 wd1 wd437 hyL_cloneFile ⟨rfl, rfl⟩ ⟨Nat.le_trans (Nat.succ_le_succ (Nat.le_max_left _ _)) (Nat.le_refl _), Nat.add_le_add_left (Nat.le_max_left _ _) _⟩ hl.1 (Nat.le_of_ble_eq_true rfl) dL_cloneFile_7 ⟨Nat.zero_le _, Nat.zero_le _⟩ rfl ?_
  intro hr0 H1 locs1 hR hS1
  have hO1 : ∃ x, OL g o x H1 := ⟨x0, hO.kept (hS1.2.1 o (Array.getElem?_eq_some_iff.mp hO.choose_spec.1).1 hA)⟩
  have hS := AO_S (o := o) hS1
  refine lv_i2l hx hb dL_cloneFile_10 rfl ?_
  refine x_wst hx hb hK hR hO1 hA hS dL_cloneFile_11 ?_
  intro H2 locs2 hR hO2 hS
  refine lv_goto (tgt := 27) hx hb dL_cloneFile_12 rfl ?_
  refine lv_iconst hx hb (v := jI 0) dL_cloneFile_27 rfl ?_
  exact x_wend hx hb hlocks hK hR hO2 hS hr (Nat.zero_le _) (Nat.zero_le _) dL_cloneFile_28
set_option maxHeartbeats 4000000 in
set_option maxRecDepth 100000 in
theorem tL_cloneFile_1 {l : Launch} {g : Gx} {b o : Nat} {p0 : Int} {p1 : Int} {p2 : Int} {M : Mm} (hC : Tt l yX3_cloneFile cX3_cloneFile 6 (some .int) rmTX3_cloneFile g b [.ref (adr b 0 0), .int (jI p0), .int (jI p1), .int (jI p2)] M 1) : Lt l yL_cloneFile cL_cloneFile 6 hhL_cloneFile rmL_cloneFile g b o [.ref (adr b 0 0), .int (jI p0), .int (jI p1), .int (jI p2), .ref o] M (OLp g b o) 1 M (fun H => ∃ x, OL g o x H) := by
  refine lt_of (by decide +kernel) (Nat.le_of_ble_eq_true rfl) ?_
  intro p e s m args below meth c C0 hTH hNP hPre hTab hR ls hl
  obtain ⟨hx, hb, hr, hlocks, hml, hown, hts, hK⟩ := id C0
  have hS : va_S (AA b s.heap.size) s.heap s.heap [] := va_S.rf
  have hl : lv_has ls 6 [(0, .ref (adr b 0 0)), (1, .int (jI p0)), (2, .int (jI p1)), (3, .int (jI p2)), (4, .ref o)] := hl
  obtain ⟨H, hH⟩ : ∃ z, z = s.heap := ⟨_, rfl⟩
  obtain ⟨locs, hlo⟩ : ∃ z : List Loc, z = [] := ⟨_, rfl⟩
  have hR : Rel g b M H := by rw [hH]; exact hR
  have hS : va_S (AA b s.heap.size) s.heap H locs := by rw [hH, hlo]; exact hS
  obtain ⟨⟨x0, hO⟩, hA⟩ := hPre
  suffices hW : W p l e rmL_cloneFile s m args below meth c H locs 0 0 (vx_MQ below (wqI g b 1 M (fun H => ∃ x, OL g o x H) o s.heap.size) noX args s 1 6 (AO b o s.heap.size)) (F0 m 0 ls []) by rw [hH, hlo] at hW; exact hW
  refine lv_aload hx hb dL_cloneFile_0 (lv_at hl 4 rfl) ?_
  refine lv_iconst hx hb (v := jI 0) dL_cloneFile_2 rfl ?_
  refine lv_aload_n hx hb dL_cloneFile_3 rfl (lv_at hl 0 rfl) ?_
  refine lv_iload_n hx hb dL_cloneFile_4 rfl (lv_at hl 1 rfl) ?_
  refine lv_iload_n hx hb dL_cloneFile_5 rfl (lv_at hl 2 rfl) ?_
  refine lv_iload_n hx hb dL_cloneFile_6 rfl (lv_at hl 3 rfl) ?_
  refine x_tC (As := [.int (jI p0), .int (jI p1), .int (jI p2)]) (rest := [.int (jI 0), .ref o]) hx hb hml hown hts hK hTH hR hS hC wd434 wd435 wd436 wd1 wd437 hyL_cloneFile ⟨rfl, rfl⟩ ⟨Nat.le_trans (Nat.succ_le_succ (Nat.le_max_right _ _)) (Nat.le_refl _), Nat.add_le_add_left (Nat.le_max_right _ _) _⟩ hl.1 (Nat.le_of_ble_eq_true rfl) dL_cloneFile_7 ⟨Nat.le_refl _, Nat.le_refl _⟩ rfl ?_
  intro H1 locs1 q ce hR hS1 hce hcv hcl
  have hS := AO_S (o := o) hS1
  refine vx_catch (name := exN 1) hown [] ⟨0, 12, 15, 13⟩ [⟨0, 12, 19, 15⟩, ⟨0, 12, 23, 17⟩] hTab (fun z hz => by cases hz) (by decide +kernel) (by decide) (hts _ wd178) hTH.2.2.1 hce hcv hcl ?_
  refine lv_astore hx hb dL_cloneFile_15 hl (by decide) rfl ?_
  intro ls1 hl1
  refine lv_iconst hx hb (v := jI 1) dL_cloneFile_17 rfl ?_
  exact x_wend hx hb hlocks hK hR ⟨x0, hO.kept (hS1.2.1 o (Array.getElem?_eq_some_iff.mp hO.choose_spec.1).1 hA)⟩ hS hr (Nat.le_refl _) (Nat.le_refl _) dL_cloneFile_18
set_option maxHeartbeats 4000000 in
set_option maxRecDepth 100000 in
theorem tL_cloneFile_2 {l : Launch} {g : Gx} {b o : Nat} {p0 : Int} {p1 : Int} {p2 : Int} {M : Mm} (hC : Tt l yX3_cloneFile cX3_cloneFile 6 (some .int) rmTX3_cloneFile g b [.ref (adr b 0 0), .int (jI p0), .int (jI p1), .int (jI p2)] M 2) : Lt l yL_cloneFile cL_cloneFile 6 hhL_cloneFile rmL_cloneFile g b o [.ref (adr b 0 0), .int (jI p0), .int (jI p1), .int (jI p2), .ref o] M (OLp g b o) 2 M (fun H => ∃ x, OL g o x H) := by
  refine lt_of (by decide +kernel) (Nat.le_of_ble_eq_true rfl) ?_
  intro p e s m args below meth c C0 hTH hNP hPre hTab hR ls hl
  obtain ⟨hx, hb, hr, hlocks, hml, hown, hts, hK⟩ := id C0
  have hS : va_S (AA b s.heap.size) s.heap s.heap [] := va_S.rf
  have hl : lv_has ls 6 [(0, .ref (adr b 0 0)), (1, .int (jI p0)), (2, .int (jI p1)), (3, .int (jI p2)), (4, .ref o)] := hl
  obtain ⟨H, hH⟩ : ∃ z, z = s.heap := ⟨_, rfl⟩
  obtain ⟨locs, hlo⟩ : ∃ z : List Loc, z = [] := ⟨_, rfl⟩
  have hR : Rel g b M H := by rw [hH]; exact hR
  have hS : va_S (AA b s.heap.size) s.heap H locs := by rw [hH, hlo]; exact hS
  obtain ⟨⟨x0, hO⟩, hA⟩ := hPre
  suffices hW : W p l e rmL_cloneFile s m args below meth c H locs 0 0 (vx_MQ below (wqI g b 2 M (fun H => ∃ x, OL g o x H) o s.heap.size) noX args s 1 6 (AO b o s.heap.size)) (F0 m 0 ls []) by rw [hH, hlo] at hW; exact hW
  refine lv_aload hx hb dL_cloneFile_0 (lv_at hl 4 rfl) ?_
  refine lv_iconst hx hb (v := jI 0) dL_cloneFile_2 rfl ?_
  refine lv_aload_n hx hb dL_cloneFile_3 rfl (lv_at hl 0 rfl) ?_
  refine lv_iload_n hx hb dL_cloneFile_4 rfl (lv_at hl 1 rfl) ?_
  refine lv_iload_n hx hb dL_cloneFile_5 rfl (lv_at hl 2 rfl) ?_
  refine lv_iload_n hx hb dL_cloneFile_6 rfl (lv_at hl 3 rfl) ?_
  refine x_tC (As := [.int (jI p0), .int (jI p1), .int (jI p2)]) (rest := [.int (jI 0), .ref o]) hx hb hml hown hts hK hTH hR hS hC wd434 wd435 wd436 wd1 wd437 hyL_cloneFile ⟨rfl, rfl⟩ ⟨Nat.le_trans (Nat.succ_le_succ (Nat.le_max_right _ _)) (Nat.le_refl _), Nat.add_le_add_left (Nat.le_max_right _ _) _⟩ hl.1 (Nat.le_of_ble_eq_true rfl) dL_cloneFile_7 ⟨Nat.le_refl _, Nat.le_refl _⟩ rfl ?_
  intro H1 locs1 q ce hR hS1 hce hcv hcl
  have hS := AO_S (o := o) hS1
  refine vx_catch (name := exN 2) hown [⟨0, 12, 15, 13⟩] ⟨0, 12, 19, 15⟩ [⟨0, 12, 23, 17⟩] hTab (by intro z hz; simp only [List.mem_cons, List.not_mem_nil, or_false] at hz; rcases hz with rfl; exact Or.inr ⟨by decide, exN 1, hts _ wd178, hNP.1⟩) (by decide +kernel) (by decide) (hts _ wd179) hTH.2.2.2.1 hce hcv hcl ?_
  refine lv_astore hx hb dL_cloneFile_19 hl (by decide) rfl ?_
  intro ls1 hl1
  refine lv_iconst hx hb (v := jI 2) dL_cloneFile_21 rfl ?_
  exact x_wend hx hb hlocks hK hR ⟨x0, hO.kept (hS1.2.1 o (Array.getElem?_eq_some_iff.mp hO.choose_spec.1).1 hA)⟩ hS hr (Nat.le_refl _) (Nat.le_refl _) dL_cloneFile_22
set_option maxHeartbeats 4000000 in
set_option maxRecDepth 100000 in
theorem tL_cloneFile_3 {l : Launch} {g : Gx} {b o : Nat} {p0 : Int} {p1 : Int} {p2 : Int} {M : Mm} (hC : Tt l yX3_cloneFile cX3_cloneFile 6 (some .int) rmTX3_cloneFile g b [.ref (adr b 0 0), .int (jI p0), .int (jI p1), .int (jI p2)] M 3) : Lt l yL_cloneFile cL_cloneFile 6 hhL_cloneFile rmL_cloneFile g b o [.ref (adr b 0 0), .int (jI p0), .int (jI p1), .int (jI p2), .ref o] M (OLp g b o) 3 M (fun H => ∃ x, OL g o x H) := by
  refine lt_of (by decide +kernel) (Nat.le_of_ble_eq_true rfl) ?_
  intro p e s m args below meth c C0 hTH hNP hPre hTab hR ls hl
  obtain ⟨hx, hb, hr, hlocks, hml, hown, hts, hK⟩ := id C0
  have hS : va_S (AA b s.heap.size) s.heap s.heap [] := va_S.rf
  have hl : lv_has ls 6 [(0, .ref (adr b 0 0)), (1, .int (jI p0)), (2, .int (jI p1)), (3, .int (jI p2)), (4, .ref o)] := hl
  obtain ⟨H, hH⟩ : ∃ z, z = s.heap := ⟨_, rfl⟩
  obtain ⟨locs, hlo⟩ : ∃ z : List Loc, z = [] := ⟨_, rfl⟩
  have hR : Rel g b M H := by rw [hH]; exact hR
  have hS : va_S (AA b s.heap.size) s.heap H locs := by rw [hH, hlo]; exact hS
  obtain ⟨⟨x0, hO⟩, hA⟩ := hPre
  suffices hW : W p l e rmL_cloneFile s m args below meth c H locs 0 0 (vx_MQ below (wqI g b 3 M (fun H => ∃ x, OL g o x H) o s.heap.size) noX args s 1 6 (AO b o s.heap.size)) (F0 m 0 ls []) by rw [hH, hlo] at hW; exact hW
  refine lv_aload hx hb dL_cloneFile_0 (lv_at hl 4 rfl) ?_
  refine lv_iconst hx hb (v := jI 0) dL_cloneFile_2 rfl ?_
  refine lv_aload_n hx hb dL_cloneFile_3 rfl (lv_at hl 0 rfl) ?_
  refine lv_iload_n hx hb dL_cloneFile_4 rfl (lv_at hl 1 rfl) ?_
  refine lv_iload_n hx hb dL_cloneFile_5 rfl (lv_at hl 2 rfl) ?_
  refine lv_iload_n hx hb dL_cloneFile_6 rfl (lv_at hl 3 rfl) ?_
  refine x_tC (As := [.int (jI p0), .int (jI p1), .int (jI p2)]) (rest := [.int (jI 0), .ref o]) hx hb hml hown hts hK hTH hR hS hC wd434 wd435 wd436 wd1 wd437 hyL_cloneFile ⟨rfl, rfl⟩ ⟨Nat.le_trans (Nat.succ_le_succ (Nat.le_max_right _ _)) (Nat.le_refl _), Nat.add_le_add_left (Nat.le_max_right _ _) _⟩ hl.1 (Nat.le_of_ble_eq_true rfl) dL_cloneFile_7 ⟨Nat.le_refl _, Nat.le_refl _⟩ rfl ?_
  intro H1 locs1 q ce hR hS1 hce hcv hcl
  have hS := AO_S (o := o) hS1
  refine vx_catch (name := exN 3) hown [⟨0, 12, 15, 13⟩, ⟨0, 12, 19, 15⟩] ⟨0, 12, 23, 17⟩ [] hTab (by
      intro z hz
      simp only [List.mem_cons, List.not_mem_nil, or_false] at hz
      rcases hz with rfl | rfl
      · exact Or.inr ⟨by decide, exN 1, hts _ wd178, hNP.2.1⟩
      · exact Or.inr ⟨by decide, exN 2, hts _ wd179, hNP.2.2⟩) (by decide +kernel) (by decide) (hts _ wd180) hTH.2.2.2.2.1 hce hcv hcl ?_
  refine lv_astore hx hb dL_cloneFile_23 hl (by decide) rfl ?_
  intro ls1 hl1
  refine lv_iconst hx hb (v := jI 3) dL_cloneFile_25 rfl ?_
  exact x_wend hx hb hlocks hK hR ⟨x0, hO.kept (hS1.2.1 o (Array.getElem?_eq_some_iff.mp hO.choose_spec.1).1 hA)⟩ hS hr (Nat.le_refl _) (Nat.le_refl _) dL_cloneFile_26
abbrev rmL_addName : Room := { frames := max rmX3_addName.frames rmTX3_addName.frames + 1, cells := 1, slots := 6, locals := 8 + (6 + 11) + max rmX3_addName.locals rmTX3_addName.locals }
abbrev hhL_addName : List (Nat × Nat × Nat × Nat) := [(0, 12, 15, 13), (0, 12, 19, 15), (0, 12, 23, 17)]
theorem hyL_addName : yX3_addName.cls = RX3 ∧ yX3_addName.cls ≠ "java/lang/invoke/MethodHandle" ∧ yX3_addName.cls ≠ "java/lang/invoke/VarHandle" ∧ (parseMethodDescriptor yX3_addName.desc).map (fun d => d.parameters.length) = some 3 := by decide +kernel
set_option maxHeartbeats 4000000 in
set_option maxRecDepth 100000 in
theorem nL_addName {l : Launch} {g : Gx} {b o : Nat} {p0 : Int} {p1 : Int} {p2 : Int} {M M' : Mm} {r : Int} (hC : Ct l yX3_addName cX3_addName 6 (some .int) rmX3_addName g b [.ref (adr b 0 0), .int (jI p0), .int (jI p1), .int (jI p2)] M (qI g b r M')) : Lt l yL_addName cL_addName 6 hhL_addName rmL_addName g b o [.ref (adr b 0 0), .int (jI p0), .int (jI p1), .int (jI p2), .ref o] M (OLp g b o) 0 M' (OL g o (jI r).toInt64) := by
  refine lt_of (by decide +kernel) (Nat.le_of_ble_eq_true rfl) ?_
  intro p e s m args below meth c C0 hTH hNP hPre hTab hR ls hl
  obtain ⟨hx, hb, hr, hlocks, hml, hown, hts, hK⟩ := id C0
  have hS : va_S (AA b s.heap.size) s.heap s.heap [] := va_S.rf
  have hl : lv_has ls 6 [(0, .ref (adr b 0 0)), (1, .int (jI p0)), (2, .int (jI p1)), (3, .int (jI p2)), (4, .ref o)] := hl
  obtain ⟨H, hH⟩ : ∃ z, z = s.heap := ⟨_, rfl⟩
  obtain ⟨locs, hlo⟩ : ∃ z : List Loc, z = [] := ⟨_, rfl⟩
  have hR : Rel g b M H := by rw [hH]; exact hR
  have hS : va_S (AA b s.heap.size) s.heap H locs := by rw [hH, hlo]; exact hS
  obtain ⟨⟨x0, hO⟩, hA⟩ := hPre
  suffices hW : W p l e rmL_addName s m args below meth c H locs 0 0 (vx_MQ below (wqI g b 0 M' (OL g o (jI r).toInt64) o s.heap.size) noX args s 1 6 (AO b o s.heap.size)) (F0 m 0 ls []) by rw [hH, hlo] at hW; exact hW
  refine lv_aload hx hb dL_addName_0 (lv_at hl 4 rfl) ?_
  refine lv_iconst hx hb (v := jI 0) dL_addName_2 rfl ?_
  refine lv_aload_n hx hb dL_addName_3 rfl (lv_at hl 0 rfl) ?_
  refine lv_iload_n hx hb dL_addName_4 rfl (lv_at hl 1 rfl) ?_
  refine lv_iload_n hx hb dL_addName_5 rfl (lv_at hl 2 rfl) ?_
  refine lv_iload_n hx hb dL_addName_6 rfl (lv_at hl 3 rfl) ?_
  refine x_cVi (As := [.int (jI p0), .int (jI p1), .int (jI p2)]) (rest := [.int (jI 0), .ref o]) hx hb hml hown hts hK hR hS hC ok0 rfl (ci := 3) (C := RX3) (T := TX3) (N := 9) rfl wd456 wd457 wd458 wd1 wd459 hyL_addName ⟨rfl, rfl⟩ ⟨Nat.le_trans (Nat.succ_le_succ (Nat.le_max_left _ _)) (Nat.le_refl _), Nat.add_le_add_left (Nat.le_max_left _ _) _⟩ hl.1 (Nat.le_of_ble_eq_true rfl) dL_addName_7 ⟨Nat.zero_le _, Nat.zero_le _⟩ rfl ?_
  intro hr0 H1 locs1 hR hS1
  have hO1 : ∃ x, OL g o x H1 := ⟨x0, hO.kept (hS1.2.1 o (Array.getElem?_eq_some_iff.mp hO.choose_spec.1).1 hA)⟩
  have hS := AO_S (o := o) hS1
  refine lv_i2l hx hb dL_addName_10 rfl ?_
  refine x_wst hx hb hK hR hO1 hA hS dL_addName_11 ?_
  intro H2 locs2 hR hO2 hS
  refine lv_goto (tgt := 27) hx hb dL_addName_12 rfl ?_
  refine lv_iconst hx hb (v := jI 0) dL_addName_27 rfl ?_
  exact x_wend hx hb hlocks hK hR hO2 hS hr (Nat.zero_le _) (Nat.zero_le _) dL_addName_28
set_option maxHeartbeats 4000000 in
set_option maxRecDepth 100000 in
theorem tL_addName_1 {l : Launch} {g : Gx} {b o : Nat} {p0 : Int} {p1 : Int} {p2 : Int} {M : Mm} (hC : Tt l yX3_addName cX3_addName 6 (some .int) rmTX3_addName g b [.ref (adr b 0 0), .int (jI p0), .int (jI p1), .int (jI p2)] M 1) : Lt l yL_addName cL_addName 6 hhL_addName rmL_addName g b o [.ref (adr b 0 0), .int (jI p0), .int (jI p1), .int (jI p2), .ref o] M (OLp g b o) 1 M (fun H => ∃ x, OL g o x H) := by
  refine lt_of (by decide +kernel) (Nat.le_of_ble_eq_true rfl) ?_
  intro p e s m args below meth c C0 hTH hNP hPre hTab hR ls hl
  obtain ⟨hx, hb, hr, hlocks, hml, hown, hts, hK⟩ := id C0
  have hS : va_S (AA b s.heap.size) s.heap s.heap [] := va_S.rf
  have hl : lv_has ls 6 [(0, .ref (adr b 0 0)), (1, .int (jI p0)), (2, .int (jI p1)), (3, .int (jI p2)), (4, .ref o)] := hl
  obtain ⟨H, hH⟩ : ∃ z, z = s.heap := ⟨_, rfl⟩
  obtain ⟨locs, hlo⟩ : ∃ z : List Loc, z = [] := ⟨_, rfl⟩
  have hR : Rel g b M H := by rw [hH]; exact hR
  have hS : va_S (AA b s.heap.size) s.heap H locs := by rw [hH, hlo]; exact hS
  obtain ⟨⟨x0, hO⟩, hA⟩ := hPre
  suffices hW : W p l e rmL_addName s m args below meth c H locs 0 0 (vx_MQ below (wqI g b 1 M (fun H => ∃ x, OL g o x H) o s.heap.size) noX args s 1 6 (AO b o s.heap.size)) (F0 m 0 ls []) by rw [hH, hlo] at hW; exact hW
  refine lv_aload hx hb dL_addName_0 (lv_at hl 4 rfl) ?_
  refine lv_iconst hx hb (v := jI 0) dL_addName_2 rfl ?_
  refine lv_aload_n hx hb dL_addName_3 rfl (lv_at hl 0 rfl) ?_
  refine lv_iload_n hx hb dL_addName_4 rfl (lv_at hl 1 rfl) ?_
  refine lv_iload_n hx hb dL_addName_5 rfl (lv_at hl 2 rfl) ?_
  refine lv_iload_n hx hb dL_addName_6 rfl (lv_at hl 3 rfl) ?_
  refine x_tC (As := [.int (jI p0), .int (jI p1), .int (jI p2)]) (rest := [.int (jI 0), .ref o]) hx hb hml hown hts hK hTH hR hS hC wd456 wd457 wd458 wd1 wd459 hyL_addName ⟨rfl, rfl⟩ ⟨Nat.le_trans (Nat.succ_le_succ (Nat.le_max_right _ _)) (Nat.le_refl _), Nat.add_le_add_left (Nat.le_max_right _ _) _⟩ hl.1 (Nat.le_of_ble_eq_true rfl) dL_addName_7 ⟨Nat.le_refl _, Nat.le_refl _⟩ rfl ?_
  intro H1 locs1 q ce hR hS1 hce hcv hcl
  have hS := AO_S (o := o) hS1
  refine vx_catch (name := exN 1) hown [] ⟨0, 12, 15, 13⟩ [⟨0, 12, 19, 15⟩, ⟨0, 12, 23, 17⟩] hTab (fun z hz => by cases hz) (by decide +kernel) (by decide) (hts _ wd178) hTH.2.2.1 hce hcv hcl ?_
  refine lv_astore hx hb dL_addName_15 hl (by decide) rfl ?_
  intro ls1 hl1
  refine lv_iconst hx hb (v := jI 1) dL_addName_17 rfl ?_
  exact x_wend hx hb hlocks hK hR ⟨x0, hO.kept (hS1.2.1 o (Array.getElem?_eq_some_iff.mp hO.choose_spec.1).1 hA)⟩ hS hr (Nat.le_refl _) (Nat.le_refl _) dL_addName_18
set_option maxHeartbeats 4000000 in
set_option maxRecDepth 100000 in
theorem tL_addName_2 {l : Launch} {g : Gx} {b o : Nat} {p0 : Int} {p1 : Int} {p2 : Int} {M : Mm} (hC : Tt l yX3_addName cX3_addName 6 (some .int) rmTX3_addName g b [.ref (adr b 0 0), .int (jI p0), .int (jI p1), .int (jI p2)] M 2) : Lt l yL_addName cL_addName 6 hhL_addName rmL_addName g b o [.ref (adr b 0 0), .int (jI p0), .int (jI p1), .int (jI p2), .ref o] M (OLp g b o) 2 M (fun H => ∃ x, OL g o x H) := by
  refine lt_of (by decide +kernel) (Nat.le_of_ble_eq_true rfl) ?_
  intro p e s m args below meth c C0 hTH hNP hPre hTab hR ls hl
  obtain ⟨hx, hb, hr, hlocks, hml, hown, hts, hK⟩ := id C0
  have hS : va_S (AA b s.heap.size) s.heap s.heap [] := va_S.rf
  have hl : lv_has ls 6 [(0, .ref (adr b 0 0)), (1, .int (jI p0)), (2, .int (jI p1)), (3, .int (jI p2)), (4, .ref o)] := hl
  obtain ⟨H, hH⟩ : ∃ z, z = s.heap := ⟨_, rfl⟩
  obtain ⟨locs, hlo⟩ : ∃ z : List Loc, z = [] := ⟨_, rfl⟩
  have hR : Rel g b M H := by rw [hH]; exact hR
  have hS : va_S (AA b s.heap.size) s.heap H locs := by rw [hH, hlo]; exact hS
  obtain ⟨⟨x0, hO⟩, hA⟩ := hPre
  suffices hW : W p l e rmL_addName s m args below meth c H locs 0 0 (vx_MQ below (wqI g b 2 M (fun H => ∃ x, OL g o x H) o s.heap.size) noX args s 1 6 (AO b o s.heap.size)) (F0 m 0 ls []) by rw [hH, hlo] at hW; exact hW
  refine lv_aload hx hb dL_addName_0 (lv_at hl 4 rfl) ?_
  refine lv_iconst hx hb (v := jI 0) dL_addName_2 rfl ?_
  refine lv_aload_n hx hb dL_addName_3 rfl (lv_at hl 0 rfl) ?_
  refine lv_iload_n hx hb dL_addName_4 rfl (lv_at hl 1 rfl) ?_
  refine lv_iload_n hx hb dL_addName_5 rfl (lv_at hl 2 rfl) ?_
  refine lv_iload_n hx hb dL_addName_6 rfl (lv_at hl 3 rfl) ?_
  refine x_tC (As := [.int (jI p0), .int (jI p1), .int (jI p2)]) (rest := [.int (jI 0), .ref o]) hx hb hml hown hts hK hTH hR hS hC wd456 wd457 wd458 wd1 wd459 hyL_addName ⟨rfl, rfl⟩ ⟨Nat.le_trans (Nat.succ_le_succ (Nat.le_max_right _ _)) (Nat.le_refl _), Nat.add_le_add_left (Nat.le_max_right _ _) _⟩ hl.1 (Nat.le_of_ble_eq_true rfl) dL_addName_7 ⟨Nat.le_refl _, Nat.le_refl _⟩ rfl ?_
  intro H1 locs1 q ce hR hS1 hce hcv hcl
  have hS := AO_S (o := o) hS1
  refine vx_catch (name := exN 2) hown [⟨0, 12, 15, 13⟩] ⟨0, 12, 19, 15⟩ [⟨0, 12, 23, 17⟩] hTab (by intro z hz; simp only [List.mem_cons, List.not_mem_nil, or_false] at hz; rcases hz with rfl; exact Or.inr ⟨by decide, exN 1, hts _ wd178, hNP.1⟩) (by decide +kernel) (by decide) (hts _ wd179) hTH.2.2.2.1 hce hcv hcl ?_
  refine lv_astore hx hb dL_addName_19 hl (by decide) rfl ?_
  intro ls1 hl1
  refine lv_iconst hx hb (v := jI 2) dL_addName_21 rfl ?_
  exact x_wend hx hb hlocks hK hR ⟨x0, hO.kept (hS1.2.1 o (Array.getElem?_eq_some_iff.mp hO.choose_spec.1).1 hA)⟩ hS hr (Nat.le_refl _) (Nat.le_refl _) dL_addName_22
set_option maxHeartbeats 4000000 in
set_option maxRecDepth 100000 in
theorem tL_addName_3 {l : Launch} {g : Gx} {b o : Nat} {p0 : Int} {p1 : Int} {p2 : Int} {M : Mm} (hC : Tt l yX3_addName cX3_addName 6 (some .int) rmTX3_addName g b [.ref (adr b 0 0), .int (jI p0), .int (jI p1), .int (jI p2)] M 3) : Lt l yL_addName cL_addName 6 hhL_addName rmL_addName g b o [.ref (adr b 0 0), .int (jI p0), .int (jI p1), .int (jI p2), .ref o] M (OLp g b o) 3 M (fun H => ∃ x, OL g o x H) := by
  refine lt_of (by decide +kernel) (Nat.le_of_ble_eq_true rfl) ?_
  intro p e s m args below meth c C0 hTH hNP hPre hTab hR ls hl
  obtain ⟨hx, hb, hr, hlocks, hml, hown, hts, hK⟩ := id C0
  have hS : va_S (AA b s.heap.size) s.heap s.heap [] := va_S.rf
  have hl : lv_has ls 6 [(0, .ref (adr b 0 0)), (1, .int (jI p0)), (2, .int (jI p1)), (3, .int (jI p2)), (4, .ref o)] := hl
  obtain ⟨H, hH⟩ : ∃ z, z = s.heap := ⟨_, rfl⟩
  obtain ⟨locs, hlo⟩ : ∃ z : List Loc, z = [] := ⟨_, rfl⟩
  have hR : Rel g b M H := by rw [hH]; exact hR
  have hS : va_S (AA b s.heap.size) s.heap H locs := by rw [hH, hlo]; exact hS
  obtain ⟨⟨x0, hO⟩, hA⟩ := hPre
  suffices hW : W p l e rmL_addName s m args below meth c H locs 0 0 (vx_MQ below (wqI g b 3 M (fun H => ∃ x, OL g o x H) o s.heap.size) noX args s 1 6 (AO b o s.heap.size)) (F0 m 0 ls []) by rw [hH, hlo] at hW; exact hW
  refine lv_aload hx hb dL_addName_0 (lv_at hl 4 rfl) ?_
  refine lv_iconst hx hb (v := jI 0) dL_addName_2 rfl ?_
  refine lv_aload_n hx hb dL_addName_3 rfl (lv_at hl 0 rfl) ?_
  refine lv_iload_n hx hb dL_addName_4 rfl (lv_at hl 1 rfl) ?_
  refine lv_iload_n hx hb dL_addName_5 rfl (lv_at hl 2 rfl) ?_
  refine lv_iload_n hx hb dL_addName_6 rfl (lv_at hl 3 rfl) ?_
  refine x_tC (As := [.int (jI p0), .int (jI p1), .int (jI p2)]) (rest := [.int (jI 0), .ref o]) hx hb hml hown hts hK hTH hR hS hC wd456 wd457 wd458 wd1 wd459 hyL_addName ⟨rfl, rfl⟩ ⟨Nat.le_trans (Nat.succ_le_succ (Nat.le_max_right _ _)) (Nat.le_refl _), Nat.add_le_add_left (Nat.le_max_right _ _) _⟩ hl.1 (Nat.le_of_ble_eq_true rfl) dL_addName_7 ⟨Nat.le_refl _, Nat.le_refl _⟩ rfl ?_
  intro H1 locs1 q ce hR hS1 hce hcv hcl
  have hS := AO_S (o := o) hS1
  refine vx_catch (name := exN 3) hown [⟨0, 12, 15, 13⟩, ⟨0, 12, 19, 15⟩] ⟨0, 12, 23, 17⟩ [] hTab (by
      intro z hz
      simp only [List.mem_cons, List.not_mem_nil, or_false] at hz
      rcases hz with rfl | rfl
      · exact Or.inr ⟨by decide, exN 1, hts _ wd178, hNP.2.1⟩
      · exact Or.inr ⟨by decide, exN 2, hts _ wd179, hNP.2.2⟩) (by decide +kernel) (by decide) (hts _ wd180) hTH.2.2.2.2.1 hce hcv hcl ?_
  refine lv_astore hx hb dL_addName_23 hl (by decide) rfl ?_
  intro ls1 hl1
  refine lv_iconst hx hb (v := jI 3) dL_addName_25 rfl ?_
  exact x_wend hx hb hlocks hK hR ⟨x0, hO.kept (hS1.2.1 o (Array.getElem?_eq_some_iff.mp hO.choose_spec.1).1 hA)⟩ hS hr (Nat.le_refl _) (Nat.le_refl _) dL_addName_26
abbrev rmL_unlink : Room := { frames := max rmX3_unlink.frames rmTX3_unlink.frames + 1, cells := 1, slots := 6, locals := 8 + (4 + 11) + max rmX3_unlink.locals rmTX3_unlink.locals }
abbrev hhL_unlink : List (Nat × Nat × Nat × Nat) := [(0, 10, 13, 13), (0, 10, 17, 15), (0, 10, 21, 17)]
theorem hyL_unlink : yX3_unlink.cls = RX3 ∧ yX3_unlink.cls ≠ "java/lang/invoke/MethodHandle" ∧ yX3_unlink.cls ≠ "java/lang/invoke/VarHandle" ∧ (parseMethodDescriptor yX3_unlink.desc).map (fun d => d.parameters.length) = some 2 := by decide +kernel
set_option maxHeartbeats 4000000 in
set_option maxRecDepth 100000 in
theorem nL_unlink {l : Launch} {g : Gx} {b o : Nat} {p0 : Int} {p1 : Int} {M M' : Mm} {r : Int} (hC : Ct l yX3_unlink cX3_unlink 4 (some .int) rmX3_unlink g b [.ref (adr b 0 0), .int (jI p0), .int (jI p1)] M (qI g b r M')) : Lt l yL_unlink cL_unlink 5 hhL_unlink rmL_unlink g b o [.ref (adr b 0 0), .int (jI p0), .int (jI p1), .ref o] M (OLp g b o) 0 M' (OL g o (jI r).toInt64) := by
  refine lt_of (by decide +kernel) (Nat.le_of_ble_eq_true rfl) ?_
  intro p e s m args below meth c C0 hTH hNP hPre hTab hR ls hl
  obtain ⟨hx, hb, hr, hlocks, hml, hown, hts, hK⟩ := id C0
  have hS : va_S (AA b s.heap.size) s.heap s.heap [] := va_S.rf
  have hl : lv_has ls 5 [(0, .ref (adr b 0 0)), (1, .int (jI p0)), (2, .int (jI p1)), (3, .ref o)] := hl
  obtain ⟨H, hH⟩ : ∃ z, z = s.heap := ⟨_, rfl⟩
  obtain ⟨locs, hlo⟩ : ∃ z : List Loc, z = [] := ⟨_, rfl⟩
  have hR : Rel g b M H := by rw [hH]; exact hR
  have hS : va_S (AA b s.heap.size) s.heap H locs := by rw [hH, hlo]; exact hS
  obtain ⟨⟨x0, hO⟩, hA⟩ := hPre
  suffices hW : W p l e rmL_unlink s m args below meth c H locs 0 0 (vx_MQ below (wqI g b 0 M' (OL g o (jI r).toInt64) o s.heap.size) noX args s 1 6 (AO b o s.heap.size)) (F0 m 0 ls []) by rw [hH, hlo] at hW; exact hW
  refine lv_aload_n hx hb dL_unlink_0 rfl (lv_at hl 3 rfl) ?_
  refine lv_iconst hx hb (v := jI 0) dL_unlink_1 rfl ?_
  refine lv_aload_n hx hb dL_unlink_2 rfl (lv_at hl 0 rfl) ?_
  refine lv_iload_n hx hb dL_unlink_3 rfl (lv_at hl 1 rfl) ?_
  refine lv_iload_n hx hb dL_unlink_4 rfl (lv_at hl 2 rfl) ?_
  refine x_cVi (As := [.int (jI p0), .int (jI p1)]) (rest := [.int (jI 0), .ref o]) hx hb hml hown hts hK hR hS hC ok0 rfl (ci := 3) (C := RX3) (T := TX3) (N := 9) rfl wd464 wd465 wd466 wd1 wd467 hyL_unlink ⟨rfl, rfl⟩ ⟨Nat.le_trans (Nat.succ_le_succ (Nat.le_max_left _ _)) (Nat.le_refl _), Nat.add_le_add_left (Nat.le_max_left _ _) _⟩ hl.1 (Nat.le_of_ble_eq_true rfl) dL_unlink_5 ⟨Nat.zero_le _, Nat.zero_le _⟩ rfl ?_
  intro hr0 H1 locs1 hR hS1
  have hO1 : ∃ x, OL g o x H1 := ⟨x0, hO.kept (hS1.2.1 o (Array.getElem?_eq_some_iff.mp hO.choose_spec.1).1 hA)⟩
  have hS := AO_S (o := o) hS1
  refine lv_i2l hx hb dL_unlink_8 rfl ?_
  refine x_wst hx hb hK hR hO1 hA hS dL_unlink_9 ?_
  intro H2 locs2 hR hO2 hS
  refine lv_goto (tgt := 25) hx hb dL_unlink_10 rfl ?_
  refine lv_iconst hx hb (v := jI 0) dL_unlink_25 rfl ?_
  exact x_wend hx hb hlocks hK hR hO2 hS hr (Nat.zero_le _) (Nat.zero_le _) dL_unlink_26
set_option maxHeartbeats 4000000 in
set_option maxRecDepth 100000 in
theorem tL_unlink_1 {l : Launch} {g : Gx} {b o : Nat} {p0 : Int} {p1 : Int} {M : Mm} (hC : Tt l yX3_unlink cX3_unlink 4 (some .int) rmTX3_unlink g b [.ref (adr b 0 0), .int (jI p0), .int (jI p1)] M 1) : Lt l yL_unlink cL_unlink 5 hhL_unlink rmL_unlink g b o [.ref (adr b 0 0), .int (jI p0), .int (jI p1), .ref o] M (OLp g b o) 1 M (fun H => ∃ x, OL g o x H) := by
  refine lt_of (by decide +kernel) (Nat.le_of_ble_eq_true rfl) ?_
  intro p e s m args below meth c C0 hTH hNP hPre hTab hR ls hl
  obtain ⟨hx, hb, hr, hlocks, hml, hown, hts, hK⟩ := id C0
  have hS : va_S (AA b s.heap.size) s.heap s.heap [] := va_S.rf
  have hl : lv_has ls 5 [(0, .ref (adr b 0 0)), (1, .int (jI p0)), (2, .int (jI p1)), (3, .ref o)] := hl
  obtain ⟨H, hH⟩ : ∃ z, z = s.heap := ⟨_, rfl⟩
  obtain ⟨locs, hlo⟩ : ∃ z : List Loc, z = [] := ⟨_, rfl⟩
  have hR : Rel g b M H := by rw [hH]; exact hR
  have hS : va_S (AA b s.heap.size) s.heap H locs := by rw [hH, hlo]; exact hS
  obtain ⟨⟨x0, hO⟩, hA⟩ := hPre
  suffices hW : W p l e rmL_unlink s m args below meth c H locs 0 0 (vx_MQ below (wqI g b 1 M (fun H => ∃ x, OL g o x H) o s.heap.size) noX args s 1 6 (AO b o s.heap.size)) (F0 m 0 ls []) by rw [hH, hlo] at hW; exact hW
  refine lv_aload_n hx hb dL_unlink_0 rfl (lv_at hl 3 rfl) ?_
  refine lv_iconst hx hb (v := jI 0) dL_unlink_1 rfl ?_
  refine lv_aload_n hx hb dL_unlink_2 rfl (lv_at hl 0 rfl) ?_
  refine lv_iload_n hx hb dL_unlink_3 rfl (lv_at hl 1 rfl) ?_
  refine lv_iload_n hx hb dL_unlink_4 rfl (lv_at hl 2 rfl) ?_
  refine x_tC (As := [.int (jI p0), .int (jI p1)]) (rest := [.int (jI 0), .ref o]) hx hb hml hown hts hK hTH hR hS hC wd464 wd465 wd466 wd1 wd467 hyL_unlink ⟨rfl, rfl⟩ ⟨Nat.le_trans (Nat.succ_le_succ (Nat.le_max_right _ _)) (Nat.le_refl _), Nat.add_le_add_left (Nat.le_max_right _ _) _⟩ hl.1 (Nat.le_of_ble_eq_true rfl) dL_unlink_5 ⟨Nat.le_refl _, Nat.le_refl _⟩ rfl ?_
  intro H1 locs1 q ce hR hS1 hce hcv hcl
  have hS := AO_S (o := o) hS1
  refine vx_catch (name := exN 1) hown [] ⟨0, 10, 13, 13⟩ [⟨0, 10, 17, 15⟩, ⟨0, 10, 21, 17⟩] hTab (fun z hz => by cases hz) (by decide +kernel) (by decide) (hts _ wd178) hTH.2.2.1 hce hcv hcl ?_
  refine lv_astore hx hb dL_unlink_13 hl (by decide) rfl ?_
  intro ls1 hl1
  refine lv_iconst hx hb (v := jI 1) dL_unlink_15 rfl ?_
  exact x_wend hx hb hlocks hK hR ⟨x0, hO.kept (hS1.2.1 o (Array.getElem?_eq_some_iff.mp hO.choose_spec.1).1 hA)⟩ hS hr (Nat.le_refl _) (Nat.le_refl _) dL_unlink_16
set_option maxHeartbeats 4000000 in
set_option maxRecDepth 100000 in
theorem tL_unlink_2 {l : Launch} {g : Gx} {b o : Nat} {p0 : Int} {p1 : Int} {M : Mm} (hC : Tt l yX3_unlink cX3_unlink 4 (some .int) rmTX3_unlink g b [.ref (adr b 0 0), .int (jI p0), .int (jI p1)] M 2) : Lt l yL_unlink cL_unlink 5 hhL_unlink rmL_unlink g b o [.ref (adr b 0 0), .int (jI p0), .int (jI p1), .ref o] M (OLp g b o) 2 M (fun H => ∃ x, OL g o x H) := by
  refine lt_of (by decide +kernel) (Nat.le_of_ble_eq_true rfl) ?_
  intro p e s m args below meth c C0 hTH hNP hPre hTab hR ls hl
  obtain ⟨hx, hb, hr, hlocks, hml, hown, hts, hK⟩ := id C0
  have hS : va_S (AA b s.heap.size) s.heap s.heap [] := va_S.rf
  have hl : lv_has ls 5 [(0, .ref (adr b 0 0)), (1, .int (jI p0)), (2, .int (jI p1)), (3, .ref o)] := hl
  obtain ⟨H, hH⟩ : ∃ z, z = s.heap := ⟨_, rfl⟩
  obtain ⟨locs, hlo⟩ : ∃ z : List Loc, z = [] := ⟨_, rfl⟩
  have hR : Rel g b M H := by rw [hH]; exact hR
  have hS : va_S (AA b s.heap.size) s.heap H locs := by rw [hH, hlo]; exact hS
  obtain ⟨⟨x0, hO⟩, hA⟩ := hPre
  suffices hW : W p l e rmL_unlink s m args below meth c H locs 0 0 (vx_MQ below (wqI g b 2 M (fun H => ∃ x, OL g o x H) o s.heap.size) noX args s 1 6 (AO b o s.heap.size)) (F0 m 0 ls []) by rw [hH, hlo] at hW; exact hW
  refine lv_aload_n hx hb dL_unlink_0 rfl (lv_at hl 3 rfl) ?_
  refine lv_iconst hx hb (v := jI 0) dL_unlink_1 rfl ?_
  refine lv_aload_n hx hb dL_unlink_2 rfl (lv_at hl 0 rfl) ?_
  refine lv_iload_n hx hb dL_unlink_3 rfl (lv_at hl 1 rfl) ?_
  refine lv_iload_n hx hb dL_unlink_4 rfl (lv_at hl 2 rfl) ?_
  refine x_tC (As := [.int (jI p0), .int (jI p1)]) (rest := [.int (jI 0), .ref o]) hx hb hml hown hts hK hTH hR hS hC wd464 wd465 wd466 wd1 wd467 hyL_unlink ⟨rfl, rfl⟩ ⟨Nat.le_trans (Nat.succ_le_succ (Nat.le_max_right _ _)) (Nat.le_refl _), Nat.add_le_add_left (Nat.le_max_right _ _) _⟩ hl.1 (Nat.le_of_ble_eq_true rfl) dL_unlink_5 ⟨Nat.le_refl _, Nat.le_refl _⟩ rfl ?_
  intro H1 locs1 q ce hR hS1 hce hcv hcl
  have hS := AO_S (o := o) hS1
  refine vx_catch (name := exN 2) hown [⟨0, 10, 13, 13⟩] ⟨0, 10, 17, 15⟩ [⟨0, 10, 21, 17⟩] hTab (by intro z hz; simp only [List.mem_cons, List.not_mem_nil, or_false] at hz; rcases hz with rfl; exact Or.inr ⟨by decide, exN 1, hts _ wd178, hNP.1⟩) (by decide +kernel) (by decide) (hts _ wd179) hTH.2.2.2.1 hce hcv hcl ?_
  refine lv_astore hx hb dL_unlink_17 hl (by decide) rfl ?_
  intro ls1 hl1
  refine lv_iconst hx hb (v := jI 2) dL_unlink_19 rfl ?_
  exact x_wend hx hb hlocks hK hR ⟨x0, hO.kept (hS1.2.1 o (Array.getElem?_eq_some_iff.mp hO.choose_spec.1).1 hA)⟩ hS hr (Nat.le_refl _) (Nat.le_refl _) dL_unlink_20
set_option maxHeartbeats 4000000 in
set_option maxRecDepth 100000 in
theorem tL_unlink_3 {l : Launch} {g : Gx} {b o : Nat} {p0 : Int} {p1 : Int} {M : Mm} (hC : Tt l yX3_unlink cX3_unlink 4 (some .int) rmTX3_unlink g b [.ref (adr b 0 0), .int (jI p0), .int (jI p1)] M 3) : Lt l yL_unlink cL_unlink 5 hhL_unlink rmL_unlink g b o [.ref (adr b 0 0), .int (jI p0), .int (jI p1), .ref o] M (OLp g b o) 3 M (fun H => ∃ x, OL g o x H) := by
  refine lt_of (by decide +kernel) (Nat.le_of_ble_eq_true rfl) ?_
  intro p e s m args below meth c C0 hTH hNP hPre hTab hR ls hl
  obtain ⟨hx, hb, hr, hlocks, hml, hown, hts, hK⟩ := id C0
  have hS : va_S (AA b s.heap.size) s.heap s.heap [] := va_S.rf
  have hl : lv_has ls 5 [(0, .ref (adr b 0 0)), (1, .int (jI p0)), (2, .int (jI p1)), (3, .ref o)] := hl
  obtain ⟨H, hH⟩ : ∃ z, z = s.heap := ⟨_, rfl⟩
  obtain ⟨locs, hlo⟩ : ∃ z : List Loc, z = [] := ⟨_, rfl⟩
  have hR : Rel g b M H := by rw [hH]; exact hR
  have hS : va_S (AA b s.heap.size) s.heap H locs := by rw [hH, hlo]; exact hS
  obtain ⟨⟨x0, hO⟩, hA⟩ := hPre
  suffices hW : W p l e rmL_unlink s m args below meth c H locs 0 0 (vx_MQ below (wqI g b 3 M (fun H => ∃ x, OL g o x H) o s.heap.size) noX args s 1 6 (AO b o s.heap.size)) (F0 m 0 ls []) by rw [hH, hlo] at hW; exact hW
  refine lv_aload_n hx hb dL_unlink_0 rfl (lv_at hl 3 rfl) ?_
  refine lv_iconst hx hb (v := jI 0) dL_unlink_1 rfl ?_
  refine lv_aload_n hx hb dL_unlink_2 rfl (lv_at hl 0 rfl) ?_
  refine lv_iload_n hx hb dL_unlink_3 rfl (lv_at hl 1 rfl) ?_
  refine lv_iload_n hx hb dL_unlink_4 rfl (lv_at hl 2 rfl) ?_
  refine x_tC (As := [.int (jI p0), .int (jI p1)]) (rest := [.int (jI 0), .ref o]) hx hb hml hown hts hK hTH hR hS hC wd464 wd465 wd466 wd1 wd467 hyL_unlink ⟨rfl, rfl⟩ ⟨Nat.le_trans (Nat.succ_le_succ (Nat.le_max_right _ _)) (Nat.le_refl _), Nat.add_le_add_left (Nat.le_max_right _ _) _⟩ hl.1 (Nat.le_of_ble_eq_true rfl) dL_unlink_5 ⟨Nat.le_refl _, Nat.le_refl _⟩ rfl ?_
  intro H1 locs1 q ce hR hS1 hce hcv hcl
  have hS := AO_S (o := o) hS1
  refine vx_catch (name := exN 3) hown [⟨0, 10, 13, 13⟩, ⟨0, 10, 17, 15⟩] ⟨0, 10, 21, 17⟩ [] hTab (by
      intro z hz
      simp only [List.mem_cons, List.not_mem_nil, or_false] at hz
      rcases hz with rfl | rfl
      · exact Or.inr ⟨by decide, exN 1, hts _ wd178, hNP.2.1⟩
      · exact Or.inr ⟨by decide, exN 2, hts _ wd179, hNP.2.2⟩) (by decide +kernel) (by decide) (hts _ wd180) hTH.2.2.2.2.1 hce hcv hcl ?_
  refine lv_astore hx hb dL_unlink_21 hl (by decide) rfl ?_
  intro ls1 hl1
  refine lv_iconst hx hb (v := jI 3) dL_unlink_23 rfl ?_
  exact x_wend hx hb hlocks hK hR ⟨x0, hO.kept (hS1.2.1 o (Array.getElem?_eq_some_iff.mp hO.choose_spec.1).1 hA)⟩ hS hr (Nat.le_refl _) (Nat.le_refl _) dL_unlink_24
abbrev rmL_removeFolder : Room := { frames := max rmX3_removeFolder.frames rmTX3_removeFolder.frames + 1, cells := 1, slots := 6, locals := 8 + (4 + 11) + max rmX3_removeFolder.locals rmTX3_removeFolder.locals }
abbrev hhL_removeFolder : List (Nat × Nat × Nat × Nat) := [(0, 10, 13, 13), (0, 10, 17, 15), (0, 10, 21, 17)]
theorem hyL_removeFolder : yX3_removeFolder.cls = RX3 ∧ yX3_removeFolder.cls ≠ "java/lang/invoke/MethodHandle" ∧ yX3_removeFolder.cls ≠ "java/lang/invoke/VarHandle" ∧ (parseMethodDescriptor yX3_removeFolder.desc).map (fun d => d.parameters.length) = some 2 := by decide +kernel
set_option maxHeartbeats 4000000 in
set_option maxRecDepth 100000 in
theorem nL_removeFolder {l : Launch} {g : Gx} {b o : Nat} {p0 : Int} {p1 : Int} {M M' : Mm} {r : Int} (hC : Ct l yX3_removeFolder cX3_removeFolder 4 (some .int) rmX3_removeFolder g b [.ref (adr b 0 0), .int (jI p0), .int (jI p1)] M (qI g b r M')) : Lt l yL_removeFolder cL_removeFolder 5 hhL_removeFolder rmL_removeFolder g b o [.ref (adr b 0 0), .int (jI p0), .int (jI p1), .ref o] M (OLp g b o) 0 M' (OL g o (jI r).toInt64) := by
  refine lt_of (by decide +kernel) (Nat.le_of_ble_eq_true rfl) ?_
  intro p e s m args below meth c C0 hTH hNP hPre hTab hR ls hl
  obtain ⟨hx, hb, hr, hlocks, hml, hown, hts, hK⟩ := id C0
  have hS : va_S (AA b s.heap.size) s.heap s.heap [] := va_S.rf
  have hl : lv_has ls 5 [(0, .ref (adr b 0 0)), (1, .int (jI p0)), (2, .int (jI p1)), (3, .ref o)] := hl
  obtain ⟨H, hH⟩ : ∃ z, z = s.heap := ⟨_, rfl⟩
  obtain ⟨locs, hlo⟩ : ∃ z : List Loc, z = [] := ⟨_, rfl⟩
  have hR : Rel g b M H := by rw [hH]; exact hR
  have hS : va_S (AA b s.heap.size) s.heap H locs := by rw [hH, hlo]; exact hS
  obtain ⟨⟨x0, hO⟩, hA⟩ := hPre
  suffices hW : W p l e rmL_removeFolder s m args below meth c H locs 0 0 (vx_MQ below (wqI g b 0 M' (OL g o (jI r).toInt64) o s.heap.size) noX args s 1 6 (AO b o s.heap.size)) (F0 m 0 ls []) by rw [hH, hlo] at hW; exact hW
  refine lv_aload_n hx hb dL_removeFolder_0 rfl (lv_at hl 3 rfl) ?_
  refine lv_iconst hx hb (v := jI 0) dL_removeFolder_1 rfl ?_
  refine lv_aload_n hx hb dL_removeFolder_2 rfl (lv_at hl 0 rfl) ?_
  refine lv_iload_n hx hb dL_removeFolder_3 rfl (lv_at hl 1 rfl) ?_
  refine lv_iload_n hx hb dL_removeFolder_4 rfl (lv_at hl 2 rfl) ?_
  refine x_cVi (As := [.int (jI p0), .int (jI p1)]) (rest := [.int (jI 0), .ref o]) hx hb hml hown hts hK hR hS hC ok0 rfl (ci := 3) (C := RX3) (T := TX3) (N := 9) rfl wd497 wd498 wd499 wd1 wd500 hyL_removeFolder ⟨rfl, rfl⟩ ⟨Nat.le_trans (Nat.succ_le_succ (Nat.le_max_left _ _)) (Nat.le_refl _), Nat.add_le_add_left (Nat.le_max_left _ _) _⟩ hl.1 (Nat.le_of_ble_eq_true rfl) dL_removeFolder_5 ⟨Nat.zero_le _, Nat.zero_le _⟩ rfl ?_
  intro hr0 H1 locs1 hR hS1
  have hO1 : ∃ x, OL g o x H1 := ⟨x0, hO.kept (hS1.2.1 o (Array.getElem?_eq_some_iff.mp hO.choose_spec.1).1 hA)⟩
  have hS := AO_S (o := o) hS1
  refine lv_i2l hx hb dL_removeFolder_8 rfl ?_
  refine x_wst hx hb hK hR hO1 hA hS dL_removeFolder_9 ?_
  intro H2 locs2 hR hO2 hS
  refine lv_goto (tgt := 25) hx hb dL_removeFolder_10 rfl ?_
  refine lv_iconst hx hb (v := jI 0) dL_removeFolder_25 rfl ?_
  exact x_wend hx hb hlocks hK hR hO2 hS hr (Nat.zero_le _) (Nat.zero_le _) dL_removeFolder_26
set_option maxHeartbeats 4000000 in
set_option maxRecDepth 100000 in
theorem tL_removeFolder_1 {l : Launch} {g : Gx} {b o : Nat} {p0 : Int} {p1 : Int} {M : Mm} (hC : Tt l yX3_removeFolder cX3_removeFolder 4 (some .int) rmTX3_removeFolder g b [.ref (adr b 0 0), .int (jI p0), .int (jI p1)] M 1) : Lt l yL_removeFolder cL_removeFolder 5 hhL_removeFolder rmL_removeFolder g b o [.ref (adr b 0 0), .int (jI p0), .int (jI p1), .ref o] M (OLp g b o) 1 M (fun H => ∃ x, OL g o x H) := by
  refine lt_of (by decide +kernel) (Nat.le_of_ble_eq_true rfl) ?_
  intro p e s m args below meth c C0 hTH hNP hPre hTab hR ls hl
  obtain ⟨hx, hb, hr, hlocks, hml, hown, hts, hK⟩ := id C0
  have hS : va_S (AA b s.heap.size) s.heap s.heap [] := va_S.rf
  have hl : lv_has ls 5 [(0, .ref (adr b 0 0)), (1, .int (jI p0)), (2, .int (jI p1)), (3, .ref o)] := hl
  obtain ⟨H, hH⟩ : ∃ z, z = s.heap := ⟨_, rfl⟩
  obtain ⟨locs, hlo⟩ : ∃ z : List Loc, z = [] := ⟨_, rfl⟩
  have hR : Rel g b M H := by rw [hH]; exact hR
  have hS : va_S (AA b s.heap.size) s.heap H locs := by rw [hH, hlo]; exact hS
  obtain ⟨⟨x0, hO⟩, hA⟩ := hPre
  suffices hW : W p l e rmL_removeFolder s m args below meth c H locs 0 0 (vx_MQ below (wqI g b 1 M (fun H => ∃ x, OL g o x H) o s.heap.size) noX args s 1 6 (AO b o s.heap.size)) (F0 m 0 ls []) by rw [hH, hlo] at hW; exact hW
  refine lv_aload_n hx hb dL_removeFolder_0 rfl (lv_at hl 3 rfl) ?_
  refine lv_iconst hx hb (v := jI 0) dL_removeFolder_1 rfl ?_
  refine lv_aload_n hx hb dL_removeFolder_2 rfl (lv_at hl 0 rfl) ?_
  refine lv_iload_n hx hb dL_removeFolder_3 rfl (lv_at hl 1 rfl) ?_
  refine lv_iload_n hx hb dL_removeFolder_4 rfl (lv_at hl 2 rfl) ?_
  refine x_tC (As := [.int (jI p0), .int (jI p1)]) (rest := [.int (jI 0), .ref o]) hx hb hml hown hts hK hTH hR hS hC wd497 wd498 wd499 wd1 wd500 hyL_removeFolder ⟨rfl, rfl⟩ ⟨Nat.le_trans (Nat.succ_le_succ (Nat.le_max_right _ _)) (Nat.le_refl _), Nat.add_le_add_left (Nat.le_max_right _ _) _⟩ hl.1 (Nat.le_of_ble_eq_true rfl) dL_removeFolder_5 ⟨Nat.le_refl _, Nat.le_refl _⟩ rfl ?_
  intro H1 locs1 q ce hR hS1 hce hcv hcl
  have hS := AO_S (o := o) hS1
  refine vx_catch (name := exN 1) hown [] ⟨0, 10, 13, 13⟩ [⟨0, 10, 17, 15⟩, ⟨0, 10, 21, 17⟩] hTab (fun z hz => by cases hz) (by decide +kernel) (by decide) (hts _ wd178) hTH.2.2.1 hce hcv hcl ?_
  refine lv_astore hx hb dL_removeFolder_13 hl (by decide) rfl ?_
  intro ls1 hl1
  refine lv_iconst hx hb (v := jI 1) dL_removeFolder_15 rfl ?_
  exact x_wend hx hb hlocks hK hR ⟨x0, hO.kept (hS1.2.1 o (Array.getElem?_eq_some_iff.mp hO.choose_spec.1).1 hA)⟩ hS hr (Nat.le_refl _) (Nat.le_refl _) dL_removeFolder_16
set_option maxHeartbeats 4000000 in
set_option maxRecDepth 100000 in
theorem tL_removeFolder_2 {l : Launch} {g : Gx} {b o : Nat} {p0 : Int} {p1 : Int} {M : Mm} (hC : Tt l yX3_removeFolder cX3_removeFolder 4 (some .int) rmTX3_removeFolder g b [.ref (adr b 0 0), .int (jI p0), .int (jI p1)] M 2) : Lt l yL_removeFolder cL_removeFolder 5 hhL_removeFolder rmL_removeFolder g b o [.ref (adr b 0 0), .int (jI p0), .int (jI p1), .ref o] M (OLp g b o) 2 M (fun H => ∃ x, OL g o x H) := by
  refine lt_of (by decide +kernel) (Nat.le_of_ble_eq_true rfl) ?_
  intro p e s m args below meth c C0 hTH hNP hPre hTab hR ls hl
  obtain ⟨hx, hb, hr, hlocks, hml, hown, hts, hK⟩ := id C0
  have hS : va_S (AA b s.heap.size) s.heap s.heap [] := va_S.rf
  have hl : lv_has ls 5 [(0, .ref (adr b 0 0)), (1, .int (jI p0)), (2, .int (jI p1)), (3, .ref o)] := hl
  obtain ⟨H, hH⟩ : ∃ z, z = s.heap := ⟨_, rfl⟩
  obtain ⟨locs, hlo⟩ : ∃ z : List Loc, z = [] := ⟨_, rfl⟩
  have hR : Rel g b M H := by rw [hH]; exact hR
  have hS : va_S (AA b s.heap.size) s.heap H locs := by rw [hH, hlo]; exact hS
  obtain ⟨⟨x0, hO⟩, hA⟩ := hPre
  suffices hW : W p l e rmL_removeFolder s m args below meth c H locs 0 0 (vx_MQ below (wqI g b 2 M (fun H => ∃ x, OL g o x H) o s.heap.size) noX args s 1 6 (AO b o s.heap.size)) (F0 m 0 ls []) by rw [hH, hlo] at hW; exact hW
  refine lv_aload_n hx hb dL_removeFolder_0 rfl (lv_at hl 3 rfl) ?_
  refine lv_iconst hx hb (v := jI 0) dL_removeFolder_1 rfl ?_
  refine lv_aload_n hx hb dL_removeFolder_2 rfl (lv_at hl 0 rfl) ?_
  refine lv_iload_n hx hb dL_removeFolder_3 rfl (lv_at hl 1 rfl) ?_
  refine lv_iload_n hx hb dL_removeFolder_4 rfl (lv_at hl 2 rfl) ?_
  refine x_tC (As := [.int (jI p0), .int (jI p1)]) (rest := [.int (jI 0), .ref o]) hx hb hml hown hts hK hTH hR hS hC wd497 wd498 wd499 wd1 wd500 hyL_removeFolder ⟨rfl, rfl⟩ ⟨Nat.le_trans (Nat.succ_le_succ (Nat.le_max_right _ _)) (Nat.le_refl _), Nat.add_le_add_left (Nat.le_max_right _ _) _⟩ hl.1 (Nat.le_of_ble_eq_true rfl) dL_removeFolder_5 ⟨Nat.le_refl _, Nat.le_refl _⟩ rfl ?_
  intro H1 locs1 q ce hR hS1 hce hcv hcl
  have hS := AO_S (o := o) hS1
  refine vx_catch (name := exN 2) hown [⟨0, 10, 13, 13⟩] ⟨0, 10, 17, 15⟩ [⟨0, 10, 21, 17⟩] hTab (by intro z hz; simp only [List.mem_cons, List.not_mem_nil, or_false] at hz; rcases hz with rfl; exact Or.inr ⟨by decide, exN 1, hts _ wd178, hNP.1⟩) (by decide +kernel) (by decide) (hts _ wd179) hTH.2.2.2.1 hce hcv hcl ?_
  refine lv_astore hx hb dL_removeFolder_17 hl (by decide) rfl ?_
  intro ls1 hl1
  refine lv_iconst hx hb (v := jI 2) dL_removeFolder_19 rfl ?_
  exact x_wend hx hb hlocks hK hR ⟨x0, hO.kept (hS1.2.1 o (Array.getElem?_eq_some_iff.mp hO.choose_spec.1).1 hA)⟩ hS hr (Nat.le_refl _) (Nat.le_refl _) dL_removeFolder_20
set_option maxHeartbeats 4000000 in
set_option maxRecDepth 100000 in
theorem tL_removeFolder_3 {l : Launch} {g : Gx} {b o : Nat} {p0 : Int} {p1 : Int} {M : Mm} (hC : Tt l yX3_removeFolder cX3_removeFolder 4 (some .int) rmTX3_removeFolder g b [.ref (adr b 0 0), .int (jI p0), .int (jI p1)] M 3) : Lt l yL_removeFolder cL_removeFolder 5 hhL_removeFolder rmL_removeFolder g b o [.ref (adr b 0 0), .int (jI p0), .int (jI p1), .ref o] M (OLp g b o) 3 M (fun H => ∃ x, OL g o x H) := by
  refine lt_of (by decide +kernel) (Nat.le_of_ble_eq_true rfl) ?_
  intro p e s m args below meth c C0 hTH hNP hPre hTab hR ls hl
  obtain ⟨hx, hb, hr, hlocks, hml, hown, hts, hK⟩ := id C0
  have hS : va_S (AA b s.heap.size) s.heap s.heap [] := va_S.rf
  have hl : lv_has ls 5 [(0, .ref (adr b 0 0)), (1, .int (jI p0)), (2, .int (jI p1)), (3, .ref o)] := hl
  obtain ⟨H, hH⟩ : ∃ z, z = s.heap := ⟨_, rfl⟩
  obtain ⟨locs, hlo⟩ : ∃ z : List Loc, z = [] := ⟨_, rfl⟩
  have hR : Rel g b M H := by rw [hH]; exact hR
  have hS : va_S (AA b s.heap.size) s.heap H locs := by rw [hH, hlo]; exact hS
  obtain ⟨⟨x0, hO⟩, hA⟩ := hPre
  suffices hW : W p l e rmL_removeFolder s m args below meth c H locs 0 0 (vx_MQ below (wqI g b 3 M (fun H => ∃ x, OL g o x H) o s.heap.size) noX args s 1 6 (AO b o s.heap.size)) (F0 m 0 ls []) by rw [hH, hlo] at hW; exact hW
  refine lv_aload_n hx hb dL_removeFolder_0 rfl (lv_at hl 3 rfl) ?_
  refine lv_iconst hx hb (v := jI 0) dL_removeFolder_1 rfl ?_
  refine lv_aload_n hx hb dL_removeFolder_2 rfl (lv_at hl 0 rfl) ?_
  refine lv_iload_n hx hb dL_removeFolder_3 rfl (lv_at hl 1 rfl) ?_
  refine lv_iload_n hx hb dL_removeFolder_4 rfl (lv_at hl 2 rfl) ?_
  refine x_tC (As := [.int (jI p0), .int (jI p1)]) (rest := [.int (jI 0), .ref o]) hx hb hml hown hts hK hTH hR hS hC wd497 wd498 wd499 wd1 wd500 hyL_removeFolder ⟨rfl, rfl⟩ ⟨Nat.le_trans (Nat.succ_le_succ (Nat.le_max_right _ _)) (Nat.le_refl _), Nat.add_le_add_left (Nat.le_max_right _ _) _⟩ hl.1 (Nat.le_of_ble_eq_true rfl) dL_removeFolder_5 ⟨Nat.le_refl _, Nat.le_refl _⟩ rfl ?_
  intro H1 locs1 q ce hR hS1 hce hcv hcl
  have hS := AO_S (o := o) hS1
  refine vx_catch (name := exN 3) hown [⟨0, 10, 13, 13⟩, ⟨0, 10, 17, 15⟩] ⟨0, 10, 21, 17⟩ [] hTab (by
      intro z hz
      simp only [List.mem_cons, List.not_mem_nil, or_false] at hz
      rcases hz with rfl | rfl
      · exact Or.inr ⟨by decide, exN 1, hts _ wd178, hNP.2.1⟩
      · exact Or.inr ⟨by decide, exN 2, hts _ wd179, hNP.2.2⟩) (by decide +kernel) (by decide) (hts _ wd180) hTH.2.2.2.2.1 hce hcv hcl ?_
  refine lv_astore hx hb dL_removeFolder_21 hl (by decide) rfl ?_
  intro ls1 hl1
  refine lv_iconst hx hb (v := jI 3) dL_removeFolder_23 rfl ?_
  exact x_wend hx hb hlocks hK hR ⟨x0, hO.kept (hS1.2.1 o (Array.getElem?_eq_some_iff.mp hO.choose_spec.1).1 hA)⟩ hS hr (Nat.le_refl _) (Nat.le_refl _) dL_removeFolder_24
abbrev rmL_rename : Room := { frames := max rmX3_rename.frames rmTX3_rename.frames + 1, cells := 1, slots := 6, locals := 8 + (8 + 11) + max rmX3_rename.locals rmTX3_rename.locals }
abbrev hhL_rename : List (Nat × Nat × Nat × Nat) := [(0, 14, 17, 13), (0, 14, 21, 15), (0, 14, 25, 17)]
theorem hyL_rename : yX3_rename.cls = RX3 ∧ yX3_rename.cls ≠ "java/lang/invoke/MethodHandle" ∧ yX3_rename.cls ≠ "java/lang/invoke/VarHandle" ∧ (parseMethodDescriptor yX3_rename.desc).map (fun d => d.parameters.length) = some 4 := by decide +kernel
set_option maxHeartbeats 4000000 in
set_option maxRecDepth 100000 in
theorem nL_rename {l : Launch} {g : Gx} {b o : Nat} {p0 : Int} {p1 : Int} {p2 : Int} {p3 : Int} {M M' : Mm} {r : Int} (hC : Ct l yX3_rename cX3_rename 8 (some .int) rmX3_rename g b [.ref (adr b 0 0), .int (jI p0), .int (jI p1), .int (jI p2), .int (jI p3)] M (qI g b r M')) : Lt l yL_rename cL_rename 7 hhL_rename rmL_rename g b o [.ref (adr b 0 0), .int (jI p0), .int (jI p1), .int (jI p2), .int (jI p3), .ref o] M (OLp g b o) 0 M' (OL g o (jI r).toInt64) := by
  refine lt_of (by decide +kernel) (Nat.le_of_ble_eq_true rfl) ?_
  intro p e s m args below meth c C0 hTH hNP hPre hTab hR ls hl
  obtain ⟨hx, hb, hr, hlocks, hml, hown, hts, hK⟩ := id C0
  have hS : va_S (AA b s.heap.size) s.heap s.heap [] := va_S.rf
  have hl : lv_has ls 7 [(0, .ref (adr b 0 0)), (1, .int (jI p0)), (2, .int (jI p1)), (3, .int (jI p2)), (4, .int (jI p3)), (5, .ref o)] := hl
  obtain ⟨H, hH⟩ : ∃ z, z = s.heap := ⟨_, rfl⟩
  obtain ⟨locs, hlo⟩ : ∃ z : List Loc, z = [] := ⟨_, rfl⟩
  have hR : Rel g b M H := by rw [hH]; exact hR
  have hS : va_S (AA b s.heap.size) s.heap H locs := by rw [hH, hlo]; exact hS
  obtain ⟨⟨x0, hO⟩, hA⟩ := hPre
  suffices hW : W p l e rmL_rename s m args below meth c H locs 0 0 (vx_MQ below (wqI g b 0 M' (OL g o (jI r).toInt64) o s.heap.size) noX args s 1 6 (AO b o s.heap.size)) (F0 m 0 ls []) by rw [hH, hlo] at hW; exact hW
  refine lv_aload hx hb dL_rename_0 (lv_at hl 5 rfl) ?_
  refine lv_iconst hx hb (v := jI 0) dL_rename_2 rfl ?_
  refine lv_aload_n hx hb dL_rename_3 rfl (lv_at hl 0 rfl) ?_
  refine lv_iload_n hx hb dL_rename_4 rfl (lv_at hl 1 rfl) ?_
  refine lv_iload_n hx hb dL_rename_5 rfl (lv_at hl 2 rfl) ?_
  refine lv_iload_n hx hb dL_rename_6 rfl (lv_at hl 3 rfl) ?_
  refine lv_iload hx hb dL_rename_7 (lv_at hl 4 rfl) ?_
  refine x_cVi (As := [.int (jI p0), .int (jI p1), .int (jI p2), .int (jI p3)]) (rest := [.int (jI 0), .ref o]) hx hb hml hown hts hK hR hS hC ok0 rfl (ci := 3) (C := RX3) (T := TX3) (N := 9) rfl wd504 wd505 wd506 wd1 wd507 hyL_rename ⟨rfl, rfl⟩ ⟨Nat.le_trans (Nat.succ_le_succ (Nat.le_max_left _ _)) (Nat.le_refl _), Nat.add_le_add_left (Nat.le_max_left _ _) _⟩ hl.1 (Nat.le_of_ble_eq_true rfl) dL_rename_9 ⟨Nat.zero_le _, Nat.zero_le _⟩ rfl ?_
  intro hr0 H1 locs1 hR hS1
  have hO1 : ∃ x, OL g o x H1 := ⟨x0, hO.kept (hS1.2.1 o (Array.getElem?_eq_some_iff.mp hO.choose_spec.1).1 hA)⟩
  have hS := AO_S (o := o) hS1
  refine lv_i2l hx hb dL_rename_12 rfl ?_
  refine x_wst hx hb hK hR hO1 hA hS dL_rename_13 ?_
  intro H2 locs2 hR hO2 hS
  refine lv_goto (tgt := 29) hx hb dL_rename_14 rfl ?_
  refine lv_iconst hx hb (v := jI 0) dL_rename_29 rfl ?_
  exact x_wend hx hb hlocks hK hR hO2 hS hr (Nat.zero_le _) (Nat.zero_le _) dL_rename_30
set_option maxHeartbeats 4000000 in
set_option maxRecDepth 100000 in
theorem tL_rename_1 {l : Launch} {g : Gx} {b o : Nat} {p0 : Int} {p1 : Int} {p2 : Int} {p3 : Int} {M : Mm} (hC : Tt l yX3_rename cX3_rename 8 (some .int) rmTX3_rename g b [.ref (adr b 0 0), .int (jI p0), .int (jI p1), .int (jI p2), .int (jI p3)] M 1) : Lt l yL_rename cL_rename 7 hhL_rename rmL_rename g b o [.ref (adr b 0 0), .int (jI p0), .int (jI p1), .int (jI p2), .int (jI p3), .ref o] M (OLp g b o) 1 M (fun H => ∃ x, OL g o x H) := by
  refine lt_of (by decide +kernel) (Nat.le_of_ble_eq_true rfl) ?_
  intro p e s m args below meth c C0 hTH hNP hPre hTab hR ls hl
  obtain ⟨hx, hb, hr, hlocks, hml, hown, hts, hK⟩ := id C0
  have hS : va_S (AA b s.heap.size) s.heap s.heap [] := va_S.rf
  have hl : lv_has ls 7 [(0, .ref (adr b 0 0)), (1, .int (jI p0)), (2, .int (jI p1)), (3, .int (jI p2)), (4, .int (jI p3)), (5, .ref o)] := hl
  obtain ⟨H, hH⟩ : ∃ z, z = s.heap := ⟨_, rfl⟩
  obtain ⟨locs, hlo⟩ : ∃ z : List Loc, z = [] := ⟨_, rfl⟩
  have hR : Rel g b M H := by rw [hH]; exact hR
  have hS : va_S (AA b s.heap.size) s.heap H locs := by rw [hH, hlo]; exact hS
  obtain ⟨⟨x0, hO⟩, hA⟩ := hPre
  suffices hW : W p l e rmL_rename s m args below meth c H locs 0 0 (vx_MQ below (wqI g b 1 M (fun H => ∃ x, OL g o x H) o s.heap.size) noX args s 1 6 (AO b o s.heap.size)) (F0 m 0 ls []) by rw [hH, hlo] at hW; exact hW
  refine lv_aload hx hb dL_rename_0 (lv_at hl 5 rfl) ?_
  refine lv_iconst hx hb (v := jI 0) dL_rename_2 rfl ?_
  refine lv_aload_n hx hb dL_rename_3 rfl (lv_at hl 0 rfl) ?_
  refine lv_iload_n hx hb dL_rename_4 rfl (lv_at hl 1 rfl) ?_
  refine lv_iload_n hx hb dL_rename_5 rfl (lv_at hl 2 rfl) ?_
  refine lv_iload_n hx hb dL_rename_6 rfl (lv_at hl 3 rfl) ?_
  refine lv_iload hx hb dL_rename_7 (lv_at hl 4 rfl) ?_
  refine x_tC (As := [.int (jI p0), .int (jI p1), .int (jI p2), .int (jI p3)]) (rest := [.int (jI 0), .ref o]) hx hb hml hown hts hK hTH hR hS hC wd504 wd505 wd506 wd1 wd507 hyL_rename ⟨rfl, rfl⟩ ⟨Nat.le_trans (Nat.succ_le_succ (Nat.le_max_right _ _)) (Nat.le_refl _), Nat.add_le_add_left (Nat.le_max_right _ _) _⟩ hl.1 (Nat.le_of_ble_eq_true rfl) dL_rename_9 ⟨Nat.le_refl _, Nat.le_refl _⟩ rfl ?_
  intro H1 locs1 q ce hR hS1 hce hcv hcl
  have hS := AO_S (o := o) hS1
  refine vx_catch (name := exN 1) hown [] ⟨0, 14, 17, 13⟩ [⟨0, 14, 21, 15⟩, ⟨0, 14, 25, 17⟩] hTab (fun z hz => by cases hz) (by decide +kernel) (by decide) (hts _ wd178) hTH.2.2.1 hce hcv hcl ?_
  refine lv_astore hx hb dL_rename_17 hl (by decide) rfl ?_
  intro ls1 hl1
  refine lv_iconst hx hb (v := jI 1) dL_rename_19 rfl ?_
  exact x_wend hx hb hlocks hK hR ⟨x0, hO.kept (hS1.2.1 o (Array.getElem?_eq_some_iff.mp hO.choose_spec.1).1 hA)⟩ hS hr (Nat.le_refl _) (Nat.le_refl _) dL_rename_20
set_option maxHeartbeats 4000000 in
set_option maxRecDepth 100000 in
theorem tL_rename_2 {l : Launch} {g : Gx} {b o : Nat} {p0 : Int} {p1 : Int} {p2 : Int} {p3 : Int} {M : Mm} (hC : Tt l yX3_rename cX3_rename 8 (some .int) rmTX3_rename g b [.ref (adr b 0 0), .int (jI p0), .int (jI p1), .int (jI p2), .int (jI p3)] M 2) : Lt l yL_rename cL_rename 7 hhL_rename rmL_rename g b o [.ref (adr b 0 0), .int (jI p0), .int (jI p1), .int (jI p2), .int (jI p3), .ref o] M (OLp g b o) 2 M (fun H => ∃ x, OL g o x H) := by
  refine lt_of (by decide +kernel) (Nat.le_of_ble_eq_true rfl) ?_
  intro p e s m args below meth c C0 hTH hNP hPre hTab hR ls hl
  obtain ⟨hx, hb, hr, hlocks, hml, hown, hts, hK⟩ := id C0
  have hS : va_S (AA b s.heap.size) s.heap s.heap [] := va_S.rf
  have hl : lv_has ls 7 [(0, .ref (adr b 0 0)), (1, .int (jI p0)), (2, .int (jI p1)), (3, .int (jI p2)), (4, .int (jI p3)), (5, .ref o)] := hl
  obtain ⟨H, hH⟩ : ∃ z, z = s.heap := ⟨_, rfl⟩
  obtain ⟨locs, hlo⟩ : ∃ z : List Loc, z = [] := ⟨_, rfl⟩
  have hR : Rel g b M H := by rw [hH]; exact hR
  have hS : va_S (AA b s.heap.size) s.heap H locs := by rw [hH, hlo]; exact hS
  obtain ⟨⟨x0, hO⟩, hA⟩ := hPre
  suffices hW : W p l e rmL_rename s m args below meth c H locs 0 0 (vx_MQ below (wqI g b 2 M (fun H => ∃ x, OL g o x H) o s.heap.size) noX args s 1 6 (AO b o s.heap.size)) (F0 m 0 ls []) by rw [hH, hlo] at hW; exact hW
  refine lv_aload hx hb dL_rename_0 (lv_at hl 5 rfl) ?_
  refine lv_iconst hx hb (v := jI 0) dL_rename_2 rfl ?_
  refine lv_aload_n hx hb dL_rename_3 rfl (lv_at hl 0 rfl) ?_
  refine lv_iload_n hx hb dL_rename_4 rfl (lv_at hl 1 rfl) ?_
  refine lv_iload_n hx hb dL_rename_5 rfl (lv_at hl 2 rfl) ?_
  refine lv_iload_n hx hb dL_rename_6 rfl (lv_at hl 3 rfl) ?_
  refine lv_iload hx hb dL_rename_7 (lv_at hl 4 rfl) ?_
  refine x_tC (As := [.int (jI p0), .int (jI p1), .int (jI p2), .int (jI p3)]) (rest := [.int (jI 0), .ref o]) hx hb hml hown hts hK hTH hR hS hC wd504 wd505 wd506 wd1 wd507 hyL_rename ⟨rfl, rfl⟩ ⟨Nat.le_trans (Nat.succ_le_succ (Nat.le_max_right _ _)) (Nat.le_refl _), Nat.add_le_add_left (Nat.le_max_right _ _) _⟩ hl.1 (Nat.le_of_ble_eq_true rfl) dL_rename_9 ⟨Nat.le_refl _, Nat.le_refl _⟩ rfl ?_
  intro H1 locs1 q ce hR hS1 hce hcv hcl
  have hS := AO_S (o := o) hS1
  refine vx_catch (name := exN 2) hown [⟨0, 14, 17, 13⟩] ⟨0, 14, 21, 15⟩ [⟨0, 14, 25, 17⟩] hTab (by intro z hz; simp only [List.mem_cons, List.not_mem_nil, or_false] at hz; rcases hz with rfl; exact Or.inr ⟨by decide, exN 1, hts _ wd178, hNP.1⟩) (by decide +kernel) (by decide) (hts _ wd179) hTH.2.2.2.1 hce hcv hcl ?_
  refine lv_astore hx hb dL_rename_21 hl (by decide) rfl ?_
  intro ls1 hl1
  refine lv_iconst hx hb (v := jI 2) dL_rename_23 rfl ?_
  exact x_wend hx hb hlocks hK hR ⟨x0, hO.kept (hS1.2.1 o (Array.getElem?_eq_some_iff.mp hO.choose_spec.1).1 hA)⟩ hS hr (Nat.le_refl _) (Nat.le_refl _) dL_rename_24
set_option maxHeartbeats 4000000 in
set_option maxRecDepth 100000 in
theorem tL_rename_3 {l : Launch} {g : Gx} {b o : Nat} {p0 : Int} {p1 : Int} {p2 : Int} {p3 : Int} {M : Mm} (hC : Tt l yX3_rename cX3_rename 8 (some .int) rmTX3_rename g b [.ref (adr b 0 0), .int (jI p0), .int (jI p1), .int (jI p2), .int (jI p3)] M 3) : Lt l yL_rename cL_rename 7 hhL_rename rmL_rename g b o [.ref (adr b 0 0), .int (jI p0), .int (jI p1), .int (jI p2), .int (jI p3), .ref o] M (OLp g b o) 3 M (fun H => ∃ x, OL g o x H) := by
  refine lt_of (by decide +kernel) (Nat.le_of_ble_eq_true rfl) ?_
  intro p e s m args below meth c C0 hTH hNP hPre hTab hR ls hl
  obtain ⟨hx, hb, hr, hlocks, hml, hown, hts, hK⟩ := id C0
  have hS : va_S (AA b s.heap.size) s.heap s.heap [] := va_S.rf
  have hl : lv_has ls 7 [(0, .ref (adr b 0 0)), (1, .int (jI p0)), (2, .int (jI p1)), (3, .int (jI p2)), (4, .int (jI p3)), (5, .ref o)] := hl
  obtain ⟨H, hH⟩ : ∃ z, z = s.heap := ⟨_, rfl⟩
  obtain ⟨locs, hlo⟩ : ∃ z : List Loc, z = [] := ⟨_, rfl⟩
  have hR : Rel g b M H := by rw [hH]; exact hR
  have hS : va_S (AA b s.heap.size) s.heap H locs := by rw [hH, hlo]; exact hS
  obtain ⟨⟨x0, hO⟩, hA⟩ := hPre
  suffices hW : W p l e rmL_rename s m args below meth c H locs 0 0 (vx_MQ below (wqI g b 3 M (fun H => ∃ x, OL g o x H) o s.heap.size) noX args s 1 6 (AO b o s.heap.size)) (F0 m 0 ls []) by rw [hH, hlo] at hW; exact hW
  refine lv_aload hx hb dL_rename_0 (lv_at hl 5 rfl) ?_
  refine lv_iconst hx hb (v := jI 0) dL_rename_2 rfl ?_
  refine lv_aload_n hx hb dL_rename_3 rfl (lv_at hl 0 rfl) ?_
  refine lv_iload_n hx hb dL_rename_4 rfl (lv_at hl 1 rfl) ?_
  refine lv_iload_n hx hb dL_rename_5 rfl (lv_at hl 2 rfl) ?_
  refine lv_iload_n hx hb dL_rename_6 rfl (lv_at hl 3 rfl) ?_
  refine lv_iload hx hb dL_rename_7 (lv_at hl 4 rfl) ?_
  refine x_tC (As := [.int (jI p0), .int (jI p1), .int (jI p2), .int (jI p3)]) (rest := [.int (jI 0), .ref o]) hx hb hml hown hts hK hTH hR hS hC wd504 wd505 wd506 wd1 wd507 hyL_rename ⟨rfl, rfl⟩ ⟨Nat.le_trans (Nat.succ_le_succ (Nat.le_max_right _ _)) (Nat.le_refl _), Nat.add_le_add_left (Nat.le_max_right _ _) _⟩ hl.1 (Nat.le_of_ble_eq_true rfl) dL_rename_9 ⟨Nat.le_refl _, Nat.le_refl _⟩ rfl ?_
  intro H1 locs1 q ce hR hS1 hce hcv hcl
  have hS := AO_S (o := o) hS1
  refine vx_catch (name := exN 3) hown [⟨0, 14, 17, 13⟩, ⟨0, 14, 21, 15⟩] ⟨0, 14, 25, 17⟩ [] hTab (by
      intro z hz
      simp only [List.mem_cons, List.not_mem_nil, or_false] at hz
      rcases hz with rfl | rfl
      · exact Or.inr ⟨by decide, exN 1, hts _ wd178, hNP.2.1⟩
      · exact Or.inr ⟨by decide, exN 2, hts _ wd179, hNP.2.2⟩) (by decide +kernel) (by decide) (hts _ wd180) hTH.2.2.2.2.1 hce hcv hcl ?_
  refine lv_astore hx hb dL_rename_25 hl (by decide) rfl ?_
  intro ls1 hl1
  refine lv_iconst hx hb (v := jI 3) dL_rename_27 rfl ?_
  exact x_wend hx hb hlocks hK hR ⟨x0, hO.kept (hS1.2.1 o (Array.getElem?_eq_some_iff.mp hO.choose_spec.1).1 hA)⟩ hS hr (Nat.le_refl _) (Nat.le_refl _) dL_rename_28
abbrev rmL_exchange : Room := { frames := max rmX3_exchange.frames rmTX3_exchange.frames + 1, cells := 1, slots := 6, locals := 8 + (7 + 11) + max rmX3_exchange.locals rmTX3_exchange.locals }
abbrev hhL_exchange : List (Nat × Nat × Nat × Nat) := [(0, 14, 17, 13), (0, 14, 21, 15), (0, 14, 25, 17)]
theorem hyL_exchange : yX3_exchange.cls = RX3 ∧ yX3_exchange.cls ≠ "java/lang/invoke/MethodHandle" ∧ yX3_exchange.cls ≠ "java/lang/invoke/VarHandle" ∧ (parseMethodDescriptor yX3_exchange.desc).map (fun d => d.parameters.length) = some 4 := by decide +kernel
set_option maxHeartbeats 4000000 in
set_option maxRecDepth 100000 in
theorem nL_exchange {l : Launch} {g : Gx} {b o : Nat} {p0 : Int} {p1 : Int} {p2 : Int} {p3 : Int} {M M' : Mm} {r : Int} (hC : Ct l yX3_exchange cX3_exchange 7 (some .int) rmX3_exchange g b [.ref (adr b 0 0), .int (jI p0), .int (jI p1), .int (jI p2), .int (jI p3)] M (qI g b r M')) : Lt l yL_exchange cL_exchange 7 hhL_exchange rmL_exchange g b o [.ref (adr b 0 0), .int (jI p0), .int (jI p1), .int (jI p2), .int (jI p3), .ref o] M (OLp g b o) 0 M' (OL g o (jI r).toInt64) := by
  refine lt_of (by decide +kernel) (Nat.le_of_ble_eq_true rfl) ?_
  intro p e s m args below meth c C0 hTH hNP hPre hTab hR ls hl
  obtain ⟨hx, hb, hr, hlocks, hml, hown, hts, hK⟩ := id C0
  have hS : va_S (AA b s.heap.size) s.heap s.heap [] := va_S.rf
  have hl : lv_has ls 7 [(0, .ref (adr b 0 0)), (1, .int (jI p0)), (2, .int (jI p1)), (3, .int (jI p2)), (4, .int (jI p3)), (5, .ref o)] := hl
  obtain ⟨H, hH⟩ : ∃ z, z = s.heap := ⟨_, rfl⟩
  obtain ⟨locs, hlo⟩ : ∃ z : List Loc, z = [] := ⟨_, rfl⟩
  have hR : Rel g b M H := by rw [hH]; exact hR
  have hS : va_S (AA b s.heap.size) s.heap H locs := by rw [hH, hlo]; exact hS
  obtain ⟨⟨x0, hO⟩, hA⟩ := hPre
  suffices hW : W p l e rmL_exchange s m args below meth c H locs 0 0 (vx_MQ below (wqI g b 0 M' (OL g o (jI r).toInt64) o s.heap.size) noX args s 1 6 (AO b o s.heap.size)) (F0 m 0 ls []) by rw [hH, hlo] at hW; exact hW
  refine lv_aload hx hb dL_exchange_0 (lv_at hl 5 rfl) ?_
  refine lv_iconst hx hb (v := jI 0) dL_exchange_2 rfl ?_
  refine lv_aload_n hx hb dL_exchange_3 rfl (lv_at hl 0 rfl) ?_
  refine lv_iload_n hx hb dL_exchange_4 rfl (lv_at hl 1 rfl) ?_
  refine lv_iload_n hx hb dL_exchange_5 rfl (lv_at hl 2 rfl) ?_
  refine lv_iload_n hx hb dL_exchange_6 rfl (lv_at hl 3 rfl) ?_
  refine lv_iload hx hb dL_exchange_7 (lv_at hl 4 rfl) ?_
  refine x_cVi (As := [.int (jI p0), .int (jI p1), .int (jI p2), .int (jI p3)]) (rest := [.int (jI 0), .ref o]) hx hb hml hown hts hK hR hS hC ok0 rfl (ci := 3) (C := RX3) (T := TX3) (N := 9) rfl wd523 wd524 wd525 wd1 wd526 hyL_exchange ⟨rfl, rfl⟩ ⟨Nat.le_trans (Nat.succ_le_succ (Nat.le_max_left _ _)) (Nat.le_refl _), Nat.add_le_add_left (Nat.le_max_left _ _) _⟩ hl.1 (Nat.le_of_ble_eq_true rfl) dL_exchange_9 ⟨Nat.zero_le _, Nat.zero_le _⟩ rfl ?_
  intro hr0 H1 locs1 hR hS1
  have hO1 : ∃ x, OL g o x H1 := ⟨x0, hO.kept (hS1.2.1 o (Array.getElem?_eq_some_iff.mp hO.choose_spec.1).1 hA)⟩
  have hS := AO_S (o := o) hS1
  refine lv_i2l hx hb dL_exchange_12 rfl ?_
  refine x_wst hx hb hK hR hO1 hA hS dL_exchange_13 ?_
  intro H2 locs2 hR hO2 hS
  refine lv_goto (tgt := 29) hx hb dL_exchange_14 rfl ?_
  refine lv_iconst hx hb (v := jI 0) dL_exchange_29 rfl ?_
  exact x_wend hx hb hlocks hK hR hO2 hS hr (Nat.zero_le _) (Nat.zero_le _) dL_exchange_30
set_option maxHeartbeats 4000000 in
set_option maxRecDepth 100000 in
theorem tL_exchange_1 {l : Launch} {g : Gx} {b o : Nat} {p0 : Int} {p1 : Int} {p2 : Int} {p3 : Int} {M : Mm} (hC : Tt l yX3_exchange cX3_exchange 7 (some .int) rmTX3_exchange g b [.ref (adr b 0 0), .int (jI p0), .int (jI p1), .int (jI p2), .int (jI p3)] M 1) : Lt l yL_exchange cL_exchange 7 hhL_exchange rmL_exchange g b o [.ref (adr b 0 0), .int (jI p0), .int (jI p1), .int (jI p2), .int (jI p3), .ref o] M (OLp g b o) 1 M (fun H => ∃ x, OL g o x H) := by
  refine lt_of (by decide +kernel) (Nat.le_of_ble_eq_true rfl) ?_
  intro p e s m args below meth c C0 hTH hNP hPre hTab hR ls hl
  obtain ⟨hx, hb, hr, hlocks, hml, hown, hts, hK⟩ := id C0
  have hS : va_S (AA b s.heap.size) s.heap s.heap [] := va_S.rf
  have hl : lv_has ls 7 [(0, .ref (adr b 0 0)), (1, .int (jI p0)), (2, .int (jI p1)), (3, .int (jI p2)), (4, .int (jI p3)), (5, .ref o)] := hl
  obtain ⟨H, hH⟩ : ∃ z, z = s.heap := ⟨_, rfl⟩
  obtain ⟨locs, hlo⟩ : ∃ z : List Loc, z = [] := ⟨_, rfl⟩
  have hR : Rel g b M H := by rw [hH]; exact hR
  have hS : va_S (AA b s.heap.size) s.heap H locs := by rw [hH, hlo]; exact hS
  obtain ⟨⟨x0, hO⟩, hA⟩ := hPre
  suffices hW : W p l e rmL_exchange s m args below meth c H locs 0 0 (vx_MQ below (wqI g b 1 M (fun H => ∃ x, OL g o x H) o s.heap.size) noX args s 1 6 (AO b o s.heap.size)) (F0 m 0 ls []) by rw [hH, hlo] at hW; exact hW
  refine lv_aload hx hb dL_exchange_0 (lv_at hl 5 rfl) ?_
  refine lv_iconst hx hb (v := jI 0) dL_exchange_2 rfl ?_
  refine lv_aload_n hx hb dL_exchange_3 rfl (lv_at hl 0 rfl) ?_
  refine lv_iload_n hx hb dL_exchange_4 rfl (lv_at hl 1 rfl) ?_
  refine lv_iload_n hx hb dL_exchange_5 rfl (lv_at hl 2 rfl) ?_
  refine lv_iload_n hx hb dL_exchange_6 rfl (lv_at hl 3 rfl) ?_
  refine lv_iload hx hb dL_exchange_7 (lv_at hl 4 rfl) ?_
  refine x_tC (As := [.int (jI p0), .int (jI p1), .int (jI p2), .int (jI p3)]) (rest := [.int (jI 0), .ref o]) hx hb hml hown hts hK hTH hR hS hC wd523 wd524 wd525 wd1 wd526 hyL_exchange ⟨rfl, rfl⟩ ⟨Nat.le_trans (Nat.succ_le_succ (Nat.le_max_right _ _)) (Nat.le_refl _), Nat.add_le_add_left (Nat.le_max_right _ _) _⟩ hl.1 (Nat.le_of_ble_eq_true rfl) dL_exchange_9 ⟨Nat.le_refl _, Nat.le_refl _⟩ rfl ?_
  intro H1 locs1 q ce hR hS1 hce hcv hcl
  have hS := AO_S (o := o) hS1
  refine vx_catch (name := exN 1) hown [] ⟨0, 14, 17, 13⟩ [⟨0, 14, 21, 15⟩, ⟨0, 14, 25, 17⟩] hTab (fun z hz => by cases hz) (by decide +kernel) (by decide) (hts _ wd178) hTH.2.2.1 hce hcv hcl ?_
  refine lv_astore hx hb dL_exchange_17 hl (by decide) rfl ?_
  intro ls1 hl1
  refine lv_iconst hx hb (v := jI 1) dL_exchange_19 rfl ?_
  exact x_wend hx hb hlocks hK hR ⟨x0, hO.kept (hS1.2.1 o (Array.getElem?_eq_some_iff.mp hO.choose_spec.1).1 hA)⟩ hS hr (Nat.le_refl _) (Nat.le_refl _) dL_exchange_20
set_option maxHeartbeats 4000000 in
set_option maxRecDepth 100000 in
theorem tL_exchange_2 {l : Launch} {g : Gx} {b o : Nat} {p0 : Int} {p1 : Int} {p2 : Int} {p3 : Int} {M : Mm} (hC : Tt l yX3_exchange cX3_exchange 7 (some .int) rmTX3_exchange g b [.ref (adr b 0 0), .int (jI p0), .int (jI p1), .int (jI p2), .int (jI p3)] M 2) : Lt l yL_exchange cL_exchange 7 hhL_exchange rmL_exchange g b o [.ref (adr b 0 0), .int (jI p0), .int (jI p1), .int (jI p2), .int (jI p3), .ref o] M (OLp g b o) 2 M (fun H => ∃ x, OL g o x H) := by
  refine lt_of (by decide +kernel) (Nat.le_of_ble_eq_true rfl) ?_
  intro p e s m args below meth c C0 hTH hNP hPre hTab hR ls hl
  obtain ⟨hx, hb, hr, hlocks, hml, hown, hts, hK⟩ := id C0
  have hS : va_S (AA b s.heap.size) s.heap s.heap [] := va_S.rf
  have hl : lv_has ls 7 [(0, .ref (adr b 0 0)), (1, .int (jI p0)), (2, .int (jI p1)), (3, .int (jI p2)), (4, .int (jI p3)), (5, .ref o)] := hl
  obtain ⟨H, hH⟩ : ∃ z, z = s.heap := ⟨_, rfl⟩
  obtain ⟨locs, hlo⟩ : ∃ z : List Loc, z = [] := ⟨_, rfl⟩
  have hR : Rel g b M H := by rw [hH]; exact hR
  have hS : va_S (AA b s.heap.size) s.heap H locs := by rw [hH, hlo]; exact hS
  obtain ⟨⟨x0, hO⟩, hA⟩ := hPre
  suffices hW : W p l e rmL_exchange s m args below meth c H locs 0 0 (vx_MQ below (wqI g b 2 M (fun H => ∃ x, OL g o x H) o s.heap.size) noX args s 1 6 (AO b o s.heap.size)) (F0 m 0 ls []) by rw [hH, hlo] at hW; exact hW
  refine lv_aload hx hb dL_exchange_0 (lv_at hl 5 rfl) ?_
  refine lv_iconst hx hb (v := jI 0) dL_exchange_2 rfl ?_
  refine lv_aload_n hx hb dL_exchange_3 rfl (lv_at hl 0 rfl) ?_
  refine lv_iload_n hx hb dL_exchange_4 rfl (lv_at hl 1 rfl) ?_
  refine lv_iload_n hx hb dL_exchange_5 rfl (lv_at hl 2 rfl) ?_
  refine lv_iload_n hx hb dL_exchange_6 rfl (lv_at hl 3 rfl) ?_
  refine lv_iload hx hb dL_exchange_7 (lv_at hl 4 rfl) ?_
  refine x_tC (As := [.int (jI p0), .int (jI p1), .int (jI p2), .int (jI p3)]) (rest := [.int (jI 0), .ref o]) hx hb hml hown hts hK hTH hR hS hC wd523 wd524 wd525 wd1 wd526 hyL_exchange ⟨rfl, rfl⟩ ⟨Nat.le_trans (Nat.succ_le_succ (Nat.le_max_right _ _)) (Nat.le_refl _), Nat.add_le_add_left (Nat.le_max_right _ _) _⟩ hl.1 (Nat.le_of_ble_eq_true rfl) dL_exchange_9 ⟨Nat.le_refl _, Nat.le_refl _⟩ rfl ?_
  intro H1 locs1 q ce hR hS1 hce hcv hcl
  have hS := AO_S (o := o) hS1
  refine vx_catch (name := exN 2) hown [⟨0, 14, 17, 13⟩] ⟨0, 14, 21, 15⟩ [⟨0, 14, 25, 17⟩] hTab (by intro z hz; simp only [List.mem_cons, List.not_mem_nil, or_false] at hz; rcases hz with rfl; exact Or.inr ⟨by decide, exN 1, hts _ wd178, hNP.1⟩) (by decide +kernel) (by decide) (hts _ wd179) hTH.2.2.2.1 hce hcv hcl ?_
  refine lv_astore hx hb dL_exchange_21 hl (by decide) rfl ?_
  intro ls1 hl1
  refine lv_iconst hx hb (v := jI 2) dL_exchange_23 rfl ?_
  exact x_wend hx hb hlocks hK hR ⟨x0, hO.kept (hS1.2.1 o (Array.getElem?_eq_some_iff.mp hO.choose_spec.1).1 hA)⟩ hS hr (Nat.le_refl _) (Nat.le_refl _) dL_exchange_24
set_option maxHeartbeats 4000000 in
set_option maxRecDepth 100000 in
theorem tL_exchange_3 {l : Launch} {g : Gx} {b o : Nat} {p0 : Int} {p1 : Int} {p2 : Int} {p3 : Int} {M : Mm} (hC : Tt l yX3_exchange cX3_exchange 7 (some .int) rmTX3_exchange g b [.ref (adr b 0 0), .int (jI p0), .int (jI p1), .int (jI p2), .int (jI p3)] M 3) : Lt l yL_exchange cL_exchange 7 hhL_exchange rmL_exchange g b o [.ref (adr b 0 0), .int (jI p0), .int (jI p1), .int (jI p2), .int (jI p3), .ref o] M (OLp g b o) 3 M (fun H => ∃ x, OL g o x H) := by
  refine lt_of (by decide +kernel) (Nat.le_of_ble_eq_true rfl) ?_
  intro p e s m args below meth c C0 hTH hNP hPre hTab hR ls hl
  obtain ⟨hx, hb, hr, hlocks, hml, hown, hts, hK⟩ := id C0
  have hS : va_S (AA b s.heap.size) s.heap s.heap [] := va_S.rf
  have hl : lv_has ls 7 [(0, .ref (adr b 0 0)), (1, .int (jI p0)), (2, .int (jI p1)), (3, .int (jI p2)), (4, .int (jI p3)), (5, .ref o)] := hl
  obtain ⟨H, hH⟩ : ∃ z, z = s.heap := ⟨_, rfl⟩
  obtain ⟨locs, hlo⟩ : ∃ z : List Loc, z = [] := ⟨_, rfl⟩
  have hR : Rel g b M H := by rw [hH]; exact hR
  have hS : va_S (AA b s.heap.size) s.heap H locs := by rw [hH, hlo]; exact hS
  obtain ⟨⟨x0, hO⟩, hA⟩ := hPre
  suffices hW : W p l e rmL_exchange s m args below meth c H locs 0 0 (vx_MQ below (wqI g b 3 M (fun H => ∃ x, OL g o x H) o s.heap.size) noX args s 1 6 (AO b o s.heap.size)) (F0 m 0 ls []) by rw [hH, hlo] at hW; exact hW
  refine lv_aload hx hb dL_exchange_0 (lv_at hl 5 rfl) ?_
  refine lv_iconst hx hb (v := jI 0) dL_exchange_2 rfl ?_
  refine lv_aload_n hx hb dL_exchange_3 rfl (lv_at hl 0 rfl) ?_
  refine lv_iload_n hx hb dL_exchange_4 rfl (lv_at hl 1 rfl) ?_
  refine lv_iload_n hx hb dL_exchange_5 rfl (lv_at hl 2 rfl) ?_
  refine lv_iload_n hx hb dL_exchange_6 rfl (lv_at hl 3 rfl) ?_
  refine lv_iload hx hb dL_exchange_7 (lv_at hl 4 rfl) ?_
  refine x_tC (As := [.int (jI p0), .int (jI p1), .int (jI p2), .int (jI p3)]) (rest := [.int (jI 0), .ref o]) hx hb hml hown hts hK hTH hR hS hC wd523 wd524 wd525 wd1 wd526 hyL_exchange ⟨rfl, rfl⟩ ⟨Nat.le_trans (Nat.succ_le_succ (Nat.le_max_right _ _)) (Nat.le_refl _), Nat.add_le_add_left (Nat.le_max_right _ _) _⟩ hl.1 (Nat.le_of_ble_eq_true rfl) dL_exchange_9 ⟨Nat.le_refl _, Nat.le_refl _⟩ rfl ?_
  intro H1 locs1 q ce hR hS1 hce hcv hcl
  have hS := AO_S (o := o) hS1
  refine vx_catch (name := exN 3) hown [⟨0, 14, 17, 13⟩, ⟨0, 14, 21, 15⟩] ⟨0, 14, 25, 17⟩ [] hTab (by
      intro z hz
      simp only [List.mem_cons, List.not_mem_nil, or_false] at hz
      rcases hz with rfl | rfl
      · exact Or.inr ⟨by decide, exN 1, hts _ wd178, hNP.2.1⟩
      · exact Or.inr ⟨by decide, exN 2, hts _ wd179, hNP.2.2⟩) (by decide +kernel) (by decide) (hts _ wd180) hTH.2.2.2.2.1 hce hcv hcl ?_
  refine lv_astore hx hb dL_exchange_25 hl (by decide) rfl ?_
  intro ls1 hl1
  refine lv_iconst hx hb (v := jI 3) dL_exchange_27 rfl ?_
  exact x_wend hx hb hlocks hK hR ⟨x0, hO.kept (hS1.2.1 o (Array.getElem?_eq_some_iff.mp hO.choose_spec.1).1 hA)⟩ hS hr (Nat.le_refl _) (Nat.le_refl _) dL_exchange_28
abbrev rmL_write : Room := { frames := max rmX3_write.frames rmTX3_write.frames + 1, cells := 1, slots := 6, locals := 8 + (8 + 11) + max rmX3_write.locals rmTX3_write.locals }
abbrev hhL_write : List (Nat × Nat × Nat × Nat) := [(0, 12, 15, 13), (0, 12, 19, 15), (0, 12, 23, 17)]
theorem hyL_write : yX3_write.cls = RX3 ∧ yX3_write.cls ≠ "java/lang/invoke/MethodHandle" ∧ yX3_write.cls ≠ "java/lang/invoke/VarHandle" ∧ (parseMethodDescriptor yX3_write.desc).map (fun d => d.parameters.length) = some 3 := by decide +kernel
set_option maxHeartbeats 4000000 in
set_option maxRecDepth 100000 in
theorem nL_write {l : Launch} {g : Gx} {b o : Nat} {p0 : Int} {p1 : Int} {p2 : Int} {M M' : Mm} {r : Int} (hC : Ct l yX3_write cX3_write 8 (some .int) rmX3_write g b [.ref (adr b 0 0), .int (jI p0), .int (jI p1), .int (jI p2)] M (qI g b r M')) : Lt l yL_write cL_write 6 hhL_write rmL_write g b o [.ref (adr b 0 0), .int (jI p0), .int (jI p1), .int (jI p2), .ref o] M (OLp g b o) 0 M' (OL g o (jI r).toInt64) := by
  refine lt_of (by decide +kernel) (Nat.le_of_ble_eq_true rfl) ?_
  intro p e s m args below meth c C0 hTH hNP hPre hTab hR ls hl
  obtain ⟨hx, hb, hr, hlocks, hml, hown, hts, hK⟩ := id C0
  have hS : va_S (AA b s.heap.size) s.heap s.heap [] := va_S.rf
  have hl : lv_has ls 6 [(0, .ref (adr b 0 0)), (1, .int (jI p0)), (2, .int (jI p1)), (3, .int (jI p2)), (4, .ref o)] := hl
  obtain ⟨H, hH⟩ : ∃ z, z = s.heap := ⟨_, rfl⟩
  obtain ⟨locs, hlo⟩ : ∃ z : List Loc, z = [] := ⟨_, rfl⟩
  have hR : Rel g b M H := by rw [hH]; exact hR
  have hS : va_S (AA b s.heap.size) s.heap H locs := by rw [hH, hlo]; exact hS
  obtain ⟨⟨x0, hO⟩, hA⟩ := hPre
  suffices hW : W p l e rmL_write s m args below meth c H locs 0 0 (vx_MQ below (wqI g b 0 M' (OL g o (jI r).toInt64) o s.heap.size) noX args s 1 6 (AO b o s.heap.size)) (F0 m 0 ls []) by rw [hH, hlo] at hW; exact hW
  refine lv_aload hx hb dL_write_0 (lv_at hl 4 rfl) ?_
  refine lv_iconst hx hb (v := jI 0) dL_write_2 rfl ?_
  refine lv_aload_n hx hb dL_write_3 rfl (lv_at hl 0 rfl) ?_
  refine lv_iload_n hx hb dL_write_4 rfl (lv_at hl 1 rfl) ?_
  refine lv_iload_n hx hb dL_write_5 rfl (lv_at hl 2 rfl) ?_
  refine lv_iload_n hx hb dL_write_6 rfl (lv_at hl 3 rfl) ?_
  refine x_cVi (As := [.int (jI p0), .int (jI p1), .int (jI p2)]) (rest := [.int (jI 0), .ref o]) hx hb hml hown hts hK hR hS hC ok0 rfl (ci := 3) (C := RX3) (T := TX3) (N := 9) rfl wd538 wd539 wd540 wd1 wd541 hyL_write ⟨rfl, rfl⟩ ⟨Nat.le_trans (Nat.succ_le_succ (Nat.le_max_left _ _)) (Nat.le_refl _), Nat.add_le_add_left (Nat.le_max_left _ _) _⟩ hl.1 (Nat.le_of_ble_eq_true rfl) dL_write_7 ⟨Nat.zero_le _, Nat.zero_le _⟩ rfl ?_
  intro hr0 H1 locs1 hR hS1
  have hO1 : ∃ x, OL g o x H1 := ⟨x0, hO.kept (hS1.2.1 o (Array.getElem?_eq_some_iff.mp hO.choose_spec.1).1 hA)⟩
  have hS := AO_S (o := o) hS1
  refine lv_i2l hx hb dL_write_10 rfl ?_
  refine x_wst hx hb hK hR hO1 hA hS dL_write_11 ?_
  intro H2 locs2 hR hO2 hS
  refine lv_goto (tgt := 27) hx hb dL_write_12 rfl ?_
  refine lv_iconst hx hb (v := jI 0) dL_write_27 rfl ?_
  exact x_wend hx hb hlocks hK hR hO2 hS hr (Nat.zero_le _) (Nat.zero_le _) dL_write_28
set_option maxHeartbeats 4000000 in
set_option maxRecDepth 100000 in
theorem tL_write_1 {l : Launch} {g : Gx} {b o : Nat} {p0 : Int} {p1 : Int} {p2 : Int} {M : Mm} (hC : Tt l yX3_write cX3_write 8 (some .int) rmTX3_write g b [.ref (adr b 0 0), .int (jI p0), .int (jI p1), .int (jI p2)] M 1) : Lt l yL_write cL_write 6 hhL_write rmL_write g b o [.ref (adr b 0 0), .int (jI p0), .int (jI p1), .int (jI p2), .ref o] M (OLp g b o) 1 M (fun H => ∃ x, OL g o x H) := by
  refine lt_of (by decide +kernel) (Nat.le_of_ble_eq_true rfl) ?_
  intro p e s m args below meth c C0 hTH hNP hPre hTab hR ls hl
  obtain ⟨hx, hb, hr, hlocks, hml, hown, hts, hK⟩ := id C0
  have hS : va_S (AA b s.heap.size) s.heap s.heap [] := va_S.rf
  have hl : lv_has ls 6 [(0, .ref (adr b 0 0)), (1, .int (jI p0)), (2, .int (jI p1)), (3, .int (jI p2)), (4, .ref o)] := hl
  obtain ⟨H, hH⟩ : ∃ z, z = s.heap := ⟨_, rfl⟩
  obtain ⟨locs, hlo⟩ : ∃ z : List Loc, z = [] := ⟨_, rfl⟩
  have hR : Rel g b M H := by rw [hH]; exact hR
  have hS : va_S (AA b s.heap.size) s.heap H locs := by rw [hH, hlo]; exact hS
  obtain ⟨⟨x0, hO⟩, hA⟩ := hPre
  suffices hW : W p l e rmL_write s m args below meth c H locs 0 0 (vx_MQ below (wqI g b 1 M (fun H => ∃ x, OL g o x H) o s.heap.size) noX args s 1 6 (AO b o s.heap.size)) (F0 m 0 ls []) by rw [hH, hlo] at hW; exact hW
  refine lv_aload hx hb dL_write_0 (lv_at hl 4 rfl) ?_
  refine lv_iconst hx hb (v := jI 0) dL_write_2 rfl ?_
  refine lv_aload_n hx hb dL_write_3 rfl (lv_at hl 0 rfl) ?_
  refine lv_iload_n hx hb dL_write_4 rfl (lv_at hl 1 rfl) ?_
  refine lv_iload_n hx hb dL_write_5 rfl (lv_at hl 2 rfl) ?_
  refine lv_iload_n hx hb dL_write_6 rfl (lv_at hl 3 rfl) ?_
  refine x_tC (As := [.int (jI p0), .int (jI p1), .int (jI p2)]) (rest := [.int (jI 0), .ref o]) hx hb hml hown hts hK hTH hR hS hC wd538 wd539 wd540 wd1 wd541 hyL_write ⟨rfl, rfl⟩ ⟨Nat.le_trans (Nat.succ_le_succ (Nat.le_max_right _ _)) (Nat.le_refl _), Nat.add_le_add_left (Nat.le_max_right _ _) _⟩ hl.1 (Nat.le_of_ble_eq_true rfl) dL_write_7 ⟨Nat.le_refl _, Nat.le_refl _⟩ rfl ?_
  intro H1 locs1 q ce hR hS1 hce hcv hcl
  have hS := AO_S (o := o) hS1
  refine vx_catch (name := exN 1) hown [] ⟨0, 12, 15, 13⟩ [⟨0, 12, 19, 15⟩, ⟨0, 12, 23, 17⟩] hTab (fun z hz => by cases hz) (by decide +kernel) (by decide) (hts _ wd178) hTH.2.2.1 hce hcv hcl ?_
  refine lv_astore hx hb dL_write_15 hl (by decide) rfl ?_
  intro ls1 hl1
  refine lv_iconst hx hb (v := jI 1) dL_write_17 rfl ?_
  exact x_wend hx hb hlocks hK hR ⟨x0, hO.kept (hS1.2.1 o (Array.getElem?_eq_some_iff.mp hO.choose_spec.1).1 hA)⟩ hS hr (Nat.le_refl _) (Nat.le_refl _) dL_write_18
set_option maxHeartbeats 4000000 in
set_option maxRecDepth 100000 in
theorem tL_write_2 {l : Launch} {g : Gx} {b o : Nat} {p0 : Int} {p1 : Int} {p2 : Int} {M : Mm} (hC : Tt l yX3_write cX3_write 8 (some .int) rmTX3_write g b [.ref (adr b 0 0), .int (jI p0), .int (jI p1), .int (jI p2)] M 2) : Lt l yL_write cL_write 6 hhL_write rmL_write g b o [.ref (adr b 0 0), .int (jI p0), .int (jI p1), .int (jI p2), .ref o] M (OLp g b o) 2 M (fun H => ∃ x, OL g o x H) := by
  refine lt_of (by decide +kernel) (Nat.le_of_ble_eq_true rfl) ?_
  intro p e s m args below meth c C0 hTH hNP hPre hTab hR ls hl
  obtain ⟨hx, hb, hr, hlocks, hml, hown, hts, hK⟩ := id C0
  have hS : va_S (AA b s.heap.size) s.heap s.heap [] := va_S.rf
  have hl : lv_has ls 6 [(0, .ref (adr b 0 0)), (1, .int (jI p0)), (2, .int (jI p1)), (3, .int (jI p2)), (4, .ref o)] := hl
  obtain ⟨H, hH⟩ : ∃ z, z = s.heap := ⟨_, rfl⟩
  obtain ⟨locs, hlo⟩ : ∃ z : List Loc, z = [] := ⟨_, rfl⟩
  have hR : Rel g b M H := by rw [hH]; exact hR
  have hS : va_S (AA b s.heap.size) s.heap H locs := by rw [hH, hlo]; exact hS
  obtain ⟨⟨x0, hO⟩, hA⟩ := hPre
  suffices hW : W p l e rmL_write s m args below meth c H locs 0 0 (vx_MQ below (wqI g b 2 M (fun H => ∃ x, OL g o x H) o s.heap.size) noX args s 1 6 (AO b o s.heap.size)) (F0 m 0 ls []) by rw [hH, hlo] at hW; exact hW
  refine lv_aload hx hb dL_write_0 (lv_at hl 4 rfl) ?_
  refine lv_iconst hx hb (v := jI 0) dL_write_2 rfl ?_
  refine lv_aload_n hx hb dL_write_3 rfl (lv_at hl 0 rfl) ?_
  refine lv_iload_n hx hb dL_write_4 rfl (lv_at hl 1 rfl) ?_
  refine lv_iload_n hx hb dL_write_5 rfl (lv_at hl 2 rfl) ?_
  refine lv_iload_n hx hb dL_write_6 rfl (lv_at hl 3 rfl) ?_
  refine x_tC (As := [.int (jI p0), .int (jI p1), .int (jI p2)]) (rest := [.int (jI 0), .ref o]) hx hb hml hown hts hK hTH hR hS hC wd538 wd539 wd540 wd1 wd541 hyL_write ⟨rfl, rfl⟩ ⟨Nat.le_trans (Nat.succ_le_succ (Nat.le_max_right _ _)) (Nat.le_refl _), Nat.add_le_add_left (Nat.le_max_right _ _) _⟩ hl.1 (Nat.le_of_ble_eq_true rfl) dL_write_7 ⟨Nat.le_refl _, Nat.le_refl _⟩ rfl ?_
  intro H1 locs1 q ce hR hS1 hce hcv hcl
  have hS := AO_S (o := o) hS1
  refine vx_catch (name := exN 2) hown [⟨0, 12, 15, 13⟩] ⟨0, 12, 19, 15⟩ [⟨0, 12, 23, 17⟩] hTab (by intro z hz; simp only [List.mem_cons, List.not_mem_nil, or_false] at hz; rcases hz with rfl; exact Or.inr ⟨by decide, exN 1, hts _ wd178, hNP.1⟩) (by decide +kernel) (by decide) (hts _ wd179) hTH.2.2.2.1 hce hcv hcl ?_
  refine lv_astore hx hb dL_write_19 hl (by decide) rfl ?_
  intro ls1 hl1
  refine lv_iconst hx hb (v := jI 2) dL_write_21 rfl ?_
  exact x_wend hx hb hlocks hK hR ⟨x0, hO.kept (hS1.2.1 o (Array.getElem?_eq_some_iff.mp hO.choose_spec.1).1 hA)⟩ hS hr (Nat.le_refl _) (Nat.le_refl _) dL_write_22
set_option maxHeartbeats 4000000 in
set_option maxRecDepth 100000 in
theorem tL_write_3 {l : Launch} {g : Gx} {b o : Nat} {p0 : Int} {p1 : Int} {p2 : Int} {M : Mm} (hC : Tt l yX3_write cX3_write 8 (some .int) rmTX3_write g b [.ref (adr b 0 0), .int (jI p0), .int (jI p1), .int (jI p2)] M 3) : Lt l yL_write cL_write 6 hhL_write rmL_write g b o [.ref (adr b 0 0), .int (jI p0), .int (jI p1), .int (jI p2), .ref o] M (OLp g b o) 3 M (fun H => ∃ x, OL g o x H) := by
  refine lt_of (by decide +kernel) (Nat.le_of_ble_eq_true rfl) ?_
  intro p e s m args below meth c C0 hTH hNP hPre hTab hR ls hl
  obtain ⟨hx, hb, hr, hlocks, hml, hown, hts, hK⟩ := id C0
  have hS : va_S (AA b s.heap.size) s.heap s.heap [] := va_S.rf
  have hl : lv_has ls 6 [(0, .ref (adr b 0 0)), (1, .int (jI p0)), (2, .int (jI p1)), (3, .int (jI p2)), (4, .ref o)] := hl
  obtain ⟨H, hH⟩ : ∃ z, z = s.heap := ⟨_, rfl⟩
  obtain ⟨locs, hlo⟩ : ∃ z : List Loc, z = [] := ⟨_, rfl⟩
  have hR : Rel g b M H := by rw [hH]; exact hR
  have hS : va_S (AA b s.heap.size) s.heap H locs := by rw [hH, hlo]; exact hS
  obtain ⟨⟨x0, hO⟩, hA⟩ := hPre
  suffices hW : W p l e rmL_write s m args below meth c H locs 0 0 (vx_MQ below (wqI g b 3 M (fun H => ∃ x, OL g o x H) o s.heap.size) noX args s 1 6 (AO b o s.heap.size)) (F0 m 0 ls []) by rw [hH, hlo] at hW; exact hW
  refine lv_aload hx hb dL_write_0 (lv_at hl 4 rfl) ?_
  refine lv_iconst hx hb (v := jI 0) dL_write_2 rfl ?_
  refine lv_aload_n hx hb dL_write_3 rfl (lv_at hl 0 rfl) ?_
  refine lv_iload_n hx hb dL_write_4 rfl (lv_at hl 1 rfl) ?_
  refine lv_iload_n hx hb dL_write_5 rfl (lv_at hl 2 rfl) ?_
  refine lv_iload_n hx hb dL_write_6 rfl (lv_at hl 3 rfl) ?_
  refine x_tC (As := [.int (jI p0), .int (jI p1), .int (jI p2)]) (rest := [.int (jI 0), .ref o]) hx hb hml hown hts hK hTH hR hS hC wd538 wd539 wd540 wd1 wd541 hyL_write ⟨rfl, rfl⟩ ⟨Nat.le_trans (Nat.succ_le_succ (Nat.le_max_right _ _)) (Nat.le_refl _), Nat.add_le_add_left (Nat.le_max_right _ _) _⟩ hl.1 (Nat.le_of_ble_eq_true rfl) dL_write_7 ⟨Nat.le_refl _, Nat.le_refl _⟩ rfl ?_
  intro H1 locs1 q ce hR hS1 hce hcv hcl
  have hS := AO_S (o := o) hS1
  refine vx_catch (name := exN 3) hown [⟨0, 12, 15, 13⟩, ⟨0, 12, 19, 15⟩] ⟨0, 12, 23, 17⟩ [] hTab (by
      intro z hz
      simp only [List.mem_cons, List.not_mem_nil, or_false] at hz
      rcases hz with rfl | rfl
      · exact Or.inr ⟨by decide, exN 1, hts _ wd178, hNP.2.1⟩
      · exact Or.inr ⟨by decide, exN 2, hts _ wd179, hNP.2.2⟩) (by decide +kernel) (by decide) (hts _ wd180) hTH.2.2.2.2.1 hce hcv hcl ?_
  refine lv_astore hx hb dL_write_23 hl (by decide) rfl ?_
  intro ls1 hl1
  refine lv_iconst hx hb (v := jI 3) dL_write_25 rfl ?_
  exact x_wend hx hb hlocks hK hR ⟨x0, hO.kept (hS1.2.1 o (Array.getElem?_eq_some_iff.mp hO.choose_spec.1).1 hA)⟩ hS hr (Nat.le_refl _) (Nat.le_refl _) dL_write_26
abbrev rmL_truncate : Room := { frames := max rmX3_truncate.frames rmTX3_truncate.frames + 1, cells := 1, slots := 6, locals := 8 + (3 + 11) + max rmX3_truncate.locals rmTX3_truncate.locals }
abbrev hhL_truncate : List (Nat × Nat × Nat × Nat) := [(0, 10, 13, 13), (0, 10, 17, 15), (0, 10, 21, 17)]
theorem hyL_truncate : yX3_truncate.cls = RX3 ∧ yX3_truncate.cls ≠ "java/lang/invoke/MethodHandle" ∧ yX3_truncate.cls ≠ "java/lang/invoke/VarHandle" ∧ (parseMethodDescriptor yX3_truncate.desc).map (fun d => d.parameters.length) = some 2 := by decide +kernel
set_option maxHeartbeats 4000000 in
set_option maxRecDepth 100000 in
theorem nL_truncate {l : Launch} {g : Gx} {b o : Nat} {p0 : Int} {p1 : Int} {M M' : Mm} {r : Int} (hC : Ct l yX3_truncate cX3_truncate 3 (some .int) rmX3_truncate g b [.ref (adr b 0 0), .int (jI p0), .int (jI p1)] M (qI g b r M')) : Lt l yL_truncate cL_truncate 5 hhL_truncate rmL_truncate g b o [.ref (adr b 0 0), .int (jI p0), .int (jI p1), .ref o] M (OLp g b o) 0 M' (OL g o (jI r).toInt64) := by
  refine lt_of (by decide +kernel) (Nat.le_of_ble_eq_true rfl) ?_
  intro p e s m args below meth c C0 hTH hNP hPre hTab hR ls hl
  obtain ⟨hx, hb, hr, hlocks, hml, hown, hts, hK⟩ := id C0
  have hS : va_S (AA b s.heap.size) s.heap s.heap [] := va_S.rf
  have hl : lv_has ls 5 [(0, .ref (adr b 0 0)), (1, .int (jI p0)), (2, .int (jI p1)), (3, .ref o)] := hl
  obtain ⟨H, hH⟩ : ∃ z, z = s.heap := ⟨_, rfl⟩
  obtain ⟨locs, hlo⟩ : ∃ z : List Loc, z = [] := ⟨_, rfl⟩
  have hR : Rel g b M H := by rw [hH]; exact hR
  have hS : va_S (AA b s.heap.size) s.heap H locs := by rw [hH, hlo]; exact hS
  obtain ⟨⟨x0, hO⟩, hA⟩ := hPre
  suffices hW : W p l e rmL_truncate s m args below meth c H locs 0 0 (vx_MQ below (wqI g b 0 M' (OL g o (jI r).toInt64) o s.heap.size) noX args s 1 6 (AO b o s.heap.size)) (F0 m 0 ls []) by rw [hH, hlo] at hW; exact hW
  refine lv_aload_n hx hb dL_truncate_0 rfl (lv_at hl 3 rfl) ?_
  refine lv_iconst hx hb (v := jI 0) dL_truncate_1 rfl ?_
  refine lv_aload_n hx hb dL_truncate_2 rfl (lv_at hl 0 rfl) ?_
  refine lv_iload_n hx hb dL_truncate_3 rfl (lv_at hl 1 rfl) ?_
  refine lv_iload_n hx hb dL_truncate_4 rfl (lv_at hl 2 rfl) ?_
  refine x_cVi (As := [.int (jI p0), .int (jI p1)]) (rest := [.int (jI 0), .ref o]) hx hb hml hown hts hK hR hS hC ok0 rfl (ci := 3) (C := RX3) (T := TX3) (N := 9) rfl wd579 wd580 wd581 wd1 wd582 hyL_truncate ⟨rfl, rfl⟩ ⟨Nat.le_trans (Nat.succ_le_succ (Nat.le_max_left _ _)) (Nat.le_refl _), Nat.add_le_add_left (Nat.le_max_left _ _) _⟩ hl.1 (Nat.le_of_ble_eq_true rfl) dL_truncate_5 ⟨Nat.zero_le _, Nat.zero_le _⟩ rfl ?_
  intro hr0 H1 locs1 hR hS1
  have hO1 : ∃ x, OL g o x H1 := ⟨x0, hO.kept (hS1.2.1 o (Array.getElem?_eq_some_iff.mp hO.choose_spec.1).1 hA)⟩
  have hS := AO_S (o := o) hS1
  refine lv_i2l hx hb dL_truncate_8 rfl ?_
  refine x_wst hx hb hK hR hO1 hA hS dL_truncate_9 ?_
  intro H2 locs2 hR hO2 hS
  refine lv_goto (tgt := 25) hx hb dL_truncate_10 rfl ?_
  refine lv_iconst hx hb (v := jI 0) dL_truncate_25 rfl ?_
  exact x_wend hx hb hlocks hK hR hO2 hS hr (Nat.zero_le _) (Nat.zero_le _) dL_truncate_26
set_option maxHeartbeats 4000000 in
set_option maxRecDepth 100000 in
theorem tL_truncate_1 {l : Launch} {g : Gx} {b o : Nat} {p0 : Int} {p1 : Int} {M : Mm} (hC : Tt l yX3_truncate cX3_truncate 3 (some .int) rmTX3_truncate g b [.ref (adr b 0 0), .int (jI p0), .int (jI p1)] M 1) : Lt l yL_truncate cL_truncate 5 hhL_truncate rmL_truncate g b o [.ref (adr b 0 0), .int (jI p0), .int (jI p1), .ref o] M (OLp g b o) 1 M (fun H => ∃ x, OL g o x H) := by
  refine lt_of (by decide +kernel) (Nat.le_of_ble_eq_true rfl) ?_
  intro p e s m args below meth c C0 hTH hNP hPre hTab hR ls hl
  obtain ⟨hx, hb, hr, hlocks, hml, hown, hts, hK⟩ := id C0
  have hS : va_S (AA b s.heap.size) s.heap s.heap [] := va_S.rf
  have hl : lv_has ls 5 [(0, .ref (adr b 0 0)), (1, .int (jI p0)), (2, .int (jI p1)), (3, .ref o)] := hl
  obtain ⟨H, hH⟩ : ∃ z, z = s.heap := ⟨_, rfl⟩
  obtain ⟨locs, hlo⟩ : ∃ z : List Loc, z = [] := ⟨_, rfl⟩
  have hR : Rel g b M H := by rw [hH]; exact hR
  have hS : va_S (AA b s.heap.size) s.heap H locs := by rw [hH, hlo]; exact hS
  obtain ⟨⟨x0, hO⟩, hA⟩ := hPre
  suffices hW : W p l e rmL_truncate s m args below meth c H locs 0 0 (vx_MQ below (wqI g b 1 M (fun H => ∃ x, OL g o x H) o s.heap.size) noX args s 1 6 (AO b o s.heap.size)) (F0 m 0 ls []) by rw [hH, hlo] at hW; exact hW
  refine lv_aload_n hx hb dL_truncate_0 rfl (lv_at hl 3 rfl) ?_
  refine lv_iconst hx hb (v := jI 0) dL_truncate_1 rfl ?_
  refine lv_aload_n hx hb dL_truncate_2 rfl (lv_at hl 0 rfl) ?_
  refine lv_iload_n hx hb dL_truncate_3 rfl (lv_at hl 1 rfl) ?_
  refine lv_iload_n hx hb dL_truncate_4 rfl (lv_at hl 2 rfl) ?_
  refine x_tC (As := [.int (jI p0), .int (jI p1)]) (rest := [.int (jI 0), .ref o]) hx hb hml hown hts hK hTH hR hS hC wd579 wd580 wd581 wd1 wd582 hyL_truncate ⟨rfl, rfl⟩ ⟨Nat.le_trans (Nat.succ_le_succ (Nat.le_max_right _ _)) (Nat.le_refl _), Nat.add_le_add_left (Nat.le_max_right _ _) _⟩ hl.1 (Nat.le_of_ble_eq_true rfl) dL_truncate_5 ⟨Nat.le_refl _, Nat.le_refl _⟩ rfl ?_
  intro H1 locs1 q ce hR hS1 hce hcv hcl
  have hS := AO_S (o := o) hS1
  refine vx_catch (name := exN 1) hown [] ⟨0, 10, 13, 13⟩ [⟨0, 10, 17, 15⟩, ⟨0, 10, 21, 17⟩] hTab (fun z hz => by cases hz) (by decide +kernel) (by decide) (hts _ wd178) hTH.2.2.1 hce hcv hcl ?_
  refine lv_astore hx hb dL_truncate_13 hl (by decide) rfl ?_
  intro ls1 hl1
  refine lv_iconst hx hb (v := jI 1) dL_truncate_15 rfl ?_
  exact x_wend hx hb hlocks hK hR ⟨x0, hO.kept (hS1.2.1 o (Array.getElem?_eq_some_iff.mp hO.choose_spec.1).1 hA)⟩ hS hr (Nat.le_refl _) (Nat.le_refl _) dL_truncate_16
set_option maxHeartbeats 4000000 in
set_option maxRecDepth 100000 in
theorem tL_truncate_2 {l : Launch} {g : Gx} {b o : Nat} {p0 : Int} {p1 : Int} {M : Mm} (hC : Tt l yX3_truncate cX3_truncate 3 (some .int) rmTX3_truncate g b [.ref (adr b 0 0), .int (jI p0), .int (jI p1)] M 2) : Lt l yL_truncate cL_truncate 5 hhL_truncate rmL_truncate g b o [.ref (adr b 0 0), .int (jI p0), .int (jI p1), .ref o] M (OLp g b o) 2 M (fun H => ∃ x, OL g o x H) := by
  refine lt_of (by decide +kernel) (Nat.le_of_ble_eq_true rfl) ?_
  intro p e s m args below meth c C0 hTH hNP hPre hTab hR ls hl
  obtain ⟨hx, hb, hr, hlocks, hml, hown, hts, hK⟩ := id C0
  have hS : va_S (AA b s.heap.size) s.heap s.heap [] := va_S.rf
  have hl : lv_has ls 5 [(0, .ref (adr b 0 0)), (1, .int (jI p0)), (2, .int (jI p1)), (3, .ref o)] := hl
  obtain ⟨H, hH⟩ : ∃ z, z = s.heap := ⟨_, rfl⟩
  obtain ⟨locs, hlo⟩ : ∃ z : List Loc, z = [] := ⟨_, rfl⟩
  have hR : Rel g b M H := by rw [hH]; exact hR
  have hS : va_S (AA b s.heap.size) s.heap H locs := by rw [hH, hlo]; exact hS
  obtain ⟨⟨x0, hO⟩, hA⟩ := hPre
  suffices hW : W p l e rmL_truncate s m args below meth c H locs 0 0 (vx_MQ below (wqI g b 2 M (fun H => ∃ x, OL g o x H) o s.heap.size) noX args s 1 6 (AO b o s.heap.size)) (F0 m 0 ls []) by rw [hH, hlo] at hW; exact hW
  refine lv_aload_n hx hb dL_truncate_0 rfl (lv_at hl 3 rfl) ?_
  refine lv_iconst hx hb (v := jI 0) dL_truncate_1 rfl ?_
  refine lv_aload_n hx hb dL_truncate_2 rfl (lv_at hl 0 rfl) ?_
  refine lv_iload_n hx hb dL_truncate_3 rfl (lv_at hl 1 rfl) ?_
  refine lv_iload_n hx hb dL_truncate_4 rfl (lv_at hl 2 rfl) ?_
  refine x_tC (As := [.int (jI p0), .int (jI p1)]) (rest := [.int (jI 0), .ref o]) hx hb hml hown hts hK hTH hR hS hC wd579 wd580 wd581 wd1 wd582 hyL_truncate ⟨rfl, rfl⟩ ⟨Nat.le_trans (Nat.succ_le_succ (Nat.le_max_right _ _)) (Nat.le_refl _), Nat.add_le_add_left (Nat.le_max_right _ _) _⟩ hl.1 (Nat.le_of_ble_eq_true rfl) dL_truncate_5 ⟨Nat.le_refl _, Nat.le_refl _⟩ rfl ?_
  intro H1 locs1 q ce hR hS1 hce hcv hcl
  have hS := AO_S (o := o) hS1
  refine vx_catch (name := exN 2) hown [⟨0, 10, 13, 13⟩] ⟨0, 10, 17, 15⟩ [⟨0, 10, 21, 17⟩] hTab (by intro z hz; simp only [List.mem_cons, List.not_mem_nil, or_false] at hz; rcases hz with rfl; exact Or.inr ⟨by decide, exN 1, hts _ wd178, hNP.1⟩) (by decide +kernel) (by decide) (hts _ wd179) hTH.2.2.2.1 hce hcv hcl ?_
  refine lv_astore hx hb dL_truncate_17 hl (by decide) rfl ?_
  intro ls1 hl1
  refine lv_iconst hx hb (v := jI 2) dL_truncate_19 rfl ?_
  exact x_wend hx hb hlocks hK hR ⟨x0, hO.kept (hS1.2.1 o (Array.getElem?_eq_some_iff.mp hO.choose_spec.1).1 hA)⟩ hS hr (Nat.le_refl _) (Nat.le_refl _) dL_truncate_20
set_option maxHeartbeats 4000000 in
set_option maxRecDepth 100000 in
theorem tL_truncate_3 {l : Launch} {g : Gx} {b o : Nat} {p0 : Int} {p1 : Int} {M : Mm} (hC : Tt l yX3_truncate cX3_truncate 3 (some .int) rmTX3_truncate g b [.ref (adr b 0 0), .int (jI p0), .int (jI p1)] M 3) : Lt l yL_truncate cL_truncate 5 hhL_truncate rmL_truncate g b o [.ref (adr b 0 0), .int (jI p0), .int (jI p1), .ref o] M (OLp g b o) 3 M (fun H => ∃ x, OL g o x H) := by
  refine lt_of (by decide +kernel) (Nat.le_of_ble_eq_true rfl) ?_
  intro p e s m args below meth c C0 hTH hNP hPre hTab hR ls hl
  obtain ⟨hx, hb, hr, hlocks, hml, hown, hts, hK⟩ := id C0
  have hS : va_S (AA b s.heap.size) s.heap s.heap [] := va_S.rf
  have hl : lv_has ls 5 [(0, .ref (adr b 0 0)), (1, .int (jI p0)), (2, .int (jI p1)), (3, .ref o)] := hl
  obtain ⟨H, hH⟩ : ∃ z, z = s.heap := ⟨_, rfl⟩
  obtain ⟨locs, hlo⟩ : ∃ z : List Loc, z = [] := ⟨_, rfl⟩
  have hR : Rel g b M H := by rw [hH]; exact hR
  have hS : va_S (AA b s.heap.size) s.heap H locs := by rw [hH, hlo]; exact hS
  obtain ⟨⟨x0, hO⟩, hA⟩ := hPre
  suffices hW : W p l e rmL_truncate s m args below meth c H locs 0 0 (vx_MQ below (wqI g b 3 M (fun H => ∃ x, OL g o x H) o s.heap.size) noX args s 1 6 (AO b o s.heap.size)) (F0 m 0 ls []) by rw [hH, hlo] at hW; exact hW
  refine lv_aload_n hx hb dL_truncate_0 rfl (lv_at hl 3 rfl) ?_
  refine lv_iconst hx hb (v := jI 0) dL_truncate_1 rfl ?_
  refine lv_aload_n hx hb dL_truncate_2 rfl (lv_at hl 0 rfl) ?_
  refine lv_iload_n hx hb dL_truncate_3 rfl (lv_at hl 1 rfl) ?_
  refine lv_iload_n hx hb dL_truncate_4 rfl (lv_at hl 2 rfl) ?_
  refine x_tC (As := [.int (jI p0), .int (jI p1)]) (rest := [.int (jI 0), .ref o]) hx hb hml hown hts hK hTH hR hS hC wd579 wd580 wd581 wd1 wd582 hyL_truncate ⟨rfl, rfl⟩ ⟨Nat.le_trans (Nat.succ_le_succ (Nat.le_max_right _ _)) (Nat.le_refl _), Nat.add_le_add_left (Nat.le_max_right _ _) _⟩ hl.1 (Nat.le_of_ble_eq_true rfl) dL_truncate_5 ⟨Nat.le_refl _, Nat.le_refl _⟩ rfl ?_
  intro H1 locs1 q ce hR hS1 hce hcv hcl
  have hS := AO_S (o := o) hS1
  refine vx_catch (name := exN 3) hown [⟨0, 10, 13, 13⟩, ⟨0, 10, 17, 15⟩] ⟨0, 10, 21, 17⟩ [] hTab (by
      intro z hz
      simp only [List.mem_cons, List.not_mem_nil, or_false] at hz
      rcases hz with rfl | rfl
      · exact Or.inr ⟨by decide, exN 1, hts _ wd178, hNP.2.1⟩
      · exact Or.inr ⟨by decide, exN 2, hts _ wd179, hNP.2.2⟩) (by decide +kernel) (by decide) (hts _ wd180) hTH.2.2.2.2.1 hce hcv hcl ?_
  refine lv_astore hx hb dL_truncate_21 hl (by decide) rfl ?_
  intro ls1 hl1
  refine lv_iconst hx hb (v := jI 3) dL_truncate_23 rfl ?_
  exact x_wend hx hb hlocks hK hR ⟨x0, hO.kept (hS1.2.1 o (Array.getElem?_eq_some_iff.mp hO.choose_spec.1).1 hA)⟩ hS hr (Nat.le_refl _) (Nat.le_refl _) dL_truncate_24
abbrev rmL_punch : Room := { frames := max rmX3_punch.frames rmTX3_punch.frames + 1, cells := 1, slots := 6, locals := 8 + (3 + 11) + max rmX3_punch.locals rmTX3_punch.locals }
abbrev hhL_punch : List (Nat × Nat × Nat × Nat) := [(0, 10, 13, 13), (0, 10, 17, 15), (0, 10, 21, 17)]
theorem hyL_punch : yX3_punch.cls = RX3 ∧ yX3_punch.cls ≠ "java/lang/invoke/MethodHandle" ∧ yX3_punch.cls ≠ "java/lang/invoke/VarHandle" ∧ (parseMethodDescriptor yX3_punch.desc).map (fun d => d.parameters.length) = some 2 := by decide +kernel
set_option maxHeartbeats 4000000 in
set_option maxRecDepth 100000 in
theorem nL_punch {l : Launch} {g : Gx} {b o : Nat} {p0 : Int} {p1 : Int} {M M' : Mm} {r : Int} (hC : Ct l yX3_punch cX3_punch 3 (some .int) rmX3_punch g b [.ref (adr b 0 0), .int (jI p0), .int (jI p1)] M (qI g b r M')) : Lt l yL_punch cL_punch 5 hhL_punch rmL_punch g b o [.ref (adr b 0 0), .int (jI p0), .int (jI p1), .ref o] M (OLp g b o) 0 M' (OL g o (jI r).toInt64) := by
  refine lt_of (by decide +kernel) (Nat.le_of_ble_eq_true rfl) ?_
  intro p e s m args below meth c C0 hTH hNP hPre hTab hR ls hl
  obtain ⟨hx, hb, hr, hlocks, hml, hown, hts, hK⟩ := id C0
  have hS : va_S (AA b s.heap.size) s.heap s.heap [] := va_S.rf
  have hl : lv_has ls 5 [(0, .ref (adr b 0 0)), (1, .int (jI p0)), (2, .int (jI p1)), (3, .ref o)] := hl
  obtain ⟨H, hH⟩ : ∃ z, z = s.heap := ⟨_, rfl⟩
  obtain ⟨locs, hlo⟩ : ∃ z : List Loc, z = [] := ⟨_, rfl⟩
  have hR : Rel g b M H := by rw [hH]; exact hR
  have hS : va_S (AA b s.heap.size) s.heap H locs := by rw [hH, hlo]; exact hS
  obtain ⟨⟨x0, hO⟩, hA⟩ := hPre
  suffices hW : W p l e rmL_punch s m args below meth c H locs 0 0 (vx_MQ below (wqI g b 0 M' (OL g o (jI r).toInt64) o s.heap.size) noX args s 1 6 (AO b o s.heap.size)) (F0 m 0 ls []) by rw [hH, hlo] at hW; exact hW
  refine lv_aload_n hx hb dL_punch_0 rfl (lv_at hl 3 rfl) ?_
  refine lv_iconst hx hb (v := jI 0) dL_punch_1 rfl ?_
  refine lv_aload_n hx hb dL_punch_2 rfl (lv_at hl 0 rfl) ?_
  refine lv_iload_n hx hb dL_punch_3 rfl (lv_at hl 1 rfl) ?_
  refine lv_iload_n hx hb dL_punch_4 rfl (lv_at hl 2 rfl) ?_
  refine x_cVi (As := [.int (jI p0), .int (jI p1)]) (rest := [.int (jI 0), .ref o]) hx hb hml hown hts hK hR hS hC ok0 rfl (ci := 3) (C := RX3) (T := TX3) (N := 9) rfl wd590 wd591 wd592 wd1 wd593 hyL_punch ⟨rfl, rfl⟩ ⟨Nat.le_trans (Nat.succ_le_succ (Nat.le_max_left _ _)) (Nat.le_refl _), Nat.add_le_add_left (Nat.le_max_left _ _) _⟩ hl.1 (Nat.le_of_ble_eq_true rfl) dL_punch_5 ⟨Nat.zero_le _, Nat.zero_le _⟩ rfl ?_
  intro hr0 H1 locs1 hR hS1
  have hO1 : ∃ x, OL g o x H1 := ⟨x0, hO.kept (hS1.2.1 o (Array.getElem?_eq_some_iff.mp hO.choose_spec.1).1 hA)⟩
  have hS := AO_S (o := o) hS1
  refine lv_i2l hx hb dL_punch_8 rfl ?_
  refine x_wst hx hb hK hR hO1 hA hS dL_punch_9 ?_
  intro H2 locs2 hR hO2 hS
  refine lv_goto (tgt := 25) hx hb dL_punch_10 rfl ?_
  refine lv_iconst hx hb (v := jI 0) dL_punch_25 rfl ?_
  exact x_wend hx hb hlocks hK hR hO2 hS hr (Nat.zero_le _) (Nat.zero_le _) dL_punch_26
set_option maxHeartbeats 4000000 in
set_option maxRecDepth 100000 in
theorem tL_punch_1 {l : Launch} {g : Gx} {b o : Nat} {p0 : Int} {p1 : Int} {M : Mm} (hC : Tt l yX3_punch cX3_punch 3 (some .int) rmTX3_punch g b [.ref (adr b 0 0), .int (jI p0), .int (jI p1)] M 1) : Lt l yL_punch cL_punch 5 hhL_punch rmL_punch g b o [.ref (adr b 0 0), .int (jI p0), .int (jI p1), .ref o] M (OLp g b o) 1 M (fun H => ∃ x, OL g o x H) := by
  refine lt_of (by decide +kernel) (Nat.le_of_ble_eq_true rfl) ?_
  intro p e s m args below meth c C0 hTH hNP hPre hTab hR ls hl
  obtain ⟨hx, hb, hr, hlocks, hml, hown, hts, hK⟩ := id C0
  have hS : va_S (AA b s.heap.size) s.heap s.heap [] := va_S.rf
  have hl : lv_has ls 5 [(0, .ref (adr b 0 0)), (1, .int (jI p0)), (2, .int (jI p1)), (3, .ref o)] := hl
  obtain ⟨H, hH⟩ : ∃ z, z = s.heap := ⟨_, rfl⟩
  obtain ⟨locs, hlo⟩ : ∃ z : List Loc, z = [] := ⟨_, rfl⟩
  have hR : Rel g b M H := by rw [hH]; exact hR
  have hS : va_S (AA b s.heap.size) s.heap H locs := by rw [hH, hlo]; exact hS
  obtain ⟨⟨x0, hO⟩, hA⟩ := hPre
  suffices hW : W p l e rmL_punch s m args below meth c H locs 0 0 (vx_MQ below (wqI g b 1 M (fun H => ∃ x, OL g o x H) o s.heap.size) noX args s 1 6 (AO b o s.heap.size)) (F0 m 0 ls []) by rw [hH, hlo] at hW; exact hW
  refine lv_aload_n hx hb dL_punch_0 rfl (lv_at hl 3 rfl) ?_
  refine lv_iconst hx hb (v := jI 0) dL_punch_1 rfl ?_
  refine lv_aload_n hx hb dL_punch_2 rfl (lv_at hl 0 rfl) ?_
  refine lv_iload_n hx hb dL_punch_3 rfl (lv_at hl 1 rfl) ?_
  refine lv_iload_n hx hb dL_punch_4 rfl (lv_at hl 2 rfl) ?_
  refine x_tC (As := [.int (jI p0), .int (jI p1)]) (rest := [.int (jI 0), .ref o]) hx hb hml hown hts hK hTH hR hS hC wd590 wd591 wd592 wd1 wd593 hyL_punch ⟨rfl, rfl⟩ ⟨Nat.le_trans (Nat.succ_le_succ (Nat.le_max_right _ _)) (Nat.le_refl _), Nat.add_le_add_left (Nat.le_max_right _ _) _⟩ hl.1 (Nat.le_of_ble_eq_true rfl) dL_punch_5 ⟨Nat.le_refl _, Nat.le_refl _⟩ rfl ?_
  intro H1 locs1 q ce hR hS1 hce hcv hcl
  have hS := AO_S (o := o) hS1
  refine vx_catch (name := exN 1) hown [] ⟨0, 10, 13, 13⟩ [⟨0, 10, 17, 15⟩, ⟨0, 10, 21, 17⟩] hTab (fun z hz => by cases hz) (by decide +kernel) (by decide) (hts _ wd178) hTH.2.2.1 hce hcv hcl ?_
  refine lv_astore hx hb dL_punch_13 hl (by decide) rfl ?_
  intro ls1 hl1
  refine lv_iconst hx hb (v := jI 1) dL_punch_15 rfl ?_
  exact x_wend hx hb hlocks hK hR ⟨x0, hO.kept (hS1.2.1 o (Array.getElem?_eq_some_iff.mp hO.choose_spec.1).1 hA)⟩ hS hr (Nat.le_refl _) (Nat.le_refl _) dL_punch_16
set_option maxHeartbeats 4000000 in
set_option maxRecDepth 100000 in
theorem tL_punch_2 {l : Launch} {g : Gx} {b o : Nat} {p0 : Int} {p1 : Int} {M : Mm} (hC : Tt l yX3_punch cX3_punch 3 (some .int) rmTX3_punch g b [.ref (adr b 0 0), .int (jI p0), .int (jI p1)] M 2) : Lt l yL_punch cL_punch 5 hhL_punch rmL_punch g b o [.ref (adr b 0 0), .int (jI p0), .int (jI p1), .ref o] M (OLp g b o) 2 M (fun H => ∃ x, OL g o x H) := by
  refine lt_of (by decide +kernel) (Nat.le_of_ble_eq_true rfl) ?_
  intro p e s m args below meth c C0 hTH hNP hPre hTab hR ls hl
  obtain ⟨hx, hb, hr, hlocks, hml, hown, hts, hK⟩ := id C0
  have hS : va_S (AA b s.heap.size) s.heap s.heap [] := va_S.rf
  have hl : lv_has ls 5 [(0, .ref (adr b 0 0)), (1, .int (jI p0)), (2, .int (jI p1)), (3, .ref o)] := hl
  obtain ⟨H, hH⟩ : ∃ z, z = s.heap := ⟨_, rfl⟩
  obtain ⟨locs, hlo⟩ : ∃ z : List Loc, z = [] := ⟨_, rfl⟩
  have hR : Rel g b M H := by rw [hH]; exact hR
  have hS : va_S (AA b s.heap.size) s.heap H locs := by rw [hH, hlo]; exact hS
  obtain ⟨⟨x0, hO⟩, hA⟩ := hPre
  suffices hW : W p l e rmL_punch s m args below meth c H locs 0 0 (vx_MQ below (wqI g b 2 M (fun H => ∃ x, OL g o x H) o s.heap.size) noX args s 1 6 (AO b o s.heap.size)) (F0 m 0 ls []) by rw [hH, hlo] at hW; exact hW
  refine lv_aload_n hx hb dL_punch_0 rfl (lv_at hl 3 rfl) ?_
  refine lv_iconst hx hb (v := jI 0) dL_punch_1 rfl ?_
  refine lv_aload_n hx hb dL_punch_2 rfl (lv_at hl 0 rfl) ?_
  refine lv_iload_n hx hb dL_punch_3 rfl (lv_at hl 1 rfl) ?_
  refine lv_iload_n hx hb dL_punch_4 rfl (lv_at hl 2 rfl) ?_
  refine x_tC (As := [.int (jI p0), .int (jI p1)]) (rest := [.int (jI 0), .ref o]) hx hb hml hown hts hK hTH hR hS hC wd590 wd591 wd592 wd1 wd593 hyL_punch ⟨rfl, rfl⟩ ⟨Nat.le_trans (Nat.succ_le_succ (Nat.le_max_right _ _)) (Nat.le_refl _), Nat.add_le_add_left (Nat.le_max_right _ _) _⟩ hl.1 (Nat.le_of_ble_eq_true rfl) dL_punch_5 ⟨Nat.le_refl _, Nat.le_refl _⟩ rfl ?_
  intro H1 locs1 q ce hR hS1 hce hcv hcl
  have hS := AO_S (o := o) hS1
  refine vx_catch (name := exN 2) hown [⟨0, 10, 13, 13⟩] ⟨0, 10, 17, 15⟩ [⟨0, 10, 21, 17⟩] hTab (by intro z hz; simp only [List.mem_cons, List.not_mem_nil, or_false] at hz; rcases hz with rfl; exact Or.inr ⟨by decide, exN 1, hts _ wd178, hNP.1⟩) (by decide +kernel) (by decide) (hts _ wd179) hTH.2.2.2.1 hce hcv hcl ?_
  refine lv_astore hx hb dL_punch_17 hl (by decide) rfl ?_
  intro ls1 hl1
  refine lv_iconst hx hb (v := jI 2) dL_punch_19 rfl ?_
  exact x_wend hx hb hlocks hK hR ⟨x0, hO.kept (hS1.2.1 o (Array.getElem?_eq_some_iff.mp hO.choose_spec.1).1 hA)⟩ hS hr (Nat.le_refl _) (Nat.le_refl _) dL_punch_20
set_option maxHeartbeats 4000000 in
set_option maxRecDepth 100000 in
theorem tL_punch_3 {l : Launch} {g : Gx} {b o : Nat} {p0 : Int} {p1 : Int} {M : Mm} (hC : Tt l yX3_punch cX3_punch 3 (some .int) rmTX3_punch g b [.ref (adr b 0 0), .int (jI p0), .int (jI p1)] M 3) : Lt l yL_punch cL_punch 5 hhL_punch rmL_punch g b o [.ref (adr b 0 0), .int (jI p0), .int (jI p1), .ref o] M (OLp g b o) 3 M (fun H => ∃ x, OL g o x H) := by
  refine lt_of (by decide +kernel) (Nat.le_of_ble_eq_true rfl) ?_
  intro p e s m args below meth c C0 hTH hNP hPre hTab hR ls hl
  obtain ⟨hx, hb, hr, hlocks, hml, hown, hts, hK⟩ := id C0
  have hS : va_S (AA b s.heap.size) s.heap s.heap [] := va_S.rf
  have hl : lv_has ls 5 [(0, .ref (adr b 0 0)), (1, .int (jI p0)), (2, .int (jI p1)), (3, .ref o)] := hl
  obtain ⟨H, hH⟩ : ∃ z, z = s.heap := ⟨_, rfl⟩
  obtain ⟨locs, hlo⟩ : ∃ z : List Loc, z = [] := ⟨_, rfl⟩
  have hR : Rel g b M H := by rw [hH]; exact hR
  have hS : va_S (AA b s.heap.size) s.heap H locs := by rw [hH, hlo]; exact hS
  obtain ⟨⟨x0, hO⟩, hA⟩ := hPre
  suffices hW : W p l e rmL_punch s m args below meth c H locs 0 0 (vx_MQ below (wqI g b 3 M (fun H => ∃ x, OL g o x H) o s.heap.size) noX args s 1 6 (AO b o s.heap.size)) (F0 m 0 ls []) by rw [hH, hlo] at hW; exact hW
  refine lv_aload_n hx hb dL_punch_0 rfl (lv_at hl 3 rfl) ?_
  refine lv_iconst hx hb (v := jI 0) dL_punch_1 rfl ?_
  refine lv_aload_n hx hb dL_punch_2 rfl (lv_at hl 0 rfl) ?_
  refine lv_iload_n hx hb dL_punch_3 rfl (lv_at hl 1 rfl) ?_
  refine lv_iload_n hx hb dL_punch_4 rfl (lv_at hl 2 rfl) ?_
  refine x_tC (As := [.int (jI p0), .int (jI p1)]) (rest := [.int (jI 0), .ref o]) hx hb hml hown hts hK hTH hR hS hC wd590 wd591 wd592 wd1 wd593 hyL_punch ⟨rfl, rfl⟩ ⟨Nat.le_trans (Nat.succ_le_succ (Nat.le_max_right _ _)) (Nat.le_refl _), Nat.add_le_add_left (Nat.le_max_right _ _) _⟩ hl.1 (Nat.le_of_ble_eq_true rfl) dL_punch_5 ⟨Nat.le_refl _, Nat.le_refl _⟩ rfl ?_
  intro H1 locs1 q ce hR hS1 hce hcv hcl
  have hS := AO_S (o := o) hS1
  refine vx_catch (name := exN 3) hown [⟨0, 10, 13, 13⟩, ⟨0, 10, 17, 15⟩] ⟨0, 10, 21, 17⟩ [] hTab (by
      intro z hz
      simp only [List.mem_cons, List.not_mem_nil, or_false] at hz
      rcases hz with rfl | rfl
      · exact Or.inr ⟨by decide, exN 1, hts _ wd178, hNP.2.1⟩
      · exact Or.inr ⟨by decide, exN 2, hts _ wd179, hNP.2.2⟩) (by decide +kernel) (by decide) (hts _ wd180) hTH.2.2.2.2.1 hce hcv hcl ?_
  refine lv_astore hx hb dL_punch_21 hl (by decide) rfl ?_
  intro ls1 hl1
  refine lv_iconst hx hb (v := jI 3) dL_punch_23 rfl ?_
  exact x_wend hx hb hlocks hK hR ⟨x0, hO.kept (hS1.2.1 o (Array.getElem?_eq_some_iff.mp hO.choose_spec.1).1 hA)⟩ hS hr (Nat.le_refl _) (Nat.le_refl _) dL_punch_24
abbrev rmL_share : Room := { frames := max rmX3_share.frames rmTX3_share.frames + 1, cells := 1, slots := 6, locals := 8 + (7 + 11) + max rmX3_share.locals rmTX3_share.locals }
abbrev hhL_share : List (Nat × Nat × Nat × Nat) := [(0, 14, 17, 13), (0, 14, 21, 15), (0, 14, 25, 17)]
theorem hyL_share : yX3_share.cls = RX3 ∧ yX3_share.cls ≠ "java/lang/invoke/MethodHandle" ∧ yX3_share.cls ≠ "java/lang/invoke/VarHandle" ∧ (parseMethodDescriptor yX3_share.desc).map (fun d => d.parameters.length) = some 4 := by decide +kernel
set_option maxHeartbeats 4000000 in
set_option maxRecDepth 100000 in
theorem nL_share {l : Launch} {g : Gx} {b o : Nat} {p0 : Int} {p1 : Int} {p2 : Int} {p3 : Int} {M M' : Mm} {r : Int} (hC : Ct l yX3_share cX3_share 7 (some .int) rmX3_share g b [.ref (adr b 0 0), .int (jI p0), .int (jI p1), .int (jI p2), .int (jI p3)] M (qI g b r M')) : Lt l yL_share cL_share 7 hhL_share rmL_share g b o [.ref (adr b 0 0), .int (jI p0), .int (jI p1), .int (jI p2), .int (jI p3), .ref o] M (OLp g b o) 0 M' (OL g o (jI r).toInt64) := by
  refine lt_of (by decide +kernel) (Nat.le_of_ble_eq_true rfl) ?_
  intro p e s m args below meth c C0 hTH hNP hPre hTab hR ls hl
  obtain ⟨hx, hb, hr, hlocks, hml, hown, hts, hK⟩ := id C0
  have hS : va_S (AA b s.heap.size) s.heap s.heap [] := va_S.rf
  have hl : lv_has ls 7 [(0, .ref (adr b 0 0)), (1, .int (jI p0)), (2, .int (jI p1)), (3, .int (jI p2)), (4, .int (jI p3)), (5, .ref o)] := hl
  obtain ⟨H, hH⟩ : ∃ z, z = s.heap := ⟨_, rfl⟩
  obtain ⟨locs, hlo⟩ : ∃ z : List Loc, z = [] := ⟨_, rfl⟩
  have hR : Rel g b M H := by rw [hH]; exact hR
  have hS : va_S (AA b s.heap.size) s.heap H locs := by rw [hH, hlo]; exact hS
  obtain ⟨⟨x0, hO⟩, hA⟩ := hPre
  suffices hW : W p l e rmL_share s m args below meth c H locs 0 0 (vx_MQ below (wqI g b 0 M' (OL g o (jI r).toInt64) o s.heap.size) noX args s 1 6 (AO b o s.heap.size)) (F0 m 0 ls []) by rw [hH, hlo] at hW; exact hW
  refine lv_aload hx hb dL_share_0 (lv_at hl 5 rfl) ?_
  refine lv_iconst hx hb (v := jI 0) dL_share_2 rfl ?_
  refine lv_aload_n hx hb dL_share_3 rfl (lv_at hl 0 rfl) ?_
  refine lv_iload_n hx hb dL_share_4 rfl (lv_at hl 1 rfl) ?_
  refine lv_iload_n hx hb dL_share_5 rfl (lv_at hl 2 rfl) ?_
  refine lv_iload_n hx hb dL_share_6 rfl (lv_at hl 3 rfl) ?_
  refine lv_iload hx hb dL_share_7 (lv_at hl 4 rfl) ?_
  refine x_cVi (As := [.int (jI p0), .int (jI p1), .int (jI p2), .int (jI p3)]) (rest := [.int (jI 0), .ref o]) hx hb hml hown hts hK hR hS hC ok0 rfl (ci := 3) (C := RX3) (T := TX3) (N := 9) rfl wd599 wd600 wd601 wd1 wd602 hyL_share ⟨rfl, rfl⟩ ⟨Nat.le_trans (Nat.succ_le_succ (Nat.le_max_left _ _)) (Nat.le_refl _), Nat.add_le_add_left (Nat.le_max_left _ _) _⟩ hl.1 (Nat.le_of_ble_eq_true rfl) dL_share_9 ⟨Nat.zero_le _, Nat.zero_le _⟩ rfl ?_
  intro hr0 H1 locs1 hR hS1
  have hO1 : ∃ x, OL g o x H1 := ⟨x0, hO.kept (hS1.2.1 o (Array.getElem?_eq_some_iff.mp hO.choose_spec.1).1 hA)⟩
  have hS := AO_S (o := o) hS1
  refine lv_i2l hx hb dL_share_12 rfl ?_
  refine x_wst hx hb hK hR hO1 hA hS dL_share_13 ?_
  intro H2 locs2 hR hO2 hS
  refine lv_goto (tgt := 29) hx hb dL_share_14 rfl ?_
  refine lv_iconst hx hb (v := jI 0) dL_share_29 rfl ?_
  exact x_wend hx hb hlocks hK hR hO2 hS hr (Nat.zero_le _) (Nat.zero_le _) dL_share_30
set_option maxHeartbeats 4000000 in
set_option maxRecDepth 100000 in
theorem tL_share_1 {l : Launch} {g : Gx} {b o : Nat} {p0 : Int} {p1 : Int} {p2 : Int} {p3 : Int} {M : Mm} (hC : Tt l yX3_share cX3_share 7 (some .int) rmTX3_share g b [.ref (adr b 0 0), .int (jI p0), .int (jI p1), .int (jI p2), .int (jI p3)] M 1) : Lt l yL_share cL_share 7 hhL_share rmL_share g b o [.ref (adr b 0 0), .int (jI p0), .int (jI p1), .int (jI p2), .int (jI p3), .ref o] M (OLp g b o) 1 M (fun H => ∃ x, OL g o x H) := by
  refine lt_of (by decide +kernel) (Nat.le_of_ble_eq_true rfl) ?_
  intro p e s m args below meth c C0 hTH hNP hPre hTab hR ls hl
  obtain ⟨hx, hb, hr, hlocks, hml, hown, hts, hK⟩ := id C0
  have hS : va_S (AA b s.heap.size) s.heap s.heap [] := va_S.rf
  have hl : lv_has ls 7 [(0, .ref (adr b 0 0)), (1, .int (jI p0)), (2, .int (jI p1)), (3, .int (jI p2)), (4, .int (jI p3)), (5, .ref o)] := hl
  obtain ⟨H, hH⟩ : ∃ z, z = s.heap := ⟨_, rfl⟩
  obtain ⟨locs, hlo⟩ : ∃ z : List Loc, z = [] := ⟨_, rfl⟩
  have hR : Rel g b M H := by rw [hH]; exact hR
  have hS : va_S (AA b s.heap.size) s.heap H locs := by rw [hH, hlo]; exact hS
  obtain ⟨⟨x0, hO⟩, hA⟩ := hPre
  suffices hW : W p l e rmL_share s m args below meth c H locs 0 0 (vx_MQ below (wqI g b 1 M (fun H => ∃ x, OL g o x H) o s.heap.size) noX args s 1 6 (AO b o s.heap.size)) (F0 m 0 ls []) by rw [hH, hlo] at hW; exact hW
  refine lv_aload hx hb dL_share_0 (lv_at hl 5 rfl) ?_
  refine lv_iconst hx hb (v := jI 0) dL_share_2 rfl ?_
  refine lv_aload_n hx hb dL_share_3 rfl (lv_at hl 0 rfl) ?_
  refine lv_iload_n hx hb dL_share_4 rfl (lv_at hl 1 rfl) ?_
  refine lv_iload_n hx hb dL_share_5 rfl (lv_at hl 2 rfl) ?_
  refine lv_iload_n hx hb dL_share_6 rfl (lv_at hl 3 rfl) ?_
  refine lv_iload hx hb dL_share_7 (lv_at hl 4 rfl) ?_
  refine x_tC (As := [.int (jI p0), .int (jI p1), .int (jI p2), .int (jI p3)]) (rest := [.int (jI 0), .ref o]) hx hb hml hown hts hK hTH hR hS hC wd599 wd600 wd601 wd1 wd602 hyL_share ⟨rfl, rfl⟩ ⟨Nat.le_trans (Nat.succ_le_succ (Nat.le_max_right _ _)) (Nat.le_refl _), Nat.add_le_add_left (Nat.le_max_right _ _) _⟩ hl.1 (Nat.le_of_ble_eq_true rfl) dL_share_9 ⟨Nat.le_refl _, Nat.le_refl _⟩ rfl ?_
  intro H1 locs1 q ce hR hS1 hce hcv hcl
  have hS := AO_S (o := o) hS1
  refine vx_catch (name := exN 1) hown [] ⟨0, 14, 17, 13⟩ [⟨0, 14, 21, 15⟩, ⟨0, 14, 25, 17⟩] hTab (fun z hz => by cases hz) (by decide +kernel) (by decide) (hts _ wd178) hTH.2.2.1 hce hcv hcl ?_
  refine lv_astore hx hb dL_share_17 hl (by decide) rfl ?_
  intro ls1 hl1
  refine lv_iconst hx hb (v := jI 1) dL_share_19 rfl ?_
  exact x_wend hx hb hlocks hK hR ⟨x0, hO.kept (hS1.2.1 o (Array.getElem?_eq_some_iff.mp hO.choose_spec.1).1 hA)⟩ hS hr (Nat.le_refl _) (Nat.le_refl _) dL_share_20
set_option maxHeartbeats 4000000 in
set_option maxRecDepth 100000 in
theorem tL_share_2 {l : Launch} {g : Gx} {b o : Nat} {p0 : Int} {p1 : Int} {p2 : Int} {p3 : Int} {M : Mm} (hC : Tt l yX3_share cX3_share 7 (some .int) rmTX3_share g b [.ref (adr b 0 0), .int (jI p0), .int (jI p1), .int (jI p2), .int (jI p3)] M 2) : Lt l yL_share cL_share 7 hhL_share rmL_share g b o [.ref (adr b 0 0), .int (jI p0), .int (jI p1), .int (jI p2), .int (jI p3), .ref o] M (OLp g b o) 2 M (fun H => ∃ x, OL g o x H) := by
  refine lt_of (by decide +kernel) (Nat.le_of_ble_eq_true rfl) ?_
  intro p e s m args below meth c C0 hTH hNP hPre hTab hR ls hl
  obtain ⟨hx, hb, hr, hlocks, hml, hown, hts, hK⟩ := id C0
  have hS : va_S (AA b s.heap.size) s.heap s.heap [] := va_S.rf
  have hl : lv_has ls 7 [(0, .ref (adr b 0 0)), (1, .int (jI p0)), (2, .int (jI p1)), (3, .int (jI p2)), (4, .int (jI p3)), (5, .ref o)] := hl
  obtain ⟨H, hH⟩ : ∃ z, z = s.heap := ⟨_, rfl⟩
  obtain ⟨locs, hlo⟩ : ∃ z : List Loc, z = [] := ⟨_, rfl⟩
  have hR : Rel g b M H := by rw [hH]; exact hR
  have hS : va_S (AA b s.heap.size) s.heap H locs := by rw [hH, hlo]; exact hS
  obtain ⟨⟨x0, hO⟩, hA⟩ := hPre
  suffices hW : W p l e rmL_share s m args below meth c H locs 0 0 (vx_MQ below (wqI g b 2 M (fun H => ∃ x, OL g o x H) o s.heap.size) noX args s 1 6 (AO b o s.heap.size)) (F0 m 0 ls []) by rw [hH, hlo] at hW; exact hW
  refine lv_aload hx hb dL_share_0 (lv_at hl 5 rfl) ?_
  refine lv_iconst hx hb (v := jI 0) dL_share_2 rfl ?_
  refine lv_aload_n hx hb dL_share_3 rfl (lv_at hl 0 rfl) ?_
  refine lv_iload_n hx hb dL_share_4 rfl (lv_at hl 1 rfl) ?_
  refine lv_iload_n hx hb dL_share_5 rfl (lv_at hl 2 rfl) ?_
  refine lv_iload_n hx hb dL_share_6 rfl (lv_at hl 3 rfl) ?_
  refine lv_iload hx hb dL_share_7 (lv_at hl 4 rfl) ?_
  refine x_tC (As := [.int (jI p0), .int (jI p1), .int (jI p2), .int (jI p3)]) (rest := [.int (jI 0), .ref o]) hx hb hml hown hts hK hTH hR hS hC wd599 wd600 wd601 wd1 wd602 hyL_share ⟨rfl, rfl⟩ ⟨Nat.le_trans (Nat.succ_le_succ (Nat.le_max_right _ _)) (Nat.le_refl _), Nat.add_le_add_left (Nat.le_max_right _ _) _⟩ hl.1 (Nat.le_of_ble_eq_true rfl) dL_share_9 ⟨Nat.le_refl _, Nat.le_refl _⟩ rfl ?_
  intro H1 locs1 q ce hR hS1 hce hcv hcl
  have hS := AO_S (o := o) hS1
  refine vx_catch (name := exN 2) hown [⟨0, 14, 17, 13⟩] ⟨0, 14, 21, 15⟩ [⟨0, 14, 25, 17⟩] hTab (by intro z hz; simp only [List.mem_cons, List.not_mem_nil, or_false] at hz; rcases hz with rfl; exact Or.inr ⟨by decide, exN 1, hts _ wd178, hNP.1⟩) (by decide +kernel) (by decide) (hts _ wd179) hTH.2.2.2.1 hce hcv hcl ?_
  refine lv_astore hx hb dL_share_21 hl (by decide) rfl ?_
  intro ls1 hl1
  refine lv_iconst hx hb (v := jI 2) dL_share_23 rfl ?_
  exact x_wend hx hb hlocks hK hR ⟨x0, hO.kept (hS1.2.1 o (Array.getElem?_eq_some_iff.mp hO.choose_spec.1).1 hA)⟩ hS hr (Nat.le_refl _) (Nat.le_refl _) dL_share_24
set_option maxHeartbeats 4000000 in
set_option maxRecDepth 100000 in
theorem tL_share_3 {l : Launch} {g : Gx} {b o : Nat} {p0 : Int} {p1 : Int} {p2 : Int} {p3 : Int} {M : Mm} (hC : Tt l yX3_share cX3_share 7 (some .int) rmTX3_share g b [.ref (adr b 0 0), .int (jI p0), .int (jI p1), .int (jI p2), .int (jI p3)] M 3) : Lt l yL_share cL_share 7 hhL_share rmL_share g b o [.ref (adr b 0 0), .int (jI p0), .int (jI p1), .int (jI p2), .int (jI p3), .ref o] M (OLp g b o) 3 M (fun H => ∃ x, OL g o x H) := by
  refine lt_of (by decide +kernel) (Nat.le_of_ble_eq_true rfl) ?_
  intro p e s m args below meth c C0 hTH hNP hPre hTab hR ls hl
  obtain ⟨hx, hb, hr, hlocks, hml, hown, hts, hK⟩ := id C0
  have hS : va_S (AA b s.heap.size) s.heap s.heap [] := va_S.rf
  have hl : lv_has ls 7 [(0, .ref (adr b 0 0)), (1, .int (jI p0)), (2, .int (jI p1)), (3, .int (jI p2)), (4, .int (jI p3)), (5, .ref o)] := hl
  obtain ⟨H, hH⟩ : ∃ z, z = s.heap := ⟨_, rfl⟩
  obtain ⟨locs, hlo⟩ : ∃ z : List Loc, z = [] := ⟨_, rfl⟩
  have hR : Rel g b M H := by rw [hH]; exact hR
  have hS : va_S (AA b s.heap.size) s.heap H locs := by rw [hH, hlo]; exact hS
  obtain ⟨⟨x0, hO⟩, hA⟩ := hPre
  suffices hW : W p l e rmL_share s m args below meth c H locs 0 0 (vx_MQ below (wqI g b 3 M (fun H => ∃ x, OL g o x H) o s.heap.size) noX args s 1 6 (AO b o s.heap.size)) (F0 m 0 ls []) by rw [hH, hlo] at hW; exact hW
  refine lv_aload hx hb dL_share_0 (lv_at hl 5 rfl) ?_
  refine lv_iconst hx hb (v := jI 0) dL_share_2 rfl ?_
  refine lv_aload_n hx hb dL_share_3 rfl (lv_at hl 0 rfl) ?_
  refine lv_iload_n hx hb dL_share_4 rfl (lv_at hl 1 rfl) ?_
  refine lv_iload_n hx hb dL_share_5 rfl (lv_at hl 2 rfl) ?_
  refine lv_iload_n hx hb dL_share_6 rfl (lv_at hl 3 rfl) ?_
  refine lv_iload hx hb dL_share_7 (lv_at hl 4 rfl) ?_
  refine x_tC (As := [.int (jI p0), .int (jI p1), .int (jI p2), .int (jI p3)]) (rest := [.int (jI 0), .ref o]) hx hb hml hown hts hK hTH hR hS hC wd599 wd600 wd601 wd1 wd602 hyL_share ⟨rfl, rfl⟩ ⟨Nat.le_trans (Nat.succ_le_succ (Nat.le_max_right _ _)) (Nat.le_refl _), Nat.add_le_add_left (Nat.le_max_right _ _) _⟩ hl.1 (Nat.le_of_ble_eq_true rfl) dL_share_9 ⟨Nat.le_refl _, Nat.le_refl _⟩ rfl ?_
  intro H1 locs1 q ce hR hS1 hce hcv hcl
  have hS := AO_S (o := o) hS1
  refine vx_catch (name := exN 3) hown [⟨0, 14, 17, 13⟩, ⟨0, 14, 21, 15⟩] ⟨0, 14, 25, 17⟩ [] hTab (by
      intro z hz
      simp only [List.mem_cons, List.not_mem_nil, or_false] at hz
      rcases hz with rfl | rfl
      · exact Or.inr ⟨by decide, exN 1, hts _ wd178, hNP.2.1⟩
      · exact Or.inr ⟨by decide, exN 2, hts _ wd179, hNP.2.2⟩) (by decide +kernel) (by decide) (hts _ wd180) hTH.2.2.2.2.1 hce hcv hcl ?_
  refine lv_astore hx hb dL_share_25 hl (by decide) rfl ?_
  intro ls1 hl1
  refine lv_iconst hx hb (v := jI 3) dL_share_27 rfl ?_
  exact x_wend hx hb hlocks hK hR ⟨x0, hO.kept (hS1.2.1 o (Array.getElem?_eq_some_iff.mp hO.choose_spec.1).1 hA)⟩ hS hr (Nat.le_refl _) (Nat.le_refl _) dL_share_28
abbrev rmL_setOwner : Room := { frames := max rmX3_setOwner.frames rmTX3_setOwner.frames + 1, cells := 1, slots := 6, locals := 8 + (3 + 11) + max rmX3_setOwner.locals rmTX3_setOwner.locals }
abbrev hhL_setOwner : List (Nat × Nat × Nat × Nat) := [(0, 10, 13, 13), (0, 10, 17, 15), (0, 10, 21, 17)]
theorem hyL_setOwner : yX3_setOwner.cls = RX3 ∧ yX3_setOwner.cls ≠ "java/lang/invoke/MethodHandle" ∧ yX3_setOwner.cls ≠ "java/lang/invoke/VarHandle" ∧ (parseMethodDescriptor yX3_setOwner.desc).map (fun d => d.parameters.length) = some 2 := by decide +kernel
set_option maxHeartbeats 4000000 in
set_option maxRecDepth 100000 in
theorem nL_setOwner {l : Launch} {g : Gx} {b o : Nat} {p0 : Int} {p1 : Int} {M M' : Mm} {r : Int} (hC : Ct l yX3_setOwner cX3_setOwner 3 (some .int) rmX3_setOwner g b [.ref (adr b 0 0), .int (jI p0), .int (jI p1)] M (qI g b r M')) : Lt l yL_setOwner cL_setOwner 5 hhL_setOwner rmL_setOwner g b o [.ref (adr b 0 0), .int (jI p0), .int (jI p1), .ref o] M (OLp g b o) 0 M' (OL g o (jI r).toInt64) := by
  refine lt_of (by decide +kernel) (Nat.le_of_ble_eq_true rfl) ?_
  intro p e s m args below meth c C0 hTH hNP hPre hTab hR ls hl
  obtain ⟨hx, hb, hr, hlocks, hml, hown, hts, hK⟩ := id C0
  have hS : va_S (AA b s.heap.size) s.heap s.heap [] := va_S.rf
  have hl : lv_has ls 5 [(0, .ref (adr b 0 0)), (1, .int (jI p0)), (2, .int (jI p1)), (3, .ref o)] := hl
  obtain ⟨H, hH⟩ : ∃ z, z = s.heap := ⟨_, rfl⟩
  obtain ⟨locs, hlo⟩ : ∃ z : List Loc, z = [] := ⟨_, rfl⟩
  have hR : Rel g b M H := by rw [hH]; exact hR
  have hS : va_S (AA b s.heap.size) s.heap H locs := by rw [hH, hlo]; exact hS
  obtain ⟨⟨x0, hO⟩, hA⟩ := hPre
  suffices hW : W p l e rmL_setOwner s m args below meth c H locs 0 0 (vx_MQ below (wqI g b 0 M' (OL g o (jI r).toInt64) o s.heap.size) noX args s 1 6 (AO b o s.heap.size)) (F0 m 0 ls []) by rw [hH, hlo] at hW; exact hW
  refine lv_aload_n hx hb dL_setOwner_0 rfl (lv_at hl 3 rfl) ?_
  refine lv_iconst hx hb (v := jI 0) dL_setOwner_1 rfl ?_
  refine lv_aload_n hx hb dL_setOwner_2 rfl (lv_at hl 0 rfl) ?_
  refine lv_iload_n hx hb dL_setOwner_3 rfl (lv_at hl 1 rfl) ?_
  refine lv_iload_n hx hb dL_setOwner_4 rfl (lv_at hl 2 rfl) ?_
  refine x_cVi (As := [.int (jI p0), .int (jI p1)]) (rest := [.int (jI 0), .ref o]) hx hb hml hown hts hK hR hS hC ok0 rfl (ci := 3) (C := RX3) (T := TX3) (N := 9) rfl wd610 wd611 wd612 wd1 wd613 hyL_setOwner ⟨rfl, rfl⟩ ⟨Nat.le_trans (Nat.succ_le_succ (Nat.le_max_left _ _)) (Nat.le_refl _), Nat.add_le_add_left (Nat.le_max_left _ _) _⟩ hl.1 (Nat.le_of_ble_eq_true rfl) dL_setOwner_5 ⟨Nat.zero_le _, Nat.zero_le _⟩ rfl ?_
  intro hr0 H1 locs1 hR hS1
  have hO1 : ∃ x, OL g o x H1 := ⟨x0, hO.kept (hS1.2.1 o (Array.getElem?_eq_some_iff.mp hO.choose_spec.1).1 hA)⟩
  have hS := AO_S (o := o) hS1
  refine lv_i2l hx hb dL_setOwner_8 rfl ?_
  refine x_wst hx hb hK hR hO1 hA hS dL_setOwner_9 ?_
  intro H2 locs2 hR hO2 hS
  refine lv_goto (tgt := 25) hx hb dL_setOwner_10 rfl ?_
  refine lv_iconst hx hb (v := jI 0) dL_setOwner_25 rfl ?_
  exact x_wend hx hb hlocks hK hR hO2 hS hr (Nat.zero_le _) (Nat.zero_le _) dL_setOwner_26
set_option maxHeartbeats 4000000 in
set_option maxRecDepth 100000 in
theorem tL_setOwner_1 {l : Launch} {g : Gx} {b o : Nat} {p0 : Int} {p1 : Int} {M : Mm} (hC : Tt l yX3_setOwner cX3_setOwner 3 (some .int) rmTX3_setOwner g b [.ref (adr b 0 0), .int (jI p0), .int (jI p1)] M 1) : Lt l yL_setOwner cL_setOwner 5 hhL_setOwner rmL_setOwner g b o [.ref (adr b 0 0), .int (jI p0), .int (jI p1), .ref o] M (OLp g b o) 1 M (fun H => ∃ x, OL g o x H) := by
  refine lt_of (by decide +kernel) (Nat.le_of_ble_eq_true rfl) ?_
  intro p e s m args below meth c C0 hTH hNP hPre hTab hR ls hl
  obtain ⟨hx, hb, hr, hlocks, hml, hown, hts, hK⟩ := id C0
  have hS : va_S (AA b s.heap.size) s.heap s.heap [] := va_S.rf
  have hl : lv_has ls 5 [(0, .ref (adr b 0 0)), (1, .int (jI p0)), (2, .int (jI p1)), (3, .ref o)] := hl
  obtain ⟨H, hH⟩ : ∃ z, z = s.heap := ⟨_, rfl⟩
  obtain ⟨locs, hlo⟩ : ∃ z : List Loc, z = [] := ⟨_, rfl⟩
  have hR : Rel g b M H := by rw [hH]; exact hR
  have hS : va_S (AA b s.heap.size) s.heap H locs := by rw [hH, hlo]; exact hS
  obtain ⟨⟨x0, hO⟩, hA⟩ := hPre
  suffices hW : W p l e rmL_setOwner s m args below meth c H locs 0 0 (vx_MQ below (wqI g b 1 M (fun H => ∃ x, OL g o x H) o s.heap.size) noX args s 1 6 (AO b o s.heap.size)) (F0 m 0 ls []) by rw [hH, hlo] at hW; exact hW
  refine lv_aload_n hx hb dL_setOwner_0 rfl (lv_at hl 3 rfl) ?_
  refine lv_iconst hx hb (v := jI 0) dL_setOwner_1 rfl ?_
  refine lv_aload_n hx hb dL_setOwner_2 rfl (lv_at hl 0 rfl) ?_
  refine lv_iload_n hx hb dL_setOwner_3 rfl (lv_at hl 1 rfl) ?_
  refine lv_iload_n hx hb dL_setOwner_4 rfl (lv_at hl 2 rfl) ?_
  refine x_tC (As := [.int (jI p0), .int (jI p1)]) (rest := [.int (jI 0), .ref o]) hx hb hml hown hts hK hTH hR hS hC wd610 wd611 wd612 wd1 wd613 hyL_setOwner ⟨rfl, rfl⟩ ⟨Nat.le_trans (Nat.succ_le_succ (Nat.le_max_right _ _)) (Nat.le_refl _), Nat.add_le_add_left (Nat.le_max_right _ _) _⟩ hl.1 (Nat.le_of_ble_eq_true rfl) dL_setOwner_5 ⟨Nat.le_refl _, Nat.le_refl _⟩ rfl ?_
  intro H1 locs1 q ce hR hS1 hce hcv hcl
  have hS := AO_S (o := o) hS1
  refine vx_catch (name := exN 1) hown [] ⟨0, 10, 13, 13⟩ [⟨0, 10, 17, 15⟩, ⟨0, 10, 21, 17⟩] hTab (fun z hz => by cases hz) (by decide +kernel) (by decide) (hts _ wd178) hTH.2.2.1 hce hcv hcl ?_
  refine lv_astore hx hb dL_setOwner_13 hl (by decide) rfl ?_
  intro ls1 hl1
  refine lv_iconst hx hb (v := jI 1) dL_setOwner_15 rfl ?_
  exact x_wend hx hb hlocks hK hR ⟨x0, hO.kept (hS1.2.1 o (Array.getElem?_eq_some_iff.mp hO.choose_spec.1).1 hA)⟩ hS hr (Nat.le_refl _) (Nat.le_refl _) dL_setOwner_16
set_option maxHeartbeats 4000000 in
set_option maxRecDepth 100000 in
theorem tL_setOwner_2 {l : Launch} {g : Gx} {b o : Nat} {p0 : Int} {p1 : Int} {M : Mm} (hC : Tt l yX3_setOwner cX3_setOwner 3 (some .int) rmTX3_setOwner g b [.ref (adr b 0 0), .int (jI p0), .int (jI p1)] M 2) : Lt l yL_setOwner cL_setOwner 5 hhL_setOwner rmL_setOwner g b o [.ref (adr b 0 0), .int (jI p0), .int (jI p1), .ref o] M (OLp g b o) 2 M (fun H => ∃ x, OL g o x H) := by
  refine lt_of (by decide +kernel) (Nat.le_of_ble_eq_true rfl) ?_
  intro p e s m args below meth c C0 hTH hNP hPre hTab hR ls hl
  obtain ⟨hx, hb, hr, hlocks, hml, hown, hts, hK⟩ := id C0
  have hS : va_S (AA b s.heap.size) s.heap s.heap [] := va_S.rf
  have hl : lv_has ls 5 [(0, .ref (adr b 0 0)), (1, .int (jI p0)), (2, .int (jI p1)), (3, .ref o)] := hl
  obtain ⟨H, hH⟩ : ∃ z, z = s.heap := ⟨_, rfl⟩
  obtain ⟨locs, hlo⟩ : ∃ z : List Loc, z = [] := ⟨_, rfl⟩
  have hR : Rel g b M H := by rw [hH]; exact hR
  have hS : va_S (AA b s.heap.size) s.heap H locs := by rw [hH, hlo]; exact hS
  obtain ⟨⟨x0, hO⟩, hA⟩ := hPre
  suffices hW : W p l e rmL_setOwner s m args below meth c H locs 0 0 (vx_MQ below (wqI g b 2 M (fun H => ∃ x, OL g o x H) o s.heap.size) noX args s 1 6 (AO b o s.heap.size)) (F0 m 0 ls []) by rw [hH, hlo] at hW; exact hW
  refine lv_aload_n hx hb dL_setOwner_0 rfl (lv_at hl 3 rfl) ?_
  refine lv_iconst hx hb (v := jI 0) dL_setOwner_1 rfl ?_
  refine lv_aload_n hx hb dL_setOwner_2 rfl (lv_at hl 0 rfl) ?_
  refine lv_iload_n hx hb dL_setOwner_3 rfl (lv_at hl 1 rfl) ?_
  refine lv_iload_n hx hb dL_setOwner_4 rfl (lv_at hl 2 rfl) ?_
  refine x_tC (As := [.int (jI p0), .int (jI p1)]) (rest := [.int (jI 0), .ref o]) hx hb hml hown hts hK hTH hR hS hC wd610 wd611 wd612 wd1 wd613 hyL_setOwner ⟨rfl, rfl⟩ ⟨Nat.le_trans (Nat.succ_le_succ (Nat.le_max_right _ _)) (Nat.le_refl _), Nat.add_le_add_left (Nat.le_max_right _ _) _⟩ hl.1 (Nat.le_of_ble_eq_true rfl) dL_setOwner_5 ⟨Nat.le_refl _, Nat.le_refl _⟩ rfl ?_
  intro H1 locs1 q ce hR hS1 hce hcv hcl
  have hS := AO_S (o := o) hS1
  refine vx_catch (name := exN 2) hown [⟨0, 10, 13, 13⟩] ⟨0, 10, 17, 15⟩ [⟨0, 10, 21, 17⟩] hTab (by intro z hz; simp only [List.mem_cons, List.not_mem_nil, or_false] at hz; rcases hz with rfl; exact Or.inr ⟨by decide, exN 1, hts _ wd178, hNP.1⟩) (by decide +kernel) (by decide) (hts _ wd179) hTH.2.2.2.1 hce hcv hcl ?_
  refine lv_astore hx hb dL_setOwner_17 hl (by decide) rfl ?_
  intro ls1 hl1
  refine lv_iconst hx hb (v := jI 2) dL_setOwner_19 rfl ?_
  exact x_wend hx hb hlocks hK hR ⟨x0, hO.kept (hS1.2.1 o (Array.getElem?_eq_some_iff.mp hO.choose_spec.1).1 hA)⟩ hS hr (Nat.le_refl _) (Nat.le_refl _) dL_setOwner_20
set_option maxHeartbeats 4000000 in
set_option maxRecDepth 100000 in
theorem tL_setOwner_3 {l : Launch} {g : Gx} {b o : Nat} {p0 : Int} {p1 : Int} {M : Mm} (hC : Tt l yX3_setOwner cX3_setOwner 3 (some .int) rmTX3_setOwner g b [.ref (adr b 0 0), .int (jI p0), .int (jI p1)] M 3) : Lt l yL_setOwner cL_setOwner 5 hhL_setOwner rmL_setOwner g b o [.ref (adr b 0 0), .int (jI p0), .int (jI p1), .ref o] M (OLp g b o) 3 M (fun H => ∃ x, OL g o x H) := by
  refine lt_of (by decide +kernel) (Nat.le_of_ble_eq_true rfl) ?_
  intro p e s m args below meth c C0 hTH hNP hPre hTab hR ls hl
  obtain ⟨hx, hb, hr, hlocks, hml, hown, hts, hK⟩ := id C0
  have hS : va_S (AA b s.heap.size) s.heap s.heap [] := va_S.rf
  have hl : lv_has ls 5 [(0, .ref (adr b 0 0)), (1, .int (jI p0)), (2, .int (jI p1)), (3, .ref o)] := hl
  obtain ⟨H, hH⟩ : ∃ z, z = s.heap := ⟨_, rfl⟩
  obtain ⟨locs, hlo⟩ : ∃ z : List Loc, z = [] := ⟨_, rfl⟩
  have hR : Rel g b M H := by rw [hH]; exact hR
  have hS : va_S (AA b s.heap.size) s.heap H locs := by rw [hH, hlo]; exact hS
  obtain ⟨⟨x0, hO⟩, hA⟩ := hPre
  suffices hW : W p l e rmL_setOwner s m args below meth c H locs 0 0 (vx_MQ below (wqI g b 3 M (fun H => ∃ x, OL g o x H) o s.heap.size) noX args s 1 6 (AO b o s.heap.size)) (F0 m 0 ls []) by rw [hH, hlo] at hW; exact hW
  refine lv_aload_n hx hb dL_setOwner_0 rfl (lv_at hl 3 rfl) ?_
  refine lv_iconst hx hb (v := jI 0) dL_setOwner_1 rfl ?_
  refine lv_aload_n hx hb dL_setOwner_2 rfl (lv_at hl 0 rfl) ?_
  refine lv_iload_n hx hb dL_setOwner_3 rfl (lv_at hl 1 rfl) ?_
  refine lv_iload_n hx hb dL_setOwner_4 rfl (lv_at hl 2 rfl) ?_
  refine x_tC (As := [.int (jI p0), .int (jI p1)]) (rest := [.int (jI 0), .ref o]) hx hb hml hown hts hK hTH hR hS hC wd610 wd611 wd612 wd1 wd613 hyL_setOwner ⟨rfl, rfl⟩ ⟨Nat.le_trans (Nat.succ_le_succ (Nat.le_max_right _ _)) (Nat.le_refl _), Nat.add_le_add_left (Nat.le_max_right _ _) _⟩ hl.1 (Nat.le_of_ble_eq_true rfl) dL_setOwner_5 ⟨Nat.le_refl _, Nat.le_refl _⟩ rfl ?_
  intro H1 locs1 q ce hR hS1 hce hcv hcl
  have hS := AO_S (o := o) hS1
  refine vx_catch (name := exN 3) hown [⟨0, 10, 13, 13⟩, ⟨0, 10, 17, 15⟩] ⟨0, 10, 21, 17⟩ [] hTab (by
      intro z hz
      simp only [List.mem_cons, List.not_mem_nil, or_false] at hz
      rcases hz with rfl | rfl
      · exact Or.inr ⟨by decide, exN 1, hts _ wd178, hNP.2.1⟩
      · exact Or.inr ⟨by decide, exN 2, hts _ wd179, hNP.2.2⟩) (by decide +kernel) (by decide) (hts _ wd180) hTH.2.2.2.2.1 hce hcv hcl ?_
  refine lv_astore hx hb dL_setOwner_21 hl (by decide) rfl ?_
  intro ls1 hl1
  refine lv_iconst hx hb (v := jI 3) dL_setOwner_23 rfl ?_
  exact x_wend hx hb hlocks hK hR ⟨x0, hO.kept (hS1.2.1 o (Array.getElem?_eq_some_iff.mp hO.choose_spec.1).1 hA)⟩ hS hr (Nat.le_refl _) (Nat.le_refl _) dL_setOwner_24
abbrev rmL_setQuota : Room := { frames := max rmX3_setQuota.frames rmTX3_setQuota.frames + 1, cells := 1, slots := 6, locals := 8 + (3 + 11) + max rmX3_setQuota.locals rmTX3_setQuota.locals }
abbrev hhL_setQuota : List (Nat × Nat × Nat × Nat) := [(0, 10, 13, 13), (0, 10, 17, 17)]
theorem hyL_setQuota : yX3_setQuota.cls = RX3 ∧ yX3_setQuota.cls ≠ "java/lang/invoke/MethodHandle" ∧ yX3_setQuota.cls ≠ "java/lang/invoke/VarHandle" ∧ (parseMethodDescriptor yX3_setQuota.desc).map (fun d => d.parameters.length) = some 2 := by decide +kernel
set_option maxHeartbeats 4000000 in
set_option maxRecDepth 100000 in
theorem nL_setQuota {l : Launch} {g : Gx} {b o : Nat} {p0 : Int} {p1 : Int} {M M' : Mm} {r : Int} (hC : Ct l yX3_setQuota cX3_setQuota 3 (some .int) rmX3_setQuota g b [.ref (adr b 0 0), .int (jI p0), .int (jI p1)] M (qI g b r M')) : Lt l yL_setQuota cL_setQuota 5 hhL_setQuota rmL_setQuota g b o [.ref (adr b 0 0), .int (jI p0), .int (jI p1), .ref o] M (OLp g b o) 0 M' (OL g o (jI r).toInt64) := by
  refine lt_of (by decide +kernel) (Nat.le_of_ble_eq_true rfl) ?_
  intro p e s m args below meth c C0 hTH hNP hPre hTab hR ls hl
  obtain ⟨hx, hb, hr, hlocks, hml, hown, hts, hK⟩ := id C0
  have hS : va_S (AA b s.heap.size) s.heap s.heap [] := va_S.rf
  have hl : lv_has ls 5 [(0, .ref (adr b 0 0)), (1, .int (jI p0)), (2, .int (jI p1)), (3, .ref o)] := hl
  obtain ⟨H, hH⟩ : ∃ z, z = s.heap := ⟨_, rfl⟩
  obtain ⟨locs, hlo⟩ : ∃ z : List Loc, z = [] := ⟨_, rfl⟩
  have hR : Rel g b M H := by rw [hH]; exact hR
  have hS : va_S (AA b s.heap.size) s.heap H locs := by rw [hH, hlo]; exact hS
  obtain ⟨⟨x0, hO⟩, hA⟩ := hPre
  suffices hW : W p l e rmL_setQuota s m args below meth c H locs 0 0 (vx_MQ below (wqI g b 0 M' (OL g o (jI r).toInt64) o s.heap.size) noX args s 1 6 (AO b o s.heap.size)) (F0 m 0 ls []) by rw [hH, hlo] at hW; exact hW
  refine lv_aload_n hx hb dL_setQuota_0 rfl (lv_at hl 3 rfl) ?_
  refine lv_iconst hx hb (v := jI 0) dL_setQuota_1 rfl ?_
  refine lv_aload_n hx hb dL_setQuota_2 rfl (lv_at hl 0 rfl) ?_
  refine lv_iload_n hx hb dL_setQuota_3 rfl (lv_at hl 1 rfl) ?_
  refine lv_iload_n hx hb dL_setQuota_4 rfl (lv_at hl 2 rfl) ?_
  refine x_cVi (As := [.int (jI p0), .int (jI p1)]) (rest := [.int (jI 0), .ref o]) hx hb hml hown hts hK hR hS hC ok0 rfl (ci := 3) (C := RX3) (T := TX3) (N := 9) rfl wd617 wd618 wd619 wd1 wd620 hyL_setQuota ⟨rfl, rfl⟩ ⟨Nat.le_trans (Nat.succ_le_succ (Nat.le_max_left _ _)) (Nat.le_refl _), Nat.add_le_add_left (Nat.le_max_left _ _) _⟩ hl.1 (Nat.le_of_ble_eq_true rfl) dL_setQuota_5 ⟨Nat.zero_le _, Nat.zero_le _⟩ rfl ?_
  intro hr0 H1 locs1 hR hS1
  have hO1 : ∃ x, OL g o x H1 := ⟨x0, hO.kept (hS1.2.1 o (Array.getElem?_eq_some_iff.mp hO.choose_spec.1).1 hA)⟩
  have hS := AO_S (o := o) hS1
  refine lv_i2l hx hb dL_setQuota_8 rfl ?_
  refine x_wst hx hb hK hR hO1 hA hS dL_setQuota_9 ?_
  intro H2 locs2 hR hO2 hS
  refine lv_goto (tgt := 21) hx hb dL_setQuota_10 rfl ?_
  refine lv_iconst hx hb (v := jI 0) dL_setQuota_21 rfl ?_
  exact x_wend hx hb hlocks hK hR hO2 hS hr (Nat.zero_le _) (Nat.zero_le _) dL_setQuota_22
set_option maxHeartbeats 4000000 in
set_option maxRecDepth 100000 in
theorem tL_setQuota_1 {l : Launch} {g : Gx} {b o : Nat} {p0 : Int} {p1 : Int} {M : Mm} (hC : Tt l yX3_setQuota cX3_setQuota 3 (some .int) rmTX3_setQuota g b [.ref (adr b 0 0), .int (jI p0), .int (jI p1)] M 1) : Lt l yL_setQuota cL_setQuota 5 hhL_setQuota rmL_setQuota g b o [.ref (adr b 0 0), .int (jI p0), .int (jI p1), .ref o] M (OLp g b o) 1 M (fun H => ∃ x, OL g o x H) := by
  refine lt_of (by decide +kernel) (Nat.le_of_ble_eq_true rfl) ?_
  intro p e s m args below meth c C0 hTH hNP hPre hTab hR ls hl
  obtain ⟨hx, hb, hr, hlocks, hml, hown, hts, hK⟩ := id C0
  have hS : va_S (AA b s.heap.size) s.heap s.heap [] := va_S.rf
  have hl : lv_has ls 5 [(0, .ref (adr b 0 0)), (1, .int (jI p0)), (2, .int (jI p1)), (3, .ref o)] := hl
  obtain ⟨H, hH⟩ : ∃ z, z = s.heap := ⟨_, rfl⟩
  obtain ⟨locs, hlo⟩ : ∃ z : List Loc, z = [] := ⟨_, rfl⟩
  have hR : Rel g b M H := by rw [hH]; exact hR
  have hS : va_S (AA b s.heap.size) s.heap H locs := by rw [hH, hlo]; exact hS
  obtain ⟨⟨x0, hO⟩, hA⟩ := hPre
  suffices hW : W p l e rmL_setQuota s m args below meth c H locs 0 0 (vx_MQ below (wqI g b 1 M (fun H => ∃ x, OL g o x H) o s.heap.size) noX args s 1 6 (AO b o s.heap.size)) (F0 m 0 ls []) by rw [hH, hlo] at hW; exact hW
  refine lv_aload_n hx hb dL_setQuota_0 rfl (lv_at hl 3 rfl) ?_
  refine lv_iconst hx hb (v := jI 0) dL_setQuota_1 rfl ?_
  refine lv_aload_n hx hb dL_setQuota_2 rfl (lv_at hl 0 rfl) ?_
  refine lv_iload_n hx hb dL_setQuota_3 rfl (lv_at hl 1 rfl) ?_
  refine lv_iload_n hx hb dL_setQuota_4 rfl (lv_at hl 2 rfl) ?_
  refine x_tC (As := [.int (jI p0), .int (jI p1)]) (rest := [.int (jI 0), .ref o]) hx hb hml hown hts hK hTH hR hS hC wd617 wd618 wd619 wd1 wd620 hyL_setQuota ⟨rfl, rfl⟩ ⟨Nat.le_trans (Nat.succ_le_succ (Nat.le_max_right _ _)) (Nat.le_refl _), Nat.add_le_add_left (Nat.le_max_right _ _) _⟩ hl.1 (Nat.le_of_ble_eq_true rfl) dL_setQuota_5 ⟨Nat.le_refl _, Nat.le_refl _⟩ rfl ?_
  intro H1 locs1 q ce hR hS1 hce hcv hcl
  have hS := AO_S (o := o) hS1
  refine vx_catch (name := exN 1) hown [] ⟨0, 10, 13, 13⟩ [⟨0, 10, 17, 17⟩] hTab (fun z hz => by cases hz) (by decide +kernel) (by decide) (hts _ wd178) hTH.2.2.1 hce hcv hcl ?_
  refine lv_astore hx hb dL_setQuota_13 hl (by decide) rfl ?_
  intro ls1 hl1
  refine lv_iconst hx hb (v := jI 1) dL_setQuota_15 rfl ?_
  exact x_wend hx hb hlocks hK hR ⟨x0, hO.kept (hS1.2.1 o (Array.getElem?_eq_some_iff.mp hO.choose_spec.1).1 hA)⟩ hS hr (Nat.le_refl _) (Nat.le_refl _) dL_setQuota_16
set_option maxHeartbeats 4000000 in
set_option maxRecDepth 100000 in
theorem tL_setQuota_3 {l : Launch} {g : Gx} {b o : Nat} {p0 : Int} {p1 : Int} {M : Mm} (hC : Tt l yX3_setQuota cX3_setQuota 3 (some .int) rmTX3_setQuota g b [.ref (adr b 0 0), .int (jI p0), .int (jI p1)] M 3) : Lt l yL_setQuota cL_setQuota 5 hhL_setQuota rmL_setQuota g b o [.ref (adr b 0 0), .int (jI p0), .int (jI p1), .ref o] M (OLp g b o) 2 M (fun H => ∃ x, OL g o x H) := by
  refine lt_of (by decide +kernel) (Nat.le_of_ble_eq_true rfl) ?_
  intro p e s m args below meth c C0 hTH hNP hPre hTab hR ls hl
  obtain ⟨hx, hb, hr, hlocks, hml, hown, hts, hK⟩ := id C0
  have hS : va_S (AA b s.heap.size) s.heap s.heap [] := va_S.rf
  have hl : lv_has ls 5 [(0, .ref (adr b 0 0)), (1, .int (jI p0)), (2, .int (jI p1)), (3, .ref o)] := hl
  obtain ⟨H, hH⟩ : ∃ z, z = s.heap := ⟨_, rfl⟩
  obtain ⟨locs, hlo⟩ : ∃ z : List Loc, z = [] := ⟨_, rfl⟩
  have hR : Rel g b M H := by rw [hH]; exact hR
  have hS : va_S (AA b s.heap.size) s.heap H locs := by rw [hH, hlo]; exact hS
  obtain ⟨⟨x0, hO⟩, hA⟩ := hPre
  suffices hW : W p l e rmL_setQuota s m args below meth c H locs 0 0 (vx_MQ below (wqI g b 2 M (fun H => ∃ x, OL g o x H) o s.heap.size) noX args s 1 6 (AO b o s.heap.size)) (F0 m 0 ls []) by rw [hH, hlo] at hW; exact hW
  refine lv_aload_n hx hb dL_setQuota_0 rfl (lv_at hl 3 rfl) ?_
  refine lv_iconst hx hb (v := jI 0) dL_setQuota_1 rfl ?_
  refine lv_aload_n hx hb dL_setQuota_2 rfl (lv_at hl 0 rfl) ?_
  refine lv_iload_n hx hb dL_setQuota_3 rfl (lv_at hl 1 rfl) ?_
  refine lv_iload_n hx hb dL_setQuota_4 rfl (lv_at hl 2 rfl) ?_
  refine x_tC (As := [.int (jI p0), .int (jI p1)]) (rest := [.int (jI 0), .ref o]) hx hb hml hown hts hK hTH hR hS hC wd617 wd618 wd619 wd1 wd620 hyL_setQuota ⟨rfl, rfl⟩ ⟨Nat.le_trans (Nat.succ_le_succ (Nat.le_max_right _ _)) (Nat.le_refl _), Nat.add_le_add_left (Nat.le_max_right _ _) _⟩ hl.1 (Nat.le_of_ble_eq_true rfl) dL_setQuota_5 ⟨Nat.le_refl _, Nat.le_refl _⟩ rfl ?_
  intro H1 locs1 q ce hR hS1 hce hcv hcl
  have hS := AO_S (o := o) hS1
  refine vx_catch (name := exN 3) hown [⟨0, 10, 13, 13⟩] ⟨0, 10, 17, 17⟩ [] hTab (by intro z hz; simp only [List.mem_cons, List.not_mem_nil, or_false] at hz; rcases hz with rfl; exact Or.inr ⟨by decide, exN 1, hts _ wd178, hNP.2.1⟩) (by decide +kernel) (by decide) (hts _ wd180) hTH.2.2.2.2.1 hce hcv hcl ?_
  refine lv_astore hx hb dL_setQuota_17 hl (by decide) rfl ?_
  intro ls1 hl1
  refine lv_iconst hx hb (v := jI 2) dL_setQuota_19 rfl ?_
  exact x_wend hx hb hlocks hK hR ⟨x0, hO.kept (hS1.2.1 o (Array.getElem?_eq_some_iff.mp hO.choose_spec.1).1 hA)⟩ hS hr (Nat.le_refl _) (Nat.le_refl _) dL_setQuota_20
abbrev rmL_open : Room := { frames := max rmX3_open.frames rmTX3_open.frames + 1, cells := 1, slots := 6, locals := 8 + (3 + 11) + max rmX3_open.locals rmTX3_open.locals }
abbrev hhL_open : List (Nat × Nat × Nat × Nat) := [(0, 9, 12, 13), (0, 9, 15, 15)]
theorem hyL_open : yX3_open.cls = RX3 ∧ yX3_open.cls ≠ "java/lang/invoke/MethodHandle" ∧ yX3_open.cls ≠ "java/lang/invoke/VarHandle" ∧ (parseMethodDescriptor yX3_open.desc).map (fun d => d.parameters.length) = some 1 := by decide +kernel
set_option maxHeartbeats 4000000 in
set_option maxRecDepth 100000 in
theorem nL_open {l : Launch} {g : Gx} {b o : Nat} {p0 : Int} {M M' : Mm} {r : Int} (hC : Ct l yX3_open cX3_open 3 (some .int) rmX3_open g b [.ref (adr b 0 0), .int (jI p0)] M (qI g b r M')) : Lt l yL_open cL_open 4 hhL_open rmL_open g b o [.ref (adr b 0 0), .int (jI p0), .ref o] M (OLp g b o) 0 M' (OL g o (jI r).toInt64) := by
  refine lt_of (by decide +kernel) (Nat.le_of_ble_eq_true rfl) ?_
  intro p e s m args below meth c C0 hTH hNP hPre hTab hR ls hl
  obtain ⟨hx, hb, hr, hlocks, hml, hown, hts, hK⟩ := id C0
  have hS : va_S (AA b s.heap.size) s.heap s.heap [] := va_S.rf
  have hl : lv_has ls 4 [(0, .ref (adr b 0 0)), (1, .int (jI p0)), (2, .ref o)] := hl
  obtain ⟨H, hH⟩ : ∃ z, z = s.heap := ⟨_, rfl⟩
  obtain ⟨locs, hlo⟩ : ∃ z : List Loc, z = [] := ⟨_, rfl⟩
  have hR : Rel g b M H := by rw [hH]; exact hR
  have hS : va_S (AA b s.heap.size) s.heap H locs := by rw [hH, hlo]; exact hS
  obtain ⟨⟨x0, hO⟩, hA⟩ := hPre
  suffices hW : W p l e rmL_open s m args below meth c H locs 0 0 (vx_MQ below (wqI g b 0 M' (OL g o (jI r).toInt64) o s.heap.size) noX args s 1 6 (AO b o s.heap.size)) (F0 m 0 ls []) by rw [hH, hlo] at hW; exact hW
  refine lv_aload_n hx hb dL_open_0 rfl (lv_at hl 2 rfl) ?_
  refine lv_iconst hx hb (v := jI 0) dL_open_1 rfl ?_
  refine lv_aload_n hx hb dL_open_2 rfl (lv_at hl 0 rfl) ?_
  refine lv_iload_n hx hb dL_open_3 rfl (lv_at hl 1 rfl) ?_
  refine x_cVi (As := [.int (jI p0)]) (rest := [.int (jI 0), .ref o]) hx hb hml hown hts hK hR hS hC ok0 rfl (ci := 3) (C := RX3) (T := TX3) (N := 9) rfl wd628 wd629 wd630 wd1 wd631 hyL_open ⟨rfl, rfl⟩ ⟨Nat.le_trans (Nat.succ_le_succ (Nat.le_max_left _ _)) (Nat.le_refl _), Nat.add_le_add_left (Nat.le_max_left _ _) _⟩ hl.1 (Nat.le_of_ble_eq_true rfl) dL_open_4 ⟨Nat.zero_le _, Nat.zero_le _⟩ rfl ?_
  intro hr0 H1 locs1 hR hS1
  have hO1 : ∃ x, OL g o x H1 := ⟨x0, hO.kept (hS1.2.1 o (Array.getElem?_eq_some_iff.mp hO.choose_spec.1).1 hA)⟩
  have hS := AO_S (o := o) hS1
  refine lv_i2l hx hb dL_open_7 rfl ?_
  refine x_wst hx hb hK hR hO1 hA hS dL_open_8 ?_
  intro H2 locs2 hR hO2 hS
  refine lv_goto (tgt := 18) hx hb dL_open_9 rfl ?_
  refine lv_iconst hx hb (v := jI 0) dL_open_18 rfl ?_
  exact x_wend hx hb hlocks hK hR hO2 hS hr (Nat.zero_le _) (Nat.zero_le _) dL_open_19
set_option maxHeartbeats 4000000 in
set_option maxRecDepth 100000 in
theorem tL_open_1 {l : Launch} {g : Gx} {b o : Nat} {p0 : Int} {M : Mm} (hC : Tt l yX3_open cX3_open 3 (some .int) rmTX3_open g b [.ref (adr b 0 0), .int (jI p0)] M 1) : Lt l yL_open cL_open 4 hhL_open rmL_open g b o [.ref (adr b 0 0), .int (jI p0), .ref o] M (OLp g b o) 1 M (fun H => ∃ x, OL g o x H) := by
  refine lt_of (by decide +kernel) (Nat.le_of_ble_eq_true rfl) ?_
  intro p e s m args below meth c C0 hTH hNP hPre hTab hR ls hl
  obtain ⟨hx, hb, hr, hlocks, hml, hown, hts, hK⟩ := id C0
  have hS : va_S (AA b s.heap.size) s.heap s.heap [] := va_S.rf
  have hl : lv_has ls 4 [(0, .ref (adr b 0 0)), (1, .int (jI p0)), (2, .ref o)] := hl
  obtain ⟨H, hH⟩ : ∃ z, z = s.heap := ⟨_, rfl⟩
  obtain ⟨locs, hlo⟩ : ∃ z : List Loc, z = [] := ⟨_, rfl⟩
  have hR : Rel g b M H := by rw [hH]; exact hR
  have hS : va_S (AA b s.heap.size) s.heap H locs := by rw [hH, hlo]; exact hS
  obtain ⟨⟨x0, hO⟩, hA⟩ := hPre
  suffices hW : W p l e rmL_open s m args below meth c H locs 0 0 (vx_MQ below (wqI g b 1 M (fun H => ∃ x, OL g o x H) o s.heap.size) noX args s 1 6 (AO b o s.heap.size)) (F0 m 0 ls []) by rw [hH, hlo] at hW; exact hW
  refine lv_aload_n hx hb dL_open_0 rfl (lv_at hl 2 rfl) ?_
  refine lv_iconst hx hb (v := jI 0) dL_open_1 rfl ?_
  refine lv_aload_n hx hb dL_open_2 rfl (lv_at hl 0 rfl) ?_
  refine lv_iload_n hx hb dL_open_3 rfl (lv_at hl 1 rfl) ?_
  refine x_tC (As := [.int (jI p0)]) (rest := [.int (jI 0), .ref o]) hx hb hml hown hts hK hTH hR hS hC wd628 wd629 wd630 wd1 wd631 hyL_open ⟨rfl, rfl⟩ ⟨Nat.le_trans (Nat.succ_le_succ (Nat.le_max_right _ _)) (Nat.le_refl _), Nat.add_le_add_left (Nat.le_max_right _ _) _⟩ hl.1 (Nat.le_of_ble_eq_true rfl) dL_open_4 ⟨Nat.le_refl _, Nat.le_refl _⟩ rfl ?_
  intro H1 locs1 q ce hR hS1 hce hcv hcl
  have hS := AO_S (o := o) hS1
  refine vx_catch (name := exN 1) hown [] ⟨0, 9, 12, 13⟩ [⟨0, 9, 15, 15⟩] hTab (fun z hz => by cases hz) (by decide +kernel) (by decide) (hts _ wd178) hTH.2.2.1 hce hcv hcl ?_
  refine lv_astore_n hx hb dL_open_12 rfl hl (by decide) rfl ?_
  intro ls1 hl1
  refine lv_iconst hx hb (v := jI 1) dL_open_13 rfl ?_
  exact x_wend hx hb hlocks hK hR ⟨x0, hO.kept (hS1.2.1 o (Array.getElem?_eq_some_iff.mp hO.choose_spec.1).1 hA)⟩ hS hr (Nat.le_refl _) (Nat.le_refl _) dL_open_14
set_option maxHeartbeats 4000000 in
set_option maxRecDepth 100000 in
theorem tL_open_2 {l : Launch} {g : Gx} {b o : Nat} {p0 : Int} {M : Mm} (hC : Tt l yX3_open cX3_open 3 (some .int) rmTX3_open g b [.ref (adr b 0 0), .int (jI p0)] M 2) : Lt l yL_open cL_open 4 hhL_open rmL_open g b o [.ref (adr b 0 0), .int (jI p0), .ref o] M (OLp g b o) 2 M (fun H => ∃ x, OL g o x H) := by
  refine lt_of (by decide +kernel) (Nat.le_of_ble_eq_true rfl) ?_
  intro p e s m args below meth c C0 hTH hNP hPre hTab hR ls hl
  obtain ⟨hx, hb, hr, hlocks, hml, hown, hts, hK⟩ := id C0
  have hS : va_S (AA b s.heap.size) s.heap s.heap [] := va_S.rf
  have hl : lv_has ls 4 [(0, .ref (adr b 0 0)), (1, .int (jI p0)), (2, .ref o)] := hl
  obtain ⟨H, hH⟩ : ∃ z, z = s.heap := ⟨_, rfl⟩
  obtain ⟨locs, hlo⟩ : ∃ z : List Loc, z = [] := ⟨_, rfl⟩
  have hR : Rel g b M H := by rw [hH]; exact hR
  have hS : va_S (AA b s.heap.size) s.heap H locs := by rw [hH, hlo]; exact hS
  obtain ⟨⟨x0, hO⟩, hA⟩ := hPre
  suffices hW : W p l e rmL_open s m args below meth c H locs 0 0 (vx_MQ below (wqI g b 2 M (fun H => ∃ x, OL g o x H) o s.heap.size) noX args s 1 6 (AO b o s.heap.size)) (F0 m 0 ls []) by rw [hH, hlo] at hW; exact hW
  refine lv_aload_n hx hb dL_open_0 rfl (lv_at hl 2 rfl) ?_
  refine lv_iconst hx hb (v := jI 0) dL_open_1 rfl ?_
  refine lv_aload_n hx hb dL_open_2 rfl (lv_at hl 0 rfl) ?_
  refine lv_iload_n hx hb dL_open_3 rfl (lv_at hl 1 rfl) ?_
  refine x_tC (As := [.int (jI p0)]) (rest := [.int (jI 0), .ref o]) hx hb hml hown hts hK hTH hR hS hC wd628 wd629 wd630 wd1 wd631 hyL_open ⟨rfl, rfl⟩ ⟨Nat.le_trans (Nat.succ_le_succ (Nat.le_max_right _ _)) (Nat.le_refl _), Nat.add_le_add_left (Nat.le_max_right _ _) _⟩ hl.1 (Nat.le_of_ble_eq_true rfl) dL_open_4 ⟨Nat.le_refl _, Nat.le_refl _⟩ rfl ?_
  intro H1 locs1 q ce hR hS1 hce hcv hcl
  have hS := AO_S (o := o) hS1
  refine vx_catch (name := exN 2) hown [⟨0, 9, 12, 13⟩] ⟨0, 9, 15, 15⟩ [] hTab (by intro z hz; simp only [List.mem_cons, List.not_mem_nil, or_false] at hz; rcases hz with rfl; exact Or.inr ⟨by decide, exN 1, hts _ wd178, hNP.1⟩) (by decide +kernel) (by decide) (hts _ wd179) hTH.2.2.2.1 hce hcv hcl ?_
  refine lv_astore_n hx hb dL_open_15 rfl hl (by decide) rfl ?_
  intro ls1 hl1
  refine lv_iconst hx hb (v := jI 2) dL_open_16 rfl ?_
  exact x_wend hx hb hlocks hK hR ⟨x0, hO.kept (hS1.2.1 o (Array.getElem?_eq_some_iff.mp hO.choose_spec.1).1 hA)⟩ hS hr (Nat.le_refl _) (Nat.le_refl _) dL_open_17
abbrev rmL_close : Room := { frames := max rmX3_close.frames rmTX3_close.frames + 1, cells := 1, slots := 6, locals := 8 + (4 + 11) + max rmX3_close.locals rmTX3_close.locals }
abbrev hhL_close : List (Nat × Nat × Nat × Nat) := [(0, 9, 12, 13), (0, 9, 15, 15)]
theorem hyL_close : yX3_close.cls = RX3 ∧ yX3_close.cls ≠ "java/lang/invoke/MethodHandle" ∧ yX3_close.cls ≠ "java/lang/invoke/VarHandle" ∧ (parseMethodDescriptor yX3_close.desc).map (fun d => d.parameters.length) = some 1 := by decide +kernel
set_option maxHeartbeats 4000000 in
set_option maxRecDepth 100000 in
theorem nL_close {l : Launch} {g : Gx} {b o : Nat} {p0 : Int} {M M' : Mm} {r : Int} (hC : Ct l yX3_close cX3_close 4 (some .int) rmX3_close g b [.ref (adr b 0 0), .int (jI p0)] M (qI g b r M')) : Lt l yL_close cL_close 4 hhL_close rmL_close g b o [.ref (adr b 0 0), .int (jI p0), .ref o] M (OLp g b o) 0 M' (OL g o (jI r).toInt64) := by
  refine lt_of (by decide +kernel) (Nat.le_of_ble_eq_true rfl) ?_
  intro p e s m args below meth c C0 hTH hNP hPre hTab hR ls hl
  obtain ⟨hx, hb, hr, hlocks, hml, hown, hts, hK⟩ := id C0
  have hS : va_S (AA b s.heap.size) s.heap s.heap [] := va_S.rf
  have hl : lv_has ls 4 [(0, .ref (adr b 0 0)), (1, .int (jI p0)), (2, .ref o)] := hl
  obtain ⟨H, hH⟩ : ∃ z, z = s.heap := ⟨_, rfl⟩
  obtain ⟨locs, hlo⟩ : ∃ z : List Loc, z = [] := ⟨_, rfl⟩
  have hR : Rel g b M H := by rw [hH]; exact hR
  have hS : va_S (AA b s.heap.size) s.heap H locs := by rw [hH, hlo]; exact hS
  obtain ⟨⟨x0, hO⟩, hA⟩ := hPre
  suffices hW : W p l e rmL_close s m args below meth c H locs 0 0 (vx_MQ below (wqI g b 0 M' (OL g o (jI r).toInt64) o s.heap.size) noX args s 1 6 (AO b o s.heap.size)) (F0 m 0 ls []) by rw [hH, hlo] at hW; exact hW
  refine lv_aload_n hx hb dL_close_0 rfl (lv_at hl 2 rfl) ?_
  refine lv_iconst hx hb (v := jI 0) dL_close_1 rfl ?_
  refine lv_aload_n hx hb dL_close_2 rfl (lv_at hl 0 rfl) ?_
  refine lv_iload_n hx hb dL_close_3 rfl (lv_at hl 1 rfl) ?_
  refine x_cVi (As := [.int (jI p0)]) (rest := [.int (jI 0), .ref o]) hx hb hml hown hts hK hR hS hC ok0 rfl (ci := 3) (C := RX3) (T := TX3) (N := 9) rfl wd639 wd640 wd641 wd1 wd642 hyL_close ⟨rfl, rfl⟩ ⟨Nat.le_trans (Nat.succ_le_succ (Nat.le_max_left _ _)) (Nat.le_refl _), Nat.add_le_add_left (Nat.le_max_left _ _) _⟩ hl.1 (Nat.le_of_ble_eq_true rfl) dL_close_4 ⟨Nat.zero_le _, Nat.zero_le _⟩ rfl ?_
  intro hr0 H1 locs1 hR hS1
  have hO1 : ∃ x, OL g o x H1 := ⟨x0, hO.kept (hS1.2.1 o (Array.getElem?_eq_some_iff.mp hO.choose_spec.1).1 hA)⟩
  have hS := AO_S (o := o) hS1
  refine lv_i2l hx hb dL_close_7 rfl ?_
  refine x_wst hx hb hK hR hO1 hA hS dL_close_8 ?_
  intro H2 locs2 hR hO2 hS
  refine lv_goto (tgt := 18) hx hb dL_close_9 rfl ?_
  refine lv_iconst hx hb (v := jI 0) dL_close_18 rfl ?_
  exact x_wend hx hb hlocks hK hR hO2 hS hr (Nat.zero_le _) (Nat.zero_le _) dL_close_19
set_option maxHeartbeats 4000000 in
set_option maxRecDepth 100000 in
theorem tL_close_1 {l : Launch} {g : Gx} {b o : Nat} {p0 : Int} {M : Mm} (hC : Tt l yX3_close cX3_close 4 (some .int) rmTX3_close g b [.ref (adr b 0 0), .int (jI p0)] M 1) : Lt l yL_close cL_close 4 hhL_close rmL_close g b o [.ref (adr b 0 0), .int (jI p0), .ref o] M (OLp g b o) 1 M (fun H => ∃ x, OL g o x H) := by
  refine lt_of (by decide +kernel) (Nat.le_of_ble_eq_true rfl) ?_
  intro p e s m args below meth c C0 hTH hNP hPre hTab hR ls hl
  obtain ⟨hx, hb, hr, hlocks, hml, hown, hts, hK⟩ := id C0
  have hS : va_S (AA b s.heap.size) s.heap s.heap [] := va_S.rf
  have hl : lv_has ls 4 [(0, .ref (adr b 0 0)), (1, .int (jI p0)), (2, .ref o)] := hl
  obtain ⟨H, hH⟩ : ∃ z, z = s.heap := ⟨_, rfl⟩
  obtain ⟨locs, hlo⟩ : ∃ z : List Loc, z = [] := ⟨_, rfl⟩
  have hR : Rel g b M H := by rw [hH]; exact hR
  have hS : va_S (AA b s.heap.size) s.heap H locs := by rw [hH, hlo]; exact hS
  obtain ⟨⟨x0, hO⟩, hA⟩ := hPre
  suffices hW : W p l e rmL_close s m args below meth c H locs 0 0 (vx_MQ below (wqI g b 1 M (fun H => ∃ x, OL g o x H) o s.heap.size) noX args s 1 6 (AO b o s.heap.size)) (F0 m 0 ls []) by rw [hH, hlo] at hW; exact hW
  refine lv_aload_n hx hb dL_close_0 rfl (lv_at hl 2 rfl) ?_
  refine lv_iconst hx hb (v := jI 0) dL_close_1 rfl ?_
  refine lv_aload_n hx hb dL_close_2 rfl (lv_at hl 0 rfl) ?_
  refine lv_iload_n hx hb dL_close_3 rfl (lv_at hl 1 rfl) ?_
  refine x_tC (As := [.int (jI p0)]) (rest := [.int (jI 0), .ref o]) hx hb hml hown hts hK hTH hR hS hC wd639 wd640 wd641 wd1 wd642 hyL_close ⟨rfl, rfl⟩ ⟨Nat.le_trans (Nat.succ_le_succ (Nat.le_max_right _ _)) (Nat.le_refl _), Nat.add_le_add_left (Nat.le_max_right _ _) _⟩ hl.1 (Nat.le_of_ble_eq_true rfl) dL_close_4 ⟨Nat.le_refl _, Nat.le_refl _⟩ rfl ?_
  intro H1 locs1 q ce hR hS1 hce hcv hcl
  have hS := AO_S (o := o) hS1
  refine vx_catch (name := exN 1) hown [] ⟨0, 9, 12, 13⟩ [⟨0, 9, 15, 15⟩] hTab (fun z hz => by cases hz) (by decide +kernel) (by decide) (hts _ wd178) hTH.2.2.1 hce hcv hcl ?_
  refine lv_astore_n hx hb dL_close_12 rfl hl (by decide) rfl ?_
  intro ls1 hl1
  refine lv_iconst hx hb (v := jI 1) dL_close_13 rfl ?_
  exact x_wend hx hb hlocks hK hR ⟨x0, hO.kept (hS1.2.1 o (Array.getElem?_eq_some_iff.mp hO.choose_spec.1).1 hA)⟩ hS hr (Nat.le_refl _) (Nat.le_refl _) dL_close_14
set_option maxHeartbeats 4000000 in
set_option maxRecDepth 100000 in
theorem tL_close_2 {l : Launch} {g : Gx} {b o : Nat} {p0 : Int} {M : Mm} (hC : Tt l yX3_close cX3_close 4 (some .int) rmTX3_close g b [.ref (adr b 0 0), .int (jI p0)] M 2) : Lt l yL_close cL_close 4 hhL_close rmL_close g b o [.ref (adr b 0 0), .int (jI p0), .ref o] M (OLp g b o) 2 M (fun H => ∃ x, OL g o x H) := by
  refine lt_of (by decide +kernel) (Nat.le_of_ble_eq_true rfl) ?_
  intro p e s m args below meth c C0 hTH hNP hPre hTab hR ls hl
  obtain ⟨hx, hb, hr, hlocks, hml, hown, hts, hK⟩ := id C0
  have hS : va_S (AA b s.heap.size) s.heap s.heap [] := va_S.rf
  have hl : lv_has ls 4 [(0, .ref (adr b 0 0)), (1, .int (jI p0)), (2, .ref o)] := hl
  obtain ⟨H, hH⟩ : ∃ z, z = s.heap := ⟨_, rfl⟩
  obtain ⟨locs, hlo⟩ : ∃ z : List Loc, z = [] := ⟨_, rfl⟩
  have hR : Rel g b M H := by rw [hH]; exact hR
  have hS : va_S (AA b s.heap.size) s.heap H locs := by rw [hH, hlo]; exact hS
  obtain ⟨⟨x0, hO⟩, hA⟩ := hPre
  suffices hW : W p l e rmL_close s m args below meth c H locs 0 0 (vx_MQ below (wqI g b 2 M (fun H => ∃ x, OL g o x H) o s.heap.size) noX args s 1 6 (AO b o s.heap.size)) (F0 m 0 ls []) by rw [hH, hlo] at hW; exact hW
  refine lv_aload_n hx hb dL_close_0 rfl (lv_at hl 2 rfl) ?_
  refine lv_iconst hx hb (v := jI 0) dL_close_1 rfl ?_
  refine lv_aload_n hx hb dL_close_2 rfl (lv_at hl 0 rfl) ?_
  refine lv_iload_n hx hb dL_close_3 rfl (lv_at hl 1 rfl) ?_
  refine x_tC (As := [.int (jI p0)]) (rest := [.int (jI 0), .ref o]) hx hb hml hown hts hK hTH hR hS hC wd639 wd640 wd641 wd1 wd642 hyL_close ⟨rfl, rfl⟩ ⟨Nat.le_trans (Nat.succ_le_succ (Nat.le_max_right _ _)) (Nat.le_refl _), Nat.add_le_add_left (Nat.le_max_right _ _) _⟩ hl.1 (Nat.le_of_ble_eq_true rfl) dL_close_4 ⟨Nat.le_refl _, Nat.le_refl _⟩ rfl ?_
  intro H1 locs1 q ce hR hS1 hce hcv hcl
  have hS := AO_S (o := o) hS1
  refine vx_catch (name := exN 2) hown [⟨0, 9, 12, 13⟩] ⟨0, 9, 15, 15⟩ [] hTab (by intro z hz; simp only [List.mem_cons, List.not_mem_nil, or_false] at hz; rcases hz with rfl; exact Or.inr ⟨by decide, exN 1, hts _ wd178, hNP.1⟩) (by decide +kernel) (by decide) (hts _ wd179) hTH.2.2.2.1 hce hcv hcl ?_
  refine lv_astore_n hx hb dL_close_15 rfl hl (by decide) rfl ?_
  intro ls1 hl1
  refine lv_iconst hx hb (v := jI 2) dL_close_16 rfl ?_
  exact x_wend hx hb hlocks hK hR ⟨x0, hO.kept (hS1.2.1 o (Array.getElem?_eq_some_iff.mp hO.choose_spec.1).1 hA)⟩ hS hr (Nat.le_refl _) (Nat.le_refl _) dL_close_17
abbrev rmL_seek : Room := { frames := max rmX3_seek.frames rmTX3_seek.frames + 1, cells := 1, slots := 6, locals := 8 + (5 + 11) + max rmX3_seek.locals rmTX3_seek.locals }
abbrev hhL_seek : List (Nat × Nat × Nat × Nat) := [(0, 10, 13, 13), (0, 10, 17, 15), (0, 10, 21, 17)]
theorem hyL_seek : yX3_seek.cls = RX3 ∧ yX3_seek.cls ≠ "java/lang/invoke/MethodHandle" ∧ yX3_seek.cls ≠ "java/lang/invoke/VarHandle" ∧ (parseMethodDescriptor yX3_seek.desc).map (fun d => d.parameters.length) = some 2 := by decide +kernel
set_option maxHeartbeats 4000000 in
set_option maxRecDepth 100000 in
theorem nL_seek {l : Launch} {g : Gx} {b o : Nat} {p0 : Int} {p1 : Int} {M M' : Mm} {r : Int} (hC : Ct l yX3_seek cX3_seek 5 (some .int) rmX3_seek g b [.ref (adr b 0 0), .int (jI p0), .int (jI p1)] M (qI g b r M')) : Lt l yL_seek cL_seek 5 hhL_seek rmL_seek g b o [.ref (adr b 0 0), .int (jI p0), .int (jI p1), .ref o] M (OLp g b o) 0 M' (OL g o (jI r).toInt64) := by
  refine lt_of (by decide +kernel) (Nat.le_of_ble_eq_true rfl) ?_
  intro p e s m args below meth c C0 hTH hNP hPre hTab hR ls hl
  obtain ⟨hx, hb, hr, hlocks, hml, hown, hts, hK⟩ := id C0
  have hS : va_S (AA b s.heap.size) s.heap s.heap [] := va_S.rf
  have hl : lv_has ls 5 [(0, .ref (adr b 0 0)), (1, .int (jI p0)), (2, .int (jI p1)), (3, .ref o)] := hl
  obtain ⟨H, hH⟩ : ∃ z, z = s.heap := ⟨_, rfl⟩
  obtain ⟨locs, hlo⟩ : ∃ z : List Loc, z = [] := ⟨_, rfl⟩
  have hR : Rel g b M H := by rw [hH]; exact hR
  have hS : va_S (AA b s.heap.size) s.heap H locs := by rw [hH, hlo]; exact hS
  obtain ⟨⟨x0, hO⟩, hA⟩ := hPre
  suffices hW : W p l e rmL_seek s m args below meth c H locs 0 0 (vx_MQ below (wqI g b 0 M' (OL g o (jI r).toInt64) o s.heap.size) noX args s 1 6 (AO b o s.heap.size)) (F0 m 0 ls []) by rw [hH, hlo] at hW; exact hW
  refine lv_aload_n hx hb dL_seek_0 rfl (lv_at hl 3 rfl) ?_
  refine lv_iconst hx hb (v := jI 0) dL_seek_1 rfl ?_
  refine lv_aload_n hx hb dL_seek_2 rfl (lv_at hl 0 rfl) ?_
  refine lv_iload_n hx hb dL_seek_3 rfl (lv_at hl 1 rfl) ?_
  refine lv_iload_n hx hb dL_seek_4 rfl (lv_at hl 2 rfl) ?_
  refine x_cVi (As := [.int (jI p0), .int (jI p1)]) (rest := [.int (jI 0), .ref o]) hx hb hml hown hts hK hR hS hC ok0 rfl (ci := 3) (C := RX3) (T := TX3) (N := 9) rfl wd650 wd651 wd652 wd1 wd653 hyL_seek ⟨rfl, rfl⟩ ⟨Nat.le_trans (Nat.succ_le_succ (Nat.le_max_left _ _)) (Nat.le_refl _), Nat.add_le_add_left (Nat.le_max_left _ _) _⟩ hl.1 (Nat.le_of_ble_eq_true rfl) dL_seek_5 ⟨Nat.zero_le _, Nat.zero_le _⟩ rfl ?_
  intro hr0 H1 locs1 hR hS1
  have hO1 : ∃ x, OL g o x H1 := ⟨x0, hO.kept (hS1.2.1 o (Array.getElem?_eq_some_iff.mp hO.choose_spec.1).1 hA)⟩
  have hS := AO_S (o := o) hS1
  refine lv_i2l hx hb dL_seek_8 rfl ?_
  refine x_wst hx hb hK hR hO1 hA hS dL_seek_9 ?_
  intro H2 locs2 hR hO2 hS
  refine lv_goto (tgt := 25) hx hb dL_seek_10 rfl ?_
  refine lv_iconst hx hb (v := jI 0) dL_seek_25 rfl ?_
  exact x_wend hx hb hlocks hK hR hO2 hS hr (Nat.zero_le _) (Nat.zero_le _) dL_seek_26
set_option maxHeartbeats 4000000 in
set_option maxRecDepth 100000 in
theorem tL_seek_1 {l : Launch} {g : Gx} {b o : Nat} {p0 : Int} {p1 : Int} {M : Mm} (hC : Tt l yX3_seek cX3_seek 5 (some .int) rmTX3_seek g b [.ref (adr b 0 0), .int (jI p0), .int (jI p1)] M 1) : Lt l yL_seek cL_seek 5 hhL_seek rmL_seek g b o [.ref (adr b 0 0), .int (jI p0), .int (jI p1), .ref o] M (OLp g b o) 1 M (fun H => ∃ x, OL g o x H) := by
  refine lt_of (by decide +kernel) (Nat.le_of_ble_eq_true rfl) ?_
  intro p e s m args below meth c C0 hTH hNP hPre hTab hR ls hl
  obtain ⟨hx, hb, hr, hlocks, hml, hown, hts, hK⟩ := id C0
  have hS : va_S (AA b s.heap.size) s.heap s.heap [] := va_S.rf
  have hl : lv_has ls 5 [(0, .ref (adr b 0 0)), (1, .int (jI p0)), (2, .int (jI p1)), (3, .ref o)] := hl
  obtain ⟨H, hH⟩ : ∃ z, z = s.heap := ⟨_, rfl⟩
  obtain ⟨locs, hlo⟩ : ∃ z : List Loc, z = [] := ⟨_, rfl⟩
  have hR : Rel g b M H := by rw [hH]; exact hR
  have hS : va_S (AA b s.heap.size) s.heap H locs := by rw [hH, hlo]; exact hS
  obtain ⟨⟨x0, hO⟩, hA⟩ := hPre
  suffices hW : W p l e rmL_seek s m args below meth c H locs 0 0 (vx_MQ below (wqI g b 1 M (fun H => ∃ x, OL g o x H) o s.heap.size) noX args s 1 6 (AO b o s.heap.size)) (F0 m 0 ls []) by rw [hH, hlo] at hW; exact hW
  refine lv_aload_n hx hb dL_seek_0 rfl (lv_at hl 3 rfl) ?_
  refine lv_iconst hx hb (v := jI 0) dL_seek_1 rfl ?_
  refine lv_aload_n hx hb dL_seek_2 rfl (lv_at hl 0 rfl) ?_
  refine lv_iload_n hx hb dL_seek_3 rfl (lv_at hl 1 rfl) ?_
  refine lv_iload_n hx hb dL_seek_4 rfl (lv_at hl 2 rfl) ?_
  refine x_tC (As := [.int (jI p0), .int (jI p1)]) (rest := [.int (jI 0), .ref o]) hx hb hml hown hts hK hTH hR hS hC wd650 wd651 wd652 wd1 wd653 hyL_seek ⟨rfl, rfl⟩ ⟨Nat.le_trans (Nat.succ_le_succ (Nat.le_max_right _ _)) (Nat.le_refl _), Nat.add_le_add_left (Nat.le_max_right _ _) _⟩ hl.1 (Nat.le_of_ble_eq_true rfl) dL_seek_5 ⟨Nat.le_refl _, Nat.le_refl _⟩ rfl ?_
  intro H1 locs1 q ce hR hS1 hce hcv hcl
  have hS := AO_S (o := o) hS1
  refine vx_catch (name := exN 1) hown [] ⟨0, 10, 13, 13⟩ [⟨0, 10, 17, 15⟩, ⟨0, 10, 21, 17⟩] hTab (fun z hz => by cases hz) (by decide +kernel) (by decide) (hts _ wd178) hTH.2.2.1 hce hcv hcl ?_
  refine lv_astore hx hb dL_seek_13 hl (by decide) rfl ?_
  intro ls1 hl1
  refine lv_iconst hx hb (v := jI 1) dL_seek_15 rfl ?_
  exact x_wend hx hb hlocks hK hR ⟨x0, hO.kept (hS1.2.1 o (Array.getElem?_eq_some_iff.mp hO.choose_spec.1).1 hA)⟩ hS hr (Nat.le_refl _) (Nat.le_refl _) dL_seek_16
set_option maxHeartbeats 4000000 in
set_option maxRecDepth 100000 in
theorem tL_seek_2 {l : Launch} {g : Gx} {b o : Nat} {p0 : Int} {p1 : Int} {M : Mm} (hC : Tt l yX3_seek cX3_seek 5 (some .int) rmTX3_seek g b [.ref (adr b 0 0), .int (jI p0), .int (jI p1)] M 2) : Lt l yL_seek cL_seek 5 hhL_seek rmL_seek g b o [.ref (adr b 0 0), .int (jI p0), .int (jI p1), .ref o] M (OLp g b o) 2 M (fun H => ∃ x, OL g o x H) := by
  refine lt_of (by decide +kernel) (Nat.le_of_ble_eq_true rfl) ?_
  intro p e s m args below meth c C0 hTH hNP hPre hTab hR ls hl
  obtain ⟨hx, hb, hr, hlocks, hml, hown, hts, hK⟩ := id C0
  have hS : va_S (AA b s.heap.size) s.heap s.heap [] := va_S.rf
  have hl : lv_has ls 5 [(0, .ref (adr b 0 0)), (1, .int (jI p0)), (2, .int (jI p1)), (3, .ref o)] := hl
  obtain ⟨H, hH⟩ : ∃ z, z = s.heap := ⟨_, rfl⟩
  obtain ⟨locs, hlo⟩ : ∃ z : List Loc, z = [] := ⟨_, rfl⟩
  have hR : Rel g b M H := by rw [hH]; exact hR
  have hS : va_S (AA b s.heap.size) s.heap H locs := by rw [hH, hlo]; exact hS
  obtain ⟨⟨x0, hO⟩, hA⟩ := hPre
  suffices hW : W p l e rmL_seek s m args below meth c H locs 0 0 (vx_MQ below (wqI g b 2 M (fun H => ∃ x, OL g o x H) o s.heap.size) noX args s 1 6 (AO b o s.heap.size)) (F0 m 0 ls []) by rw [hH, hlo] at hW; exact hW
  refine lv_aload_n hx hb dL_seek_0 rfl (lv_at hl 3 rfl) ?_
  refine lv_iconst hx hb (v := jI 0) dL_seek_1 rfl ?_
  refine lv_aload_n hx hb dL_seek_2 rfl (lv_at hl 0 rfl) ?_
  refine lv_iload_n hx hb dL_seek_3 rfl (lv_at hl 1 rfl) ?_
  refine lv_iload_n hx hb dL_seek_4 rfl (lv_at hl 2 rfl) ?_
  refine x_tC (As := [.int (jI p0), .int (jI p1)]) (rest := [.int (jI 0), .ref o]) hx hb hml hown hts hK hTH hR hS hC wd650 wd651 wd652 wd1 wd653 hyL_seek ⟨rfl, rfl⟩ ⟨Nat.le_trans (Nat.succ_le_succ (Nat.le_max_right _ _)) (Nat.le_refl _), Nat.add_le_add_left (Nat.le_max_right _ _) _⟩ hl.1 (Nat.le_of_ble_eq_true rfl) dL_seek_5 ⟨Nat.le_refl _, Nat.le_refl _⟩ rfl ?_
  intro H1 locs1 q ce hR hS1 hce hcv hcl
  have hS := AO_S (o := o) hS1
  refine vx_catch (name := exN 2) hown [⟨0, 10, 13, 13⟩] ⟨0, 10, 17, 15⟩ [⟨0, 10, 21, 17⟩] hTab (by intro z hz; simp only [List.mem_cons, List.not_mem_nil, or_false] at hz; rcases hz with rfl; exact Or.inr ⟨by decide, exN 1, hts _ wd178, hNP.1⟩) (by decide +kernel) (by decide) (hts _ wd179) hTH.2.2.2.1 hce hcv hcl ?_
  refine lv_astore hx hb dL_seek_17 hl (by decide) rfl ?_
  intro ls1 hl1
  refine lv_iconst hx hb (v := jI 2) dL_seek_19 rfl ?_
  exact x_wend hx hb hlocks hK hR ⟨x0, hO.kept (hS1.2.1 o (Array.getElem?_eq_some_iff.mp hO.choose_spec.1).1 hA)⟩ hS hr (Nat.le_refl _) (Nat.le_refl _) dL_seek_20
set_option maxHeartbeats 4000000 in
set_option maxRecDepth 100000 in
theorem tL_seek_3 {l : Launch} {g : Gx} {b o : Nat} {p0 : Int} {p1 : Int} {M : Mm} (hC : Tt l yX3_seek cX3_seek 5 (some .int) rmTX3_seek g b [.ref (adr b 0 0), .int (jI p0), .int (jI p1)] M 3) : Lt l yL_seek cL_seek 5 hhL_seek rmL_seek g b o [.ref (adr b 0 0), .int (jI p0), .int (jI p1), .ref o] M (OLp g b o) 3 M (fun H => ∃ x, OL g o x H) := by
  refine lt_of (by decide +kernel) (Nat.le_of_ble_eq_true rfl) ?_
  intro p e s m args below meth c C0 hTH hNP hPre hTab hR ls hl
  obtain ⟨hx, hb, hr, hlocks, hml, hown, hts, hK⟩ := id C0
  have hS : va_S (AA b s.heap.size) s.heap s.heap [] := va_S.rf
  have hl : lv_has ls 5 [(0, .ref (adr b 0 0)), (1, .int (jI p0)), (2, .int (jI p1)), (3, .ref o)] := hl
  obtain ⟨H, hH⟩ : ∃ z, z = s.heap := ⟨_, rfl⟩
  obtain ⟨locs, hlo⟩ : ∃ z : List Loc, z = [] := ⟨_, rfl⟩
  have hR : Rel g b M H := by rw [hH]; exact hR
  have hS : va_S (AA b s.heap.size) s.heap H locs := by rw [hH, hlo]; exact hS
  obtain ⟨⟨x0, hO⟩, hA⟩ := hPre
  suffices hW : W p l e rmL_seek s m args below meth c H locs 0 0 (vx_MQ below (wqI g b 3 M (fun H => ∃ x, OL g o x H) o s.heap.size) noX args s 1 6 (AO b o s.heap.size)) (F0 m 0 ls []) by rw [hH, hlo] at hW; exact hW
  refine lv_aload_n hx hb dL_seek_0 rfl (lv_at hl 3 rfl) ?_
  refine lv_iconst hx hb (v := jI 0) dL_seek_1 rfl ?_
  refine lv_aload_n hx hb dL_seek_2 rfl (lv_at hl 0 rfl) ?_
  refine lv_iload_n hx hb dL_seek_3 rfl (lv_at hl 1 rfl) ?_
  refine lv_iload_n hx hb dL_seek_4 rfl (lv_at hl 2 rfl) ?_
  refine x_tC (As := [.int (jI p0), .int (jI p1)]) (rest := [.int (jI 0), .ref o]) hx hb hml hown hts hK hTH hR hS hC wd650 wd651 wd652 wd1 wd653 hyL_seek ⟨rfl, rfl⟩ ⟨Nat.le_trans (Nat.succ_le_succ (Nat.le_max_right _ _)) (Nat.le_refl _), Nat.add_le_add_left (Nat.le_max_right _ _) _⟩ hl.1 (Nat.le_of_ble_eq_true rfl) dL_seek_5 ⟨Nat.le_refl _, Nat.le_refl _⟩ rfl ?_
  intro H1 locs1 q ce hR hS1 hce hcv hcl
  have hS := AO_S (o := o) hS1
  refine vx_catch (name := exN 3) hown [⟨0, 10, 13, 13⟩, ⟨0, 10, 17, 15⟩] ⟨0, 10, 21, 17⟩ [] hTab (by
      intro z hz
      simp only [List.mem_cons, List.not_mem_nil, or_false] at hz
      rcases hz with rfl | rfl
      · exact Or.inr ⟨by decide, exN 1, hts _ wd178, hNP.2.1⟩
      · exact Or.inr ⟨by decide, exN 2, hts _ wd179, hNP.2.2⟩) (by decide +kernel) (by decide) (hts _ wd180) hTH.2.2.2.2.1 hce hcv hcl ?_
  refine lv_astore hx hb dL_seek_21 hl (by decide) rfl ?_
  intro ls1 hl1
  refine lv_iconst hx hb (v := jI 3) dL_seek_23 rfl ?_
  exact x_wend hx hb hlocks hK hR ⟨x0, hO.kept (hS1.2.1 o (Array.getElem?_eq_some_iff.mp hO.choose_spec.1).1 hA)⟩ hS hr (Nat.le_refl _) (Nat.le_refl _) dL_seek_24
abbrev rmL_read : Room := { frames := max rmX3_read.frames rmTX3_read.frames + 1, cells := 1, slots := 6, locals := 8 + (9 + 11) + max rmX3_read.locals rmTX3_read.locals }
abbrev hhL_read : List (Nat × Nat × Nat × Nat) := [(0, 10, 13, 13), (0, 10, 17, 15), (0, 10, 21, 17)]
theorem hyL_read : yX3_read.cls = RX3 ∧ yX3_read.cls ≠ "java/lang/invoke/MethodHandle" ∧ yX3_read.cls ≠ "java/lang/invoke/VarHandle" ∧ (parseMethodDescriptor yX3_read.desc).map (fun d => d.parameters.length) = some 2 := by decide +kernel
set_option maxHeartbeats 4000000 in
set_option maxRecDepth 100000 in
theorem nL_read {l : Launch} {g : Gx} {b o : Nat} {p0 : Int} {p1 : Int} {M M' : Mm} {r : Int} (hC : Ct l yX3_read cX3_read 9 (some .int) rmX3_read g b [.ref (adr b 0 0), .int (jI p0), .int (jI p1)] M (qI g b r M')) : Lt l yL_read cL_read 5 hhL_read rmL_read g b o [.ref (adr b 0 0), .int (jI p0), .int (jI p1), .ref o] M (OLp g b o) 0 M' (OL g o (jI r).toInt64) := by
  refine lt_of (by decide +kernel) (Nat.le_of_ble_eq_true rfl) ?_
  intro p e s m args below meth c C0 hTH hNP hPre hTab hR ls hl
  obtain ⟨hx, hb, hr, hlocks, hml, hown, hts, hK⟩ := id C0
  have hS : va_S (AA b s.heap.size) s.heap s.heap [] := va_S.rf
  have hl : lv_has ls 5 [(0, .ref (adr b 0 0)), (1, .int (jI p0)), (2, .int (jI p1)), (3, .ref o)] := hl
  obtain ⟨H, hH⟩ : ∃ z, z = s.heap := ⟨_, rfl⟩
  obtain ⟨locs, hlo⟩ : ∃ z : List Loc, z = [] := ⟨_, rfl⟩
  have hR : Rel g b M H := by rw [hH]; exact hR
  have hS : va_S (AA b s.heap.size) s.heap H locs := by rw [hH, hlo]; exact hS
  obtain ⟨⟨x0, hO⟩, hA⟩ := hPre
  suffices hW : W p l e rmL_read s m args below meth c H locs 0 0 (vx_MQ below (wqI g b 0 M' (OL g o (jI r).toInt64) o s.heap.size) noX args s 1 6 (AO b o s.heap.size)) (F0 m 0 ls []) by rw [hH, hlo] at hW; exact hW
  refine lv_aload_n hx hb dL_read_0 rfl (lv_at hl 3 rfl) ?_
  refine lv_iconst hx hb (v := jI 0) dL_read_1 rfl ?_
  refine lv_aload_n hx hb dL_read_2 rfl (lv_at hl 0 rfl) ?_
  refine lv_iload_n hx hb dL_read_3 rfl (lv_at hl 1 rfl) ?_
  refine lv_iload_n hx hb dL_read_4 rfl (lv_at hl 2 rfl) ?_
  refine x_cVi (As := [.int (jI p0), .int (jI p1)]) (rest := [.int (jI 0), .ref o]) hx hb hml hown hts hK hR hS hC ok0 rfl (ci := 3) (C := RX3) (T := TX3) (N := 9) rfl wd657 wd658 wd659 wd1 wd660 hyL_read ⟨rfl, rfl⟩ ⟨Nat.le_trans (Nat.succ_le_succ (Nat.le_max_left _ _)) (Nat.le_refl _), Nat.add_le_add_left (Nat.le_max_left _ _) _⟩ hl.1 (Nat.le_of_ble_eq_true rfl) dL_read_5 ⟨Nat.zero_le _, Nat.zero_le _⟩ rfl ?_
  intro hr0 H1 locs1 hR hS1
  have hO1 : ∃ x, OL g o x H1 := ⟨x0, hO.kept (hS1.2.1 o (Array.getElem?_eq_some_iff.mp hO.choose_spec.1).1 hA)⟩
  have hS := AO_S (o := o) hS1
  refine lv_i2l hx hb dL_read_8 rfl ?_
  refine x_wst hx hb hK hR hO1 hA hS dL_read_9 ?_
  intro H2 locs2 hR hO2 hS
  refine lv_goto (tgt := 25) hx hb dL_read_10 rfl ?_
  refine lv_iconst hx hb (v := jI 0) dL_read_25 rfl ?_
  exact x_wend hx hb hlocks hK hR hO2 hS hr (Nat.zero_le _) (Nat.zero_le _) dL_read_26
set_option maxHeartbeats 4000000 in
set_option maxRecDepth 100000 in
theorem tL_read_1 {l : Launch} {g : Gx} {b o : Nat} {p0 : Int} {p1 : Int} {M : Mm} (hC : Tt l yX3_read cX3_read 9 (some .int) rmTX3_read g b [.ref (adr b 0 0), .int (jI p0), .int (jI p1)] M 1) : Lt l yL_read cL_read 5 hhL_read rmL_read g b o [.ref (adr b 0 0), .int (jI p0), .int (jI p1), .ref o] M (OLp g b o) 1 M (fun H => ∃ x, OL g o x H) := by
  refine lt_of (by decide +kernel) (Nat.le_of_ble_eq_true rfl) ?_
  intro p e s m args below meth c C0 hTH hNP hPre hTab hR ls hl
  obtain ⟨hx, hb, hr, hlocks, hml, hown, hts, hK⟩ := id C0
  have hS : va_S (AA b s.heap.size) s.heap s.heap [] := va_S.rf
  have hl : lv_has ls 5 [(0, .ref (adr b 0 0)), (1, .int (jI p0)), (2, .int (jI p1)), (3, .ref o)] := hl
  obtain ⟨H, hH⟩ : ∃ z, z = s.heap := ⟨_, rfl⟩
  obtain ⟨locs, hlo⟩ : ∃ z : List Loc, z = [] := ⟨_, rfl⟩
  have hR : Rel g b M H := by rw [hH]; exact hR
  have hS : va_S (AA b s.heap.size) s.heap H locs := by rw [hH, hlo]; exact hS
  obtain ⟨⟨x0, hO⟩, hA⟩ := hPre
  suffices hW : W p l e rmL_read s m args below meth c H locs 0 0 (vx_MQ below (wqI g b 1 M (fun H => ∃ x, OL g o x H) o s.heap.size) noX args s 1 6 (AO b o s.heap.size)) (F0 m 0 ls []) by rw [hH, hlo] at hW; exact hW
  refine lv_aload_n hx hb dL_read_0 rfl (lv_at hl 3 rfl) ?_
  refine lv_iconst hx hb (v := jI 0) dL_read_1 rfl ?_
  refine lv_aload_n hx hb dL_read_2 rfl (lv_at hl 0 rfl) ?_
  refine lv_iload_n hx hb dL_read_3 rfl (lv_at hl 1 rfl) ?_
  refine lv_iload_n hx hb dL_read_4 rfl (lv_at hl 2 rfl) ?_
  refine x_tC (As := [.int (jI p0), .int (jI p1)]) (rest := [.int (jI 0), .ref o]) hx hb hml hown hts hK hTH hR hS hC wd657 wd658 wd659 wd1 wd660 hyL_read ⟨rfl, rfl⟩ ⟨Nat.le_trans (Nat.succ_le_succ (Nat.le_max_right _ _)) (Nat.le_refl _), Nat.add_le_add_left (Nat.le_max_right _ _) _⟩ hl.1 (Nat.le_of_ble_eq_true rfl) dL_read_5 ⟨Nat.le_refl _, Nat.le_refl _⟩ rfl ?_
  intro H1 locs1 q ce hR hS1 hce hcv hcl
  have hS := AO_S (o := o) hS1
  refine vx_catch (name := exN 1) hown [] ⟨0, 10, 13, 13⟩ [⟨0, 10, 17, 15⟩, ⟨0, 10, 21, 17⟩] hTab (fun z hz => by cases hz) (by decide +kernel) (by decide) (hts _ wd178) hTH.2.2.1 hce hcv hcl ?_
  refine lv_astore hx hb dL_read_13 hl (by decide) rfl ?_
  intro ls1 hl1
  refine lv_iconst hx hb (v := jI 1) dL_read_15 rfl ?_
  exact x_wend hx hb hlocks hK hR ⟨x0, hO.kept (hS1.2.1 o (Array.getElem?_eq_some_iff.mp hO.choose_spec.1).1 hA)⟩ hS hr (Nat.le_refl _) (Nat.le_refl _) dL_read_16
set_option maxHeartbeats 4000000 in
set_option maxRecDepth 100000 in
theorem tL_read_2 {l : Launch} {g : Gx} {b o : Nat} {p0 : Int} {p1 : Int} {M : Mm} (hC : Tt l yX3_read cX3_read 9 (some .int) rmTX3_read g b [.ref (adr b 0 0), .int (jI p0), .int (jI p1)] M 2) : Lt l yL_read cL_read 5 hhL_read rmL_read g b o [.ref (adr b 0 0), .int (jI p0), .int (jI p1), .ref o] M (OLp g b o) 2 M (fun H => ∃ x, OL g o x H) := by
  refine lt_of (by decide +kernel) (Nat.le_of_ble_eq_true rfl) ?_
  intro p e s m args below meth c C0 hTH hNP hPre hTab hR ls hl
  obtain ⟨hx, hb, hr, hlocks, hml, hown, hts, hK⟩ := id C0
  have hS : va_S (AA b s.heap.size) s.heap s.heap [] := va_S.rf
  have hl : lv_has ls 5 [(0, .ref (adr b 0 0)), (1, .int (jI p0)), (2, .int (jI p1)), (3, .ref o)] := hl
  obtain ⟨H, hH⟩ : ∃ z, z = s.heap := ⟨_, rfl⟩
  obtain ⟨locs, hlo⟩ : ∃ z : List Loc, z = [] := ⟨_, rfl⟩
  have hR : Rel g b M H := by rw [hH]; exact hR
  have hS : va_S (AA b s.heap.size) s.heap H locs := by rw [hH, hlo]; exact hS
  obtain ⟨⟨x0, hO⟩, hA⟩ := hPre
  suffices hW : W p l e rmL_read s m args below meth c H locs 0 0 (vx_MQ below (wqI g b 2 M (fun H => ∃ x, OL g o x H) o s.heap.size) noX args s 1 6 (AO b o s.heap.size)) (F0 m 0 ls []) by rw [hH, hlo] at hW; exact hW
  refine lv_aload_n hx hb dL_read_0 rfl (lv_at hl 3 rfl) ?_
  refine lv_iconst hx hb (v := jI 0) dL_read_1 rfl ?_
  refine lv_aload_n hx hb dL_read_2 rfl (lv_at hl 0 rfl) ?_
  refine lv_iload_n hx hb dL_read_3 rfl (lv_at hl 1 rfl) ?_
  refine lv_iload_n hx hb dL_read_4 rfl (lv_at hl 2 rfl) ?_
  refine x_tC (As := [.int (jI p0), .int (jI p1)]) (rest := [.int (jI 0), .ref o]) hx hb hml hown hts hK hTH hR hS hC wd657 wd658 wd659 wd1 wd660 hyL_read ⟨rfl, rfl⟩ ⟨Nat.le_trans (Nat.succ_le_succ (Nat.le_max_right _ _)) (Nat.le_refl _), Nat.add_le_add_left (Nat.le_max_right _ _) _⟩ hl.1 (Nat.le_of_ble_eq_true rfl) dL_read_5 ⟨Nat.le_refl _, Nat.le_refl _⟩ rfl ?_
  intro H1 locs1 q ce hR hS1 hce hcv hcl
  have hS := AO_S (o := o) hS1
  refine vx_catch (name := exN 2) hown [⟨0, 10, 13, 13⟩] ⟨0, 10, 17, 15⟩ [⟨0, 10, 21, 17⟩] hTab (by intro z hz; simp only [List.mem_cons, List.not_mem_nil, or_false] at hz; rcases hz with rfl; exact Or.inr ⟨by decide, exN 1, hts _ wd178, hNP.1⟩) (by decide +kernel) (by decide) (hts _ wd179) hTH.2.2.2.1 hce hcv hcl ?_
  refine lv_astore hx hb dL_read_17 hl (by decide) rfl ?_
  intro ls1 hl1
  refine lv_iconst hx hb (v := jI 2) dL_read_19 rfl ?_
  exact x_wend hx hb hlocks hK hR ⟨x0, hO.kept (hS1.2.1 o (Array.getElem?_eq_some_iff.mp hO.choose_spec.1).1 hA)⟩ hS hr (Nat.le_refl _) (Nat.le_refl _) dL_read_20
set_option maxHeartbeats 4000000 in
set_option maxRecDepth 100000 in
theorem tL_read_3 {l : Launch} {g : Gx} {b o : Nat} {p0 : Int} {p1 : Int} {M : Mm} (hC : Tt l yX3_read cX3_read 9 (some .int) rmTX3_read g b [.ref (adr b 0 0), .int (jI p0), .int (jI p1)] M 3) : Lt l yL_read cL_read 5 hhL_read rmL_read g b o [.ref (adr b 0 0), .int (jI p0), .int (jI p1), .ref o] M (OLp g b o) 3 M (fun H => ∃ x, OL g o x H) := by
  refine lt_of (by decide +kernel) (Nat.le_of_ble_eq_true rfl) ?_
  intro p e s m args below meth c C0 hTH hNP hPre hTab hR ls hl
  obtain ⟨hx, hb, hr, hlocks, hml, hown, hts, hK⟩ := id C0
  have hS : va_S (AA b s.heap.size) s.heap s.heap [] := va_S.rf
  have hl : lv_has ls 5 [(0, .ref (adr b 0 0)), (1, .int (jI p0)), (2, .int (jI p1)), (3, .ref o)] := hl
  obtain ⟨H, hH⟩ : ∃ z, z = s.heap := ⟨_, rfl⟩
  obtain ⟨locs, hlo⟩ : ∃ z : List Loc, z = [] := ⟨_, rfl⟩
  have hR : Rel g b M H := by rw [hH]; exact hR
  have hS : va_S (AA b s.heap.size) s.heap H locs := by rw [hH, hlo]; exact hS
  obtain ⟨⟨x0, hO⟩, hA⟩ := hPre
  suffices hW : W p l e rmL_read s m args below meth c H locs 0 0 (vx_MQ below (wqI g b 3 M (fun H => ∃ x, OL g o x H) o s.heap.size) noX args s 1 6 (AO b o s.heap.size)) (F0 m 0 ls []) by rw [hH, hlo] at hW; exact hW
  refine lv_aload_n hx hb dL_read_0 rfl (lv_at hl 3 rfl) ?_
  refine lv_iconst hx hb (v := jI 0) dL_read_1 rfl ?_
  refine lv_aload_n hx hb dL_read_2 rfl (lv_at hl 0 rfl) ?_
  refine lv_iload_n hx hb dL_read_3 rfl (lv_at hl 1 rfl) ?_
  refine lv_iload_n hx hb dL_read_4 rfl (lv_at hl 2 rfl) ?_
  refine x_tC (As := [.int (jI p0), .int (jI p1)]) (rest := [.int (jI 0), .ref o]) hx hb hml hown hts hK hTH hR hS hC wd657 wd658 wd659 wd1 wd660 hyL_read ⟨rfl, rfl⟩ ⟨Nat.le_trans (Nat.succ_le_succ (Nat.le_max_right _ _)) (Nat.le_refl _), Nat.add_le_add_left (Nat.le_max_right _ _) _⟩ hl.1 (Nat.le_of_ble_eq_true rfl) dL_read_5 ⟨Nat.le_refl _, Nat.le_refl _⟩ rfl ?_
  intro H1 locs1 q ce hR hS1 hce hcv hcl
  have hS := AO_S (o := o) hS1
  refine vx_catch (name := exN 3) hown [⟨0, 10, 13, 13⟩, ⟨0, 10, 17, 15⟩] ⟨0, 10, 21, 17⟩ [] hTab (by
      intro z hz
      simp only [List.mem_cons, List.not_mem_nil, or_false] at hz
      rcases hz with rfl | rfl
      · exact Or.inr ⟨by decide, exN 1, hts _ wd178, hNP.2.1⟩
      · exact Or.inr ⟨by decide, exN 2, hts _ wd179, hNP.2.2⟩) (by decide +kernel) (by decide) (hts _ wd180) hTH.2.2.2.2.1 hce hcv hcl ?_
  refine lv_astore hx hb dL_read_21 hl (by decide) rfl ?_
  intro ls1 hl1
  refine lv_iconst hx hb (v := jI 3) dL_read_23 rfl ?_
  exact x_wend hx hb hlocks hK hR ⟨x0, hO.kept (hS1.2.1 o (Array.getElem?_eq_some_iff.mp hO.choose_spec.1).1 hA)⟩ hS hr (Nat.le_refl _) (Nat.le_refl _) dL_read_24
abbrev rmL_lock : Room := { frames := max rmX3_lock.frames rmTX3_lock.frames + 1, cells := 1, slots := 6, locals := 8 + (6 + 11) + max rmX3_lock.locals rmTX3_lock.locals }
abbrev hhL_lock : List (Nat × Nat × Nat × Nat) := [(0, 21, 24, 13), (0, 21, 28, 15), (0, 21, 32, 17)]
theorem hyL_lock : yX3_lock.cls = RX3 ∧ yX3_lock.cls ≠ "java/lang/invoke/MethodHandle" ∧ yX3_lock.cls ≠ "java/lang/invoke/VarHandle" ∧ (parseMethodDescriptor yX3_lock.desc).map (fun d => d.parameters.length) = some 4 := by decide +kernel
set_option maxHeartbeats 4000000 in
set_option maxRecDepth 100000 in
theorem nL_lock {l : Launch} {g : Gx} {b o : Nat} {p0 : Int} {p1 : Int} {p2 : Int} {p3 : Int} {M M' : Mm} {r : Int} (hC : Ct l yX3_lock cX3_lock 6 (some .boolean) rmX3_lock g b [.ref (adr b 0 0), .int (jI p0), .int (jI p1), .int (jI p2), .int (jI p3)] M (qI g b r M')) : Lt l yL_lock cL_lock 7 hhL_lock rmL_lock g b o [.ref (adr b 0 0), .int (jI p0), .int (jI p1), .int (jI p2), .int (jI p3), .ref o] M (OLp g b o) 0 M' (OL g o (if r = 0 then 0 else 1)) := by
  refine lt_of (by decide +kernel) (Nat.le_of_ble_eq_true rfl) ?_
  intro p e s m args below meth c C0 hTH hNP hPre hTab hR ls hl
  obtain ⟨hx, hb, hr, hlocks, hml, hown, hts, hK⟩ := id C0
  have hS : va_S (AA b s.heap.size) s.heap s.heap [] := va_S.rf
  have hl : lv_has ls 7 [(0, .ref (adr b 0 0)), (1, .int (jI p0)), (2, .int (jI p1)), (3, .int (jI p2)), (4, .int (jI p3)), (5, .ref o)] := hl
  obtain ⟨H, hH⟩ : ∃ z, z = s.heap := ⟨_, rfl⟩
  obtain ⟨locs, hlo⟩ : ∃ z : List Loc, z = [] := ⟨_, rfl⟩
  have hR : Rel g b M H := by rw [hH]; exact hR
  have hS : va_S (AA b s.heap.size) s.heap H locs := by rw [hH, hlo]; exact hS
  obtain ⟨⟨x0, hO⟩, hA⟩ := hPre
  suffices hW : W p l e rmL_lock s m args below meth c H locs 0 0 (vx_MQ below (wqI g b 0 M' (OL g o (if r = 0 then 0 else 1)) o s.heap.size) noX args s 1 6 (AO b o s.heap.size)) (F0 m 0 ls []) by rw [hH, hlo] at hW; exact hW
  refine lv_aload hx hb dL_lock_0 (lv_at hl 5 rfl) ?_
  refine lv_iconst hx hb (v := jI 0) dL_lock_2 rfl ?_
  refine lv_aload_n hx hb dL_lock_3 rfl (lv_at hl 0 rfl) ?_
  refine lv_iload_n hx hb dL_lock_4 rfl (lv_at hl 1 rfl) ?_
  refine lv_iload_n hx hb dL_lock_5 rfl (lv_at hl 2 rfl) ?_
  refine lv_iload_n hx hb dL_lock_6 rfl (lv_at hl 3 rfl) ?_
  refine lv_iload hx hb dL_lock_7 (lv_at hl 4 rfl) ?_
  refine x_cVi (As := [.int (jI p0), .int (jI p1), .int (jI p2), .int (jI p3)]) (rest := [.int (jI 0), .ref o]) hx hb hml hown hts hK hR hS hC ok0 rfl (ci := 3) (C := RX3) (T := TX3) (N := 9) rfl wd673 wd674 wd675 wd1 wd676 hyL_lock ⟨rfl, rfl⟩ ⟨Nat.le_trans (Nat.succ_le_succ (Nat.le_max_left _ _)) (Nat.le_refl _), Nat.add_le_add_left (Nat.le_max_left _ _) _⟩ hl.1 (Nat.le_of_ble_eq_true rfl) dL_lock_9 ⟨Nat.zero_le _, Nat.zero_le _⟩ rfl ?_
  intro hr0 H1 locs1 hR hS1
  have hO1 : ∃ x, OL g o x H1 := ⟨x0, hO.kept (hS1.2.1 o (Array.getElem?_eq_some_iff.mp hO.choose_spec.1).1 hA)⟩
  have hS := AO_S (o := o) hS1
  refine lv_if_eq (tgt := 19) hx hb dL_lock_12 rfl (fun ci => ?_) (fun ci => ?_)
  · have c0 : r = 0 := (jI_eq hr0 rg_0).mp (ci.trans jI_0.symm)
    rw [if_pos c0]
    refine lv_lconst hx hb (v := 0) dL_lock_19 rfl ?_
    refine x_wst hx hb hK hR hO1 hA hS dL_lock_20 ?_
    intro H2 locs2 hR hO2 hS
    refine lv_goto (tgt := 36) hx hb dL_lock_21 rfl ?_
    refine lv_iconst hx hb (v := jI 0) dL_lock_36 rfl ?_
    exact x_wend hx hb hlocks hK hR hO2 hS hr (Nat.zero_le _) (Nat.zero_le _) dL_lock_37
  · have c0 : ¬ r = 0 := fun z => ci (by rw [z]; exact jI_0)
    rw [if_neg c0]
    refine lv_lconst hx hb (v := 1) dL_lock_15 rfl ?_
    refine lv_goto (tgt := 20) hx hb dL_lock_16 rfl ?_
    refine x_wst hx hb hK hR hO1 hA hS dL_lock_20 ?_
    intro H2 locs2 hR hO2 hS
    refine lv_goto (tgt := 36) hx hb dL_lock_21 rfl ?_
    refine lv_iconst hx hb (v := jI 0) dL_lock_36 rfl ?_
    exact x_wend hx hb hlocks hK hR hO2 hS hr (Nat.zero_le _) (Nat.zero_le _) dL_lock_37
set_option maxHeartbeats 4000000 in
set_option maxRecDepth 100000 in
theorem tL_lock_1 {l : Launch} {g : Gx} {b o : Nat} {p0 : Int} {p1 : Int} {p2 : Int} {p3 : Int} {M : Mm} (hC : Tt l yX3_lock cX3_lock 6 (some .boolean) rmTX3_lock g b [.ref (adr b 0 0), .int (jI p0), .int (jI p1), .int (jI p2), .int (jI p3)] M 1) : Lt l yL_lock cL_lock 7 hhL_lock rmL_lock g b o [.ref (adr b 0 0), .int (jI p0), .int (jI p1), .int (jI p2), .int (jI p3), .ref o] M (OLp g b o) 1 M (fun H => ∃ x, OL g o x H) := by
  refine lt_of (by decide +kernel) (Nat.le_of_ble_eq_true rfl) ?_
  intro p e s m args below meth c C0 hTH hNP hPre hTab hR ls hl
  obtain ⟨hx, hb, hr, hlocks, hml, hown, hts, hK⟩ := id C0
  have hS : va_S (AA b s.heap.size) s.heap s.heap [] := va_S.rf
  have hl : lv_has ls 7 [(0, .ref (adr b 0 0)), (1, .int (jI p0)), (2, .int (jI p1)), (3, .int (jI p2)), (4, .int (jI p3)), (5, .ref o)] := hl
  obtain ⟨H, hH⟩ : ∃ z, z = s.heap := ⟨_, rfl⟩
  obtain ⟨locs, hlo⟩ : ∃ z : List Loc, z = [] := ⟨_, rfl⟩
  have hR : Rel g b M H := by rw [hH]; exact hR
  have hS : va_S (AA b s.heap.size) s.heap H locs := by rw [hH, hlo]; exact hS
  obtain ⟨⟨x0, hO⟩, hA⟩ := hPre
  suffices hW : W p l e rmL_lock s m args below meth c H locs 0 0 (vx_MQ below (wqI g b 1 M (fun H => ∃ x, OL g o x H) o s.heap.size) noX args s 1 6 (AO b o s.heap.size)) (F0 m 0 ls []) by rw [hH, hlo] at hW; exact hW
  refine lv_aload hx hb dL_lock_0 (lv_at hl 5 rfl) ?_
  refine lv_iconst hx hb (v := jI 0) dL_lock_2 rfl ?_
  refine lv_aload_n hx hb dL_lock_3 rfl (lv_at hl 0 rfl) ?_
  refine lv_iload_n hx hb dL_lock_4 rfl (lv_at hl 1 rfl) ?_
  refine lv_iload_n hx hb dL_lock_5 rfl (lv_at hl 2 rfl) ?_
  refine lv_iload_n hx hb dL_lock_6 rfl (lv_at hl 3 rfl) ?_
  refine lv_iload hx hb dL_lock_7 (lv_at hl 4 rfl) ?_
  refine x_tC (As := [.int (jI p0), .int (jI p1), .int (jI p2), .int (jI p3)]) (rest := [.int (jI 0), .ref o]) hx hb hml hown hts hK hTH hR hS hC wd673 wd674 wd675 wd1 wd676 hyL_lock ⟨rfl, rfl⟩ ⟨Nat.le_trans (Nat.succ_le_succ (Nat.le_max_right _ _)) (Nat.le_refl _), Nat.add_le_add_left (Nat.le_max_right _ _) _⟩ hl.1 (Nat.le_of_ble_eq_true rfl) dL_lock_9 ⟨Nat.le_refl _, Nat.le_refl _⟩ rfl ?_
  intro H1 locs1 q ce hR hS1 hce hcv hcl
  have hS := AO_S (o := o) hS1
  refine vx_catch (name := exN 1) hown [] ⟨0, 21, 24, 13⟩ [⟨0, 21, 28, 15⟩, ⟨0, 21, 32, 17⟩] hTab (fun z hz => by cases hz) (by decide +kernel) (by decide) (hts _ wd178) hTH.2.2.1 hce hcv hcl ?_
  refine lv_astore hx hb dL_lock_24 hl (by decide) rfl ?_
  intro ls1 hl1
  refine lv_iconst hx hb (v := jI 1) dL_lock_26 rfl ?_
  exact x_wend hx hb hlocks hK hR ⟨x0, hO.kept (hS1.2.1 o (Array.getElem?_eq_some_iff.mp hO.choose_spec.1).1 hA)⟩ hS hr (Nat.le_refl _) (Nat.le_refl _) dL_lock_27
set_option maxHeartbeats 4000000 in
set_option maxRecDepth 100000 in
theorem tL_lock_2 {l : Launch} {g : Gx} {b o : Nat} {p0 : Int} {p1 : Int} {p2 : Int} {p3 : Int} {M : Mm} (hC : Tt l yX3_lock cX3_lock 6 (some .boolean) rmTX3_lock g b [.ref (adr b 0 0), .int (jI p0), .int (jI p1), .int (jI p2), .int (jI p3)] M 2) : Lt l yL_lock cL_lock 7 hhL_lock rmL_lock g b o [.ref (adr b 0 0), .int (jI p0), .int (jI p1), .int (jI p2), .int (jI p3), .ref o] M (OLp g b o) 2 M (fun H => ∃ x, OL g o x H) := by
  refine lt_of (by decide +kernel) (Nat.le_of_ble_eq_true rfl) ?_
  intro p e s m args below meth c C0 hTH hNP hPre hTab hR ls hl
  obtain ⟨hx, hb, hr, hlocks, hml, hown, hts, hK⟩ := id C0
  have hS : va_S (AA b s.heap.size) s.heap s.heap [] := va_S.rf
  have hl : lv_has ls 7 [(0, .ref (adr b 0 0)), (1, .int (jI p0)), (2, .int (jI p1)), (3, .int (jI p2)), (4, .int (jI p3)), (5, .ref o)] := hl
  obtain ⟨H, hH⟩ : ∃ z, z = s.heap := ⟨_, rfl⟩
  obtain ⟨locs, hlo⟩ : ∃ z : List Loc, z = [] := ⟨_, rfl⟩
  have hR : Rel g b M H := by rw [hH]; exact hR
  have hS : va_S (AA b s.heap.size) s.heap H locs := by rw [hH, hlo]; exact hS
  obtain ⟨⟨x0, hO⟩, hA⟩ := hPre
  suffices hW : W p l e rmL_lock s m args below meth c H locs 0 0 (vx_MQ below (wqI g b 2 M (fun H => ∃ x, OL g o x H) o s.heap.size) noX args s 1 6 (AO b o s.heap.size)) (F0 m 0 ls []) by rw [hH, hlo] at hW; exact hW
  refine lv_aload hx hb dL_lock_0 (lv_at hl 5 rfl) ?_
  refine lv_iconst hx hb (v := jI 0) dL_lock_2 rfl ?_
  refine lv_aload_n hx hb dL_lock_3 rfl (lv_at hl 0 rfl) ?_
  refine lv_iload_n hx hb dL_lock_4 rfl (lv_at hl 1 rfl) ?_
  refine lv_iload_n hx hb dL_lock_5 rfl (lv_at hl 2 rfl) ?_
  refine lv_iload_n hx hb dL_lock_6 rfl (lv_at hl 3 rfl) ?_
  refine lv_iload hx hb dL_lock_7 (lv_at hl 4 rfl) ?_
  refine x_tC (As := [.int (jI p0), .int (jI p1), .int (jI p2), .int (jI p3)]) (rest := [.int (jI 0), .ref o]) hx hb hml hown hts hK hTH hR hS hC wd673 wd674 wd675 wd1 wd676 hyL_lock ⟨rfl, rfl⟩ ⟨Nat.le_trans (Nat.succ_le_succ (Nat.le_max_right _ _)) (Nat.le_refl _), Nat.add_le_add_left (Nat.le_max_right _ _) _⟩ hl.1 (Nat.le_of_ble_eq_true rfl) dL_lock_9 ⟨Nat.le_refl _, Nat.le_refl _⟩ rfl ?_
  intro H1 locs1 q ce hR hS1 hce hcv hcl
  have hS := AO_S (o := o) hS1
  refine vx_catch (name := exN 2) hown [⟨0, 21, 24, 13⟩] ⟨0, 21, 28, 15⟩ [⟨0, 21, 32, 17⟩] hTab (by intro z hz; simp only [List.mem_cons, List.not_mem_nil, or_false] at hz; rcases hz with rfl; exact Or.inr ⟨by decide, exN 1, hts _ wd178, hNP.1⟩) (by decide +kernel) (by decide) (hts _ wd179) hTH.2.2.2.1 hce hcv hcl ?_
  refine lv_astore hx hb dL_lock_28 hl (by decide) rfl ?_
  intro ls1 hl1
  refine lv_iconst hx hb (v := jI 2) dL_lock_30 rfl ?_
  exact x_wend hx hb hlocks hK hR ⟨x0, hO.kept (hS1.2.1 o (Array.getElem?_eq_some_iff.mp hO.choose_spec.1).1 hA)⟩ hS hr (Nat.le_refl _) (Nat.le_refl _) dL_lock_31
set_option maxHeartbeats 4000000 in
set_option maxRecDepth 100000 in
theorem tL_lock_3 {l : Launch} {g : Gx} {b o : Nat} {p0 : Int} {p1 : Int} {p2 : Int} {p3 : Int} {M : Mm} (hC : Tt l yX3_lock cX3_lock 6 (some .boolean) rmTX3_lock g b [.ref (adr b 0 0), .int (jI p0), .int (jI p1), .int (jI p2), .int (jI p3)] M 3) : Lt l yL_lock cL_lock 7 hhL_lock rmL_lock g b o [.ref (adr b 0 0), .int (jI p0), .int (jI p1), .int (jI p2), .int (jI p3), .ref o] M (OLp g b o) 3 M (fun H => ∃ x, OL g o x H) := by
  refine lt_of (by decide +kernel) (Nat.le_of_ble_eq_true rfl) ?_
  intro p e s m args below meth c C0 hTH hNP hPre hTab hR ls hl
  obtain ⟨hx, hb, hr, hlocks, hml, hown, hts, hK⟩ := id C0
  have hS : va_S (AA b s.heap.size) s.heap s.heap [] := va_S.rf
  have hl : lv_has ls 7 [(0, .ref (adr b 0 0)), (1, .int (jI p0)), (2, .int (jI p1)), (3, .int (jI p2)), (4, .int (jI p3)), (5, .ref o)] := hl
  obtain ⟨H, hH⟩ : ∃ z, z = s.heap := ⟨_, rfl⟩
  obtain ⟨locs, hlo⟩ : ∃ z : List Loc, z = [] := ⟨_, rfl⟩
  have hR : Rel g b M H := by rw [hH]; exact hR
  have hS : va_S (AA b s.heap.size) s.heap H locs := by rw [hH, hlo]; exact hS
  obtain ⟨⟨x0, hO⟩, hA⟩ := hPre
  suffices hW : W p l e rmL_lock s m args below meth c H locs 0 0 (vx_MQ below (wqI g b 3 M (fun H => ∃ x, OL g o x H) o s.heap.size) noX args s 1 6 (AO b o s.heap.size)) (F0 m 0 ls []) by rw [hH, hlo] at hW; exact hW
  refine lv_aload hx hb dL_lock_0 (lv_at hl 5 rfl) ?_
  refine lv_iconst hx hb (v := jI 0) dL_lock_2 rfl ?_
  refine lv_aload_n hx hb dL_lock_3 rfl (lv_at hl 0 rfl) ?_
  refine lv_iload_n hx hb dL_lock_4 rfl (lv_at hl 1 rfl) ?_
  refine lv_iload_n hx hb dL_lock_5 rfl (lv_at hl 2 rfl) ?_
  refine lv_iload_n hx hb dL_lock_6 rfl (lv_at hl 3 rfl) ?_
  refine lv_iload hx hb dL_lock_7 (lv_at hl 4 rfl) ?_
  refine x_tC (As := [.int (jI p0), .int (jI p1), .int (jI p2), .int (jI p3)]) (rest := [.int (jI 0), .ref o]) hx hb hml hown hts hK hTH hR hS hC wd673 wd674 wd675 wd1 wd676 hyL_lock ⟨rfl, rfl⟩ ⟨Nat.le_trans (Nat.succ_le_succ (Nat.le_max_right _ _)) (Nat.le_refl _), Nat.add_le_add_left (Nat.le_max_right _ _) _⟩ hl.1 (Nat.le_of_ble_eq_true rfl) dL_lock_9 ⟨Nat.le_refl _, Nat.le_refl _⟩ rfl ?_
  intro H1 locs1 q ce hR hS1 hce hcv hcl
  have hS := AO_S (o := o) hS1
  refine vx_catch (name := exN 3) hown [⟨0, 21, 24, 13⟩, ⟨0, 21, 28, 15⟩] ⟨0, 21, 32, 17⟩ [] hTab (by
      intro z hz
      simp only [List.mem_cons, List.not_mem_nil, or_false] at hz
      rcases hz with rfl | rfl
      · exact Or.inr ⟨by decide, exN 1, hts _ wd178, hNP.2.1⟩
      · exact Or.inr ⟨by decide, exN 2, hts _ wd179, hNP.2.2⟩) (by decide +kernel) (by decide) (hts _ wd180) hTH.2.2.2.2.1 hce hcv hcl ?_
  refine lv_astore hx hb dL_lock_32 hl (by decide) rfl ?_
  intro ls1 hl1
  refine lv_iconst hx hb (v := jI 3) dL_lock_34 rfl ?_
  exact x_wend hx hb hlocks hK hR ⟨x0, hO.kept (hS1.2.1 o (Array.getElem?_eq_some_iff.mp hO.choose_spec.1).1 hA)⟩ hS hr (Nat.le_refl _) (Nat.le_refl _) dL_lock_35
abbrev rmL_unlock : Room := { frames := max rmX3_unlock.frames rmTX3_unlock.frames + 1, cells := 1, slots := 6, locals := 8 + (5 + 11) + max rmX3_unlock.locals rmTX3_unlock.locals }
abbrev hhL_unlock : List (Nat × Nat × Nat × Nat) := [(0, 12, 15, 13), (0, 12, 19, 15), (0, 12, 23, 17)]
theorem hyL_unlock : yX3_unlock.cls = RX3 ∧ yX3_unlock.cls ≠ "java/lang/invoke/MethodHandle" ∧ yX3_unlock.cls ≠ "java/lang/invoke/VarHandle" ∧ (parseMethodDescriptor yX3_unlock.desc).map (fun d => d.parameters.length) = some 3 := by decide +kernel
set_option maxHeartbeats 4000000 in
set_option maxRecDepth 100000 in
theorem nL_unlock {l : Launch} {g : Gx} {b o : Nat} {p0 : Int} {p1 : Int} {p2 : Int} {M M' : Mm} {r : Int} (hC : Ct l yX3_unlock cX3_unlock 5 (some .int) rmX3_unlock g b [.ref (adr b 0 0), .int (jI p0), .int (jI p1), .int (jI p2)] M (qI g b r M')) : Lt l yL_unlock cL_unlock 6 hhL_unlock rmL_unlock g b o [.ref (adr b 0 0), .int (jI p0), .int (jI p1), .int (jI p2), .ref o] M (OLp g b o) 0 M' (OL g o (jI r).toInt64) := by
  refine lt_of (by decide +kernel) (Nat.le_of_ble_eq_true rfl) ?_
  intro p e s m args below meth c C0 hTH hNP hPre hTab hR ls hl
  obtain ⟨hx, hb, hr, hlocks, hml, hown, hts, hK⟩ := id C0
  have hS : va_S (AA b s.heap.size) s.heap s.heap [] := va_S.rf
  have hl : lv_has ls 6 [(0, .ref (adr b 0 0)), (1, .int (jI p0)), (2, .int (jI p1)), (3, .int (jI p2)), (4, .ref o)] := hl
  obtain ⟨H, hH⟩ : ∃ z, z = s.heap := ⟨_, rfl⟩
  obtain ⟨locs, hlo⟩ : ∃ z : List Loc, z = [] := ⟨_, rfl⟩
  have hR : Rel g b M H := by rw [hH]; exact hR
  have hS : va_S (AA b s.heap.size) s.heap H locs := by rw [hH, hlo]; exact hS
  obtain ⟨⟨x0, hO⟩, hA⟩ := hPre
  suffices hW : W p l e rmL_unlock s m args below meth c H locs 0 0 (vx_MQ below (wqI g b 0 M' (OL g o (jI r).toInt64) o s.heap.size) noX args s 1 6 (AO b o s.heap.size)) (F0 m 0 ls []) by rw [hH, hlo] at hW; exact hW
  refine lv_aload hx hb dL_unlock_0 (lv_at hl 4 rfl) ?_
  refine lv_iconst hx hb (v := jI 0) dL_unlock_2 rfl ?_
  refine lv_aload_n hx hb dL_unlock_3 rfl (lv_at hl 0 rfl) ?_
  refine lv_iload_n hx hb dL_unlock_4 rfl (lv_at hl 1 rfl) ?_
  refine lv_iload_n hx hb dL_unlock_5 rfl (lv_at hl 2 rfl) ?_
  refine lv_iload_n hx hb dL_unlock_6 rfl (lv_at hl 3 rfl) ?_
  refine x_cVi (As := [.int (jI p0), .int (jI p1), .int (jI p2)]) (rest := [.int (jI 0), .ref o]) hx hb hml hown hts hK hR hS hC ok0 rfl (ci := 3) (C := RX3) (T := TX3) (N := 9) rfl wd697 wd698 wd699 wd1 wd700 hyL_unlock ⟨rfl, rfl⟩ ⟨Nat.le_trans (Nat.succ_le_succ (Nat.le_max_left _ _)) (Nat.le_refl _), Nat.add_le_add_left (Nat.le_max_left _ _) _⟩ hl.1 (Nat.le_of_ble_eq_true rfl) dL_unlock_7 ⟨Nat.zero_le _, Nat.zero_le _⟩ rfl ?_
  intro hr0 H1 locs1 hR hS1
  have hO1 : ∃ x, OL g o x H1 := ⟨x0, hO.kept (hS1.2.1 o (Array.getElem?_eq_some_iff.mp hO.choose_spec.1).1 hA)⟩
  have hS := AO_S (o := o) hS1
  refine lv_i2l hx hb dL_unlock_10 rfl ?_
  refine x_wst hx hb hK hR hO1 hA hS dL_unlock_11 ?_
  intro H2 locs2 hR hO2 hS
  refine lv_goto (tgt := 27) hx hb dL_unlock_12 rfl ?_
  refine lv_iconst hx hb (v := jI 0) dL_unlock_27 rfl ?_
  exact x_wend hx hb hlocks hK hR hO2 hS hr (Nat.zero_le _) (Nat.zero_le _) dL_unlock_28
set_option maxHeartbeats 4000000 in
set_option maxRecDepth 100000 in
theorem tL_unlock_1 {l : Launch} {g : Gx} {b o : Nat} {p0 : Int} {p1 : Int} {p2 : Int} {M : Mm} (hC : Tt l yX3_unlock cX3_unlock 5 (some .int) rmTX3_unlock g b [.ref (adr b 0 0), .int (jI p0), .int (jI p1), .int (jI p2)] M 1) : Lt l yL_unlock cL_unlock 6 hhL_unlock rmL_unlock g b o [.ref (adr b 0 0), .int (jI p0), .int (jI p1), .int (jI p2), .ref o] M (OLp g b o) 1 M (fun H => ∃ x, OL g o x H) := by
  refine lt_of (by decide +kernel) (Nat.le_of_ble_eq_true rfl) ?_
  intro p e s m args below meth c C0 hTH hNP hPre hTab hR ls hl
  obtain ⟨hx, hb, hr, hlocks, hml, hown, hts, hK⟩ := id C0
  have hS : va_S (AA b s.heap.size) s.heap s.heap [] := va_S.rf
  have hl : lv_has ls 6 [(0, .ref (adr b 0 0)), (1, .int (jI p0)), (2, .int (jI p1)), (3, .int (jI p2)), (4, .ref o)] := hl
  obtain ⟨H, hH⟩ : ∃ z, z = s.heap := ⟨_, rfl⟩
  obtain ⟨locs, hlo⟩ : ∃ z : List Loc, z = [] := ⟨_, rfl⟩
  have hR : Rel g b M H := by rw [hH]; exact hR
  have hS : va_S (AA b s.heap.size) s.heap H locs := by rw [hH, hlo]; exact hS
  obtain ⟨⟨x0, hO⟩, hA⟩ := hPre
  suffices hW : W p l e rmL_unlock s m args below meth c H locs 0 0 (vx_MQ below (wqI g b 1 M (fun H => ∃ x, OL g o x H) o s.heap.size) noX args s 1 6 (AO b o s.heap.size)) (F0 m 0 ls []) by rw [hH, hlo] at hW; exact hW
  refine lv_aload hx hb dL_unlock_0 (lv_at hl 4 rfl) ?_
  refine lv_iconst hx hb (v := jI 0) dL_unlock_2 rfl ?_
  refine lv_aload_n hx hb dL_unlock_3 rfl (lv_at hl 0 rfl) ?_
  refine lv_iload_n hx hb dL_unlock_4 rfl (lv_at hl 1 rfl) ?_
  refine lv_iload_n hx hb dL_unlock_5 rfl (lv_at hl 2 rfl) ?_
  refine lv_iload_n hx hb dL_unlock_6 rfl (lv_at hl 3 rfl) ?_
  refine x_tC (As := [.int (jI p0), .int (jI p1), .int (jI p2)]) (rest := [.int (jI 0), .ref o]) hx hb hml hown hts hK hTH hR hS hC wd697 wd698 wd699 wd1 wd700 hyL_unlock ⟨rfl, rfl⟩ ⟨Nat.le_trans (Nat.succ_le_succ (Nat.le_max_right _ _)) (Nat.le_refl _), Nat.add_le_add_left (Nat.le_max_right _ _) _⟩ hl.1 (Nat.le_of_ble_eq_true rfl) dL_unlock_7 ⟨Nat.le_refl _, Nat.le_refl _⟩ rfl ?_
  intro H1 locs1 q ce hR hS1 hce hcv hcl
  have hS := AO_S (o := o) hS1
  refine vx_catch (name := exN 1) hown [] ⟨0, 12, 15, 13⟩ [⟨0, 12, 19, 15⟩, ⟨0, 12, 23, 17⟩] hTab (fun z hz => by cases hz) (by decide +kernel) (by decide) (hts _ wd178) hTH.2.2.1 hce hcv hcl ?_
  refine lv_astore hx hb dL_unlock_15 hl (by decide) rfl ?_
  intro ls1 hl1
  refine lv_iconst hx hb (v := jI 1) dL_unlock_17 rfl ?_
  exact x_wend hx hb hlocks hK hR ⟨x0, hO.kept (hS1.2.1 o (Array.getElem?_eq_some_iff.mp hO.choose_spec.1).1 hA)⟩ hS hr (Nat.le_refl _) (Nat.le_refl _) dL_unlock_18
set_option maxHeartbeats 4000000 in
set_option maxRecDepth 100000 in
theorem tL_unlock_2 {l : Launch} {g : Gx} {b o : Nat} {p0 : Int} {p1 : Int} {p2 : Int} {M : Mm} (hC : Tt l yX3_unlock cX3_unlock 5 (some .int) rmTX3_unlock g b [.ref (adr b 0 0), .int (jI p0), .int (jI p1), .int (jI p2)] M 2) : Lt l yL_unlock cL_unlock 6 hhL_unlock rmL_unlock g b o [.ref (adr b 0 0), .int (jI p0), .int (jI p1), .int (jI p2), .ref o] M (OLp g b o) 2 M (fun H => ∃ x, OL g o x H) := by
  refine lt_of (by decide +kernel) (Nat.le_of_ble_eq_true rfl) ?_
  intro p e s m args below meth c C0 hTH hNP hPre hTab hR ls hl
  obtain ⟨hx, hb, hr, hlocks, hml, hown, hts, hK⟩ := id C0
  have hS : va_S (AA b s.heap.size) s.heap s.heap [] := va_S.rf
  have hl : lv_has ls 6 [(0, .ref (adr b 0 0)), (1, .int (jI p0)), (2, .int (jI p1)), (3, .int (jI p2)), (4, .ref o)] := hl
  obtain ⟨H, hH⟩ : ∃ z, z = s.heap := ⟨_, rfl⟩
  obtain ⟨locs, hlo⟩ : ∃ z : List Loc, z = [] := ⟨_, rfl⟩
  have hR : Rel g b M H := by rw [hH]; exact hR
  have hS : va_S (AA b s.heap.size) s.heap H locs := by rw [hH, hlo]; exact hS
  obtain ⟨⟨x0, hO⟩, hA⟩ := hPre
  suffices hW : W p l e rmL_unlock s m args below meth c H locs 0 0 (vx_MQ below (wqI g b 2 M (fun H => ∃ x, OL g o x H) o s.heap.size) noX args s 1 6 (AO b o s.heap.size)) (F0 m 0 ls []) by rw [hH, hlo] at hW; exact hW
  refine lv_aload hx hb dL_unlock_0 (lv_at hl 4 rfl) ?_
  refine lv_iconst hx hb (v := jI 0) dL_unlock_2 rfl ?_
  refine lv_aload_n hx hb dL_unlock_3 rfl (lv_at hl 0 rfl) ?_
  refine lv_iload_n hx hb dL_unlock_4 rfl (lv_at hl 1 rfl) ?_
  refine lv_iload_n hx hb dL_unlock_5 rfl (lv_at hl 2 rfl) ?_
  refine lv_iload_n hx hb dL_unlock_6 rfl (lv_at hl 3 rfl) ?_
  refine x_tC (As := [.int (jI p0), .int (jI p1), .int (jI p2)]) (rest := [.int (jI 0), .ref o]) hx hb hml hown hts hK hTH hR hS hC wd697 wd698 wd699 wd1 wd700 hyL_unlock ⟨rfl, rfl⟩ ⟨Nat.le_trans (Nat.succ_le_succ (Nat.le_max_right _ _)) (Nat.le_refl _), Nat.add_le_add_left (Nat.le_max_right _ _) _⟩ hl.1 (Nat.le_of_ble_eq_true rfl) dL_unlock_7 ⟨Nat.le_refl _, Nat.le_refl _⟩ rfl ?_
  intro H1 locs1 q ce hR hS1 hce hcv hcl
  have hS := AO_S (o := o) hS1
  refine vx_catch (name := exN 2) hown [⟨0, 12, 15, 13⟩] ⟨0, 12, 19, 15⟩ [⟨0, 12, 23, 17⟩] hTab (by intro z hz; simp only [List.mem_cons, List.not_mem_nil, or_false] at hz; rcases hz with rfl; exact Or.inr ⟨by decide, exN 1, hts _ wd178, hNP.1⟩) (by decide +kernel) (by decide) (hts _ wd179) hTH.2.2.2.1 hce hcv hcl ?_
  refine lv_astore hx hb dL_unlock_19 hl (by decide) rfl ?_
  intro ls1 hl1
  refine lv_iconst hx hb (v := jI 2) dL_unlock_21 rfl ?_
  exact x_wend hx hb hlocks hK hR ⟨x0, hO.kept (hS1.2.1 o (Array.getElem?_eq_some_iff.mp hO.choose_spec.1).1 hA)⟩ hS hr (Nat.le_refl _) (Nat.le_refl _) dL_unlock_22
set_option maxHeartbeats 4000000 in
set_option maxRecDepth 100000 in
theorem tL_unlock_3 {l : Launch} {g : Gx} {b o : Nat} {p0 : Int} {p1 : Int} {p2 : Int} {M : Mm} (hC : Tt l yX3_unlock cX3_unlock 5 (some .int) rmTX3_unlock g b [.ref (adr b 0 0), .int (jI p0), .int (jI p1), .int (jI p2)] M 3) : Lt l yL_unlock cL_unlock 6 hhL_unlock rmL_unlock g b o [.ref (adr b 0 0), .int (jI p0), .int (jI p1), .int (jI p2), .ref o] M (OLp g b o) 3 M (fun H => ∃ x, OL g o x H) := by
  refine lt_of (by decide +kernel) (Nat.le_of_ble_eq_true rfl) ?_
  intro p e s m args below meth c C0 hTH hNP hPre hTab hR ls hl
  obtain ⟨hx, hb, hr, hlocks, hml, hown, hts, hK⟩ := id C0
  have hS : va_S (AA b s.heap.size) s.heap s.heap [] := va_S.rf
  have hl : lv_has ls 6 [(0, .ref (adr b 0 0)), (1, .int (jI p0)), (2, .int (jI p1)), (3, .int (jI p2)), (4, .ref o)] := hl
  obtain ⟨H, hH⟩ : ∃ z, z = s.heap := ⟨_, rfl⟩
  obtain ⟨locs, hlo⟩ : ∃ z : List Loc, z = [] := ⟨_, rfl⟩
  have hR : Rel g b M H := by rw [hH]; exact hR
  have hS : va_S (AA b s.heap.size) s.heap H locs := by rw [hH, hlo]; exact hS
  obtain ⟨⟨x0, hO⟩, hA⟩ := hPre
  suffices hW : W p l e rmL_unlock s m args below meth c H locs 0 0 (vx_MQ below (wqI g b 3 M (fun H => ∃ x, OL g o x H) o s.heap.size) noX args s 1 6 (AO b o s.heap.size)) (F0 m 0 ls []) by rw [hH, hlo] at hW; exact hW
  refine lv_aload hx hb dL_unlock_0 (lv_at hl 4 rfl) ?_
  refine lv_iconst hx hb (v := jI 0) dL_unlock_2 rfl ?_
  refine lv_aload_n hx hb dL_unlock_3 rfl (lv_at hl 0 rfl) ?_
  refine lv_iload_n hx hb dL_unlock_4 rfl (lv_at hl 1 rfl) ?_
  refine lv_iload_n hx hb dL_unlock_5 rfl (lv_at hl 2 rfl) ?_
  refine lv_iload_n hx hb dL_unlock_6 rfl (lv_at hl 3 rfl) ?_
  refine x_tC (As := [.int (jI p0), .int (jI p1), .int (jI p2)]) (rest := [.int (jI 0), .ref o]) hx hb hml hown hts hK hTH hR hS hC wd697 wd698 wd699 wd1 wd700 hyL_unlock ⟨rfl, rfl⟩ ⟨Nat.le_trans (Nat.succ_le_succ (Nat.le_max_right _ _)) (Nat.le_refl _), Nat.add_le_add_left (Nat.le_max_right _ _) _⟩ hl.1 (Nat.le_of_ble_eq_true rfl) dL_unlock_7 ⟨Nat.le_refl _, Nat.le_refl _⟩ rfl ?_
  intro H1 locs1 q ce hR hS1 hce hcv hcl
  have hS := AO_S (o := o) hS1
  refine vx_catch (name := exN 3) hown [⟨0, 12, 15, 13⟩, ⟨0, 12, 19, 15⟩] ⟨0, 12, 23, 17⟩ [] hTab (by
      intro z hz
      simp only [List.mem_cons, List.not_mem_nil, or_false] at hz
      rcases hz with rfl | rfl
      · exact Or.inr ⟨by decide, exN 1, hts _ wd178, hNP.2.1⟩
      · exact Or.inr ⟨by decide, exN 2, hts _ wd179, hNP.2.2⟩) (by decide +kernel) (by decide) (hts _ wd180) hTH.2.2.2.2.1 hce hcv hcl ?_
  refine lv_astore hx hb dL_unlock_23 hl (by decide) rfl ?_
  intro ls1 hl1
  refine lv_iconst hx hb (v := jI 3) dL_unlock_25 rfl ?_
  exact x_wend hx hb hlocks hK hR ⟨x0, hO.kept (hS1.2.1 o (Array.getElem?_eq_some_iff.mp hO.choose_spec.1).1 hA)⟩ hS hr (Nat.le_refl _) (Nat.le_refl _) dL_unlock_26
abbrev rmL_whoHinders : Room := { frames := max rmX3_whoHinders.frames rmTX3_whoHinders.frames + 1, cells := 1, slots := 6, locals := 8 + (5 + 11) + max rmX3_whoHinders.locals rmTX3_whoHinders.locals }
abbrev hhL_whoHinders : List (Nat × Nat × Nat × Nat) := [(0, 14, 17, 13), (0, 14, 21, 15), (0, 14, 25, 17)]
theorem hyL_whoHinders : yX3_whoHinders.cls = RX3 ∧ yX3_whoHinders.cls ≠ "java/lang/invoke/MethodHandle" ∧ yX3_whoHinders.cls ≠ "java/lang/invoke/VarHandle" ∧ (parseMethodDescriptor yX3_whoHinders.desc).map (fun d => d.parameters.length) = some 4 := by decide +kernel
set_option maxHeartbeats 4000000 in
set_option maxRecDepth 100000 in
theorem nL_whoHinders {l : Launch} {g : Gx} {b o : Nat} {p0 : Int} {p1 : Int} {p2 : Int} {p3 : Int} {M M' : Mm} {r : Int} (hC : Ct l yX3_whoHinders cX3_whoHinders 5 (some .int) rmX3_whoHinders g b [.ref (adr b 0 0), .int (jI p0), .int (jI p1), .int (jI p2), .int (jI p3)] M (qI g b r M')) : Lt l yL_whoHinders cL_whoHinders 7 hhL_whoHinders rmL_whoHinders g b o [.ref (adr b 0 0), .int (jI p0), .int (jI p1), .int (jI p2), .int (jI p3), .ref o] M (OLp g b o) 0 M' (OL g o (jI r).toInt64) := by
  refine lt_of (by decide +kernel) (Nat.le_of_ble_eq_true rfl) ?_
  intro p e s m args below meth c C0 hTH hNP hPre hTab hR ls hl
  obtain ⟨hx, hb, hr, hlocks, hml, hown, hts, hK⟩ := id C0
  have hS : va_S (AA b s.heap.size) s.heap s.heap [] := va_S.rf
  have hl : lv_has ls 7 [(0, .ref (adr b 0 0)), (1, .int (jI p0)), (2, .int (jI p1)), (3, .int (jI p2)), (4, .int (jI p3)), (5, .ref o)] := hl
  obtain ⟨H, hH⟩ : ∃ z, z = s.heap := ⟨_, rfl⟩
  obtain ⟨locs, hlo⟩ : ∃ z : List Loc, z = [] := ⟨_, rfl⟩
  have hR : Rel g b M H := by rw [hH]; exact hR
  have hS : va_S (AA b s.heap.size) s.heap H locs := by rw [hH, hlo]; exact hS
  obtain ⟨⟨x0, hO⟩, hA⟩ := hPre
  suffices hW : W p l e rmL_whoHinders s m args below meth c H locs 0 0 (vx_MQ below (wqI g b 0 M' (OL g o (jI r).toInt64) o s.heap.size) noX args s 1 6 (AO b o s.heap.size)) (F0 m 0 ls []) by rw [hH, hlo] at hW; exact hW
  refine lv_aload hx hb dL_whoHinders_0 (lv_at hl 5 rfl) ?_
  refine lv_iconst hx hb (v := jI 0) dL_whoHinders_2 rfl ?_
  refine lv_aload_n hx hb dL_whoHinders_3 rfl (lv_at hl 0 rfl) ?_
  refine lv_iload_n hx hb dL_whoHinders_4 rfl (lv_at hl 1 rfl) ?_
  refine lv_iload_n hx hb dL_whoHinders_5 rfl (lv_at hl 2 rfl) ?_
  refine lv_iload_n hx hb dL_whoHinders_6 rfl (lv_at hl 3 rfl) ?_
  refine lv_iload hx hb dL_whoHinders_7 (lv_at hl 4 rfl) ?_
  refine x_cVi (As := [.int (jI p0), .int (jI p1), .int (jI p2), .int (jI p3)]) (rest := [.int (jI 0), .ref o]) hx hb hml hown hts hK hR hS hC ok0 rfl (ci := 3) (C := RX3) (T := TX3) (N := 9) rfl wd704 wd705 wd706 wd1 wd707 hyL_whoHinders ⟨rfl, rfl⟩ ⟨Nat.le_trans (Nat.succ_le_succ (Nat.le_max_left _ _)) (Nat.le_refl _), Nat.add_le_add_left (Nat.le_max_left _ _) _⟩ hl.1 (Nat.le_of_ble_eq_true rfl) dL_whoHinders_9 ⟨Nat.zero_le _, Nat.zero_le _⟩ rfl ?_
  intro hr0 H1 locs1 hR hS1
  have hO1 : ∃ x, OL g o x H1 := ⟨x0, hO.kept (hS1.2.1 o (Array.getElem?_eq_some_iff.mp hO.choose_spec.1).1 hA)⟩
  have hS := AO_S (o := o) hS1
  refine lv_i2l hx hb dL_whoHinders_12 rfl ?_
  refine x_wst hx hb hK hR hO1 hA hS dL_whoHinders_13 ?_
  intro H2 locs2 hR hO2 hS
  refine lv_goto (tgt := 29) hx hb dL_whoHinders_14 rfl ?_
  refine lv_iconst hx hb (v := jI 0) dL_whoHinders_29 rfl ?_
  exact x_wend hx hb hlocks hK hR hO2 hS hr (Nat.zero_le _) (Nat.zero_le _) dL_whoHinders_30
set_option maxHeartbeats 4000000 in
set_option maxRecDepth 100000 in
theorem tL_whoHinders_1 {l : Launch} {g : Gx} {b o : Nat} {p0 : Int} {p1 : Int} {p2 : Int} {p3 : Int} {M : Mm} (hC : Tt l yX3_whoHinders cX3_whoHinders 5 (some .int) rmTX3_whoHinders g b [.ref (adr b 0 0), .int (jI p0), .int (jI p1), .int (jI p2), .int (jI p3)] M 1) : Lt l yL_whoHinders cL_whoHinders 7 hhL_whoHinders rmL_whoHinders g b o [.ref (adr b 0 0), .int (jI p0), .int (jI p1), .int (jI p2), .int (jI p3), .ref o] M (OLp g b o) 1 M (fun H => ∃ x, OL g o x H) := by
  refine lt_of (by decide +kernel) (Nat.le_of_ble_eq_true rfl) ?_
  intro p e s m args below meth c C0 hTH hNP hPre hTab hR ls hl
  obtain ⟨hx, hb, hr, hlocks, hml, hown, hts, hK⟩ := id C0
  have hS : va_S (AA b s.heap.size) s.heap s.heap [] := va_S.rf
  have hl : lv_has ls 7 [(0, .ref (adr b 0 0)), (1, .int (jI p0)), (2, .int (jI p1)), (3, .int (jI p2)), (4, .int (jI p3)), (5, .ref o)] := hl
  obtain ⟨H, hH⟩ : ∃ z, z = s.heap := ⟨_, rfl⟩
  obtain ⟨locs, hlo⟩ : ∃ z : List Loc, z = [] := ⟨_, rfl⟩
  have hR : Rel g b M H := by rw [hH]; exact hR
  have hS : va_S (AA b s.heap.size) s.heap H locs := by rw [hH, hlo]; exact hS
  obtain ⟨⟨x0, hO⟩, hA⟩ := hPre
  suffices hW : W p l e rmL_whoHinders s m args below meth c H locs 0 0 (vx_MQ below (wqI g b 1 M (fun H => ∃ x, OL g o x H) o s.heap.size) noX args s 1 6 (AO b o s.heap.size)) (F0 m 0 ls []) by rw [hH, hlo] at hW; exact hW
  refine lv_aload hx hb dL_whoHinders_0 (lv_at hl 5 rfl) ?_
  refine lv_iconst hx hb (v := jI 0) dL_whoHinders_2 rfl ?_
  refine lv_aload_n hx hb dL_whoHinders_3 rfl (lv_at hl 0 rfl) ?_
  refine lv_iload_n hx hb dL_whoHinders_4 rfl (lv_at hl 1 rfl) ?_
  refine lv_iload_n hx hb dL_whoHinders_5 rfl (lv_at hl 2 rfl) ?_
  refine lv_iload_n hx hb dL_whoHinders_6 rfl (lv_at hl 3 rfl) ?_
  refine lv_iload hx hb dL_whoHinders_7 (lv_at hl 4 rfl) ?_
  refine x_tC (As := [.int (jI p0), .int (jI p1), .int (jI p2), .int (jI p3)]) (rest := [.int (jI 0), .ref o]) hx hb hml hown hts hK hTH hR hS hC wd704 wd705 wd706 wd1 wd707 hyL_whoHinders ⟨rfl, rfl⟩ ⟨Nat.le_trans (Nat.succ_le_succ (Nat.le_max_right _ _)) (Nat.le_refl _), Nat.add_le_add_left (Nat.le_max_right _ _) _⟩ hl.1 (Nat.le_of_ble_eq_true rfl) dL_whoHinders_9 ⟨Nat.le_refl _, Nat.le_refl _⟩ rfl ?_
  intro H1 locs1 q ce hR hS1 hce hcv hcl
  have hS := AO_S (o := o) hS1
  refine vx_catch (name := exN 1) hown [] ⟨0, 14, 17, 13⟩ [⟨0, 14, 21, 15⟩, ⟨0, 14, 25, 17⟩] hTab (fun z hz => by cases hz) (by decide +kernel) (by decide) (hts _ wd178) hTH.2.2.1 hce hcv hcl ?_
  refine lv_astore hx hb dL_whoHinders_17 hl (by decide) rfl ?_
  intro ls1 hl1
  refine lv_iconst hx hb (v := jI 1) dL_whoHinders_19 rfl ?_
  exact x_wend hx hb hlocks hK hR ⟨x0, hO.kept (hS1.2.1 o (Array.getElem?_eq_some_iff.mp hO.choose_spec.1).1 hA)⟩ hS hr (Nat.le_refl _) (Nat.le_refl _) dL_whoHinders_20
set_option maxHeartbeats 4000000 in
set_option maxRecDepth 100000 in
theorem tL_whoHinders_2 {l : Launch} {g : Gx} {b o : Nat} {p0 : Int} {p1 : Int} {p2 : Int} {p3 : Int} {M : Mm} (hC : Tt l yX3_whoHinders cX3_whoHinders 5 (some .int) rmTX3_whoHinders g b [.ref (adr b 0 0), .int (jI p0), .int (jI p1), .int (jI p2), .int (jI p3)] M 2) : Lt l yL_whoHinders cL_whoHinders 7 hhL_whoHinders rmL_whoHinders g b o [.ref (adr b 0 0), .int (jI p0), .int (jI p1), .int (jI p2), .int (jI p3), .ref o] M (OLp g b o) 2 M (fun H => ∃ x, OL g o x H) := by
  refine lt_of (by decide +kernel) (Nat.le_of_ble_eq_true rfl) ?_
  intro p e s m args below meth c C0 hTH hNP hPre hTab hR ls hl
  obtain ⟨hx, hb, hr, hlocks, hml, hown, hts, hK⟩ := id C0
  have hS : va_S (AA b s.heap.size) s.heap s.heap [] := va_S.rf
  have hl : lv_has ls 7 [(0, .ref (adr b 0 0)), (1, .int (jI p0)), (2, .int (jI p1)), (3, .int (jI p2)), (4, .int (jI p3)), (5, .ref o)] := hl
  obtain ⟨H, hH⟩ : ∃ z, z = s.heap := ⟨_, rfl⟩
  obtain ⟨locs, hlo⟩ : ∃ z : List Loc, z = [] := ⟨_, rfl⟩
  have hR : Rel g b M H := by rw [hH]; exact hR
  have hS : va_S (AA b s.heap.size) s.heap H locs := by rw [hH, hlo]; exact hS
  obtain ⟨⟨x0, hO⟩, hA⟩ := hPre
  suffices hW : W p l e rmL_whoHinders s m args below meth c H locs 0 0 (vx_MQ below (wqI g b 2 M (fun H => ∃ x, OL g o x H) o s.heap.size) noX args s 1 6 (AO b o s.heap.size)) (F0 m 0 ls []) by rw [hH, hlo] at hW; exact hW
  refine lv_aload hx hb dL_whoHinders_0 (lv_at hl 5 rfl) ?_
  refine lv_iconst hx hb (v := jI 0) dL_whoHinders_2 rfl ?_
  refine lv_aload_n hx hb dL_whoHinders_3 rfl (lv_at hl 0 rfl) ?_
  refine lv_iload_n hx hb dL_whoHinders_4 rfl (lv_at hl 1 rfl) ?_
  refine lv_iload_n hx hb dL_whoHinders_5 rfl (lv_at hl 2 rfl) ?_
  refine lv_iload_n hx hb dL_whoHinders_6 rfl (lv_at hl 3 rfl) ?_
  refine lv_iload hx hb dL_whoHinders_7 (lv_at hl 4 rfl) ?_
  refine x_tC (As := [.int (jI p0), .int (jI p1), .int (jI p2), .int (jI p3)]) (rest := [.int (jI 0), .ref o]) hx hb hml hown hts hK hTH hR hS hC wd704 wd705 wd706 wd1 wd707 hyL_whoHinders ⟨rfl, rfl⟩ ⟨Nat.le_trans (Nat.succ_le_succ (Nat.le_max_right _ _)) (Nat.le_refl _), Nat.add_le_add_left (Nat.le_max_right _ _) _⟩ hl.1 (Nat.le_of_ble_eq_true rfl) dL_whoHinders_9 ⟨Nat.le_refl _, Nat.le_refl _⟩ rfl ?_
  intro H1 locs1 q ce hR hS1 hce hcv hcl
  have hS := AO_S (o := o) hS1
  refine vx_catch (name := exN 2) hown [⟨0, 14, 17, 13⟩] ⟨0, 14, 21, 15⟩ [⟨0, 14, 25, 17⟩] hTab (by intro z hz; simp only [List.mem_cons, List.not_mem_nil, or_false] at hz; rcases hz with rfl; exact Or.inr ⟨by decide, exN 1, hts _ wd178, hNP.1⟩) (by decide +kernel) (by decide) (hts _ wd179) hTH.2.2.2.1 hce hcv hcl ?_
  refine lv_astore hx hb dL_whoHinders_21 hl (by decide) rfl ?_
  intro ls1 hl1
  refine lv_iconst hx hb (v := jI 2) dL_whoHinders_23 rfl ?_
  exact x_wend hx hb hlocks hK hR ⟨x0, hO.kept (hS1.2.1 o (Array.getElem?_eq_some_iff.mp hO.choose_spec.1).1 hA)⟩ hS hr (Nat.le_refl _) (Nat.le_refl _) dL_whoHinders_24
set_option maxHeartbeats 4000000 in
set_option maxRecDepth 100000 in
theorem tL_whoHinders_3 {l : Launch} {g : Gx} {b o : Nat} {p0 : Int} {p1 : Int} {p2 : Int} {p3 : Int} {M : Mm} (hC : Tt l yX3_whoHinders cX3_whoHinders 5 (some .int) rmTX3_whoHinders g b [.ref (adr b 0 0), .int (jI p0), .int (jI p1), .int (jI p2), .int (jI p3)] M 3) : Lt l yL_whoHinders cL_whoHinders 7 hhL_whoHinders rmL_whoHinders g b o [.ref (adr b 0 0), .int (jI p0), .int (jI p1), .int (jI p2), .int (jI p3), .ref o] M (OLp g b o) 3 M (fun H => ∃ x, OL g o x H) := by
  refine lt_of (by decide +kernel) (Nat.le_of_ble_eq_true rfl) ?_
  intro p e s m args below meth c C0 hTH hNP hPre hTab hR ls hl
  obtain ⟨hx, hb, hr, hlocks, hml, hown, hts, hK⟩ := id C0
  have hS : va_S (AA b s.heap.size) s.heap s.heap [] := va_S.rf
  have hl : lv_has ls 7 [(0, .ref (adr b 0 0)), (1, .int (jI p0)), (2, .int (jI p1)), (3, .int (jI p2)), (4, .int (jI p3)), (5, .ref o)] := hl
  obtain ⟨H, hH⟩ : ∃ z, z = s.heap := ⟨_, rfl⟩
  obtain ⟨locs, hlo⟩ : ∃ z : List Loc, z = [] := ⟨_, rfl⟩
  have hR : Rel g b M H := by rw [hH]; exact hR
  have hS : va_S (AA b s.heap.size) s.heap H locs := by rw [hH, hlo]; exact hS
  obtain ⟨⟨x0, hO⟩, hA⟩ := hPre
  suffices hW : W p l e rmL_whoHinders s m args below meth c H locs 0 0 (vx_MQ below (wqI g b 3 M (fun H => ∃ x, OL g o x H) o s.heap.size) noX args s 1 6 (AO b o s.heap.size)) (F0 m 0 ls []) by rw [hH, hlo] at hW; exact hW
  refine lv_aload hx hb dL_whoHinders_0 (lv_at hl 5 rfl) ?_
  refine lv_iconst hx hb (v := jI 0) dL_whoHinders_2 rfl ?_
  refine lv_aload_n hx hb dL_whoHinders_3 rfl (lv_at hl 0 rfl) ?_
  refine lv_iload_n hx hb dL_whoHinders_4 rfl (lv_at hl 1 rfl) ?_
  refine lv_iload_n hx hb dL_whoHinders_5 rfl (lv_at hl 2 rfl) ?_
  refine lv_iload_n hx hb dL_whoHinders_6 rfl (lv_at hl 3 rfl) ?_
  refine lv_iload hx hb dL_whoHinders_7 (lv_at hl 4 rfl) ?_
  refine x_tC (As := [.int (jI p0), .int (jI p1), .int (jI p2), .int (jI p3)]) (rest := [.int (jI 0), .ref o]) hx hb hml hown hts hK hTH hR hS hC wd704 wd705 wd706 wd1 wd707 hyL_whoHinders ⟨rfl, rfl⟩ ⟨Nat.le_trans (Nat.succ_le_succ (Nat.le_max_right _ _)) (Nat.le_refl _), Nat.add_le_add_left (Nat.le_max_right _ _) _⟩ hl.1 (Nat.le_of_ble_eq_true rfl) dL_whoHinders_9 ⟨Nat.le_refl _, Nat.le_refl _⟩ rfl ?_
  intro H1 locs1 q ce hR hS1 hce hcv hcl
  have hS := AO_S (o := o) hS1
  refine vx_catch (name := exN 3) hown [⟨0, 14, 17, 13⟩, ⟨0, 14, 21, 15⟩] ⟨0, 14, 25, 17⟩ [] hTab (by
      intro z hz
      simp only [List.mem_cons, List.not_mem_nil, or_false] at hz
      rcases hz with rfl | rfl
      · exact Or.inr ⟨by decide, exN 1, hts _ wd178, hNP.2.1⟩
      · exact Or.inr ⟨by decide, exN 2, hts _ wd179, hNP.2.2⟩) (by decide +kernel) (by decide) (hts _ wd180) hTH.2.2.2.2.1 hce hcv hcl ?_
  refine lv_astore hx hb dL_whoHinders_25 hl (by decide) rfl ?_
  intro ls1 hl1
  refine lv_iconst hx hb (v := jI 3) dL_whoHinders_27 rfl ?_
  exact x_wend hx hb hlocks hK hR ⟨x0, hO.kept (hS1.2.1 o (Array.getElem?_eq_some_iff.mp hO.choose_spec.1).1 hA)⟩ hS hr (Nat.le_refl _) (Nat.le_refl _) dL_whoHinders_28
abbrev rmL_lockRows : Room := { frames := max rmX3_lockRows.frames rmTX3_lockRows.frames + 1, cells := 1, slots := 6, locals := 8 + (2 + 11) + max rmX3_lockRows.locals rmTX3_lockRows.locals }
abbrev hhL_lockRows : List (Nat × Nat × Nat × Nat) := [(0, 9, 12, 13), (0, 9, 15, 15)]
theorem hyL_lockRows : yX3_lockRows.cls = RX3 ∧ yX3_lockRows.cls ≠ "java/lang/invoke/MethodHandle" ∧ yX3_lockRows.cls ≠ "java/lang/invoke/VarHandle" ∧ (parseMethodDescriptor yX3_lockRows.desc).map (fun d => d.parameters.length) = some 1 := by decide +kernel
set_option maxHeartbeats 4000000 in
set_option maxRecDepth 100000 in
theorem nL_lockRows {l : Launch} {g : Gx} {b o : Nat} {p0 : Int} {M M' : Mm} {r : Int} (hC : Ct l yX3_lockRows cX3_lockRows 2 (some .int) rmX3_lockRows g b [.ref (adr b 0 0), .int (jI p0)] M (qI g b r M')) : Lt l yL_lockRows cL_lockRows 4 hhL_lockRows rmL_lockRows g b o [.ref (adr b 0 0), .int (jI p0), .ref o] M (OLp g b o) 0 M' (OL g o (jI r).toInt64) := by
  refine lt_of (by decide +kernel) (Nat.le_of_ble_eq_true rfl) ?_
  intro p e s m args below meth c C0 hTH hNP hPre hTab hR ls hl
  obtain ⟨hx, hb, hr, hlocks, hml, hown, hts, hK⟩ := id C0
  have hS : va_S (AA b s.heap.size) s.heap s.heap [] := va_S.rf
  have hl : lv_has ls 4 [(0, .ref (adr b 0 0)), (1, .int (jI p0)), (2, .ref o)] := hl
  obtain ⟨H, hH⟩ : ∃ z, z = s.heap := ⟨_, rfl⟩
  obtain ⟨locs, hlo⟩ : ∃ z : List Loc, z = [] := ⟨_, rfl⟩
  have hR : Rel g b M H := by rw [hH]; exact hR
  have hS : va_S (AA b s.heap.size) s.heap H locs := by rw [hH, hlo]; exact hS
  obtain ⟨⟨x0, hO⟩, hA⟩ := hPre
  suffices hW : W p l e rmL_lockRows s m args below meth c H locs 0 0 (vx_MQ below (wqI g b 0 M' (OL g o (jI r).toInt64) o s.heap.size) noX args s 1 6 (AO b o s.heap.size)) (F0 m 0 ls []) by rw [hH, hlo] at hW; exact hW
  refine lv_aload_n hx hb dL_lockRows_0 rfl (lv_at hl 2 rfl) ?_
  refine lv_iconst hx hb (v := jI 0) dL_lockRows_1 rfl ?_
  refine lv_aload_n hx hb dL_lockRows_2 rfl (lv_at hl 0 rfl) ?_
  refine lv_iload_n hx hb dL_lockRows_3 rfl (lv_at hl 1 rfl) ?_
  refine x_cVi (As := [.int (jI p0)]) (rest := [.int (jI 0), .ref o]) hx hb hml hown hts hK hR hS hC ok0 rfl (ci := 3) (C := RX3) (T := TX3) (N := 9) rfl wd711 wd712 wd713 wd1 wd714 hyL_lockRows ⟨rfl, rfl⟩ ⟨Nat.le_trans (Nat.succ_le_succ (Nat.le_max_left _ _)) (Nat.le_refl _), Nat.add_le_add_left (Nat.le_max_left _ _) _⟩ hl.1 (Nat.le_of_ble_eq_true rfl) dL_lockRows_4 ⟨Nat.zero_le _, Nat.zero_le _⟩ rfl ?_
  intro hr0 H1 locs1 hR hS1
  have hO1 : ∃ x, OL g o x H1 := ⟨x0, hO.kept (hS1.2.1 o (Array.getElem?_eq_some_iff.mp hO.choose_spec.1).1 hA)⟩
  have hS := AO_S (o := o) hS1
  refine lv_i2l hx hb dL_lockRows_7 rfl ?_
  refine x_wst hx hb hK hR hO1 hA hS dL_lockRows_8 ?_
  intro H2 locs2 hR hO2 hS
  refine lv_goto (tgt := 18) hx hb dL_lockRows_9 rfl ?_
  refine lv_iconst hx hb (v := jI 0) dL_lockRows_18 rfl ?_
  exact x_wend hx hb hlocks hK hR hO2 hS hr (Nat.zero_le _) (Nat.zero_le _) dL_lockRows_19
set_option maxHeartbeats 4000000 in
set_option maxRecDepth 100000 in
theorem tL_lockRows_1 {l : Launch} {g : Gx} {b o : Nat} {p0 : Int} {M : Mm} (hC : Tt l yX3_lockRows cX3_lockRows 2 (some .int) rmTX3_lockRows g b [.ref (adr b 0 0), .int (jI p0)] M 1) : Lt l yL_lockRows cL_lockRows 4 hhL_lockRows rmL_lockRows g b o [.ref (adr b 0 0), .int (jI p0), .ref o] M (OLp g b o) 1 M (fun H => ∃ x, OL g o x H) := by
  refine lt_of (by decide +kernel) (Nat.le_of_ble_eq_true rfl) ?_
  intro p e s m args below meth c C0 hTH hNP hPre hTab hR ls hl
  obtain ⟨hx, hb, hr, hlocks, hml, hown, hts, hK⟩ := id C0
  have hS : va_S (AA b s.heap.size) s.heap s.heap [] := va_S.rf
  have hl : lv_has ls 4 [(0, .ref (adr b 0 0)), (1, .int (jI p0)), (2, .ref o)] := hl
  obtain ⟨H, hH⟩ : ∃ z, z = s.heap := ⟨_, rfl⟩
  obtain ⟨locs, hlo⟩ : ∃ z : List Loc, z = [] := ⟨_, rfl⟩
  have hR : Rel g b M H := by rw [hH]; exact hR
  have hS : va_S (AA b s.heap.size) s.heap H locs := by rw [hH, hlo]; exact hS
  obtain ⟨⟨x0, hO⟩, hA⟩ := hPre
  suffices hW : W p l e rmL_lockRows s m args below meth c H locs 0 0 (vx_MQ below (wqI g b 1 M (fun H => ∃ x, OL g o x H) o s.heap.size) noX args s 1 6 (AO b o s.heap.size)) (F0 m 0 ls []) by rw [hH, hlo] at hW; exact hW
  refine lv_aload_n hx hb dL_lockRows_0 rfl (lv_at hl 2 rfl) ?_
  refine lv_iconst hx hb (v := jI 0) dL_lockRows_1 rfl ?_
  refine lv_aload_n hx hb dL_lockRows_2 rfl (lv_at hl 0 rfl) ?_
  refine lv_iload_n hx hb dL_lockRows_3 rfl (lv_at hl 1 rfl) ?_
  refine x_tC (As := [.int (jI p0)]) (rest := [.int (jI 0), .ref o]) hx hb hml hown hts hK hTH hR hS hC wd711 wd712 wd713 wd1 wd714 hyL_lockRows ⟨rfl, rfl⟩ ⟨Nat.le_trans (Nat.succ_le_succ (Nat.le_max_right _ _)) (Nat.le_refl _), Nat.add_le_add_left (Nat.le_max_right _ _) _⟩ hl.1 (Nat.le_of_ble_eq_true rfl) dL_lockRows_4 ⟨Nat.le_refl _, Nat.le_refl _⟩ rfl ?_
  intro H1 locs1 q ce hR hS1 hce hcv hcl
  have hS := AO_S (o := o) hS1
  refine vx_catch (name := exN 1) hown [] ⟨0, 9, 12, 13⟩ [⟨0, 9, 15, 15⟩] hTab (fun z hz => by cases hz) (by decide +kernel) (by decide) (hts _ wd178) hTH.2.2.1 hce hcv hcl ?_
  refine lv_astore_n hx hb dL_lockRows_12 rfl hl (by decide) rfl ?_
  intro ls1 hl1
  refine lv_iconst hx hb (v := jI 1) dL_lockRows_13 rfl ?_
  exact x_wend hx hb hlocks hK hR ⟨x0, hO.kept (hS1.2.1 o (Array.getElem?_eq_some_iff.mp hO.choose_spec.1).1 hA)⟩ hS hr (Nat.le_refl _) (Nat.le_refl _) dL_lockRows_14
set_option maxHeartbeats 4000000 in
set_option maxRecDepth 100000 in
theorem tL_lockRows_2 {l : Launch} {g : Gx} {b o : Nat} {p0 : Int} {M : Mm} (hC : Tt l yX3_lockRows cX3_lockRows 2 (some .int) rmTX3_lockRows g b [.ref (adr b 0 0), .int (jI p0)] M 2) : Lt l yL_lockRows cL_lockRows 4 hhL_lockRows rmL_lockRows g b o [.ref (adr b 0 0), .int (jI p0), .ref o] M (OLp g b o) 2 M (fun H => ∃ x, OL g o x H) := by
  refine lt_of (by decide +kernel) (Nat.le_of_ble_eq_true rfl) ?_
  intro p e s m args below meth c C0 hTH hNP hPre hTab hR ls hl
  obtain ⟨hx, hb, hr, hlocks, hml, hown, hts, hK⟩ := id C0
  have hS : va_S (AA b s.heap.size) s.heap s.heap [] := va_S.rf
  have hl : lv_has ls 4 [(0, .ref (adr b 0 0)), (1, .int (jI p0)), (2, .ref o)] := hl
  obtain ⟨H, hH⟩ : ∃ z, z = s.heap := ⟨_, rfl⟩
  obtain ⟨locs, hlo⟩ : ∃ z : List Loc, z = [] := ⟨_, rfl⟩
  have hR : Rel g b M H := by rw [hH]; exact hR
  have hS : va_S (AA b s.heap.size) s.heap H locs := by rw [hH, hlo]; exact hS
  obtain ⟨⟨x0, hO⟩, hA⟩ := hPre
  suffices hW : W p l e rmL_lockRows s m args below meth c H locs 0 0 (vx_MQ below (wqI g b 2 M (fun H => ∃ x, OL g o x H) o s.heap.size) noX args s 1 6 (AO b o s.heap.size)) (F0 m 0 ls []) by rw [hH, hlo] at hW; exact hW
  refine lv_aload_n hx hb dL_lockRows_0 rfl (lv_at hl 2 rfl) ?_
  refine lv_iconst hx hb (v := jI 0) dL_lockRows_1 rfl ?_
  refine lv_aload_n hx hb dL_lockRows_2 rfl (lv_at hl 0 rfl) ?_
  refine lv_iload_n hx hb dL_lockRows_3 rfl (lv_at hl 1 rfl) ?_
  refine x_tC (As := [.int (jI p0)]) (rest := [.int (jI 0), .ref o]) hx hb hml hown hts hK hTH hR hS hC wd711 wd712 wd713 wd1 wd714 hyL_lockRows ⟨rfl, rfl⟩ ⟨Nat.le_trans (Nat.succ_le_succ (Nat.le_max_right _ _)) (Nat.le_refl _), Nat.add_le_add_left (Nat.le_max_right _ _) _⟩ hl.1 (Nat.le_of_ble_eq_true rfl) dL_lockRows_4 ⟨Nat.le_refl _, Nat.le_refl _⟩ rfl ?_
  intro H1 locs1 q ce hR hS1 hce hcv hcl
  have hS := AO_S (o := o) hS1
  refine vx_catch (name := exN 2) hown [⟨0, 9, 12, 13⟩] ⟨0, 9, 15, 15⟩ [] hTab (by intro z hz; simp only [List.mem_cons, List.not_mem_nil, or_false] at hz; rcases hz with rfl; exact Or.inr ⟨by decide, exN 1, hts _ wd178, hNP.1⟩) (by decide +kernel) (by decide) (hts _ wd179) hTH.2.2.2.1 hce hcv hcl ?_
  refine lv_astore_n hx hb dL_lockRows_15 rfl hl (by decide) rfl ?_
  intro ls1 hl1
  refine lv_iconst hx hb (v := jI 2) dL_lockRows_16 rfl ?_
  exact x_wend hx hb hlocks hK hR ⟨x0, hO.kept (hS1.2.1 o (Array.getElem?_eq_some_iff.mp hO.choose_spec.1).1 hA)⟩ hS hr (Nat.le_refl _) (Nat.le_refl _) dL_lockRows_17
abbrev rmL_lockAt : Room := { frames := max rmX3_lockAt.frames rmTX3_lockAt.frames + 1, cells := 1, slots := 6, locals := 8 + (5 + 11) + max rmX3_lockAt.locals rmTX3_lockAt.locals }
abbrev hhL_lockAt : List (Nat × Nat × Nat × Nat) := [(0, 10, 13, 13), (0, 10, 17, 15), (0, 10, 21, 17)]
theorem hyL_lockAt : yX3_lockAt.cls = RX3 ∧ yX3_lockAt.cls ≠ "java/lang/invoke/MethodHandle" ∧ yX3_lockAt.cls ≠ "java/lang/invoke/VarHandle" ∧ (parseMethodDescriptor yX3_lockAt.desc).map (fun d => d.parameters.length) = some 2 := by decide +kernel
set_option maxHeartbeats 4000000 in
set_option maxRecDepth 100000 in
theorem nL_lockAt {l : Launch} {g : Gx} {b o : Nat} {p0 : Int} {p1 : Int} {M M' : Mm} {r : Int} (hC : Ct l yX3_lockAt cX3_lockAt 5 (some .int) rmX3_lockAt g b [.ref (adr b 0 0), .int (jI p0), .int (jI p1)] M (qI g b r M')) : Lt l yL_lockAt cL_lockAt 5 hhL_lockAt rmL_lockAt g b o [.ref (adr b 0 0), .int (jI p0), .int (jI p1), .ref o] M (OLp g b o) 0 M' (OL g o (jI r).toInt64) := by
  refine lt_of (by decide +kernel) (Nat.le_of_ble_eq_true rfl) ?_
  intro p e s m args below meth c C0 hTH hNP hPre hTab hR ls hl
  obtain ⟨hx, hb, hr, hlocks, hml, hown, hts, hK⟩ := id C0
  have hS : va_S (AA b s.heap.size) s.heap s.heap [] := va_S.rf
  have hl : lv_has ls 5 [(0, .ref (adr b 0 0)), (1, .int (jI p0)), (2, .int (jI p1)), (3, .ref o)] := hl
  obtain ⟨H, hH⟩ : ∃ z, z = s.heap := ⟨_, rfl⟩
  obtain ⟨locs, hlo⟩ : ∃ z : List Loc, z = [] := ⟨_, rfl⟩
  have hR : Rel g b M H := by rw [hH]; exact hR
  have hS : va_S (AA b s.heap.size) s.heap H locs := by rw [hH, hlo]; exact hS
  obtain ⟨⟨x0, hO⟩, hA⟩ := hPre
  suffices hW : W p l e rmL_lockAt s m args below meth c H locs 0 0 (vx_MQ below (wqI g b 0 M' (OL g o (jI r).toInt64) o s.heap.size) noX args s 1 6 (AO b o s.heap.size)) (F0 m 0 ls []) by rw [hH, hlo] at hW; exact hW
  refine lv_aload_n hx hb dL_lockAt_0 rfl (lv_at hl 3 rfl) ?_
  refine lv_iconst hx hb (v := jI 0) dL_lockAt_1 rfl ?_
  refine lv_aload_n hx hb dL_lockAt_2 rfl (lv_at hl 0 rfl) ?_
  refine lv_iload_n hx hb dL_lockAt_3 rfl (lv_at hl 1 rfl) ?_
  refine lv_iload_n hx hb dL_lockAt_4 rfl (lv_at hl 2 rfl) ?_
  refine x_cVi (As := [.int (jI p0), .int (jI p1)]) (rest := [.int (jI 0), .ref o]) hx hb hml hown hts hK hR hS hC ok0 rfl (ci := 3) (C := RX3) (T := TX3) (N := 9) rfl wd722 wd723 wd724 wd1 wd725 hyL_lockAt ⟨rfl, rfl⟩ ⟨Nat.le_trans (Nat.succ_le_succ (Nat.le_max_left _ _)) (Nat.le_refl _), Nat.add_le_add_left (Nat.le_max_left _ _) _⟩ hl.1 (Nat.le_of_ble_eq_true rfl) dL_lockAt_5 ⟨Nat.zero_le _, Nat.zero_le _⟩ rfl ?_
  intro hr0 H1 locs1 hR hS1
  have hO1 : ∃ x, OL g o x H1 := ⟨x0, hO.kept (hS1.2.1 o (Array.getElem?_eq_some_iff.mp hO.choose_spec.1).1 hA)⟩
  have hS := AO_S (o := o) hS1
  refine lv_i2l hx hb dL_lockAt_8 rfl ?_
  refine x_wst hx hb hK hR hO1 hA hS dL_lockAt_9 ?_
  intro H2 locs2 hR hO2 hS
  refine lv_goto (tgt := 25) hx hb dL_lockAt_10 rfl ?_
  refine lv_iconst hx hb (v := jI 0) dL_lockAt_25 rfl ?_
  exact x_wend hx hb hlocks hK hR hO2 hS hr (Nat.zero_le _) (Nat.zero_le _) dL_lockAt_26
set_option maxHeartbeats 4000000 in
set_option maxRecDepth 100000 in
theorem tL_lockAt_1 {l : Launch} {g : Gx} {b o : Nat} {p0 : Int} {p1 : Int} {M : Mm} (hC : Tt l yX3_lockAt cX3_lockAt 5 (some .int) rmTX3_lockAt g b [.ref (adr b 0 0), .int (jI p0), .int (jI p1)] M 1) : Lt l yL_lockAt cL_lockAt 5 hhL_lockAt rmL_lockAt g b o [.ref (adr b 0 0), .int (jI p0), .int (jI p1), .ref o] M (OLp g b o) 1 M (fun H => ∃ x, OL g o x H) := by
  refine lt_of (by decide +kernel) (Nat.le_of_ble_eq_true rfl) ?_
  intro p e s m args below meth c C0 hTH hNP hPre hTab hR ls hl
  obtain ⟨hx, hb, hr, hlocks, hml, hown, hts, hK⟩ := id C0
  have hS : va_S (AA b s.heap.size) s.heap s.heap [] := va_S.rf
  have hl : lv_has ls 5 [(0, .ref (adr b 0 0)), (1, .int (jI p0)), (2, .int (jI p1)), (3, .ref o)] := hl
  obtain ⟨H, hH⟩ : ∃ z, z = s.heap := ⟨_, rfl⟩
  obtain ⟨locs, hlo⟩ : ∃ z : List Loc, z = [] := ⟨_, rfl⟩
  have hR : Rel g b M H := by rw [hH]; exact hR
  have hS : va_S (AA b s.heap.size) s.heap H locs := by rw [hH, hlo]; exact hS
  obtain ⟨⟨x0, hO⟩, hA⟩ := hPre
  suffices hW : W p l e rmL_lockAt s m args below meth c H locs 0 0 (vx_MQ below (wqI g b 1 M (fun H => ∃ x, OL g o x H) o s.heap.size) noX args s 1 6 (AO b o s.heap.size)) (F0 m 0 ls []) by rw [hH, hlo] at hW; exact hW
  refine lv_aload_n hx hb dL_lockAt_0 rfl (lv_at hl 3 rfl) ?_
  refine lv_iconst hx hb (v := jI 0) dL_lockAt_1 rfl ?_
  refine lv_aload_n hx hb dL_lockAt_2 rfl (lv_at hl 0 rfl) ?_
  refine lv_iload_n hx hb dL_lockAt_3 rfl (lv_at hl 1 rfl) ?_
  refine lv_iload_n hx hb dL_lockAt_4 rfl (lv_at hl 2 rfl) ?_
  refine x_tC (As := [.int (jI p0), .int (jI p1)]) (rest := [.int (jI 0), .ref o]) hx hb hml hown hts hK hTH hR hS hC wd722 wd723 wd724 wd1 wd725 hyL_lockAt ⟨rfl, rfl⟩ ⟨Nat.le_trans (Nat.succ_le_succ (Nat.le_max_right _ _)) (Nat.le_refl _), Nat.add_le_add_left (Nat.le_max_right _ _) _⟩ hl.1 (Nat.le_of_ble_eq_true rfl) dL_lockAt_5 ⟨Nat.le_refl _, Nat.le_refl _⟩ rfl ?_
  intro H1 locs1 q ce hR hS1 hce hcv hcl
  have hS := AO_S (o := o) hS1
  refine vx_catch (name := exN 1) hown [] ⟨0, 10, 13, 13⟩ [⟨0, 10, 17, 15⟩, ⟨0, 10, 21, 17⟩] hTab (fun z hz => by cases hz) (by decide +kernel) (by decide) (hts _ wd178) hTH.2.2.1 hce hcv hcl ?_
  refine lv_astore hx hb dL_lockAt_13 hl (by decide) rfl ?_
  intro ls1 hl1
  refine lv_iconst hx hb (v := jI 1) dL_lockAt_15 rfl ?_
  exact x_wend hx hb hlocks hK hR ⟨x0, hO.kept (hS1.2.1 o (Array.getElem?_eq_some_iff.mp hO.choose_spec.1).1 hA)⟩ hS hr (Nat.le_refl _) (Nat.le_refl _) dL_lockAt_16
set_option maxHeartbeats 4000000 in
set_option maxRecDepth 100000 in
theorem tL_lockAt_2 {l : Launch} {g : Gx} {b o : Nat} {p0 : Int} {p1 : Int} {M : Mm} (hC : Tt l yX3_lockAt cX3_lockAt 5 (some .int) rmTX3_lockAt g b [.ref (adr b 0 0), .int (jI p0), .int (jI p1)] M 2) : Lt l yL_lockAt cL_lockAt 5 hhL_lockAt rmL_lockAt g b o [.ref (adr b 0 0), .int (jI p0), .int (jI p1), .ref o] M (OLp g b o) 2 M (fun H => ∃ x, OL g o x H) := by
  refine lt_of (by decide +kernel) (Nat.le_of_ble_eq_true rfl) ?_
  intro p e s m args below meth c C0 hTH hNP hPre hTab hR ls hl
  obtain ⟨hx, hb, hr, hlocks, hml, hown, hts, hK⟩ := id C0
  have hS : va_S (AA b s.heap.size) s.heap s.heap [] := va_S.rf
  have hl : lv_has ls 5 [(0, .ref (adr b 0 0)), (1, .int (jI p0)), (2, .int (jI p1)), (3, .ref o)] := hl
  obtain ⟨H, hH⟩ : ∃ z, z = s.heap := ⟨_, rfl⟩
  obtain ⟨locs, hlo⟩ : ∃ z : List Loc, z = [] := ⟨_, rfl⟩
  have hR : Rel g b M H := by rw [hH]; exact hR
  have hS : va_S (AA b s.heap.size) s.heap H locs := by rw [hH, hlo]; exact hS
  obtain ⟨⟨x0, hO⟩, hA⟩ := hPre
  suffices hW : W p l e rmL_lockAt s m args below meth c H locs 0 0 (vx_MQ below (wqI g b 2 M (fun H => ∃ x, OL g o x H) o s.heap.size) noX args s 1 6 (AO b o s.heap.size)) (F0 m 0 ls []) by rw [hH, hlo] at hW; exact hW
  refine lv_aload_n hx hb dL_lockAt_0 rfl (lv_at hl 3 rfl) ?_
  refine lv_iconst hx hb (v := jI 0) dL_lockAt_1 rfl ?_
  refine lv_aload_n hx hb dL_lockAt_2 rfl (lv_at hl 0 rfl) ?_
  refine lv_iload_n hx hb dL_lockAt_3 rfl (lv_at hl 1 rfl) ?_
  refine lv_iload_n hx hb dL_lockAt_4 rfl (lv_at hl 2 rfl) ?_
  refine x_tC (As := [.int (jI p0), .int (jI p1)]) (rest := [.int (jI 0), .ref o]) hx hb hml hown hts hK hTH hR hS hC wd722 wd723 wd724 wd1 wd725 hyL_lockAt ⟨rfl, rfl⟩ ⟨Nat.le_trans (Nat.succ_le_succ (Nat.le_max_right _ _)) (Nat.le_refl _), Nat.add_le_add_left (Nat.le_max_right _ _) _⟩ hl.1 (Nat.le_of_ble_eq_true rfl) dL_lockAt_5 ⟨Nat.le_refl _, Nat.le_refl _⟩ rfl ?_
  intro H1 locs1 q ce hR hS1 hce hcv hcl
  have hS := AO_S (o := o) hS1
  refine vx_catch (name := exN 2) hown [⟨0, 10, 13, 13⟩] ⟨0, 10, 17, 15⟩ [⟨0, 10, 21, 17⟩] hTab (by intro z hz; simp only [List.mem_cons, List.not_mem_nil, or_false] at hz; rcases hz with rfl; exact Or.inr ⟨by decide, exN 1, hts _ wd178, hNP.1⟩) (by decide +kernel) (by decide) (hts _ wd179) hTH.2.2.2.1 hce hcv hcl ?_
  refine lv_astore hx hb dL_lockAt_17 hl (by decide) rfl ?_
  intro ls1 hl1
  refine lv_iconst hx hb (v := jI 2) dL_lockAt_19 rfl ?_
  exact x_wend hx hb hlocks hK hR ⟨x0, hO.kept (hS1.2.1 o (Array.getElem?_eq_some_iff.mp hO.choose_spec.1).1 hA)⟩ hS hr (Nat.le_refl _) (Nat.le_refl _) dL_lockAt_20
set_option maxHeartbeats 4000000 in
set_option maxRecDepth 100000 in
theorem tL_lockAt_3 {l : Launch} {g : Gx} {b o : Nat} {p0 : Int} {p1 : Int} {M : Mm} (hC : Tt l yX3_lockAt cX3_lockAt 5 (some .int) rmTX3_lockAt g b [.ref (adr b 0 0), .int (jI p0), .int (jI p1)] M 3) : Lt l yL_lockAt cL_lockAt 5 hhL_lockAt rmL_lockAt g b o [.ref (adr b 0 0), .int (jI p0), .int (jI p1), .ref o] M (OLp g b o) 3 M (fun H => ∃ x, OL g o x H) := by
  refine lt_of (by decide +kernel) (Nat.le_of_ble_eq_true rfl) ?_
  intro p e s m args below meth c C0 hTH hNP hPre hTab hR ls hl
  obtain ⟨hx, hb, hr, hlocks, hml, hown, hts, hK⟩ := id C0
  have hS : va_S (AA b s.heap.size) s.heap s.heap [] := va_S.rf
  have hl : lv_has ls 5 [(0, .ref (adr b 0 0)), (1, .int (jI p0)), (2, .int (jI p1)), (3, .ref o)] := hl
  obtain ⟨H, hH⟩ : ∃ z, z = s.heap := ⟨_, rfl⟩
  obtain ⟨locs, hlo⟩ : ∃ z : List Loc, z = [] := ⟨_, rfl⟩
  have hR : Rel g b M H := by rw [hH]; exact hR
  have hS : va_S (AA b s.heap.size) s.heap H locs := by rw [hH, hlo]; exact hS
  obtain ⟨⟨x0, hO⟩, hA⟩ := hPre
  suffices hW : W p l e rmL_lockAt s m args below meth c H locs 0 0 (vx_MQ below (wqI g b 3 M (fun H => ∃ x, OL g o x H) o s.heap.size) noX args s 1 6 (AO b o s.heap.size)) (F0 m 0 ls []) by rw [hH, hlo] at hW; exact hW
  refine lv_aload_n hx hb dL_lockAt_0 rfl (lv_at hl 3 rfl) ?_
  refine lv_iconst hx hb (v := jI 0) dL_lockAt_1 rfl ?_
  refine lv_aload_n hx hb dL_lockAt_2 rfl (lv_at hl 0 rfl) ?_
  refine lv_iload_n hx hb dL_lockAt_3 rfl (lv_at hl 1 rfl) ?_
  refine lv_iload_n hx hb dL_lockAt_4 rfl (lv_at hl 2 rfl) ?_
  refine x_tC (As := [.int (jI p0), .int (jI p1)]) (rest := [.int (jI 0), .ref o]) hx hb hml hown hts hK hTH hR hS hC wd722 wd723 wd724 wd1 wd725 hyL_lockAt ⟨rfl, rfl⟩ ⟨Nat.le_trans (Nat.succ_le_succ (Nat.le_max_right _ _)) (Nat.le_refl _), Nat.add_le_add_left (Nat.le_max_right _ _) _⟩ hl.1 (Nat.le_of_ble_eq_true rfl) dL_lockAt_5 ⟨Nat.le_refl _, Nat.le_refl _⟩ rfl ?_
  intro H1 locs1 q ce hR hS1 hce hcv hcl
  have hS := AO_S (o := o) hS1
  refine vx_catch (name := exN 3) hown [⟨0, 10, 13, 13⟩, ⟨0, 10, 17, 15⟩] ⟨0, 10, 21, 17⟩ [] hTab (by
      intro z hz
      simp only [List.mem_cons, List.not_mem_nil, or_false] at hz
      rcases hz with rfl | rfl
      · exact Or.inr ⟨by decide, exN 1, hts _ wd178, hNP.2.1⟩
      · exact Or.inr ⟨by decide, exN 2, hts _ wd179, hNP.2.2⟩) (by decide +kernel) (by decide) (hts _ wd180) hTH.2.2.2.2.1 hce hcv hcl ?_
  refine lv_astore hx hb dL_lockAt_21 hl (by decide) rfl ?_
  intro ls1 hl1
  refine lv_iconst hx hb (v := jI 3) dL_lockAt_23 rfl ?_
  exact x_wend hx hb hlocks hK hR ⟨x0, hO.kept (hS1.2.1 o (Array.getElem?_eq_some_iff.mp hO.choose_spec.1).1 hA)⟩ hS hr (Nat.le_refl _) (Nat.le_refl _) dL_lockAt_24
abbrev rmL_nodeOf : Room := { frames := max rmX3_nodeOf.frames rmTX3_nodeOf.frames + 1, cells := 1, slots := 6, locals := 8 + (2 + 11) + max rmX3_nodeOf.locals rmTX3_nodeOf.locals }
abbrev hhL_nodeOf : List (Nat × Nat × Nat × Nat) := [(0, 9, 12, 13), (0, 9, 15, 15)]
theorem hyL_nodeOf : yX3_nodeOf.cls = RX3 ∧ yX3_nodeOf.cls ≠ "java/lang/invoke/MethodHandle" ∧ yX3_nodeOf.cls ≠ "java/lang/invoke/VarHandle" ∧ (parseMethodDescriptor yX3_nodeOf.desc).map (fun d => d.parameters.length) = some 1 := by decide +kernel
set_option maxHeartbeats 4000000 in
set_option maxRecDepth 100000 in
theorem nL_nodeOf {l : Launch} {g : Gx} {b o : Nat} {p0 : Int} {M M' : Mm} {r : Int} (hC : Ct l yX3_nodeOf cX3_nodeOf 2 (some .int) rmX3_nodeOf g b [.ref (adr b 0 0), .int (jI p0)] M (qI g b r M')) : Lt l yL_nodeOf cL_nodeOf 4 hhL_nodeOf rmL_nodeOf g b o [.ref (adr b 0 0), .int (jI p0), .ref o] M (OLp g b o) 0 M' (OL g o (jI r).toInt64) := by
  refine lt_of (by decide +kernel) (Nat.le_of_ble_eq_true rfl) ?_
  intro p e s m args below meth c C0 hTH hNP hPre hTab hR ls hl
  obtain ⟨hx, hb, hr, hlocks, hml, hown, hts, hK⟩ := id C0
  have hS : va_S (AA b s.heap.size) s.heap s.heap [] := va_S.rf
  have hl : lv_has ls 4 [(0, .ref (adr b 0 0)), (1, .int (jI p0)), (2, .ref o)] := hl
  obtain ⟨H, hH⟩ : ∃ z, z = s.heap := ⟨_, rfl⟩
  obtain ⟨locs, hlo⟩ : ∃ z : List Loc, z = [] := ⟨_, rfl⟩
  have hR : Rel g b M H := by rw [hH]; exact hR
  have hS : va_S (AA b s.heap.size) s.heap H locs := by rw [hH, hlo]; exact hS
  obtain ⟨⟨x0, hO⟩, hA⟩ := hPre
  suffices hW : W p l e rmL_nodeOf s m args below meth c H locs 0 0 (vx_MQ below (wqI g b 0 M' (OL g o (jI r).toInt64) o s.heap.size) noX args s 1 6 (AO b o s.heap.size)) (F0 m 0 ls []) by rw [hH, hlo] at hW; exact hW
  refine lv_aload_n hx hb dL_nodeOf_0 rfl (lv_at hl 2 rfl) ?_
  refine lv_iconst hx hb (v := jI 0) dL_nodeOf_1 rfl ?_
  refine lv_aload_n hx hb dL_nodeOf_2 rfl (lv_at hl 0 rfl) ?_
  refine lv_iload_n hx hb dL_nodeOf_3 rfl (lv_at hl 1 rfl) ?_
  refine x_cVi (As := [.int (jI p0)]) (rest := [.int (jI 0), .ref o]) hx hb hml hown hts hK hR hS hC ok0 rfl (ci := 3) (C := RX3) (T := TX3) (N := 9) rfl wd730 wd731 wd732 wd1 wd733 hyL_nodeOf ⟨rfl, rfl⟩ ⟨Nat.le_trans (Nat.succ_le_succ (Nat.le_max_left _ _)) (Nat.le_refl _), Nat.add_le_add_left (Nat.le_max_left _ _) _⟩ hl.1 (Nat.le_of_ble_eq_true rfl) dL_nodeOf_4 ⟨Nat.zero_le _, Nat.zero_le _⟩ rfl ?_
  intro hr0 H1 locs1 hR hS1
  have hO1 : ∃ x, OL g o x H1 := ⟨x0, hO.kept (hS1.2.1 o (Array.getElem?_eq_some_iff.mp hO.choose_spec.1).1 hA)⟩
  have hS := AO_S (o := o) hS1
  refine lv_i2l hx hb dL_nodeOf_7 rfl ?_
  refine x_wst hx hb hK hR hO1 hA hS dL_nodeOf_8 ?_
  intro H2 locs2 hR hO2 hS
  refine lv_goto (tgt := 18) hx hb dL_nodeOf_9 rfl ?_
  refine lv_iconst hx hb (v := jI 0) dL_nodeOf_18 rfl ?_
  exact x_wend hx hb hlocks hK hR hO2 hS hr (Nat.zero_le _) (Nat.zero_le _) dL_nodeOf_19
set_option maxHeartbeats 4000000 in
set_option maxRecDepth 100000 in
theorem tL_nodeOf_1 {l : Launch} {g : Gx} {b o : Nat} {p0 : Int} {M : Mm} (hC : Tt l yX3_nodeOf cX3_nodeOf 2 (some .int) rmTX3_nodeOf g b [.ref (adr b 0 0), .int (jI p0)] M 1) : Lt l yL_nodeOf cL_nodeOf 4 hhL_nodeOf rmL_nodeOf g b o [.ref (adr b 0 0), .int (jI p0), .ref o] M (OLp g b o) 1 M (fun H => ∃ x, OL g o x H) := by
  refine lt_of (by decide +kernel) (Nat.le_of_ble_eq_true rfl) ?_
  intro p e s m args below meth c C0 hTH hNP hPre hTab hR ls hl
  obtain ⟨hx, hb, hr, hlocks, hml, hown, hts, hK⟩ := id C0
  have hS : va_S (AA b s.heap.size) s.heap s.heap [] := va_S.rf
  have hl : lv_has ls 4 [(0, .ref (adr b 0 0)), (1, .int (jI p0)), (2, .ref o)] := hl
  obtain ⟨H, hH⟩ : ∃ z, z = s.heap := ⟨_, rfl⟩
  obtain ⟨locs, hlo⟩ : ∃ z : List Loc, z = [] := ⟨_, rfl⟩
  have hR : Rel g b M H := by rw [hH]; exact hR
  have hS : va_S (AA b s.heap.size) s.heap H locs := by rw [hH, hlo]; exact hS
  obtain ⟨⟨x0, hO⟩, hA⟩ := hPre
  suffices hW : W p l e rmL_nodeOf s m args below meth c H locs 0 0 (vx_MQ below (wqI g b 1 M (fun H => ∃ x, OL g o x H) o s.heap.size) noX args s 1 6 (AO b o s.heap.size)) (F0 m 0 ls []) by rw [hH, hlo] at hW; exact hW
  refine lv_aload_n hx hb dL_nodeOf_0 rfl (lv_at hl 2 rfl) ?_
  refine lv_iconst hx hb (v := jI 0) dL_nodeOf_1 rfl ?_
  refine lv_aload_n hx hb dL_nodeOf_2 rfl (lv_at hl 0 rfl) ?_
  refine lv_iload_n hx hb dL_nodeOf_3 rfl (lv_at hl 1 rfl) ?_
  refine x_tC (As := [.int (jI p0)]) (rest := [.int (jI 0), .ref o]) hx hb hml hown hts hK hTH hR hS hC wd730 wd731 wd732 wd1 wd733 hyL_nodeOf ⟨rfl, rfl⟩ ⟨Nat.le_trans (Nat.succ_le_succ (Nat.le_max_right _ _)) (Nat.le_refl _), Nat.add_le_add_left (Nat.le_max_right _ _) _⟩ hl.1 (Nat.le_of_ble_eq_true rfl) dL_nodeOf_4 ⟨Nat.le_refl _, Nat.le_refl _⟩ rfl ?_
  intro H1 locs1 q ce hR hS1 hce hcv hcl
  have hS := AO_S (o := o) hS1
  refine vx_catch (name := exN 1) hown [] ⟨0, 9, 12, 13⟩ [⟨0, 9, 15, 15⟩] hTab (fun z hz => by cases hz) (by decide +kernel) (by decide) (hts _ wd178) hTH.2.2.1 hce hcv hcl ?_
  refine lv_astore_n hx hb dL_nodeOf_12 rfl hl (by decide) rfl ?_
  intro ls1 hl1
  refine lv_iconst hx hb (v := jI 1) dL_nodeOf_13 rfl ?_
  exact x_wend hx hb hlocks hK hR ⟨x0, hO.kept (hS1.2.1 o (Array.getElem?_eq_some_iff.mp hO.choose_spec.1).1 hA)⟩ hS hr (Nat.le_refl _) (Nat.le_refl _) dL_nodeOf_14
set_option maxHeartbeats 4000000 in
set_option maxRecDepth 100000 in
theorem tL_nodeOf_2 {l : Launch} {g : Gx} {b o : Nat} {p0 : Int} {M : Mm} (hC : Tt l yX3_nodeOf cX3_nodeOf 2 (some .int) rmTX3_nodeOf g b [.ref (adr b 0 0), .int (jI p0)] M 2) : Lt l yL_nodeOf cL_nodeOf 4 hhL_nodeOf rmL_nodeOf g b o [.ref (adr b 0 0), .int (jI p0), .ref o] M (OLp g b o) 2 M (fun H => ∃ x, OL g o x H) := by
  refine lt_of (by decide +kernel) (Nat.le_of_ble_eq_true rfl) ?_
  intro p e s m args below meth c C0 hTH hNP hPre hTab hR ls hl
  obtain ⟨hx, hb, hr, hlocks, hml, hown, hts, hK⟩ := id C0
  have hS : va_S (AA b s.heap.size) s.heap s.heap [] := va_S.rf
  have hl : lv_has ls 4 [(0, .ref (adr b 0 0)), (1, .int (jI p0)), (2, .ref o)] := hl
  obtain ⟨H, hH⟩ : ∃ z, z = s.heap := ⟨_, rfl⟩
  obtain ⟨locs, hlo⟩ : ∃ z : List Loc, z = [] := ⟨_, rfl⟩
  have hR : Rel g b M H := by rw [hH]; exact hR
  have hS : va_S (AA b s.heap.size) s.heap H locs := by rw [hH, hlo]; exact hS
  obtain ⟨⟨x0, hO⟩, hA⟩ := hPre
  suffices hW : W p l e rmL_nodeOf s m args below meth c H locs 0 0 (vx_MQ below (wqI g b 2 M (fun H => ∃ x, OL g o x H) o s.heap.size) noX args s 1 6 (AO b o s.heap.size)) (F0 m 0 ls []) by rw [hH, hlo] at hW; exact hW
  refine lv_aload_n hx hb dL_nodeOf_0 rfl (lv_at hl 2 rfl) ?_
  refine lv_iconst hx hb (v := jI 0) dL_nodeOf_1 rfl ?_
  refine lv_aload_n hx hb dL_nodeOf_2 rfl (lv_at hl 0 rfl) ?_
  refine lv_iload_n hx hb dL_nodeOf_3 rfl (lv_at hl 1 rfl) ?_
  refine x_tC (As := [.int (jI p0)]) (rest := [.int (jI 0), .ref o]) hx hb hml hown hts hK hTH hR hS hC wd730 wd731 wd732 wd1 wd733 hyL_nodeOf ⟨rfl, rfl⟩ ⟨Nat.le_trans (Nat.succ_le_succ (Nat.le_max_right _ _)) (Nat.le_refl _), Nat.add_le_add_left (Nat.le_max_right _ _) _⟩ hl.1 (Nat.le_of_ble_eq_true rfl) dL_nodeOf_4 ⟨Nat.le_refl _, Nat.le_refl _⟩ rfl ?_
  intro H1 locs1 q ce hR hS1 hce hcv hcl
  have hS := AO_S (o := o) hS1
  refine vx_catch (name := exN 2) hown [⟨0, 9, 12, 13⟩] ⟨0, 9, 15, 15⟩ [] hTab (by intro z hz; simp only [List.mem_cons, List.not_mem_nil, or_false] at hz; rcases hz with rfl; exact Or.inr ⟨by decide, exN 1, hts _ wd178, hNP.1⟩) (by decide +kernel) (by decide) (hts _ wd179) hTH.2.2.2.1 hce hcv hcl ?_
  refine lv_astore_n hx hb dL_nodeOf_15 rfl hl (by decide) rfl ?_
  intro ls1 hl1
  refine lv_iconst hx hb (v := jI 2) dL_nodeOf_16 rfl ?_
  exact x_wend hx hb hlocks hK hR ⟨x0, hO.kept (hS1.2.1 o (Array.getElem?_eq_some_iff.mp hO.choose_spec.1).1 hA)⟩ hS hr (Nat.le_refl _) (Nat.le_refl _) dL_nodeOf_17
abbrev rmL_positionOf : Room := { frames := max rmX3_positionOf.frames rmTX3_positionOf.frames + 1, cells := 1, slots := 6, locals := 8 + (2 + 11) + max rmX3_positionOf.locals rmTX3_positionOf.locals }
abbrev hhL_positionOf : List (Nat × Nat × Nat × Nat) := [(0, 9, 12, 13), (0, 9, 15, 15)]
theorem hyL_positionOf : yX3_positionOf.cls = RX3 ∧ yX3_positionOf.cls ≠ "java/lang/invoke/MethodHandle" ∧ yX3_positionOf.cls ≠ "java/lang/invoke/VarHandle" ∧ (parseMethodDescriptor yX3_positionOf.desc).map (fun d => d.parameters.length) = some 1 := by decide +kernel
set_option maxHeartbeats 4000000 in
set_option maxRecDepth 100000 in
theorem nL_positionOf {l : Launch} {g : Gx} {b o : Nat} {p0 : Int} {M M' : Mm} {r : Int} (hC : Ct l yX3_positionOf cX3_positionOf 2 (some .int) rmX3_positionOf g b [.ref (adr b 0 0), .int (jI p0)] M (qI g b r M')) : Lt l yL_positionOf cL_positionOf 4 hhL_positionOf rmL_positionOf g b o [.ref (adr b 0 0), .int (jI p0), .ref o] M (OLp g b o) 0 M' (OL g o (jI r).toInt64) := by
  refine lt_of (by decide +kernel) (Nat.le_of_ble_eq_true rfl) ?_
  intro p e s m args below meth c C0 hTH hNP hPre hTab hR ls hl
  obtain ⟨hx, hb, hr, hlocks, hml, hown, hts, hK⟩ := id C0
  have hS : va_S (AA b s.heap.size) s.heap s.heap [] := va_S.rf
  have hl : lv_has ls 4 [(0, .ref (adr b 0 0)), (1, .int (jI p0)), (2, .ref o)] := hl
  obtain ⟨H, hH⟩ : ∃ z, z = s.heap := ⟨_, rfl⟩
  obtain ⟨locs, hlo⟩ : ∃ z : List Loc, z = [] := ⟨_, rfl⟩
  have hR : Rel g b M H := by rw [hH]; exact hR
  have hS : va_S (AA b s.heap.size) s.heap H locs := by rw [hH, hlo]; exact hS
  obtain ⟨⟨x0, hO⟩, hA⟩ := hPre
  suffices hW : W p l e rmL_positionOf s m args below meth c H locs 0 0 (vx_MQ below (wqI g b 0 M' (OL g o (jI r).toInt64) o s.heap.size) noX args s 1 6 (AO b o s.heap.size)) (F0 m 0 ls []) by rw [hH, hlo] at hW; exact hW
  refine lv_aload_n hx hb dL_positionOf_0 rfl (lv_at hl 2 rfl) ?_
  refine lv_iconst hx hb (v := jI 0) dL_positionOf_1 rfl ?_
  refine lv_aload_n hx hb dL_positionOf_2 rfl (lv_at hl 0 rfl) ?_
  refine lv_iload_n hx hb dL_positionOf_3 rfl (lv_at hl 1 rfl) ?_
  refine x_cVi (As := [.int (jI p0)]) (rest := [.int (jI 0), .ref o]) hx hb hml hown hts hK hR hS hC ok0 rfl (ci := 3) (C := RX3) (T := TX3) (N := 9) rfl wd737 wd738 wd739 wd1 wd740 hyL_positionOf ⟨rfl, rfl⟩ ⟨Nat.le_trans (Nat.succ_le_succ (Nat.le_max_left _ _)) (Nat.le_refl _), Nat.add_le_add_left (Nat.le_max_left _ _) _⟩ hl.1 (Nat.le_of_ble_eq_true rfl) dL_positionOf_4 ⟨Nat.zero_le _, Nat.zero_le _⟩ rfl ?_
  intro hr0 H1 locs1 hR hS1
  have hO1 : ∃ x, OL g o x H1 := ⟨x0, hO.kept (hS1.2.1 o (Array.getElem?_eq_some_iff.mp hO.choose_spec.1).1 hA)⟩
  have hS := AO_S (o := o) hS1
  refine lv_i2l hx hb dL_positionOf_7 rfl ?_
  refine x_wst hx hb hK hR hO1 hA hS dL_positionOf_8 ?_
  intro H2 locs2 hR hO2 hS
  refine lv_goto (tgt := 18) hx hb dL_positionOf_9 rfl ?_
  refine lv_iconst hx hb (v := jI 0) dL_positionOf_18 rfl ?_
  exact x_wend hx hb hlocks hK hR hO2 hS hr (Nat.zero_le _) (Nat.zero_le _) dL_positionOf_19
set_option maxHeartbeats 4000000 in
set_option maxRecDepth 100000 in
theorem tL_positionOf_1 {l : Launch} {g : Gx} {b o : Nat} {p0 : Int} {M : Mm} (hC : Tt l yX3_positionOf cX3_positionOf 2 (some .int) rmTX3_positionOf g b [.ref (adr b 0 0), .int (jI p0)] M 1) : Lt l yL_positionOf cL_positionOf 4 hhL_positionOf rmL_positionOf g b o [.ref (adr b 0 0), .int (jI p0), .ref o] M (OLp g b o) 1 M (fun H => ∃ x, OL g o x H) := by
  refine lt_of (by decide +kernel) (Nat.le_of_ble_eq_true rfl) ?_
  intro p e s m args below meth c C0 hTH hNP hPre hTab hR ls hl
  obtain ⟨hx, hb, hr, hlocks, hml, hown, hts, hK⟩ := id C0
  have hS : va_S (AA b s.heap.size) s.heap s.heap [] := va_S.rf
  have hl : lv_has ls 4 [(0, .ref (adr b 0 0)), (1, .int (jI p0)), (2, .ref o)] := hl
  obtain ⟨H, hH⟩ : ∃ z, z = s.heap := ⟨_, rfl⟩
  obtain ⟨locs, hlo⟩ : ∃ z : List Loc, z = [] := ⟨_, rfl⟩
  have hR : Rel g b M H := by rw [hH]; exact hR
  have hS : va_S (AA b s.heap.size) s.heap H locs := by rw [hH, hlo]; exact hS
  obtain ⟨⟨x0, hO⟩, hA⟩ := hPre
  suffices hW : W p l e rmL_positionOf s m args below meth c H locs 0 0 (vx_MQ below (wqI g b 1 M (fun H => ∃ x, OL g o x H) o s.heap.size) noX args s 1 6 (AO b o s.heap.size)) (F0 m 0 ls []) by rw [hH, hlo] at hW; exact hW
  refine lv_aload_n hx hb dL_positionOf_0 rfl (lv_at hl 2 rfl) ?_
  refine lv_iconst hx hb (v := jI 0) dL_positionOf_1 rfl ?_
  refine lv_aload_n hx hb dL_positionOf_2 rfl (lv_at hl 0 rfl) ?_
  refine lv_iload_n hx hb dL_positionOf_3 rfl (lv_at hl 1 rfl) ?_
  refine x_tC (As := [.int (jI p0)]) (rest := [.int (jI 0), .ref o]) hx hb hml hown hts hK hTH hR hS hC wd737 wd738 wd739 wd1 wd740 hyL_positionOf ⟨rfl, rfl⟩ ⟨Nat.le_trans (Nat.succ_le_succ (Nat.le_max_right _ _)) (Nat.le_refl _), Nat.add_le_add_left (Nat.le_max_right _ _) _⟩ hl.1 (Nat.le_of_ble_eq_true rfl) dL_positionOf_4 ⟨Nat.le_refl _, Nat.le_refl _⟩ rfl ?_
  intro H1 locs1 q ce hR hS1 hce hcv hcl
  have hS := AO_S (o := o) hS1
  refine vx_catch (name := exN 1) hown [] ⟨0, 9, 12, 13⟩ [⟨0, 9, 15, 15⟩] hTab (fun z hz => by cases hz) (by decide +kernel) (by decide) (hts _ wd178) hTH.2.2.1 hce hcv hcl ?_
  refine lv_astore_n hx hb dL_positionOf_12 rfl hl (by decide) rfl ?_
  intro ls1 hl1
  refine lv_iconst hx hb (v := jI 1) dL_positionOf_13 rfl ?_
  exact x_wend hx hb hlocks hK hR ⟨x0, hO.kept (hS1.2.1 o (Array.getElem?_eq_some_iff.mp hO.choose_spec.1).1 hA)⟩ hS hr (Nat.le_refl _) (Nat.le_refl _) dL_positionOf_14
set_option maxHeartbeats 4000000 in
set_option maxRecDepth 100000 in
theorem tL_positionOf_2 {l : Launch} {g : Gx} {b o : Nat} {p0 : Int} {M : Mm} (hC : Tt l yX3_positionOf cX3_positionOf 2 (some .int) rmTX3_positionOf g b [.ref (adr b 0 0), .int (jI p0)] M 2) : Lt l yL_positionOf cL_positionOf 4 hhL_positionOf rmL_positionOf g b o [.ref (adr b 0 0), .int (jI p0), .ref o] M (OLp g b o) 2 M (fun H => ∃ x, OL g o x H) := by
  refine lt_of (by decide +kernel) (Nat.le_of_ble_eq_true rfl) ?_
  intro p e s m args below meth c C0 hTH hNP hPre hTab hR ls hl
  obtain ⟨hx, hb, hr, hlocks, hml, hown, hts, hK⟩ := id C0
  have hS : va_S (AA b s.heap.size) s.heap s.heap [] := va_S.rf
  have hl : lv_has ls 4 [(0, .ref (adr b 0 0)), (1, .int (jI p0)), (2, .ref o)] := hl
  obtain ⟨H, hH⟩ : ∃ z, z = s.heap := ⟨_, rfl⟩
  obtain ⟨locs, hlo⟩ : ∃ z : List Loc, z = [] := ⟨_, rfl⟩
  have hR : Rel g b M H := by rw [hH]; exact hR
  have hS : va_S (AA b s.heap.size) s.heap H locs := by rw [hH, hlo]; exact hS
  obtain ⟨⟨x0, hO⟩, hA⟩ := hPre
  suffices hW : W p l e rmL_positionOf s m args below meth c H locs 0 0 (vx_MQ below (wqI g b 2 M (fun H => ∃ x, OL g o x H) o s.heap.size) noX args s 1 6 (AO b o s.heap.size)) (F0 m 0 ls []) by rw [hH, hlo] at hW; exact hW
  refine lv_aload_n hx hb dL_positionOf_0 rfl (lv_at hl 2 rfl) ?_
  refine lv_iconst hx hb (v := jI 0) dL_positionOf_1 rfl ?_
  refine lv_aload_n hx hb dL_positionOf_2 rfl (lv_at hl 0 rfl) ?_
  refine lv_iload_n hx hb dL_positionOf_3 rfl (lv_at hl 1 rfl) ?_
  refine x_tC (As := [.int (jI p0)]) (rest := [.int (jI 0), .ref o]) hx hb hml hown hts hK hTH hR hS hC wd737 wd738 wd739 wd1 wd740 hyL_positionOf ⟨rfl, rfl⟩ ⟨Nat.le_trans (Nat.succ_le_succ (Nat.le_max_right _ _)) (Nat.le_refl _), Nat.add_le_add_left (Nat.le_max_right _ _) _⟩ hl.1 (Nat.le_of_ble_eq_true rfl) dL_positionOf_4 ⟨Nat.le_refl _, Nat.le_refl _⟩ rfl ?_
  intro H1 locs1 q ce hR hS1 hce hcv hcl
  have hS := AO_S (o := o) hS1
  refine vx_catch (name := exN 2) hown [⟨0, 9, 12, 13⟩] ⟨0, 9, 15, 15⟩ [] hTab (by intro z hz; simp only [List.mem_cons, List.not_mem_nil, or_false] at hz; rcases hz with rfl; exact Or.inr ⟨by decide, exN 1, hts _ wd178, hNP.1⟩) (by decide +kernel) (by decide) (hts _ wd179) hTH.2.2.2.1 hce hcv hcl ?_
  refine lv_astore_n hx hb dL_positionOf_15 rfl hl (by decide) rfl ?_
  intro ls1 hl1
  refine lv_iconst hx hb (v := jI 2) dL_positionOf_16 rfl ?_
  exact x_wend hx hb hlocks hK hR ⟨x0, hO.kept (hS1.2.1 o (Array.getElem?_eq_some_iff.mp hO.choose_spec.1).1 hA)⟩ hS hr (Nat.le_refl _) (Nat.le_refl _) dL_positionOf_17
abbrev rmL_handles : Room := { frames := max rmX3_handles.frames rmTX3_handles.frames + 1, cells := 1, slots := 6, locals := 8 + (3 + 11) + max rmX3_handles.locals rmTX3_handles.locals }
abbrev hhL_handles : List (Nat × Nat × Nat × Nat) := [(0, 8, 11, 13)]
theorem hyL_handles : yX3_handles.cls = RX3 ∧ yX3_handles.cls ≠ "java/lang/invoke/MethodHandle" ∧ yX3_handles.cls ≠ "java/lang/invoke/VarHandle" ∧ (parseMethodDescriptor yX3_handles.desc).map (fun d => d.parameters.length) = some 0 := by decide +kernel
set_option maxHeartbeats 4000000 in
set_option maxRecDepth 100000 in
theorem nL_handles {l : Launch} {g : Gx} {b o : Nat} {M M' : Mm} {r : Int} (hC : Ct l yX3_handles cX3_handles 3 (some .int) rmX3_handles g b [.ref (adr b 0 0)] M (qI g b r M')) : Lt l yL_handles cL_handles 3 hhL_handles rmL_handles g b o [.ref (adr b 0 0), .ref o] M (OLp g b o) 0 M' (OL g o (jI r).toInt64) := by
  refine lt_of (by decide +kernel) (Nat.le_of_ble_eq_true rfl) ?_
  intro p e s m args below meth c C0 hTH hNP hPre hTab hR ls hl
  obtain ⟨hx, hb, hr, hlocks, hml, hown, hts, hK⟩ := id C0
  have hS : va_S (AA b s.heap.size) s.heap s.heap [] := va_S.rf
  have hl : lv_has ls 3 [(0, .ref (adr b 0 0)), (1, .ref o)] := hl
  obtain ⟨H, hH⟩ : ∃ z, z = s.heap := ⟨_, rfl⟩
  obtain ⟨locs, hlo⟩ : ∃ z : List Loc, z = [] := ⟨_, rfl⟩
  have hR : Rel g b M H := by rw [hH]; exact hR
  have hS : va_S (AA b s.heap.size) s.heap H locs := by rw [hH, hlo]; exact hS
  obtain ⟨⟨x0, hO⟩, hA⟩ := hPre
  suffices hW : W p l e rmL_handles s m args below meth c H locs 0 0 (vx_MQ below (wqI g b 0 M' (OL g o (jI r).toInt64) o s.heap.size) noX args s 1 6 (AO b o s.heap.size)) (F0 m 0 ls []) by rw [hH, hlo] at hW; exact hW
  refine lv_aload_n hx hb dL_handles_0 rfl (lv_at hl 1 rfl) ?_
  refine lv_iconst hx hb (v := jI 0) dL_handles_1 rfl ?_
  refine lv_aload_n hx hb dL_handles_2 rfl (lv_at hl 0 rfl) ?_
  refine x_cVi (As := []) (rest := [.int (jI 0), .ref o]) hx hb hml hown hts hK hR hS hC ok0 rfl (ci := 3) (C := RX3) (T := TX3) (N := 9) rfl wd744 wd745 wd746 wd1 wd747 hyL_handles ⟨rfl, rfl⟩ ⟨Nat.le_trans (Nat.succ_le_succ (Nat.le_max_left _ _)) (Nat.le_refl _), Nat.add_le_add_left (Nat.le_max_left _ _) _⟩ hl.1 (Nat.le_of_ble_eq_true rfl) dL_handles_3 ⟨Nat.zero_le _, Nat.zero_le _⟩ rfl ?_
  intro hr0 H1 locs1 hR hS1
  have hO1 : ∃ x, OL g o x H1 := ⟨x0, hO.kept (hS1.2.1 o (Array.getElem?_eq_some_iff.mp hO.choose_spec.1).1 hA)⟩
  have hS := AO_S (o := o) hS1
  refine lv_i2l hx hb dL_handles_6 rfl ?_
  refine x_wst hx hb hK hR hO1 hA hS dL_handles_7 ?_
  intro H2 locs2 hR hO2 hS
  refine lv_goto (tgt := 14) hx hb dL_handles_8 rfl ?_
  refine lv_iconst hx hb (v := jI 0) dL_handles_14 rfl ?_
  exact x_wend hx hb hlocks hK hR hO2 hS hr (Nat.zero_le _) (Nat.zero_le _) dL_handles_15
set_option maxHeartbeats 4000000 in
set_option maxRecDepth 100000 in
theorem tL_handles_1 {l : Launch} {g : Gx} {b o : Nat} {M : Mm} (hC : Tt l yX3_handles cX3_handles 3 (some .int) rmTX3_handles g b [.ref (adr b 0 0)] M 1) : Lt l yL_handles cL_handles 3 hhL_handles rmL_handles g b o [.ref (adr b 0 0), .ref o] M (OLp g b o) 1 M (fun H => ∃ x, OL g o x H) := by
  refine lt_of (by decide +kernel) (Nat.le_of_ble_eq_true rfl) ?_
  intro p e s m args below meth c C0 hTH hNP hPre hTab hR ls hl
  obtain ⟨hx, hb, hr, hlocks, hml, hown, hts, hK⟩ := id C0
  have hS : va_S (AA b s.heap.size) s.heap s.heap [] := va_S.rf
  have hl : lv_has ls 3 [(0, .ref (adr b 0 0)), (1, .ref o)] := hl
  obtain ⟨H, hH⟩ : ∃ z, z = s.heap := ⟨_, rfl⟩
  obtain ⟨locs, hlo⟩ : ∃ z : List Loc, z = [] := ⟨_, rfl⟩
  have hR : Rel g b M H := by rw [hH]; exact hR
  have hS : va_S (AA b s.heap.size) s.heap H locs := by rw [hH, hlo]; exact hS
  obtain ⟨⟨x0, hO⟩, hA⟩ := hPre
  suffices hW : W p l e rmL_handles s m args below meth c H locs 0 0 (vx_MQ below (wqI g b 1 M (fun H => ∃ x, OL g o x H) o s.heap.size) noX args s 1 6 (AO b o s.heap.size)) (F0 m 0 ls []) by rw [hH, hlo] at hW; exact hW
  refine lv_aload_n hx hb dL_handles_0 rfl (lv_at hl 1 rfl) ?_
  refine lv_iconst hx hb (v := jI 0) dL_handles_1 rfl ?_
  refine lv_aload_n hx hb dL_handles_2 rfl (lv_at hl 0 rfl) ?_
  refine x_tC (As := []) (rest := [.int (jI 0), .ref o]) hx hb hml hown hts hK hTH hR hS hC wd744 wd745 wd746 wd1 wd747 hyL_handles ⟨rfl, rfl⟩ ⟨Nat.le_trans (Nat.succ_le_succ (Nat.le_max_right _ _)) (Nat.le_refl _), Nat.add_le_add_left (Nat.le_max_right _ _) _⟩ hl.1 (Nat.le_of_ble_eq_true rfl) dL_handles_3 ⟨Nat.le_refl _, Nat.le_refl _⟩ rfl ?_
  intro H1 locs1 q ce hR hS1 hce hcv hcl
  have hS := AO_S (o := o) hS1
  refine vx_catch (name := exN 1) hown [] ⟨0, 8, 11, 13⟩ [] hTab (fun z hz => by cases hz) (by decide +kernel) (by decide) (hts _ wd178) hTH.2.2.1 hce hcv hcl ?_
  refine lv_astore_n hx hb dL_handles_11 rfl hl (by decide) rfl ?_
  intro ls1 hl1
  refine lv_iconst hx hb (v := jI 1) dL_handles_12 rfl ?_
  exact x_wend hx hb hlocks hK hR ⟨x0, hO.kept (hS1.2.1 o (Array.getElem?_eq_some_iff.mp hO.choose_spec.1).1 hA)⟩ hS hr (Nat.le_refl _) (Nat.le_refl _) dL_handles_13
abbrev rmL_sync : Room := { frames := max rmX3_sync.frames rmTX3_sync.frames + 1, cells := 1, slots := 6, locals := 8 + (1 + 11) + max rmX3_sync.locals rmTX3_sync.locals }
abbrev hhL_sync : List (Nat × Nat × Nat × Nat) := [(0, 15, 18, 13)]
theorem hyL_sync : yX3_sync.cls = RX3 ∧ yX3_sync.cls ≠ "java/lang/invoke/MethodHandle" ∧ yX3_sync.cls ≠ "java/lang/invoke/VarHandle" ∧ (parseMethodDescriptor yX3_sync.desc).map (fun d => d.parameters.length) = some 0 := by decide +kernel
set_option maxHeartbeats 4000000 in
set_option maxRecDepth 100000 in
theorem nL_sync {l : Launch} {g : Gx} {b o : Nat} {M M' : Mm} {r : Int} (hC : Ct l yX3_sync cX3_sync 1 (some .boolean) rmX3_sync g b [.ref (adr b 0 0)] M (qI g b r M')) : Lt l yL_sync cL_sync 3 hhL_sync rmL_sync g b o [.ref (adr b 0 0), .ref o] M (OLp g b o) 0 M' (OL g o (if r = 0 then 0 else 1)) := by
  refine lt_of (by decide +kernel) (Nat.le_of_ble_eq_true rfl) ?_
  intro p e s m args below meth c C0 hTH hNP hPre hTab hR ls hl
  obtain ⟨hx, hb, hr, hlocks, hml, hown, hts, hK⟩ := id C0
  have hS : va_S (AA b s.heap.size) s.heap s.heap [] := va_S.rf
  have hl : lv_has ls 3 [(0, .ref (adr b 0 0)), (1, .ref o)] := hl
  obtain ⟨H, hH⟩ : ∃ z, z = s.heap := ⟨_, rfl⟩
  obtain ⟨locs, hlo⟩ : ∃ z : List Loc, z = [] := ⟨_, rfl⟩
  have hR : Rel g b M H := by rw [hH]; exact hR
  have hS : va_S (AA b s.heap.size) s.heap H locs := by rw [hH, hlo]; exact hS
  obtain ⟨⟨x0, hO⟩, hA⟩ := hPre
  suffices hW : W p l e rmL_sync s m args below meth c H locs 0 0 (vx_MQ below (wqI g b 0 M' (OL g o (if r = 0 then 0 else 1)) o s.heap.size) noX args s 1 6 (AO b o s.heap.size)) (F0 m 0 ls []) by rw [hH, hlo] at hW; exact hW
  refine lv_aload_n hx hb dL_sync_0 rfl (lv_at hl 1 rfl) ?_
  refine lv_iconst hx hb (v := jI 0) dL_sync_1 rfl ?_
  refine lv_aload_n hx hb dL_sync_2 rfl (lv_at hl 0 rfl) ?_
  refine x_cVi (As := []) (rest := [.int (jI 0), .ref o]) hx hb hml hown hts hK hR hS hC ok0 rfl (ci := 3) (C := RX3) (T := TX3) (N := 9) rfl wd751 wd752 wd753 wd1 wd754 hyL_sync ⟨rfl, rfl⟩ ⟨Nat.le_trans (Nat.succ_le_succ (Nat.le_max_left _ _)) (Nat.le_refl _), Nat.add_le_add_left (Nat.le_max_left _ _) _⟩ hl.1 (Nat.le_of_ble_eq_true rfl) dL_sync_3 ⟨Nat.zero_le _, Nat.zero_le _⟩ rfl ?_
  intro hr0 H1 locs1 hR hS1
  have hO1 : ∃ x, OL g o x H1 := ⟨x0, hO.kept (hS1.2.1 o (Array.getElem?_eq_some_iff.mp hO.choose_spec.1).1 hA)⟩
  have hS := AO_S (o := o) hS1
  refine lv_if_eq (tgt := 13) hx hb dL_sync_6 rfl (fun ci => ?_) (fun ci => ?_)
  · have c0 : r = 0 := (jI_eq hr0 rg_0).mp (ci.trans jI_0.symm)
    rw [if_pos c0]
    refine lv_lconst hx hb (v := 0) dL_sync_13 rfl ?_
    refine x_wst hx hb hK hR hO1 hA hS dL_sync_14 ?_
    intro H2 locs2 hR hO2 hS
    refine lv_goto (tgt := 21) hx hb dL_sync_15 rfl ?_
    refine lv_iconst hx hb (v := jI 0) dL_sync_21 rfl ?_
    exact x_wend hx hb hlocks hK hR hO2 hS hr (Nat.zero_le _) (Nat.zero_le _) dL_sync_22
  · have c0 : ¬ r = 0 := fun z => ci (by rw [z]; exact jI_0)
    rw [if_neg c0]
    refine lv_lconst hx hb (v := 1) dL_sync_9 rfl ?_
    refine lv_goto (tgt := 14) hx hb dL_sync_10 rfl ?_
    refine x_wst hx hb hK hR hO1 hA hS dL_sync_14 ?_
    intro H2 locs2 hR hO2 hS
    refine lv_goto (tgt := 21) hx hb dL_sync_15 rfl ?_
    refine lv_iconst hx hb (v := jI 0) dL_sync_21 rfl ?_
    exact x_wend hx hb hlocks hK hR hO2 hS hr (Nat.zero_le _) (Nat.zero_le _) dL_sync_22
set_option maxHeartbeats 4000000 in
set_option maxRecDepth 100000 in
theorem tL_sync_1 {l : Launch} {g : Gx} {b o : Nat} {M : Mm} (hC : Tt l yX3_sync cX3_sync 1 (some .boolean) rmTX3_sync g b [.ref (adr b 0 0)] M 1) : Lt l yL_sync cL_sync 3 hhL_sync rmL_sync g b o [.ref (adr b 0 0), .ref o] M (OLp g b o) 1 M (fun H => ∃ x, OL g o x H) := by
  refine lt_of (by decide +kernel) (Nat.le_of_ble_eq_true rfl) ?_
  intro p e s m args below meth c C0 hTH hNP hPre hTab hR ls hl
  obtain ⟨hx, hb, hr, hlocks, hml, hown, hts, hK⟩ := id C0
  have hS : va_S (AA b s.heap.size) s.heap s.heap [] := va_S.rf
  have hl : lv_has ls 3 [(0, .ref (adr b 0 0)), (1, .ref o)] := hl
  obtain ⟨H, hH⟩ : ∃ z, z = s.heap := ⟨_, rfl⟩
  obtain ⟨locs, hlo⟩ : ∃ z : List Loc, z = [] := ⟨_, rfl⟩
  have hR : Rel g b M H := by rw [hH]; exact hR
  have hS : va_S (AA b s.heap.size) s.heap H locs := by rw [hH, hlo]; exact hS
  obtain ⟨⟨x0, hO⟩, hA⟩ := hPre
  suffices hW : W p l e rmL_sync s m args below meth c H locs 0 0 (vx_MQ below (wqI g b 1 M (fun H => ∃ x, OL g o x H) o s.heap.size) noX args s 1 6 (AO b o s.heap.size)) (F0 m 0 ls []) by rw [hH, hlo] at hW; exact hW
  refine lv_aload_n hx hb dL_sync_0 rfl (lv_at hl 1 rfl) ?_
  refine lv_iconst hx hb (v := jI 0) dL_sync_1 rfl ?_
  refine lv_aload_n hx hb dL_sync_2 rfl (lv_at hl 0 rfl) ?_
  refine x_tC (As := []) (rest := [.int (jI 0), .ref o]) hx hb hml hown hts hK hTH hR hS hC wd751 wd752 wd753 wd1 wd754 hyL_sync ⟨rfl, rfl⟩ ⟨Nat.le_trans (Nat.succ_le_succ (Nat.le_max_right _ _)) (Nat.le_refl _), Nat.add_le_add_left (Nat.le_max_right _ _) _⟩ hl.1 (Nat.le_of_ble_eq_true rfl) dL_sync_3 ⟨Nat.le_refl _, Nat.le_refl _⟩ rfl ?_
  intro H1 locs1 q ce hR hS1 hce hcv hcl
  have hS := AO_S (o := o) hS1
  refine vx_catch (name := exN 1) hown [] ⟨0, 15, 18, 13⟩ [] hTab (fun z hz => by cases hz) (by decide +kernel) (by decide) (hts _ wd178) hTH.2.2.1 hce hcv hcl ?_
  refine lv_astore_n hx hb dL_sync_18 rfl hl (by decide) rfl ?_
  intro ls1 hl1
  refine lv_iconst hx hb (v := jI 1) dL_sync_19 rfl ?_
  exact x_wend hx hb hlocks hK hR ⟨x0, hO.kept (hS1.2.1 o (Array.getElem?_eq_some_iff.mp hO.choose_spec.1).1 hA)⟩ hS hr (Nat.le_refl _) (Nat.le_refl _) dL_sync_20
abbrev rmL_flush : Room := { frames := max rmX3_flush.frames rmTX3_flush.frames + 1, cells := 1, slots := 6, locals := 8 + (1 + 11) + max rmX3_flush.locals rmTX3_flush.locals }
abbrev hhL_flush : List (Nat × Nat × Nat × Nat) := [(0, 15, 18, 13)]
theorem hyL_flush : yX3_flush.cls = RX3 ∧ yX3_flush.cls ≠ "java/lang/invoke/MethodHandle" ∧ yX3_flush.cls ≠ "java/lang/invoke/VarHandle" ∧ (parseMethodDescriptor yX3_flush.desc).map (fun d => d.parameters.length) = some 0 := by decide +kernel
set_option maxHeartbeats 4000000 in
set_option maxRecDepth 100000 in
theorem nL_flush {l : Launch} {g : Gx} {b o : Nat} {M M' : Mm} {r : Int} (hC : Ct l yX3_flush cX3_flush 1 (some .boolean) rmX3_flush g b [.ref (adr b 0 0)] M (qI g b r M')) : Lt l yL_flush cL_flush 3 hhL_flush rmL_flush g b o [.ref (adr b 0 0), .ref o] M (OLp g b o) 0 M' (OL g o (if r = 0 then 0 else 1)) := by
  refine lt_of (by decide +kernel) (Nat.le_of_ble_eq_true rfl) ?_
  intro p e s m args below meth c C0 hTH hNP hPre hTab hR ls hl
  obtain ⟨hx, hb, hr, hlocks, hml, hown, hts, hK⟩ := id C0
  have hS : va_S (AA b s.heap.size) s.heap s.heap [] := va_S.rf
  have hl : lv_has ls 3 [(0, .ref (adr b 0 0)), (1, .ref o)] := hl
  obtain ⟨H, hH⟩ : ∃ z, z = s.heap := ⟨_, rfl⟩
  obtain ⟨locs, hlo⟩ : ∃ z : List Loc, z = [] := ⟨_, rfl⟩
  have hR : Rel g b M H := by rw [hH]; exact hR
  have hS : va_S (AA b s.heap.size) s.heap H locs := by rw [hH, hlo]; exact hS
  obtain ⟨⟨x0, hO⟩, hA⟩ := hPre
  suffices hW : W p l e rmL_flush s m args below meth c H locs 0 0 (vx_MQ below (wqI g b 0 M' (OL g o (if r = 0 then 0 else 1)) o s.heap.size) noX args s 1 6 (AO b o s.heap.size)) (F0 m 0 ls []) by rw [hH, hlo] at hW; exact hW
  refine lv_aload_n hx hb dL_flush_0 rfl (lv_at hl 1 rfl) ?_
  refine lv_iconst hx hb (v := jI 0) dL_flush_1 rfl ?_
  refine lv_aload_n hx hb dL_flush_2 rfl (lv_at hl 0 rfl) ?_
  refine x_cVi (As := []) (rest := [.int (jI 0), .ref o]) hx hb hml hown hts hK hR hS hC ok0 rfl (ci := 3) (C := RX3) (T := TX3) (N := 9) rfl wd758 wd759 wd760 wd1 wd761 hyL_flush ⟨rfl, rfl⟩ ⟨Nat.le_trans (Nat.succ_le_succ (Nat.le_max_left _ _)) (Nat.le_refl _), Nat.add_le_add_left (Nat.le_max_left _ _) _⟩ hl.1 (Nat.le_of_ble_eq_true rfl) dL_flush_3 ⟨Nat.zero_le _, Nat.zero_le _⟩ rfl ?_
  intro hr0 H1 locs1 hR hS1
  have hO1 : ∃ x, OL g o x H1 := ⟨x0, hO.kept (hS1.2.1 o (Array.getElem?_eq_some_iff.mp hO.choose_spec.1).1 hA)⟩
  have hS := AO_S (o := o) hS1
  refine lv_if_eq (tgt := 13) hx hb dL_flush_6 rfl (fun ci => ?_) (fun ci => ?_)
  · have c0 : r = 0 := (jI_eq hr0 rg_0).mp (ci.trans jI_0.symm)
    rw [if_pos c0]
    refine lv_lconst hx hb (v := 0) dL_flush_13 rfl ?_
    refine x_wst hx hb hK hR hO1 hA hS dL_flush_14 ?_
    intro H2 locs2 hR hO2 hS
    refine lv_goto (tgt := 21) hx hb dL_flush_15 rfl ?_
    refine lv_iconst hx hb (v := jI 0) dL_flush_21 rfl ?_
    exact x_wend hx hb hlocks hK hR hO2 hS hr (Nat.zero_le _) (Nat.zero_le _) dL_flush_22
  · have c0 : ¬ r = 0 := fun z => ci (by rw [z]; exact jI_0)
    rw [if_neg c0]
    refine lv_lconst hx hb (v := 1) dL_flush_9 rfl ?_
    refine lv_goto (tgt := 14) hx hb dL_flush_10 rfl ?_
    refine x_wst hx hb hK hR hO1 hA hS dL_flush_14 ?_
    intro H2 locs2 hR hO2 hS
    refine lv_goto (tgt := 21) hx hb dL_flush_15 rfl ?_
    refine lv_iconst hx hb (v := jI 0) dL_flush_21 rfl ?_
    exact x_wend hx hb hlocks hK hR hO2 hS hr (Nat.zero_le _) (Nat.zero_le _) dL_flush_22
set_option maxHeartbeats 4000000 in
set_option maxRecDepth 100000 in
theorem tL_flush_1 {l : Launch} {g : Gx} {b o : Nat} {M : Mm} (hC : Tt l yX3_flush cX3_flush 1 (some .boolean) rmTX3_flush g b [.ref (adr b 0 0)] M 1) : Lt l yL_flush cL_flush 3 hhL_flush rmL_flush g b o [.ref (adr b 0 0), .ref o] M (OLp g b o) 1 M (fun H => ∃ x, OL g o x H) := by
  refine lt_of (by decide +kernel) (Nat.le_of_ble_eq_true rfl) ?_
  intro p e s m args below meth c C0 hTH hNP hPre hTab hR ls hl
  obtain ⟨hx, hb, hr, hlocks, hml, hown, hts, hK⟩ := id C0
  have hS : va_S (AA b s.heap.size) s.heap s.heap [] := va_S.rf
  have hl : lv_has ls 3 [(0, .ref (adr b 0 0)), (1, .ref o)] := hl
  obtain ⟨H, hH⟩ : ∃ z, z = s.heap := ⟨_, rfl⟩
  obtain ⟨locs, hlo⟩ : ∃ z : List Loc, z = [] := ⟨_, rfl⟩
  have hR : Rel g b M H := by rw [hH]; exact hR
  have hS : va_S (AA b s.heap.size) s.heap H locs := by rw [hH, hlo]; exact hS
  obtain ⟨⟨x0, hO⟩, hA⟩ := hPre
  suffices hW : W p l e rmL_flush s m args below meth c H locs 0 0 (vx_MQ below (wqI g b 1 M (fun H => ∃ x, OL g o x H) o s.heap.size) noX args s 1 6 (AO b o s.heap.size)) (F0 m 0 ls []) by rw [hH, hlo] at hW; exact hW
  refine lv_aload_n hx hb dL_flush_0 rfl (lv_at hl 1 rfl) ?_
  refine lv_iconst hx hb (v := jI 0) dL_flush_1 rfl ?_
  refine lv_aload_n hx hb dL_flush_2 rfl (lv_at hl 0 rfl) ?_
  refine x_tC (As := []) (rest := [.int (jI 0), .ref o]) hx hb hml hown hts hK hTH hR hS hC wd758 wd759 wd760 wd1 wd761 hyL_flush ⟨rfl, rfl⟩ ⟨Nat.le_trans (Nat.succ_le_succ (Nat.le_max_right _ _)) (Nat.le_refl _), Nat.add_le_add_left (Nat.le_max_right _ _) _⟩ hl.1 (Nat.le_of_ble_eq_true rfl) dL_flush_3 ⟨Nat.le_refl _, Nat.le_refl _⟩ rfl ?_
  intro H1 locs1 q ce hR hS1 hce hcv hcl
  have hS := AO_S (o := o) hS1
  refine vx_catch (name := exN 1) hown [] ⟨0, 15, 18, 13⟩ [] hTab (fun z hz => by cases hz) (by decide +kernel) (by decide) (hts _ wd178) hTH.2.2.1 hce hcv hcl ?_
  refine lv_astore_n hx hb dL_flush_18 rfl hl (by decide) rfl ?_
  intro ls1 hl1
  refine lv_iconst hx hb (v := jI 1) dL_flush_19 rfl ?_
  exact x_wend hx hb hlocks hK hR ⟨x0, hO.kept (hS1.2.1 o (Array.getElem?_eq_some_iff.mp hO.choose_spec.1).1 hA)⟩ hS hr (Nat.le_refl _) (Nat.le_refl _) dL_flush_20
abbrev rmL_writeBack : Room := { frames := max rmX3_writeBack.frames rmTX3_writeBack.frames + 1, cells := 1, slots := 6, locals := 8 + (3 + 11) + max rmX3_writeBack.locals rmTX3_writeBack.locals }
abbrev hhL_writeBack : List (Nat × Nat × Nat × Nat) := [(0, 6, 9, 13), (0, 6, 12, 17)]
theorem hyL_writeBack : yX3_writeBack.cls = RX3 ∧ yX3_writeBack.cls ≠ "java/lang/invoke/MethodHandle" ∧ yX3_writeBack.cls ≠ "java/lang/invoke/VarHandle" ∧ (parseMethodDescriptor yX3_writeBack.desc).map (fun d => d.parameters.length) = some 2 := by decide +kernel
set_option maxHeartbeats 4000000 in
set_option maxRecDepth 100000 in
theorem nL_writeBack {l : Launch} {g : Gx} {b o : Nat} {p0 : Int} {p1 : Int} {M M' : Mm} (hC : Ct l yX3_writeBack cX3_writeBack 3 none rmX3_writeBack g b [.ref (adr b 0 0), .int (jI p0), .int (jI p1)] M (qV g b M')) : Lt l yL_writeBack cL_writeBack 4 hhL_writeBack rmL_writeBack g b o [.ref (adr b 0 0), .int (jI p0), .int (jI p1)] M (fun _ => True) 0 M' (fun _ => True) := by
  refine lt_of (by decide +kernel) (Nat.le_of_ble_eq_true rfl) ?_
  intro p e s m args below meth c C0 hTH hNP hPre hTab hR ls hl
  obtain ⟨hx, hb, hr, hlocks, hml, hown, hts, hK⟩ := id C0
  have hS : va_S (AA b s.heap.size) s.heap s.heap [] := va_S.rf
  have hl : lv_has ls 4 [(0, .ref (adr b 0 0)), (1, .int (jI p0)), (2, .int (jI p1))] := hl
  obtain ⟨H, hH⟩ : ∃ z, z = s.heap := ⟨_, rfl⟩
  obtain ⟨locs, hlo⟩ : ∃ z : List Loc, z = [] := ⟨_, rfl⟩
  have hR : Rel g b M H := by rw [hH]; exact hR
  have hS : va_S (AA b s.heap.size) s.heap H locs := by rw [hH, hlo]; exact hS
  suffices hW : W p l e rmL_writeBack s m args below meth c H locs 0 0 (vx_MQ below (wqI g b 0 M' (fun _ => True) o s.heap.size) noX args s 1 6 (AO b o s.heap.size)) (F0 m 0 ls []) by rw [hH, hlo] at hW; exact hW
  refine lv_aload_n hx hb dL_writeBack_0 rfl (lv_at hl 0 rfl) ?_
  refine lv_iload_n hx hb dL_writeBack_1 rfl (lv_at hl 1 rfl) ?_
  refine lv_iload_n hx hb dL_writeBack_2 rfl (lv_at hl 2 rfl) ?_
  refine x_cVv (As := [.int (jI p0), .int (jI p1)]) (rest := []) hx hb hml hown hts hK hR hS hC ok0 rfl (ci := 3) (C := RX3) (T := TX3) (N := 9) rfl wd765 wd766 wd767 wd1 wd768 hyL_writeBack ⟨rfl, rfl⟩ ⟨Nat.le_trans (Nat.succ_le_succ (Nat.le_max_left _ _)) (Nat.le_refl _), Nat.add_le_add_left (Nat.le_max_left _ _) _⟩ hl.1 (Nat.le_of_ble_eq_true rfl) dL_writeBack_3 ⟨Nat.zero_le _, Nat.zero_le _⟩ rfl ?_
  intro H1 locs1 hR hS1
  have hS := AO_S (o := o) hS1
  refine lv_goto (tgt := 15) hx hb dL_writeBack_6 rfl ?_
  refine lv_iconst hx hb (v := jI 0) dL_writeBack_15 rfl ?_
  exact x_wend hx hb hlocks hK hR trivial hS hr (Nat.zero_le _) (Nat.zero_le _) dL_writeBack_16
set_option maxHeartbeats 4000000 in
set_option maxRecDepth 100000 in
theorem tL_writeBack_1 {l : Launch} {g : Gx} {b o : Nat} {p0 : Int} {p1 : Int} {M : Mm} (hC : Tt l yX3_writeBack cX3_writeBack 3 none rmTX3_writeBack g b [.ref (adr b 0 0), .int (jI p0), .int (jI p1)] M 1) : Lt l yL_writeBack cL_writeBack 4 hhL_writeBack rmL_writeBack g b o [.ref (adr b 0 0), .int (jI p0), .int (jI p1)] M (fun _ => True) 1 M (fun _ => True) := by
  refine lt_of (by decide +kernel) (Nat.le_of_ble_eq_true rfl) ?_
  intro p e s m args below meth c C0 hTH hNP hPre hTab hR ls hl
  obtain ⟨hx, hb, hr, hlocks, hml, hown, hts, hK⟩ := id C0
  have hS : va_S (AA b s.heap.size) s.heap s.heap [] := va_S.rf
  have hl : lv_has ls 4 [(0, .ref (adr b 0 0)), (1, .int (jI p0)), (2, .int (jI p1))] := hl
  obtain ⟨H, hH⟩ : ∃ z, z = s.heap := ⟨_, rfl⟩
  obtain ⟨locs, hlo⟩ : ∃ z : List Loc, z = [] := ⟨_, rfl⟩
  have hR : Rel g b M H := by rw [hH]; exact hR
  have hS : va_S (AA b s.heap.size) s.heap H locs := by rw [hH, hlo]; exact hS
  suffices hW : W p l e rmL_writeBack s m args below meth c H locs 0 0 (vx_MQ below (wqI g b 1 M (fun _ => True) o s.heap.size) noX args s 1 6 (AO b o s.heap.size)) (F0 m 0 ls []) by rw [hH, hlo] at hW; exact hW
  refine lv_aload_n hx hb dL_writeBack_0 rfl (lv_at hl 0 rfl) ?_
  refine lv_iload_n hx hb dL_writeBack_1 rfl (lv_at hl 1 rfl) ?_
  refine lv_iload_n hx hb dL_writeBack_2 rfl (lv_at hl 2 rfl) ?_
  refine x_tC (As := [.int (jI p0), .int (jI p1)]) (rest := []) hx hb hml hown hts hK hTH hR hS hC wd765 wd766 wd767 wd1 wd768 hyL_writeBack ⟨rfl, rfl⟩ ⟨Nat.le_trans (Nat.succ_le_succ (Nat.le_max_right _ _)) (Nat.le_refl _), Nat.add_le_add_left (Nat.le_max_right _ _) _⟩ hl.1 (Nat.le_of_ble_eq_true rfl) dL_writeBack_3 ⟨Nat.le_refl _, Nat.le_refl _⟩ rfl ?_
  intro H1 locs1 q ce hR hS1 hce hcv hcl
  have hS := AO_S (o := o) hS1
  refine vx_catch (name := exN 1) hown [] ⟨0, 6, 9, 13⟩ [⟨0, 6, 12, 17⟩] hTab (fun z hz => by cases hz) (by decide +kernel) (by decide) (hts _ wd178) hTH.2.2.1 hce hcv hcl ?_
  refine lv_astore_n hx hb dL_writeBack_9 rfl hl (by decide) rfl ?_
  intro ls1 hl1
  refine lv_iconst hx hb (v := jI 1) dL_writeBack_10 rfl ?_
  exact x_wend hx hb hlocks hK hR trivial hS hr (Nat.le_refl _) (Nat.le_refl _) dL_writeBack_11
set_option maxHeartbeats 4000000 in
set_option maxRecDepth 100000 in
theorem tL_writeBack_3 {l : Launch} {g : Gx} {b o : Nat} {p0 : Int} {p1 : Int} {M : Mm} (hC : Tt l yX3_writeBack cX3_writeBack 3 none rmTX3_writeBack g b [.ref (adr b 0 0), .int (jI p0), .int (jI p1)] M 3) : Lt l yL_writeBack cL_writeBack 4 hhL_writeBack rmL_writeBack g b o [.ref (adr b 0 0), .int (jI p0), .int (jI p1)] M (fun _ => True) 2 M (fun _ => True) := by
  refine lt_of (by decide +kernel) (Nat.le_of_ble_eq_true rfl) ?_
  intro p e s m args below meth c C0 hTH hNP hPre hTab hR ls hl
  obtain ⟨hx, hb, hr, hlocks, hml, hown, hts, hK⟩ := id C0
  have hS : va_S (AA b s.heap.size) s.heap s.heap [] := va_S.rf
  have hl : lv_has ls 4 [(0, .ref (adr b 0 0)), (1, .int (jI p0)), (2, .int (jI p1))] := hl
  obtain ⟨H, hH⟩ : ∃ z, z = s.heap := ⟨_, rfl⟩
  obtain ⟨locs, hlo⟩ : ∃ z : List Loc, z = [] := ⟨_, rfl⟩
  have hR : Rel g b M H := by rw [hH]; exact hR
  have hS : va_S (AA b s.heap.size) s.heap H locs := by rw [hH, hlo]; exact hS
  suffices hW : W p l e rmL_writeBack s m args below meth c H locs 0 0 (vx_MQ below (wqI g b 2 M (fun _ => True) o s.heap.size) noX args s 1 6 (AO b o s.heap.size)) (F0 m 0 ls []) by rw [hH, hlo] at hW; exact hW
  refine lv_aload_n hx hb dL_writeBack_0 rfl (lv_at hl 0 rfl) ?_
  refine lv_iload_n hx hb dL_writeBack_1 rfl (lv_at hl 1 rfl) ?_
  refine lv_iload_n hx hb dL_writeBack_2 rfl (lv_at hl 2 rfl) ?_
  refine x_tC (As := [.int (jI p0), .int (jI p1)]) (rest := []) hx hb hml hown hts hK hTH hR hS hC wd765 wd766 wd767 wd1 wd768 hyL_writeBack ⟨rfl, rfl⟩ ⟨Nat.le_trans (Nat.succ_le_succ (Nat.le_max_right _ _)) (Nat.le_refl _), Nat.add_le_add_left (Nat.le_max_right _ _) _⟩ hl.1 (Nat.le_of_ble_eq_true rfl) dL_writeBack_3 ⟨Nat.le_refl _, Nat.le_refl _⟩ rfl ?_
  intro H1 locs1 q ce hR hS1 hce hcv hcl
  have hS := AO_S (o := o) hS1
  refine vx_catch (name := exN 3) hown [⟨0, 6, 9, 13⟩] ⟨0, 6, 12, 17⟩ [] hTab (by intro z hz; simp only [List.mem_cons, List.not_mem_nil, or_false] at hz; rcases hz with rfl; exact Or.inr ⟨by decide, exN 1, hts _ wd178, hNP.2.1⟩) (by decide +kernel) (by decide) (hts _ wd180) hTH.2.2.2.2.1 hce hcv hcl ?_
  refine lv_astore_n hx hb dL_writeBack_12 rfl hl (by decide) rfl ?_
  intro ls1 hl1
  refine lv_iconst hx hb (v := jI 2) dL_writeBack_13 rfl ?_
  exact x_wend hx hb hlocks hK hR trivial hS hr (Nat.le_refl _) (Nat.le_refl _) dL_writeBack_14
abbrev rmL_cut : Room := { frames := max rmX3_cut.frames rmTX3_cut.frames + 1, cells := 1, slots := 6, locals := 8 + (1 + 11) + max rmX3_cut.locals rmTX3_cut.locals }
abbrev hhL_cut : List (Nat × Nat × Nat × Nat) := [(0, 4, 7, 13)]
theorem hyL_cut : yX3_cut.cls = RX3 ∧ yX3_cut.cls ≠ "java/lang/invoke/MethodHandle" ∧ yX3_cut.cls ≠ "java/lang/invoke/VarHandle" ∧ (parseMethodDescriptor yX3_cut.desc).map (fun d => d.parameters.length) = some 0 := by decide +kernel
set_option maxHeartbeats 4000000 in
set_option maxRecDepth 100000 in
theorem nL_cut {l : Launch} {g : Gx} {b o : Nat} {M M' : Mm} (hC : Ct l yX3_cut cX3_cut 1 none rmX3_cut g b [.ref (adr b 0 0)] M (qV g b M')) : Lt l yL_cut cL_cut 2 hhL_cut rmL_cut g b o [.ref (adr b 0 0)] M (fun _ => True) 0 M' (fun _ => True) := by
  refine lt_of (by decide +kernel) (Nat.le_of_ble_eq_true rfl) ?_
  intro p e s m args below meth c C0 hTH hNP hPre hTab hR ls hl
  obtain ⟨hx, hb, hr, hlocks, hml, hown, hts, hK⟩ := id C0
  have hS : va_S (AA b s.heap.size) s.heap s.heap [] := va_S.rf
  have hl : lv_has ls 2 [(0, .ref (adr b 0 0))] := hl
  obtain ⟨H, hH⟩ : ∃ z, z = s.heap := ⟨_, rfl⟩
  obtain ⟨locs, hlo⟩ : ∃ z : List Loc, z = [] := ⟨_, rfl⟩
  have hR : Rel g b M H := by rw [hH]; exact hR
  have hS : va_S (AA b s.heap.size) s.heap H locs := by rw [hH, hlo]; exact hS
  suffices hW : W p l e rmL_cut s m args below meth c H locs 0 0 (vx_MQ below (wqI g b 0 M' (fun _ => True) o s.heap.size) noX args s 1 6 (AO b o s.heap.size)) (F0 m 0 ls []) by rw [hH, hlo] at hW; exact hW
  refine lv_aload_n hx hb dL_cut_0 rfl (lv_at hl 0 rfl) ?_
  refine x_cVv (As := []) (rest := []) hx hb hml hown hts hK hR hS hC ok0 rfl (ci := 3) (C := RX3) (T := TX3) (N := 9) rfl wd772 wd773 wd774 wd1 wd775 hyL_cut ⟨rfl, rfl⟩ ⟨Nat.le_trans (Nat.succ_le_succ (Nat.le_max_left _ _)) (Nat.le_refl _), Nat.add_le_add_left (Nat.le_max_left _ _) _⟩ hl.1 (Nat.le_of_ble_eq_true rfl) dL_cut_1 ⟨Nat.zero_le _, Nat.zero_le _⟩ rfl ?_
  intro H1 locs1 hR hS1
  have hS := AO_S (o := o) hS1
  refine lv_goto (tgt := 10) hx hb dL_cut_4 rfl ?_
  refine lv_iconst hx hb (v := jI 0) dL_cut_10 rfl ?_
  exact x_wend hx hb hlocks hK hR trivial hS hr (Nat.zero_le _) (Nat.zero_le _) dL_cut_11
set_option maxHeartbeats 4000000 in
set_option maxRecDepth 100000 in
theorem tL_cut_1 {l : Launch} {g : Gx} {b o : Nat} {M : Mm} (hC : Tt l yX3_cut cX3_cut 1 none rmTX3_cut g b [.ref (adr b 0 0)] M 1) : Lt l yL_cut cL_cut 2 hhL_cut rmL_cut g b o [.ref (adr b 0 0)] M (fun _ => True) 1 M (fun _ => True) := by
  refine lt_of (by decide +kernel) (Nat.le_of_ble_eq_true rfl) ?_
  intro p e s m args below meth c C0 hTH hNP hPre hTab hR ls hl
  obtain ⟨hx, hb, hr, hlocks, hml, hown, hts, hK⟩ := id C0
  have hS : va_S (AA b s.heap.size) s.heap s.heap [] := va_S.rf
  have hl : lv_has ls 2 [(0, .ref (adr b 0 0))] := hl
  obtain ⟨H, hH⟩ : ∃ z, z = s.heap := ⟨_, rfl⟩
  obtain ⟨locs, hlo⟩ : ∃ z : List Loc, z = [] := ⟨_, rfl⟩
  have hR : Rel g b M H := by rw [hH]; exact hR
  have hS : va_S (AA b s.heap.size) s.heap H locs := by rw [hH, hlo]; exact hS
  suffices hW : W p l e rmL_cut s m args below meth c H locs 0 0 (vx_MQ below (wqI g b 1 M (fun _ => True) o s.heap.size) noX args s 1 6 (AO b o s.heap.size)) (F0 m 0 ls []) by rw [hH, hlo] at hW; exact hW
  refine lv_aload_n hx hb dL_cut_0 rfl (lv_at hl 0 rfl) ?_
  refine x_tC (As := []) (rest := []) hx hb hml hown hts hK hTH hR hS hC wd772 wd773 wd774 wd1 wd775 hyL_cut ⟨rfl, rfl⟩ ⟨Nat.le_trans (Nat.succ_le_succ (Nat.le_max_right _ _)) (Nat.le_refl _), Nat.add_le_add_left (Nat.le_max_right _ _) _⟩ hl.1 (Nat.le_of_ble_eq_true rfl) dL_cut_1 ⟨Nat.le_refl _, Nat.le_refl _⟩ rfl ?_
  intro H1 locs1 q ce hR hS1 hce hcv hcl
  have hS := AO_S (o := o) hS1
  refine vx_catch (name := exN 1) hown [] ⟨0, 4, 7, 13⟩ [] hTab (fun z hz => by cases hz) (by decide +kernel) (by decide) (hts _ wd178) hTH.2.2.1 hce hcv hcl ?_
  refine lv_astore_n hx hb dL_cut_7 rfl hl (by decide) rfl ?_
  intro ls1 hl1
  refine lv_iconst hx hb (v := jI 1) dL_cut_8 rfl ?_
  exact x_wend hx hb hlocks hK hR trivial hS hr (Nat.le_refl _) (Nat.le_refl _) dL_cut_9
abbrev rmL_fail : Room := { frames := max rmX3_fail.frames rmTX3_fail.frames + 1, cells := 1, slots := 6, locals := 8 + (4 + 11) + max rmX3_fail.locals rmTX3_fail.locals }
abbrev hhL_fail : List (Nat × Nat × Nat × Nat) := [(0, 7, 10, 17)]
theorem hyL_fail : yX3_fail.cls = RX3 ∧ yX3_fail.cls ≠ "java/lang/invoke/MethodHandle" ∧ yX3_fail.cls ≠ "java/lang/invoke/VarHandle" ∧ (parseMethodDescriptor yX3_fail.desc).map (fun d => d.parameters.length) = some 3 := by decide +kernel
set_option maxHeartbeats 4000000 in
set_option maxRecDepth 100000 in
theorem nL_fail {l : Launch} {g : Gx} {b o : Nat} {p0 : Int} {p1 : Int} {p2 : Int} {M M' : Mm} (hC : Ct l yX3_fail cX3_fail 4 none rmX3_fail g b [.ref (adr b 0 0), .int (jI p0), .int (jI p1), .int (jI p2)] M (qV g b M')) : Lt l yL_fail cL_fail 5 hhL_fail rmL_fail g b o [.ref (adr b 0 0), .int (jI p0), .int (jI p1), .int (jI p2)] M (fun _ => True) 0 M' (fun _ => True) := by
  refine lt_of (by decide +kernel) (Nat.le_of_ble_eq_true rfl) ?_
  intro p e s m args below meth c C0 hTH hNP hPre hTab hR ls hl
  obtain ⟨hx, hb, hr, hlocks, hml, hown, hts, hK⟩ := id C0
  have hS : va_S (AA b s.heap.size) s.heap s.heap [] := va_S.rf
  have hl : lv_has ls 5 [(0, .ref (adr b 0 0)), (1, .int (jI p0)), (2, .int (jI p1)), (3, .int (jI p2))] := hl
  obtain ⟨H, hH⟩ : ∃ z, z = s.heap := ⟨_, rfl⟩
  obtain ⟨locs, hlo⟩ : ∃ z : List Loc, z = [] := ⟨_, rfl⟩
  have hR : Rel g b M H := by rw [hH]; exact hR
  have hS : va_S (AA b s.heap.size) s.heap H locs := by rw [hH, hlo]; exact hS
  suffices hW : W p l e rmL_fail s m args below meth c H locs 0 0 (vx_MQ below (wqI g b 0 M' (fun _ => True) o s.heap.size) noX args s 1 6 (AO b o s.heap.size)) (F0 m 0 ls []) by rw [hH, hlo] at hW; exact hW
  refine lv_aload_n hx hb dL_fail_0 rfl (lv_at hl 0 rfl) ?_
  refine lv_iload_n hx hb dL_fail_1 rfl (lv_at hl 1 rfl) ?_
  refine lv_iload_n hx hb dL_fail_2 rfl (lv_at hl 2 rfl) ?_
  refine lv_iload_n hx hb dL_fail_3 rfl (lv_at hl 3 rfl) ?_
  refine x_cVv (As := [.int (jI p0), .int (jI p1), .int (jI p2)]) (rest := []) hx hb hml hown hts hK hR hS hC ok0 rfl (ci := 3) (C := RX3) (T := TX3) (N := 9) rfl wd779 wd780 wd781 wd1 wd782 hyL_fail ⟨rfl, rfl⟩ ⟨Nat.le_trans (Nat.succ_le_succ (Nat.le_max_left _ _)) (Nat.le_refl _), Nat.add_le_add_left (Nat.le_max_left _ _) _⟩ hl.1 (Nat.le_of_ble_eq_true rfl) dL_fail_4 ⟨Nat.zero_le _, Nat.zero_le _⟩ rfl ?_
  intro H1 locs1 hR hS1
  have hS := AO_S (o := o) hS1
  refine lv_goto (tgt := 14) hx hb dL_fail_7 rfl ?_
  refine lv_iconst hx hb (v := jI 0) dL_fail_14 rfl ?_
  exact x_wend hx hb hlocks hK hR trivial hS hr (Nat.zero_le _) (Nat.zero_le _) dL_fail_15
set_option maxHeartbeats 4000000 in
set_option maxRecDepth 100000 in
theorem tL_fail_3 {l : Launch} {g : Gx} {b o : Nat} {p0 : Int} {p1 : Int} {p2 : Int} {M : Mm} (hC : Tt l yX3_fail cX3_fail 4 none rmTX3_fail g b [.ref (adr b 0 0), .int (jI p0), .int (jI p1), .int (jI p2)] M 3) : Lt l yL_fail cL_fail 5 hhL_fail rmL_fail g b o [.ref (adr b 0 0), .int (jI p0), .int (jI p1), .int (jI p2)] M (fun _ => True) 1 M (fun _ => True) := by
  refine lt_of (by decide +kernel) (Nat.le_of_ble_eq_true rfl) ?_
  intro p e s m args below meth c C0 hTH hNP hPre hTab hR ls hl
  obtain ⟨hx, hb, hr, hlocks, hml, hown, hts, hK⟩ := id C0
  have hS : va_S (AA b s.heap.size) s.heap s.heap [] := va_S.rf
  have hl : lv_has ls 5 [(0, .ref (adr b 0 0)), (1, .int (jI p0)), (2, .int (jI p1)), (3, .int (jI p2))] := hl
  obtain ⟨H, hH⟩ : ∃ z, z = s.heap := ⟨_, rfl⟩
  obtain ⟨locs, hlo⟩ : ∃ z : List Loc, z = [] := ⟨_, rfl⟩
  have hR : Rel g b M H := by rw [hH]; exact hR
  have hS : va_S (AA b s.heap.size) s.heap H locs := by rw [hH, hlo]; exact hS
  suffices hW : W p l e rmL_fail s m args below meth c H locs 0 0 (vx_MQ below (wqI g b 1 M (fun _ => True) o s.heap.size) noX args s 1 6 (AO b o s.heap.size)) (F0 m 0 ls []) by rw [hH, hlo] at hW; exact hW
  refine lv_aload_n hx hb dL_fail_0 rfl (lv_at hl 0 rfl) ?_
  refine lv_iload_n hx hb dL_fail_1 rfl (lv_at hl 1 rfl) ?_
  refine lv_iload_n hx hb dL_fail_2 rfl (lv_at hl 2 rfl) ?_
  refine lv_iload_n hx hb dL_fail_3 rfl (lv_at hl 3 rfl) ?_
  refine x_tC (As := [.int (jI p0), .int (jI p1), .int (jI p2)]) (rest := []) hx hb hml hown hts hK hTH hR hS hC wd779 wd780 wd781 wd1 wd782 hyL_fail ⟨rfl, rfl⟩ ⟨Nat.le_trans (Nat.succ_le_succ (Nat.le_max_right _ _)) (Nat.le_refl _), Nat.add_le_add_left (Nat.le_max_right _ _) _⟩ hl.1 (Nat.le_of_ble_eq_true rfl) dL_fail_4 ⟨Nat.le_refl _, Nat.le_refl _⟩ rfl ?_
  intro H1 locs1 q ce hR hS1 hce hcv hcl
  have hS := AO_S (o := o) hS1
  refine vx_catch (name := exN 3) hown [] ⟨0, 7, 10, 17⟩ [] hTab (fun z hz => by cases hz) (by decide +kernel) (by decide) (hts _ wd180) hTH.2.2.2.2.1 hce hcv hcl ?_
  refine lv_astore hx hb dL_fail_10 hl (by decide) rfl ?_
  intro ls1 hl1
  refine lv_iconst hx hb (v := jI 1) dL_fail_12 rfl ?_
  exact x_wend hx hb hlocks hK hR trivial hS hr (Nat.le_refl _) (Nat.le_refl _) dL_fail_13
abbrev rmL_mount : Room := { frames := max rmX3_mount.frames rmTX3_mount.frames + 1, cells := 1, slots := 6, locals := 8 + (2 + 11) + max rmX3_mount.locals rmTX3_mount.locals }
abbrev hhL_mount : List (Nat × Nat × Nat × Nat) := [(0, 8, 11, 13)]
theorem hyL_mount : yX3_mount.cls = RX3 ∧ yX3_mount.cls ≠ "java/lang/invoke/MethodHandle" ∧ yX3_mount.cls ≠ "java/lang/invoke/VarHandle" ∧ (parseMethodDescriptor yX3_mount.desc).map (fun d => d.parameters.length) = some 0 := by decide +kernel
set_option maxHeartbeats 4000000 in
set_option maxRecDepth 100000 in
theorem nL_mount {l : Launch} {g : Gx} {b o : Nat} {M M' : Mm} {r : Int} (hC : Ct l yX3_mount cX3_mount 2 (some .int) rmX3_mount g b [.ref (adr b 0 0)] M (qI g b r M')) : Lt l yL_mount cL_mount 3 hhL_mount rmL_mount g b o [.ref (adr b 0 0), .ref o] M (OLp g b o) 0 M' (OL g o (jI r).toInt64) := by
  refine lt_of (by decide +kernel) (Nat.le_of_ble_eq_true rfl) ?_
  intro p e s m args below meth c C0 hTH hNP hPre hTab hR ls hl
  obtain ⟨hx, hb, hr, hlocks, hml, hown, hts, hK⟩ := id C0
  have hS : va_S (AA b s.heap.size) s.heap s.heap [] := va_S.rf
  have hl : lv_has ls 3 [(0, .ref (adr b 0 0)), (1, .ref o)] := hl
  obtain ⟨H, hH⟩ : ∃ z, z = s.heap := ⟨_, rfl⟩
  obtain ⟨locs, hlo⟩ : ∃ z : List Loc, z = [] := ⟨_, rfl⟩
  have hR : Rel g b M H := by rw [hH]; exact hR
  have hS : va_S (AA b s.heap.size) s.heap H locs := by rw [hH, hlo]; exact hS
  obtain ⟨⟨x0, hO⟩, hA⟩ := hPre
  suffices hW : W p l e rmL_mount s m args below meth c H locs 0 0 (vx_MQ below (wqI g b 0 M' (OL g o (jI r).toInt64) o s.heap.size) noX args s 1 6 (AO b o s.heap.size)) (F0 m 0 ls []) by rw [hH, hlo] at hW; exact hW
  refine lv_aload_n hx hb dL_mount_0 rfl (lv_at hl 1 rfl) ?_
  refine lv_iconst hx hb (v := jI 0) dL_mount_1 rfl ?_
  refine lv_aload_n hx hb dL_mount_2 rfl (lv_at hl 0 rfl) ?_
  refine x_cVi (As := []) (rest := [.int (jI 0), .ref o]) hx hb hml hown hts hK hR hS hC ok0 rfl (ci := 3) (C := RX3) (T := TX3) (N := 9) rfl wd786 wd787 wd788 wd1 wd789 hyL_mount ⟨rfl, rfl⟩ ⟨Nat.le_trans (Nat.succ_le_succ (Nat.le_max_left _ _)) (Nat.le_refl _), Nat.add_le_add_left (Nat.le_max_left _ _) _⟩ hl.1 (Nat.le_of_ble_eq_true rfl) dL_mount_3 ⟨Nat.zero_le _, Nat.zero_le _⟩ rfl ?_
  intro hr0 H1 locs1 hR hS1
  have hO1 : ∃ x, OL g o x H1 := ⟨x0, hO.kept (hS1.2.1 o (Array.getElem?_eq_some_iff.mp hO.choose_spec.1).1 hA)⟩
  have hS := AO_S (o := o) hS1
  refine lv_i2l hx hb dL_mount_6 rfl ?_
  refine x_wst hx hb hK hR hO1 hA hS dL_mount_7 ?_
  intro H2 locs2 hR hO2 hS
  refine lv_goto (tgt := 14) hx hb dL_mount_8 rfl ?_
  refine lv_iconst hx hb (v := jI 0) dL_mount_14 rfl ?_
  exact x_wend hx hb hlocks hK hR hO2 hS hr (Nat.zero_le _) (Nat.zero_le _) dL_mount_15
set_option maxHeartbeats 4000000 in
set_option maxRecDepth 100000 in
theorem tL_mount_1 {l : Launch} {g : Gx} {b o : Nat} {M : Mm} (hC : Tt l yX3_mount cX3_mount 2 (some .int) rmTX3_mount g b [.ref (adr b 0 0)] M 1) : Lt l yL_mount cL_mount 3 hhL_mount rmL_mount g b o [.ref (adr b 0 0), .ref o] M (OLp g b o) 1 M (fun H => ∃ x, OL g o x H) := by
  refine lt_of (by decide +kernel) (Nat.le_of_ble_eq_true rfl) ?_
  intro p e s m args below meth c C0 hTH hNP hPre hTab hR ls hl
  obtain ⟨hx, hb, hr, hlocks, hml, hown, hts, hK⟩ := id C0
  have hS : va_S (AA b s.heap.size) s.heap s.heap [] := va_S.rf
  have hl : lv_has ls 3 [(0, .ref (adr b 0 0)), (1, .ref o)] := hl
  obtain ⟨H, hH⟩ : ∃ z, z = s.heap := ⟨_, rfl⟩
  obtain ⟨locs, hlo⟩ : ∃ z : List Loc, z = [] := ⟨_, rfl⟩
  have hR : Rel g b M H := by rw [hH]; exact hR
  have hS : va_S (AA b s.heap.size) s.heap H locs := by rw [hH, hlo]; exact hS
  obtain ⟨⟨x0, hO⟩, hA⟩ := hPre
  suffices hW : W p l e rmL_mount s m args below meth c H locs 0 0 (vx_MQ below (wqI g b 1 M (fun H => ∃ x, OL g o x H) o s.heap.size) noX args s 1 6 (AO b o s.heap.size)) (F0 m 0 ls []) by rw [hH, hlo] at hW; exact hW
  refine lv_aload_n hx hb dL_mount_0 rfl (lv_at hl 1 rfl) ?_
  refine lv_iconst hx hb (v := jI 0) dL_mount_1 rfl ?_
  refine lv_aload_n hx hb dL_mount_2 rfl (lv_at hl 0 rfl) ?_
  refine x_tC (As := []) (rest := [.int (jI 0), .ref o]) hx hb hml hown hts hK hTH hR hS hC wd786 wd787 wd788 wd1 wd789 hyL_mount ⟨rfl, rfl⟩ ⟨Nat.le_trans (Nat.succ_le_succ (Nat.le_max_right _ _)) (Nat.le_refl _), Nat.add_le_add_left (Nat.le_max_right _ _) _⟩ hl.1 (Nat.le_of_ble_eq_true rfl) dL_mount_3 ⟨Nat.le_refl _, Nat.le_refl _⟩ rfl ?_
  intro H1 locs1 q ce hR hS1 hce hcv hcl
  have hS := AO_S (o := o) hS1
  refine vx_catch (name := exN 1) hown [] ⟨0, 8, 11, 13⟩ [] hTab (fun z hz => by cases hz) (by decide +kernel) (by decide) (hts _ wd178) hTH.2.2.1 hce hcv hcl ?_
  refine lv_astore_n hx hb dL_mount_11 rfl hl (by decide) rfl ?_
  intro ls1 hl1
  refine lv_iconst hx hb (v := jI 1) dL_mount_12 rfl ?_
  exact x_wend hx hb hlocks hK hR ⟨x0, hO.kept (hS1.2.1 o (Array.getElem?_eq_some_iff.mp hO.choose_spec.1).1 hA)⟩ hS hr (Nat.le_refl _) (Nat.le_refl _) dL_mount_13
abbrev rmL_waiting : Room := { frames := max rmX3_waiting.frames rmTX3_waiting.frames + 1, cells := 1, slots := 6, locals := 8 + (1 + 11) + max rmX3_waiting.locals rmTX3_waiting.locals }
abbrev hhL_waiting : List (Nat × Nat × Nat × Nat) := [(0, 8, 11, 13)]
theorem hyL_waiting : yX3_waiting.cls = RX3 ∧ yX3_waiting.cls ≠ "java/lang/invoke/MethodHandle" ∧ yX3_waiting.cls ≠ "java/lang/invoke/VarHandle" ∧ (parseMethodDescriptor yX3_waiting.desc).map (fun d => d.parameters.length) = some 0 := by decide +kernel
set_option maxHeartbeats 4000000 in
set_option maxRecDepth 100000 in
theorem nL_waiting {l : Launch} {g : Gx} {b o : Nat} {M M' : Mm} {r : Int} (hC : Ct l yX3_waiting cX3_waiting 1 (some .int) rmX3_waiting g b [.ref (adr b 0 0)] M (qI g b r M')) : Lt l yL_waiting cL_waiting 3 hhL_waiting rmL_waiting g b o [.ref (adr b 0 0), .ref o] M (OLp g b o) 0 M' (OL g o (jI r).toInt64) := by
  refine lt_of (by decide +kernel) (Nat.le_of_ble_eq_true rfl) ?_
  intro p e s m args below meth c C0 hTH hNP hPre hTab hR ls hl
  obtain ⟨hx, hb, hr, hlocks, hml, hown, hts, hK⟩ := id C0
  have hS : va_S (AA b s.heap.size) s.heap s.heap [] := va_S.rf
  have hl : lv_has ls 3 [(0, .ref (adr b 0 0)), (1, .ref o)] := hl
  obtain ⟨H, hH⟩ : ∃ z, z = s.heap := ⟨_, rfl⟩
  obtain ⟨locs, hlo⟩ : ∃ z : List Loc, z = [] := ⟨_, rfl⟩
  have hR : Rel g b M H := by rw [hH]; exact hR
  have hS : va_S (AA b s.heap.size) s.heap H locs := by rw [hH, hlo]; exact hS
  obtain ⟨⟨x0, hO⟩, hA⟩ := hPre
  suffices hW : W p l e rmL_waiting s m args below meth c H locs 0 0 (vx_MQ below (wqI g b 0 M' (OL g o (jI r).toInt64) o s.heap.size) noX args s 1 6 (AO b o s.heap.size)) (F0 m 0 ls []) by rw [hH, hlo] at hW; exact hW
  refine lv_aload_n hx hb dL_waiting_0 rfl (lv_at hl 1 rfl) ?_
  refine lv_iconst hx hb (v := jI 0) dL_waiting_1 rfl ?_
  refine lv_aload_n hx hb dL_waiting_2 rfl (lv_at hl 0 rfl) ?_
  refine x_cVi (As := []) (rest := [.int (jI 0), .ref o]) hx hb hml hown hts hK hR hS hC ok0 rfl (ci := 3) (C := RX3) (T := TX3) (N := 9) rfl wd800 wd801 wd802 wd1 wd803 hyL_waiting ⟨rfl, rfl⟩ ⟨Nat.le_trans (Nat.succ_le_succ (Nat.le_max_left _ _)) (Nat.le_refl _), Nat.add_le_add_left (Nat.le_max_left _ _) _⟩ hl.1 (Nat.le_of_ble_eq_true rfl) dL_waiting_3 ⟨Nat.zero_le _, Nat.zero_le _⟩ rfl ?_
  intro hr0 H1 locs1 hR hS1
  have hO1 : ∃ x, OL g o x H1 := ⟨x0, hO.kept (hS1.2.1 o (Array.getElem?_eq_some_iff.mp hO.choose_spec.1).1 hA)⟩
  have hS := AO_S (o := o) hS1
  refine lv_i2l hx hb dL_waiting_6 rfl ?_
  refine x_wst hx hb hK hR hO1 hA hS dL_waiting_7 ?_
  intro H2 locs2 hR hO2 hS
  refine lv_goto (tgt := 14) hx hb dL_waiting_8 rfl ?_
  refine lv_iconst hx hb (v := jI 0) dL_waiting_14 rfl ?_
  exact x_wend hx hb hlocks hK hR hO2 hS hr (Nat.zero_le _) (Nat.zero_le _) dL_waiting_15
set_option maxHeartbeats 4000000 in
set_option maxRecDepth 100000 in
theorem tL_waiting_1 {l : Launch} {g : Gx} {b o : Nat} {M : Mm} (hC : Tt l yX3_waiting cX3_waiting 1 (some .int) rmTX3_waiting g b [.ref (adr b 0 0)] M 1) : Lt l yL_waiting cL_waiting 3 hhL_waiting rmL_waiting g b o [.ref (adr b 0 0), .ref o] M (OLp g b o) 1 M (fun H => ∃ x, OL g o x H) := by
  refine lt_of (by decide +kernel) (Nat.le_of_ble_eq_true rfl) ?_
  intro p e s m args below meth c C0 hTH hNP hPre hTab hR ls hl
  obtain ⟨hx, hb, hr, hlocks, hml, hown, hts, hK⟩ := id C0
  have hS : va_S (AA b s.heap.size) s.heap s.heap [] := va_S.rf
  have hl : lv_has ls 3 [(0, .ref (adr b 0 0)), (1, .ref o)] := hl
  obtain ⟨H, hH⟩ : ∃ z, z = s.heap := ⟨_, rfl⟩
  obtain ⟨locs, hlo⟩ : ∃ z : List Loc, z = [] := ⟨_, rfl⟩
  have hR : Rel g b M H := by rw [hH]; exact hR
  have hS : va_S (AA b s.heap.size) s.heap H locs := by rw [hH, hlo]; exact hS
  obtain ⟨⟨x0, hO⟩, hA⟩ := hPre
  suffices hW : W p l e rmL_waiting s m args below meth c H locs 0 0 (vx_MQ below (wqI g b 1 M (fun H => ∃ x, OL g o x H) o s.heap.size) noX args s 1 6 (AO b o s.heap.size)) (F0 m 0 ls []) by rw [hH, hlo] at hW; exact hW
  refine lv_aload_n hx hb dL_waiting_0 rfl (lv_at hl 1 rfl) ?_
  refine lv_iconst hx hb (v := jI 0) dL_waiting_1 rfl ?_
  refine lv_aload_n hx hb dL_waiting_2 rfl (lv_at hl 0 rfl) ?_
  refine x_tC (As := []) (rest := [.int (jI 0), .ref o]) hx hb hml hown hts hK hTH hR hS hC wd800 wd801 wd802 wd1 wd803 hyL_waiting ⟨rfl, rfl⟩ ⟨Nat.le_trans (Nat.succ_le_succ (Nat.le_max_right _ _)) (Nat.le_refl _), Nat.add_le_add_left (Nat.le_max_right _ _) _⟩ hl.1 (Nat.le_of_ble_eq_true rfl) dL_waiting_3 ⟨Nat.le_refl _, Nat.le_refl _⟩ rfl ?_
  intro H1 locs1 q ce hR hS1 hce hcv hcl
  have hS := AO_S (o := o) hS1
  refine vx_catch (name := exN 1) hown [] ⟨0, 8, 11, 13⟩ [] hTab (fun z hz => by cases hz) (by decide +kernel) (by decide) (hts _ wd178) hTH.2.2.1 hce hcv hcl ?_
  refine lv_astore_n hx hb dL_waiting_11 rfl hl (by decide) rfl ?_
  intro ls1 hl1
  refine lv_iconst hx hb (v := jI 1) dL_waiting_12 rfl ?_
  exact x_wend hx hb hlocks hK hR ⟨x0, hO.kept (hS1.2.1 o (Array.getElem?_eq_some_iff.mp hO.choose_spec.1).1 hA)⟩ hS hr (Nat.le_refl _) (Nat.le_refl _) dL_waiting_13
abbrev rmL_changes : Room := { frames := max rmX3_changes.frames rmTX3_changes.frames + 1, cells := 1, slots := 6, locals := 8 + (1 + 11) + max rmX3_changes.locals rmTX3_changes.locals }
abbrev hhL_changes : List (Nat × Nat × Nat × Nat) := [(0, 8, 11, 13)]
theorem hyL_changes : yX3_changes.cls = RX3 ∧ yX3_changes.cls ≠ "java/lang/invoke/MethodHandle" ∧ yX3_changes.cls ≠ "java/lang/invoke/VarHandle" ∧ (parseMethodDescriptor yX3_changes.desc).map (fun d => d.parameters.length) = some 0 := by decide +kernel
set_option maxHeartbeats 4000000 in
set_option maxRecDepth 100000 in
theorem nL_changes {l : Launch} {g : Gx} {b o : Nat} {M M' : Mm} {r : Int} (hC : Ct l yX3_changes cX3_changes 1 (some .int) rmX3_changes g b [.ref (adr b 0 0)] M (qI g b r M')) : Lt l yL_changes cL_changes 3 hhL_changes rmL_changes g b o [.ref (adr b 0 0), .ref o] M (OLp g b o) 0 M' (OL g o (jI r).toInt64) := by
  refine lt_of (by decide +kernel) (Nat.le_of_ble_eq_true rfl) ?_
  intro p e s m args below meth c C0 hTH hNP hPre hTab hR ls hl
  obtain ⟨hx, hb, hr, hlocks, hml, hown, hts, hK⟩ := id C0
  have hS : va_S (AA b s.heap.size) s.heap s.heap [] := va_S.rf
  have hl : lv_has ls 3 [(0, .ref (adr b 0 0)), (1, .ref o)] := hl
  obtain ⟨H, hH⟩ : ∃ z, z = s.heap := ⟨_, rfl⟩
  obtain ⟨locs, hlo⟩ : ∃ z : List Loc, z = [] := ⟨_, rfl⟩
  have hR : Rel g b M H := by rw [hH]; exact hR
  have hS : va_S (AA b s.heap.size) s.heap H locs := by rw [hH, hlo]; exact hS
  obtain ⟨⟨x0, hO⟩, hA⟩ := hPre
  suffices hW : W p l e rmL_changes s m args below meth c H locs 0 0 (vx_MQ below (wqI g b 0 M' (OL g o (jI r).toInt64) o s.heap.size) noX args s 1 6 (AO b o s.heap.size)) (F0 m 0 ls []) by rw [hH, hlo] at hW; exact hW
  refine lv_aload_n hx hb dL_changes_0 rfl (lv_at hl 1 rfl) ?_
  refine lv_iconst hx hb (v := jI 0) dL_changes_1 rfl ?_
  refine lv_aload_n hx hb dL_changes_2 rfl (lv_at hl 0 rfl) ?_
  refine x_cVi (As := []) (rest := [.int (jI 0), .ref o]) hx hb hml hown hts hK hR hS hC ok0 rfl (ci := 3) (C := RX3) (T := TX3) (N := 9) rfl wd807 wd808 wd809 wd1 wd810 hyL_changes ⟨rfl, rfl⟩ ⟨Nat.le_trans (Nat.succ_le_succ (Nat.le_max_left _ _)) (Nat.le_refl _), Nat.add_le_add_left (Nat.le_max_left _ _) _⟩ hl.1 (Nat.le_of_ble_eq_true rfl) dL_changes_3 ⟨Nat.zero_le _, Nat.zero_le _⟩ rfl ?_
  intro hr0 H1 locs1 hR hS1
  have hO1 : ∃ x, OL g o x H1 := ⟨x0, hO.kept (hS1.2.1 o (Array.getElem?_eq_some_iff.mp hO.choose_spec.1).1 hA)⟩
  have hS := AO_S (o := o) hS1
  refine lv_i2l hx hb dL_changes_6 rfl ?_
  refine x_wst hx hb hK hR hO1 hA hS dL_changes_7 ?_
  intro H2 locs2 hR hO2 hS
  refine lv_goto (tgt := 14) hx hb dL_changes_8 rfl ?_
  refine lv_iconst hx hb (v := jI 0) dL_changes_14 rfl ?_
  exact x_wend hx hb hlocks hK hR hO2 hS hr (Nat.zero_le _) (Nat.zero_le _) dL_changes_15
set_option maxHeartbeats 4000000 in
set_option maxRecDepth 100000 in
theorem tL_changes_1 {l : Launch} {g : Gx} {b o : Nat} {M : Mm} (hC : Tt l yX3_changes cX3_changes 1 (some .int) rmTX3_changes g b [.ref (adr b 0 0)] M 1) : Lt l yL_changes cL_changes 3 hhL_changes rmL_changes g b o [.ref (adr b 0 0), .ref o] M (OLp g b o) 1 M (fun H => ∃ x, OL g o x H) := by
  refine lt_of (by decide +kernel) (Nat.le_of_ble_eq_true rfl) ?_
  intro p e s m args below meth c C0 hTH hNP hPre hTab hR ls hl
  obtain ⟨hx, hb, hr, hlocks, hml, hown, hts, hK⟩ := id C0
  have hS : va_S (AA b s.heap.size) s.heap s.heap [] := va_S.rf
  have hl : lv_has ls 3 [(0, .ref (adr b 0 0)), (1, .ref o)] := hl
  obtain ⟨H, hH⟩ : ∃ z, z = s.heap := ⟨_, rfl⟩
  obtain ⟨locs, hlo⟩ : ∃ z : List Loc, z = [] := ⟨_, rfl⟩
  have hR : Rel g b M H := by rw [hH]; exact hR
  have hS : va_S (AA b s.heap.size) s.heap H locs := by rw [hH, hlo]; exact hS
  obtain ⟨⟨x0, hO⟩, hA⟩ := hPre
  suffices hW : W p l e rmL_changes s m args below meth c H locs 0 0 (vx_MQ below (wqI g b 1 M (fun H => ∃ x, OL g o x H) o s.heap.size) noX args s 1 6 (AO b o s.heap.size)) (F0 m 0 ls []) by rw [hH, hlo] at hW; exact hW
  refine lv_aload_n hx hb dL_changes_0 rfl (lv_at hl 1 rfl) ?_
  refine lv_iconst hx hb (v := jI 0) dL_changes_1 rfl ?_
  refine lv_aload_n hx hb dL_changes_2 rfl (lv_at hl 0 rfl) ?_
  refine x_tC (As := []) (rest := [.int (jI 0), .ref o]) hx hb hml hown hts hK hTH hR hS hC wd807 wd808 wd809 wd1 wd810 hyL_changes ⟨rfl, rfl⟩ ⟨Nat.le_trans (Nat.succ_le_succ (Nat.le_max_right _ _)) (Nat.le_refl _), Nat.add_le_add_left (Nat.le_max_right _ _) _⟩ hl.1 (Nat.le_of_ble_eq_true rfl) dL_changes_3 ⟨Nat.le_refl _, Nat.le_refl _⟩ rfl ?_
  intro H1 locs1 q ce hR hS1 hce hcv hcl
  have hS := AO_S (o := o) hS1
  refine vx_catch (name := exN 1) hown [] ⟨0, 8, 11, 13⟩ [] hTab (fun z hz => by cases hz) (by decide +kernel) (by decide) (hts _ wd178) hTH.2.2.1 hce hcv hcl ?_
  refine lv_astore_n hx hb dL_changes_11 rfl hl (by decide) rfl ?_
  intro ls1 hl1
  refine lv_iconst hx hb (v := jI 1) dL_changes_12 rfl ?_
  exact x_wend hx hb hlocks hK hR ⟨x0, hO.kept (hS1.2.1 o (Array.getElem?_eq_some_iff.mp hO.choose_spec.1).1 hA)⟩ hS hr (Nat.le_refl _) (Nat.le_refl _) dL_changes_13
abbrev rmL_nodes : Room := { frames := max rmX3_nodes.frames rmTX3_nodes.frames + 1, cells := 1, slots := 6, locals := 8 + (1 + 11) + max rmX3_nodes.locals rmTX3_nodes.locals }
abbrev hhL_nodes : List (Nat × Nat × Nat × Nat) := [(0, 8, 11, 13)]
theorem hyL_nodes : yX3_nodes.cls = RX3 ∧ yX3_nodes.cls ≠ "java/lang/invoke/MethodHandle" ∧ yX3_nodes.cls ≠ "java/lang/invoke/VarHandle" ∧ (parseMethodDescriptor yX3_nodes.desc).map (fun d => d.parameters.length) = some 0 := by decide +kernel
set_option maxHeartbeats 4000000 in
set_option maxRecDepth 100000 in
theorem nL_nodes {l : Launch} {g : Gx} {b o : Nat} {M M' : Mm} {r : Int} (hC : Ct l yX3_nodes cX3_nodes 1 (some .int) rmX3_nodes g b [.ref (adr b 0 0)] M (qI g b r M')) : Lt l yL_nodes cL_nodes 3 hhL_nodes rmL_nodes g b o [.ref (adr b 0 0), .ref o] M (OLp g b o) 0 M' (OL g o (jI r).toInt64) := by
  refine lt_of (by decide +kernel) (Nat.le_of_ble_eq_true rfl) ?_
  intro p e s m args below meth c C0 hTH hNP hPre hTab hR ls hl
  obtain ⟨hx, hb, hr, hlocks, hml, hown, hts, hK⟩ := id C0
  have hS : va_S (AA b s.heap.size) s.heap s.heap [] := va_S.rf
  have hl : lv_has ls 3 [(0, .ref (adr b 0 0)), (1, .ref o)] := hl
  obtain ⟨H, hH⟩ : ∃ z, z = s.heap := ⟨_, rfl⟩
  obtain ⟨locs, hlo⟩ : ∃ z : List Loc, z = [] := ⟨_, rfl⟩
  have hR : Rel g b M H := by rw [hH]; exact hR
  have hS : va_S (AA b s.heap.size) s.heap H locs := by rw [hH, hlo]; exact hS
  obtain ⟨⟨x0, hO⟩, hA⟩ := hPre
  suffices hW : W p l e rmL_nodes s m args below meth c H locs 0 0 (vx_MQ below (wqI g b 0 M' (OL g o (jI r).toInt64) o s.heap.size) noX args s 1 6 (AO b o s.heap.size)) (F0 m 0 ls []) by rw [hH, hlo] at hW; exact hW
  refine lv_aload_n hx hb dL_nodes_0 rfl (lv_at hl 1 rfl) ?_
  refine lv_iconst hx hb (v := jI 0) dL_nodes_1 rfl ?_
  refine lv_aload_n hx hb dL_nodes_2 rfl (lv_at hl 0 rfl) ?_
  refine x_cVi (As := []) (rest := [.int (jI 0), .ref o]) hx hb hml hown hts hK hR hS hC ok0 rfl (ci := 3) (C := RX3) (T := TX3) (N := 9) rfl wd814 wd815 wd816 wd1 wd817 hyL_nodes ⟨rfl, rfl⟩ ⟨Nat.le_trans (Nat.succ_le_succ (Nat.le_max_left _ _)) (Nat.le_refl _), Nat.add_le_add_left (Nat.le_max_left _ _) _⟩ hl.1 (Nat.le_of_ble_eq_true rfl) dL_nodes_3 ⟨Nat.zero_le _, Nat.zero_le _⟩ rfl ?_
  intro hr0 H1 locs1 hR hS1
  have hO1 : ∃ x, OL g o x H1 := ⟨x0, hO.kept (hS1.2.1 o (Array.getElem?_eq_some_iff.mp hO.choose_spec.1).1 hA)⟩
  have hS := AO_S (o := o) hS1
  refine lv_i2l hx hb dL_nodes_6 rfl ?_
  refine x_wst hx hb hK hR hO1 hA hS dL_nodes_7 ?_
  intro H2 locs2 hR hO2 hS
  refine lv_goto (tgt := 14) hx hb dL_nodes_8 rfl ?_
  refine lv_iconst hx hb (v := jI 0) dL_nodes_14 rfl ?_
  exact x_wend hx hb hlocks hK hR hO2 hS hr (Nat.zero_le _) (Nat.zero_le _) dL_nodes_15
set_option maxHeartbeats 4000000 in
set_option maxRecDepth 100000 in
theorem tL_nodes_1 {l : Launch} {g : Gx} {b o : Nat} {M : Mm} (hC : Tt l yX3_nodes cX3_nodes 1 (some .int) rmTX3_nodes g b [.ref (adr b 0 0)] M 1) : Lt l yL_nodes cL_nodes 3 hhL_nodes rmL_nodes g b o [.ref (adr b 0 0), .ref o] M (OLp g b o) 1 M (fun H => ∃ x, OL g o x H) := by
  refine lt_of (by decide +kernel) (Nat.le_of_ble_eq_true rfl) ?_
  intro p e s m args below meth c C0 hTH hNP hPre hTab hR ls hl
  obtain ⟨hx, hb, hr, hlocks, hml, hown, hts, hK⟩ := id C0
  have hS : va_S (AA b s.heap.size) s.heap s.heap [] := va_S.rf
  have hl : lv_has ls 3 [(0, .ref (adr b 0 0)), (1, .ref o)] := hl
  obtain ⟨H, hH⟩ : ∃ z, z = s.heap := ⟨_, rfl⟩
  obtain ⟨locs, hlo⟩ : ∃ z : List Loc, z = [] := ⟨_, rfl⟩
  have hR : Rel g b M H := by rw [hH]; exact hR
  have hS : va_S (AA b s.heap.size) s.heap H locs := by rw [hH, hlo]; exact hS
  obtain ⟨⟨x0, hO⟩, hA⟩ := hPre
  suffices hW : W p l e rmL_nodes s m args below meth c H locs 0 0 (vx_MQ below (wqI g b 1 M (fun H => ∃ x, OL g o x H) o s.heap.size) noX args s 1 6 (AO b o s.heap.size)) (F0 m 0 ls []) by rw [hH, hlo] at hW; exact hW
  refine lv_aload_n hx hb dL_nodes_0 rfl (lv_at hl 1 rfl) ?_
  refine lv_iconst hx hb (v := jI 0) dL_nodes_1 rfl ?_
  refine lv_aload_n hx hb dL_nodes_2 rfl (lv_at hl 0 rfl) ?_
  refine x_tC (As := []) (rest := [.int (jI 0), .ref o]) hx hb hml hown hts hK hTH hR hS hC wd814 wd815 wd816 wd1 wd817 hyL_nodes ⟨rfl, rfl⟩ ⟨Nat.le_trans (Nat.succ_le_succ (Nat.le_max_right _ _)) (Nat.le_refl _), Nat.add_le_add_left (Nat.le_max_right _ _) _⟩ hl.1 (Nat.le_of_ble_eq_true rfl) dL_nodes_3 ⟨Nat.le_refl _, Nat.le_refl _⟩ rfl ?_
  intro H1 locs1 q ce hR hS1 hce hcv hcl
  have hS := AO_S (o := o) hS1
  refine vx_catch (name := exN 1) hown [] ⟨0, 8, 11, 13⟩ [] hTab (fun z hz => by cases hz) (by decide +kernel) (by decide) (hts _ wd178) hTH.2.2.1 hce hcv hcl ?_
  refine lv_astore_n hx hb dL_nodes_11 rfl hl (by decide) rfl ?_
  intro ls1 hl1
  refine lv_iconst hx hb (v := jI 1) dL_nodes_12 rfl ?_
  exact x_wend hx hb hlocks hK hR ⟨x0, hO.kept (hS1.2.1 o (Array.getElem?_eq_some_iff.mp hO.choose_spec.1).1 hA)⟩ hS hr (Nat.le_refl _) (Nat.le_refl _) dL_nodes_13
abbrev rmL_typeOf : Room := { frames := max rmX3_typeOf.frames rmTX3_typeOf.frames + 1, cells := 1, slots := 6, locals := 8 + (2 + 11) + max rmX3_typeOf.locals rmTX3_typeOf.locals }
abbrev hhL_typeOf : List (Nat × Nat × Nat × Nat) := [(0, 9, 12, 13)]
theorem hyL_typeOf : yX3_typeOf.cls = RX3 ∧ yX3_typeOf.cls ≠ "java/lang/invoke/MethodHandle" ∧ yX3_typeOf.cls ≠ "java/lang/invoke/VarHandle" ∧ (parseMethodDescriptor yX3_typeOf.desc).map (fun d => d.parameters.length) = some 1 := by decide +kernel
set_option maxHeartbeats 4000000 in
set_option maxRecDepth 100000 in
theorem nL_typeOf {l : Launch} {g : Gx} {b o : Nat} {p0 : Int} {M M' : Mm} {r : Int} (hC : Ct l yX3_typeOf cX3_typeOf 2 (some .int) rmX3_typeOf g b [.ref (adr b 0 0), .int (jI p0)] M (qI g b r M')) : Lt l yL_typeOf cL_typeOf 4 hhL_typeOf rmL_typeOf g b o [.ref (adr b 0 0), .int (jI p0), .ref o] M (OLp g b o) 0 M' (OL g o (jI r).toInt64) := by
  refine lt_of (by decide +kernel) (Nat.le_of_ble_eq_true rfl) ?_
  intro p e s m args below meth c C0 hTH hNP hPre hTab hR ls hl
  obtain ⟨hx, hb, hr, hlocks, hml, hown, hts, hK⟩ := id C0
  have hS : va_S (AA b s.heap.size) s.heap s.heap [] := va_S.rf
  have hl : lv_has ls 4 [(0, .ref (adr b 0 0)), (1, .int (jI p0)), (2, .ref o)] := hl
  obtain ⟨H, hH⟩ : ∃ z, z = s.heap := ⟨_, rfl⟩
  obtain ⟨locs, hlo⟩ : ∃ z : List Loc, z = [] := ⟨_, rfl⟩
  have hR : Rel g b M H := by rw [hH]; exact hR
  have hS : va_S (AA b s.heap.size) s.heap H locs := by rw [hH, hlo]; exact hS
  obtain ⟨⟨x0, hO⟩, hA⟩ := hPre
  suffices hW : W p l e rmL_typeOf s m args below meth c H locs 0 0 (vx_MQ below (wqI g b 0 M' (OL g o (jI r).toInt64) o s.heap.size) noX args s 1 6 (AO b o s.heap.size)) (F0 m 0 ls []) by rw [hH, hlo] at hW; exact hW
  refine lv_aload_n hx hb dL_typeOf_0 rfl (lv_at hl 2 rfl) ?_
  refine lv_iconst hx hb (v := jI 0) dL_typeOf_1 rfl ?_
  refine lv_aload_n hx hb dL_typeOf_2 rfl (lv_at hl 0 rfl) ?_
  refine lv_iload_n hx hb dL_typeOf_3 rfl (lv_at hl 1 rfl) ?_
  refine x_cVi (As := [.int (jI p0)]) (rest := [.int (jI 0), .ref o]) hx hb hml hown hts hK hR hS hC ok0 rfl (ci := 3) (C := RX3) (T := TX3) (N := 9) rfl wd821 wd822 wd823 wd1 wd824 hyL_typeOf ⟨rfl, rfl⟩ ⟨Nat.le_trans (Nat.succ_le_succ (Nat.le_max_left _ _)) (Nat.le_refl _), Nat.add_le_add_left (Nat.le_max_left _ _) _⟩ hl.1 (Nat.le_of_ble_eq_true rfl) dL_typeOf_4 ⟨Nat.zero_le _, Nat.zero_le _⟩ rfl ?_
  intro hr0 H1 locs1 hR hS1
  have hO1 : ∃ x, OL g o x H1 := ⟨x0, hO.kept (hS1.2.1 o (Array.getElem?_eq_some_iff.mp hO.choose_spec.1).1 hA)⟩
  have hS := AO_S (o := o) hS1
  refine lv_i2l hx hb dL_typeOf_7 rfl ?_
  refine x_wst hx hb hK hR hO1 hA hS dL_typeOf_8 ?_
  intro H2 locs2 hR hO2 hS
  refine lv_goto (tgt := 15) hx hb dL_typeOf_9 rfl ?_
  refine lv_iconst hx hb (v := jI 0) dL_typeOf_15 rfl ?_
  exact x_wend hx hb hlocks hK hR hO2 hS hr (Nat.zero_le _) (Nat.zero_le _) dL_typeOf_16
set_option maxHeartbeats 4000000 in
set_option maxRecDepth 100000 in
theorem tL_typeOf_1 {l : Launch} {g : Gx} {b o : Nat} {p0 : Int} {M : Mm} (hC : Tt l yX3_typeOf cX3_typeOf 2 (some .int) rmTX3_typeOf g b [.ref (adr b 0 0), .int (jI p0)] M 1) : Lt l yL_typeOf cL_typeOf 4 hhL_typeOf rmL_typeOf g b o [.ref (adr b 0 0), .int (jI p0), .ref o] M (OLp g b o) 1 M (fun H => ∃ x, OL g o x H) := by
  refine lt_of (by decide +kernel) (Nat.le_of_ble_eq_true rfl) ?_
  intro p e s m args below meth c C0 hTH hNP hPre hTab hR ls hl
  obtain ⟨hx, hb, hr, hlocks, hml, hown, hts, hK⟩ := id C0
  have hS : va_S (AA b s.heap.size) s.heap s.heap [] := va_S.rf
  have hl : lv_has ls 4 [(0, .ref (adr b 0 0)), (1, .int (jI p0)), (2, .ref o)] := hl
  obtain ⟨H, hH⟩ : ∃ z, z = s.heap := ⟨_, rfl⟩
  obtain ⟨locs, hlo⟩ : ∃ z : List Loc, z = [] := ⟨_, rfl⟩
  have hR : Rel g b M H := by rw [hH]; exact hR
  have hS : va_S (AA b s.heap.size) s.heap H locs := by rw [hH, hlo]; exact hS
  obtain ⟨⟨x0, hO⟩, hA⟩ := hPre
  suffices hW : W p l e rmL_typeOf s m args below meth c H locs 0 0 (vx_MQ below (wqI g b 1 M (fun H => ∃ x, OL g o x H) o s.heap.size) noX args s 1 6 (AO b o s.heap.size)) (F0 m 0 ls []) by rw [hH, hlo] at hW; exact hW
  refine lv_aload_n hx hb dL_typeOf_0 rfl (lv_at hl 2 rfl) ?_
  refine lv_iconst hx hb (v := jI 0) dL_typeOf_1 rfl ?_
  refine lv_aload_n hx hb dL_typeOf_2 rfl (lv_at hl 0 rfl) ?_
  refine lv_iload_n hx hb dL_typeOf_3 rfl (lv_at hl 1 rfl) ?_
  refine x_tC (As := [.int (jI p0)]) (rest := [.int (jI 0), .ref o]) hx hb hml hown hts hK hTH hR hS hC wd821 wd822 wd823 wd1 wd824 hyL_typeOf ⟨rfl, rfl⟩ ⟨Nat.le_trans (Nat.succ_le_succ (Nat.le_max_right _ _)) (Nat.le_refl _), Nat.add_le_add_left (Nat.le_max_right _ _) _⟩ hl.1 (Nat.le_of_ble_eq_true rfl) dL_typeOf_4 ⟨Nat.le_refl _, Nat.le_refl _⟩ rfl ?_
  intro H1 locs1 q ce hR hS1 hce hcv hcl
  have hS := AO_S (o := o) hS1
  refine vx_catch (name := exN 1) hown [] ⟨0, 9, 12, 13⟩ [] hTab (fun z hz => by cases hz) (by decide +kernel) (by decide) (hts _ wd178) hTH.2.2.1 hce hcv hcl ?_
  refine lv_astore_n hx hb dL_typeOf_12 rfl hl (by decide) rfl ?_
  intro ls1 hl1
  refine lv_iconst hx hb (v := jI 1) dL_typeOf_13 rfl ?_
  exact x_wend hx hb hlocks hK hR ⟨x0, hO.kept (hS1.2.1 o (Array.getElem?_eq_some_iff.mp hO.choose_spec.1).1 hA)⟩ hS hr (Nat.le_refl _) (Nat.le_refl _) dL_typeOf_14
abbrev rmL_linksOf : Room := { frames := max rmX3_linksOf.frames rmTX3_linksOf.frames + 1, cells := 1, slots := 6, locals := 8 + (2 + 11) + max rmX3_linksOf.locals rmTX3_linksOf.locals }
abbrev hhL_linksOf : List (Nat × Nat × Nat × Nat) := [(0, 9, 12, 13), (0, 9, 15, 15)]
theorem hyL_linksOf : yX3_linksOf.cls = RX3 ∧ yX3_linksOf.cls ≠ "java/lang/invoke/MethodHandle" ∧ yX3_linksOf.cls ≠ "java/lang/invoke/VarHandle" ∧ (parseMethodDescriptor yX3_linksOf.desc).map (fun d => d.parameters.length) = some 1 := by decide +kernel
set_option maxHeartbeats 4000000 in
set_option maxRecDepth 100000 in
theorem nL_linksOf {l : Launch} {g : Gx} {b o : Nat} {p0 : Int} {M M' : Mm} {r : Int} (hC : Ct l yX3_linksOf cX3_linksOf 2 (some .int) rmX3_linksOf g b [.ref (adr b 0 0), .int (jI p0)] M (qI g b r M')) : Lt l yL_linksOf cL_linksOf 4 hhL_linksOf rmL_linksOf g b o [.ref (adr b 0 0), .int (jI p0), .ref o] M (OLp g b o) 0 M' (OL g o (jI r).toInt64) := by
  refine lt_of (by decide +kernel) (Nat.le_of_ble_eq_true rfl) ?_
  intro p e s m args below meth c C0 hTH hNP hPre hTab hR ls hl
  obtain ⟨hx, hb, hr, hlocks, hml, hown, hts, hK⟩ := id C0
  have hS : va_S (AA b s.heap.size) s.heap s.heap [] := va_S.rf
  have hl : lv_has ls 4 [(0, .ref (adr b 0 0)), (1, .int (jI p0)), (2, .ref o)] := hl
  obtain ⟨H, hH⟩ : ∃ z, z = s.heap := ⟨_, rfl⟩
  obtain ⟨locs, hlo⟩ : ∃ z : List Loc, z = [] := ⟨_, rfl⟩
  have hR : Rel g b M H := by rw [hH]; exact hR
  have hS : va_S (AA b s.heap.size) s.heap H locs := by rw [hH, hlo]; exact hS
  obtain ⟨⟨x0, hO⟩, hA⟩ := hPre
  suffices hW : W p l e rmL_linksOf s m args below meth c H locs 0 0 (vx_MQ below (wqI g b 0 M' (OL g o (jI r).toInt64) o s.heap.size) noX args s 1 6 (AO b o s.heap.size)) (F0 m 0 ls []) by rw [hH, hlo] at hW; exact hW
  refine lv_aload_n hx hb dL_linksOf_0 rfl (lv_at hl 2 rfl) ?_
  refine lv_iconst hx hb (v := jI 0) dL_linksOf_1 rfl ?_
  refine lv_aload_n hx hb dL_linksOf_2 rfl (lv_at hl 0 rfl) ?_
  refine lv_iload_n hx hb dL_linksOf_3 rfl (lv_at hl 1 rfl) ?_
  refine x_cVi (As := [.int (jI p0)]) (rest := [.int (jI 0), .ref o]) hx hb hml hown hts hK hR hS hC ok0 rfl (ci := 3) (C := RX3) (T := TX3) (N := 9) rfl wd828 wd829 wd830 wd1 wd831 hyL_linksOf ⟨rfl, rfl⟩ ⟨Nat.le_trans (Nat.succ_le_succ (Nat.le_max_left _ _)) (Nat.le_refl _), Nat.add_le_add_left (Nat.le_max_left _ _) _⟩ hl.1 (Nat.le_of_ble_eq_true rfl) dL_linksOf_4 ⟨Nat.zero_le _, Nat.zero_le _⟩ rfl ?_
  intro hr0 H1 locs1 hR hS1
  have hO1 : ∃ x, OL g o x H1 := ⟨x0, hO.kept (hS1.2.1 o (Array.getElem?_eq_some_iff.mp hO.choose_spec.1).1 hA)⟩
  have hS := AO_S (o := o) hS1
  refine lv_i2l hx hb dL_linksOf_7 rfl ?_
  refine x_wst hx hb hK hR hO1 hA hS dL_linksOf_8 ?_
  intro H2 locs2 hR hO2 hS
  refine lv_goto (tgt := 18) hx hb dL_linksOf_9 rfl ?_
  refine lv_iconst hx hb (v := jI 0) dL_linksOf_18 rfl ?_
  exact x_wend hx hb hlocks hK hR hO2 hS hr (Nat.zero_le _) (Nat.zero_le _) dL_linksOf_19
set_option maxHeartbeats 4000000 in
set_option maxRecDepth 100000 in
theorem tL_linksOf_1 {l : Launch} {g : Gx} {b o : Nat} {p0 : Int} {M : Mm} (hC : Tt l yX3_linksOf cX3_linksOf 2 (some .int) rmTX3_linksOf g b [.ref (adr b 0 0), .int (jI p0)] M 1) : Lt l yL_linksOf cL_linksOf 4 hhL_linksOf rmL_linksOf g b o [.ref (adr b 0 0), .int (jI p0), .ref o] M (OLp g b o) 1 M (fun H => ∃ x, OL g o x H) := by
  refine lt_of (by decide +kernel) (Nat.le_of_ble_eq_true rfl) ?_
  intro p e s m args below meth c C0 hTH hNP hPre hTab hR ls hl
  obtain ⟨hx, hb, hr, hlocks, hml, hown, hts, hK⟩ := id C0
  have hS : va_S (AA b s.heap.size) s.heap s.heap [] := va_S.rf
  have hl : lv_has ls 4 [(0, .ref (adr b 0 0)), (1, .int (jI p0)), (2, .ref o)] := hl
  obtain ⟨H, hH⟩ : ∃ z, z = s.heap := ⟨_, rfl⟩
  obtain ⟨locs, hlo⟩ : ∃ z : List Loc, z = [] := ⟨_, rfl⟩
  have hR : Rel g b M H := by rw [hH]; exact hR
  have hS : va_S (AA b s.heap.size) s.heap H locs := by rw [hH, hlo]; exact hS
  obtain ⟨⟨x0, hO⟩, hA⟩ := hPre
  suffices hW : W p l e rmL_linksOf s m args below meth c H locs 0 0 (vx_MQ below (wqI g b 1 M (fun H => ∃ x, OL g o x H) o s.heap.size) noX args s 1 6 (AO b o s.heap.size)) (F0 m 0 ls []) by rw [hH, hlo] at hW; exact hW
  refine lv_aload_n hx hb dL_linksOf_0 rfl (lv_at hl 2 rfl) ?_
  refine lv_iconst hx hb (v := jI 0) dL_linksOf_1 rfl ?_
  refine lv_aload_n hx hb dL_linksOf_2 rfl (lv_at hl 0 rfl) ?_
  refine lv_iload_n hx hb dL_linksOf_3 rfl (lv_at hl 1 rfl) ?_
  refine x_tC (As := [.int (jI p0)]) (rest := [.int (jI 0), .ref o]) hx hb hml hown hts hK hTH hR hS hC wd828 wd829 wd830 wd1 wd831 hyL_linksOf ⟨rfl, rfl⟩ ⟨Nat.le_trans (Nat.succ_le_succ (Nat.le_max_right _ _)) (Nat.le_refl _), Nat.add_le_add_left (Nat.le_max_right _ _) _⟩ hl.1 (Nat.le_of_ble_eq_true rfl) dL_linksOf_4 ⟨Nat.le_refl _, Nat.le_refl _⟩ rfl ?_
  intro H1 locs1 q ce hR hS1 hce hcv hcl
  have hS := AO_S (o := o) hS1
  refine vx_catch (name := exN 1) hown [] ⟨0, 9, 12, 13⟩ [⟨0, 9, 15, 15⟩] hTab (fun z hz => by cases hz) (by decide +kernel) (by decide) (hts _ wd178) hTH.2.2.1 hce hcv hcl ?_
  refine lv_astore_n hx hb dL_linksOf_12 rfl hl (by decide) rfl ?_
  intro ls1 hl1
  refine lv_iconst hx hb (v := jI 1) dL_linksOf_13 rfl ?_
  exact x_wend hx hb hlocks hK hR ⟨x0, hO.kept (hS1.2.1 o (Array.getElem?_eq_some_iff.mp hO.choose_spec.1).1 hA)⟩ hS hr (Nat.le_refl _) (Nat.le_refl _) dL_linksOf_14
set_option maxHeartbeats 4000000 in
set_option maxRecDepth 100000 in
theorem tL_linksOf_2 {l : Launch} {g : Gx} {b o : Nat} {p0 : Int} {M : Mm} (hC : Tt l yX3_linksOf cX3_linksOf 2 (some .int) rmTX3_linksOf g b [.ref (adr b 0 0), .int (jI p0)] M 2) : Lt l yL_linksOf cL_linksOf 4 hhL_linksOf rmL_linksOf g b o [.ref (adr b 0 0), .int (jI p0), .ref o] M (OLp g b o) 2 M (fun H => ∃ x, OL g o x H) := by
  refine lt_of (by decide +kernel) (Nat.le_of_ble_eq_true rfl) ?_
  intro p e s m args below meth c C0 hTH hNP hPre hTab hR ls hl
  obtain ⟨hx, hb, hr, hlocks, hml, hown, hts, hK⟩ := id C0
  have hS : va_S (AA b s.heap.size) s.heap s.heap [] := va_S.rf
  have hl : lv_has ls 4 [(0, .ref (adr b 0 0)), (1, .int (jI p0)), (2, .ref o)] := hl
  obtain ⟨H, hH⟩ : ∃ z, z = s.heap := ⟨_, rfl⟩
  obtain ⟨locs, hlo⟩ : ∃ z : List Loc, z = [] := ⟨_, rfl⟩
  have hR : Rel g b M H := by rw [hH]; exact hR
  have hS : va_S (AA b s.heap.size) s.heap H locs := by rw [hH, hlo]; exact hS
  obtain ⟨⟨x0, hO⟩, hA⟩ := hPre
  suffices hW : W p l e rmL_linksOf s m args below meth c H locs 0 0 (vx_MQ below (wqI g b 2 M (fun H => ∃ x, OL g o x H) o s.heap.size) noX args s 1 6 (AO b o s.heap.size)) (F0 m 0 ls []) by rw [hH, hlo] at hW; exact hW
  refine lv_aload_n hx hb dL_linksOf_0 rfl (lv_at hl 2 rfl) ?_
  refine lv_iconst hx hb (v := jI 0) dL_linksOf_1 rfl ?_
  refine lv_aload_n hx hb dL_linksOf_2 rfl (lv_at hl 0 rfl) ?_
  refine lv_iload_n hx hb dL_linksOf_3 rfl (lv_at hl 1 rfl) ?_
  refine x_tC (As := [.int (jI p0)]) (rest := [.int (jI 0), .ref o]) hx hb hml hown hts hK hTH hR hS hC wd828 wd829 wd830 wd1 wd831 hyL_linksOf ⟨rfl, rfl⟩ ⟨Nat.le_trans (Nat.succ_le_succ (Nat.le_max_right _ _)) (Nat.le_refl _), Nat.add_le_add_left (Nat.le_max_right _ _) _⟩ hl.1 (Nat.le_of_ble_eq_true rfl) dL_linksOf_4 ⟨Nat.le_refl _, Nat.le_refl _⟩ rfl ?_
  intro H1 locs1 q ce hR hS1 hce hcv hcl
  have hS := AO_S (o := o) hS1
  refine vx_catch (name := exN 2) hown [⟨0, 9, 12, 13⟩] ⟨0, 9, 15, 15⟩ [] hTab (by intro z hz; simp only [List.mem_cons, List.not_mem_nil, or_false] at hz; rcases hz with rfl; exact Or.inr ⟨by decide, exN 1, hts _ wd178, hNP.1⟩) (by decide +kernel) (by decide) (hts _ wd179) hTH.2.2.2.1 hce hcv hcl ?_
  refine lv_astore_n hx hb dL_linksOf_15 rfl hl (by decide) rfl ?_
  intro ls1 hl1
  refine lv_iconst hx hb (v := jI 2) dL_linksOf_16 rfl ?_
  exact x_wend hx hb hlocks hK hR ⟨x0, hO.kept (hS1.2.1 o (Array.getElem?_eq_some_iff.mp hO.choose_spec.1).1 hA)⟩ hS hr (Nat.le_refl _) (Nat.le_refl _) dL_linksOf_17
abbrev rmL_ownerOf : Room := { frames := max rmX3_ownerOf.frames rmTX3_ownerOf.frames + 1, cells := 1, slots := 6, locals := 8 + (2 + 11) + max rmX3_ownerOf.locals rmTX3_ownerOf.locals }
abbrev hhL_ownerOf : List (Nat × Nat × Nat × Nat) := [(0, 9, 12, 13), (0, 9, 15, 15)]
theorem hyL_ownerOf : yX3_ownerOf.cls = RX3 ∧ yX3_ownerOf.cls ≠ "java/lang/invoke/MethodHandle" ∧ yX3_ownerOf.cls ≠ "java/lang/invoke/VarHandle" ∧ (parseMethodDescriptor yX3_ownerOf.desc).map (fun d => d.parameters.length) = some 1 := by decide +kernel
set_option maxHeartbeats 4000000 in
set_option maxRecDepth 100000 in
theorem nL_ownerOf {l : Launch} {g : Gx} {b o : Nat} {p0 : Int} {M M' : Mm} {r : Int} (hC : Ct l yX3_ownerOf cX3_ownerOf 2 (some .int) rmX3_ownerOf g b [.ref (adr b 0 0), .int (jI p0)] M (qI g b r M')) : Lt l yL_ownerOf cL_ownerOf 4 hhL_ownerOf rmL_ownerOf g b o [.ref (adr b 0 0), .int (jI p0), .ref o] M (OLp g b o) 0 M' (OL g o (jI r).toInt64) := by
  refine lt_of (by decide +kernel) (Nat.le_of_ble_eq_true rfl) ?_
  intro p e s m args below meth c C0 hTH hNP hPre hTab hR ls hl
  obtain ⟨hx, hb, hr, hlocks, hml, hown, hts, hK⟩ := id C0
  have hS : va_S (AA b s.heap.size) s.heap s.heap [] := va_S.rf
  have hl : lv_has ls 4 [(0, .ref (adr b 0 0)), (1, .int (jI p0)), (2, .ref o)] := hl
  obtain ⟨H, hH⟩ : ∃ z, z = s.heap := ⟨_, rfl⟩
  obtain ⟨locs, hlo⟩ : ∃ z : List Loc, z = [] := ⟨_, rfl⟩
  have hR : Rel g b M H := by rw [hH]; exact hR
  have hS : va_S (AA b s.heap.size) s.heap H locs := by rw [hH, hlo]; exact hS
  obtain ⟨⟨x0, hO⟩, hA⟩ := hPre
  suffices hW : W p l e rmL_ownerOf s m args below meth c H locs 0 0 (vx_MQ below (wqI g b 0 M' (OL g o (jI r).toInt64) o s.heap.size) noX args s 1 6 (AO b o s.heap.size)) (F0 m 0 ls []) by rw [hH, hlo] at hW; exact hW
  refine lv_aload_n hx hb dL_ownerOf_0 rfl (lv_at hl 2 rfl) ?_
  refine lv_iconst hx hb (v := jI 0) dL_ownerOf_1 rfl ?_
  refine lv_aload_n hx hb dL_ownerOf_2 rfl (lv_at hl 0 rfl) ?_
  refine lv_iload_n hx hb dL_ownerOf_3 rfl (lv_at hl 1 rfl) ?_
  refine x_cVi (As := [.int (jI p0)]) (rest := [.int (jI 0), .ref o]) hx hb hml hown hts hK hR hS hC ok0 rfl (ci := 3) (C := RX3) (T := TX3) (N := 9) rfl wd839 wd840 wd841 wd1 wd842 hyL_ownerOf ⟨rfl, rfl⟩ ⟨Nat.le_trans (Nat.succ_le_succ (Nat.le_max_left _ _)) (Nat.le_refl _), Nat.add_le_add_left (Nat.le_max_left _ _) _⟩ hl.1 (Nat.le_of_ble_eq_true rfl) dL_ownerOf_4 ⟨Nat.zero_le _, Nat.zero_le _⟩ rfl ?_
  intro hr0 H1 locs1 hR hS1
  have hO1 : ∃ x, OL g o x H1 := ⟨x0, hO.kept (hS1.2.1 o (Array.getElem?_eq_some_iff.mp hO.choose_spec.1).1 hA)⟩
  have hS := AO_S (o := o) hS1
  refine lv_i2l hx hb dL_ownerOf_7 rfl ?_
  refine x_wst hx hb hK hR hO1 hA hS dL_ownerOf_8 ?_
  intro H2 locs2 hR hO2 hS
  refine lv_goto (tgt := 18) hx hb dL_ownerOf_9 rfl ?_
  refine lv_iconst hx hb (v := jI 0) dL_ownerOf_18 rfl ?_
  exact x_wend hx hb hlocks hK hR hO2 hS hr (Nat.zero_le _) (Nat.zero_le _) dL_ownerOf_19
set_option maxHeartbeats 4000000 in
set_option maxRecDepth 100000 in
theorem tL_ownerOf_1 {l : Launch} {g : Gx} {b o : Nat} {p0 : Int} {M : Mm} (hC : Tt l yX3_ownerOf cX3_ownerOf 2 (some .int) rmTX3_ownerOf g b [.ref (adr b 0 0), .int (jI p0)] M 1) : Lt l yL_ownerOf cL_ownerOf 4 hhL_ownerOf rmL_ownerOf g b o [.ref (adr b 0 0), .int (jI p0), .ref o] M (OLp g b o) 1 M (fun H => ∃ x, OL g o x H) := by
  refine lt_of (by decide +kernel) (Nat.le_of_ble_eq_true rfl) ?_
  intro p e s m args below meth c C0 hTH hNP hPre hTab hR ls hl
  obtain ⟨hx, hb, hr, hlocks, hml, hown, hts, hK⟩ := id C0
  have hS : va_S (AA b s.heap.size) s.heap s.heap [] := va_S.rf
  have hl : lv_has ls 4 [(0, .ref (adr b 0 0)), (1, .int (jI p0)), (2, .ref o)] := hl
  obtain ⟨H, hH⟩ : ∃ z, z = s.heap := ⟨_, rfl⟩
  obtain ⟨locs, hlo⟩ : ∃ z : List Loc, z = [] := ⟨_, rfl⟩
  have hR : Rel g b M H := by rw [hH]; exact hR
  have hS : va_S (AA b s.heap.size) s.heap H locs := by rw [hH, hlo]; exact hS
  obtain ⟨⟨x0, hO⟩, hA⟩ := hPre
  suffices hW : W p l e rmL_ownerOf s m args below meth c H locs 0 0 (vx_MQ below (wqI g b 1 M (fun H => ∃ x, OL g o x H) o s.heap.size) noX args s 1 6 (AO b o s.heap.size)) (F0 m 0 ls []) by rw [hH, hlo] at hW; exact hW
  refine lv_aload_n hx hb dL_ownerOf_0 rfl (lv_at hl 2 rfl) ?_
  refine lv_iconst hx hb (v := jI 0) dL_ownerOf_1 rfl ?_
  refine lv_aload_n hx hb dL_ownerOf_2 rfl (lv_at hl 0 rfl) ?_
  refine lv_iload_n hx hb dL_ownerOf_3 rfl (lv_at hl 1 rfl) ?_
  refine x_tC (As := [.int (jI p0)]) (rest := [.int (jI 0), .ref o]) hx hb hml hown hts hK hTH hR hS hC wd839 wd840 wd841 wd1 wd842 hyL_ownerOf ⟨rfl, rfl⟩ ⟨Nat.le_trans (Nat.succ_le_succ (Nat.le_max_right _ _)) (Nat.le_refl _), Nat.add_le_add_left (Nat.le_max_right _ _) _⟩ hl.1 (Nat.le_of_ble_eq_true rfl) dL_ownerOf_4 ⟨Nat.le_refl _, Nat.le_refl _⟩ rfl ?_
  intro H1 locs1 q ce hR hS1 hce hcv hcl
  have hS := AO_S (o := o) hS1
  refine vx_catch (name := exN 1) hown [] ⟨0, 9, 12, 13⟩ [⟨0, 9, 15, 15⟩] hTab (fun z hz => by cases hz) (by decide +kernel) (by decide) (hts _ wd178) hTH.2.2.1 hce hcv hcl ?_
  refine lv_astore_n hx hb dL_ownerOf_12 rfl hl (by decide) rfl ?_
  intro ls1 hl1
  refine lv_iconst hx hb (v := jI 1) dL_ownerOf_13 rfl ?_
  exact x_wend hx hb hlocks hK hR ⟨x0, hO.kept (hS1.2.1 o (Array.getElem?_eq_some_iff.mp hO.choose_spec.1).1 hA)⟩ hS hr (Nat.le_refl _) (Nat.le_refl _) dL_ownerOf_14
set_option maxHeartbeats 4000000 in
set_option maxRecDepth 100000 in
theorem tL_ownerOf_2 {l : Launch} {g : Gx} {b o : Nat} {p0 : Int} {M : Mm} (hC : Tt l yX3_ownerOf cX3_ownerOf 2 (some .int) rmTX3_ownerOf g b [.ref (adr b 0 0), .int (jI p0)] M 2) : Lt l yL_ownerOf cL_ownerOf 4 hhL_ownerOf rmL_ownerOf g b o [.ref (adr b 0 0), .int (jI p0), .ref o] M (OLp g b o) 2 M (fun H => ∃ x, OL g o x H) := by
  refine lt_of (by decide +kernel) (Nat.le_of_ble_eq_true rfl) ?_
  intro p e s m args below meth c C0 hTH hNP hPre hTab hR ls hl
  obtain ⟨hx, hb, hr, hlocks, hml, hown, hts, hK⟩ := id C0
  have hS : va_S (AA b s.heap.size) s.heap s.heap [] := va_S.rf
  have hl : lv_has ls 4 [(0, .ref (adr b 0 0)), (1, .int (jI p0)), (2, .ref o)] := hl
  obtain ⟨H, hH⟩ : ∃ z, z = s.heap := ⟨_, rfl⟩
  obtain ⟨locs, hlo⟩ : ∃ z : List Loc, z = [] := ⟨_, rfl⟩
  have hR : Rel g b M H := by rw [hH]; exact hR
  have hS : va_S (AA b s.heap.size) s.heap H locs := by rw [hH, hlo]; exact hS
  obtain ⟨⟨x0, hO⟩, hA⟩ := hPre
  suffices hW : W p l e rmL_ownerOf s m args below meth c H locs 0 0 (vx_MQ below (wqI g b 2 M (fun H => ∃ x, OL g o x H) o s.heap.size) noX args s 1 6 (AO b o s.heap.size)) (F0 m 0 ls []) by rw [hH, hlo] at hW; exact hW
  refine lv_aload_n hx hb dL_ownerOf_0 rfl (lv_at hl 2 rfl) ?_
  refine lv_iconst hx hb (v := jI 0) dL_ownerOf_1 rfl ?_
  refine lv_aload_n hx hb dL_ownerOf_2 rfl (lv_at hl 0 rfl) ?_
  refine lv_iload_n hx hb dL_ownerOf_3 rfl (lv_at hl 1 rfl) ?_
  refine x_tC (As := [.int (jI p0)]) (rest := [.int (jI 0), .ref o]) hx hb hml hown hts hK hTH hR hS hC wd839 wd840 wd841 wd1 wd842 hyL_ownerOf ⟨rfl, rfl⟩ ⟨Nat.le_trans (Nat.succ_le_succ (Nat.le_max_right _ _)) (Nat.le_refl _), Nat.add_le_add_left (Nat.le_max_right _ _) _⟩ hl.1 (Nat.le_of_ble_eq_true rfl) dL_ownerOf_4 ⟨Nat.le_refl _, Nat.le_refl _⟩ rfl ?_
  intro H1 locs1 q ce hR hS1 hce hcv hcl
  have hS := AO_S (o := o) hS1
  refine vx_catch (name := exN 2) hown [⟨0, 9, 12, 13⟩] ⟨0, 9, 15, 15⟩ [] hTab (by intro z hz; simp only [List.mem_cons, List.not_mem_nil, or_false] at hz; rcases hz with rfl; exact Or.inr ⟨by decide, exN 1, hts _ wd178, hNP.1⟩) (by decide +kernel) (by decide) (hts _ wd179) hTH.2.2.2.1 hce hcv hcl ?_
  refine lv_astore_n hx hb dL_ownerOf_15 rfl hl (by decide) rfl ?_
  intro ls1 hl1
  refine lv_iconst hx hb (v := jI 2) dL_ownerOf_16 rfl ?_
  exact x_wend hx hb hlocks hK hR ⟨x0, hO.kept (hS1.2.1 o (Array.getElem?_eq_some_iff.mp hO.choose_spec.1).1 hA)⟩ hS hr (Nat.le_refl _) (Nat.le_refl _) dL_ownerOf_17
abbrev rmL_sizeOf : Room := { frames := max rmX3_sizeOf.frames rmTX3_sizeOf.frames + 1, cells := 1, slots := 6, locals := 8 + (2 + 11) + max rmX3_sizeOf.locals rmTX3_sizeOf.locals }
abbrev hhL_sizeOf : List (Nat × Nat × Nat × Nat) := [(0, 9, 12, 13), (0, 9, 15, 15)]
theorem hyL_sizeOf : yX3_sizeOf.cls = RX3 ∧ yX3_sizeOf.cls ≠ "java/lang/invoke/MethodHandle" ∧ yX3_sizeOf.cls ≠ "java/lang/invoke/VarHandle" ∧ (parseMethodDescriptor yX3_sizeOf.desc).map (fun d => d.parameters.length) = some 1 := by decide +kernel
set_option maxHeartbeats 4000000 in
set_option maxRecDepth 100000 in
theorem nL_sizeOf {l : Launch} {g : Gx} {b o : Nat} {p0 : Int} {M M' : Mm} {r : Int} (hC : Ct l yX3_sizeOf cX3_sizeOf 2 (some .int) rmX3_sizeOf g b [.ref (adr b 0 0), .int (jI p0)] M (qI g b r M')) : Lt l yL_sizeOf cL_sizeOf 4 hhL_sizeOf rmL_sizeOf g b o [.ref (adr b 0 0), .int (jI p0), .ref o] M (OLp g b o) 0 M' (OL g o (jI r).toInt64) := by
  refine lt_of (by decide +kernel) (Nat.le_of_ble_eq_true rfl) ?_
  intro p e s m args below meth c C0 hTH hNP hPre hTab hR ls hl
  obtain ⟨hx, hb, hr, hlocks, hml, hown, hts, hK⟩ := id C0
  have hS : va_S (AA b s.heap.size) s.heap s.heap [] := va_S.rf
  have hl : lv_has ls 4 [(0, .ref (adr b 0 0)), (1, .int (jI p0)), (2, .ref o)] := hl
  obtain ⟨H, hH⟩ : ∃ z, z = s.heap := ⟨_, rfl⟩
  obtain ⟨locs, hlo⟩ : ∃ z : List Loc, z = [] := ⟨_, rfl⟩
  have hR : Rel g b M H := by rw [hH]; exact hR
  have hS : va_S (AA b s.heap.size) s.heap H locs := by rw [hH, hlo]; exact hS
  obtain ⟨⟨x0, hO⟩, hA⟩ := hPre
  suffices hW : W p l e rmL_sizeOf s m args below meth c H locs 0 0 (vx_MQ below (wqI g b 0 M' (OL g o (jI r).toInt64) o s.heap.size) noX args s 1 6 (AO b o s.heap.size)) (F0 m 0 ls []) by rw [hH, hlo] at hW; exact hW
  refine lv_aload_n hx hb dL_sizeOf_0 rfl (lv_at hl 2 rfl) ?_
  refine lv_iconst hx hb (v := jI 0) dL_sizeOf_1 rfl ?_
  refine lv_aload_n hx hb dL_sizeOf_2 rfl (lv_at hl 0 rfl) ?_
  refine lv_iload_n hx hb dL_sizeOf_3 rfl (lv_at hl 1 rfl) ?_
  refine x_cVi (As := [.int (jI p0)]) (rest := [.int (jI 0), .ref o]) hx hb hml hown hts hK hR hS hC ok0 rfl (ci := 3) (C := RX3) (T := TX3) (N := 9) rfl wd846 wd847 wd848 wd1 wd849 hyL_sizeOf ⟨rfl, rfl⟩ ⟨Nat.le_trans (Nat.succ_le_succ (Nat.le_max_left _ _)) (Nat.le_refl _), Nat.add_le_add_left (Nat.le_max_left _ _) _⟩ hl.1 (Nat.le_of_ble_eq_true rfl) dL_sizeOf_4 ⟨Nat.zero_le _, Nat.zero_le _⟩ rfl ?_
  intro hr0 H1 locs1 hR hS1
  have hO1 : ∃ x, OL g o x H1 := ⟨x0, hO.kept (hS1.2.1 o (Array.getElem?_eq_some_iff.mp hO.choose_spec.1).1 hA)⟩
  have hS := AO_S (o := o) hS1
  refine lv_i2l hx hb dL_sizeOf_7 rfl ?_
  refine x_wst hx hb hK hR hO1 hA hS dL_sizeOf_8 ?_
  intro H2 locs2 hR hO2 hS
  refine lv_goto (tgt := 18) hx hb dL_sizeOf_9 rfl ?_
  refine lv_iconst hx hb (v := jI 0) dL_sizeOf_18 rfl ?_
  exact x_wend hx hb hlocks hK hR hO2 hS hr (Nat.zero_le _) (Nat.zero_le _) dL_sizeOf_19
set_option maxHeartbeats 4000000 in
set_option maxRecDepth 100000 in
theorem tL_sizeOf_1 {l : Launch} {g : Gx} {b o : Nat} {p0 : Int} {M : Mm} (hC : Tt l yX3_sizeOf cX3_sizeOf 2 (some .int) rmTX3_sizeOf g b [.ref (adr b 0 0), .int (jI p0)] M 1) : Lt l yL_sizeOf cL_sizeOf 4 hhL_sizeOf rmL_sizeOf g b o [.ref (adr b 0 0), .int (jI p0), .ref o] M (OLp g b o) 1 M (fun H => ∃ x, OL g o x H) := by
  refine lt_of (by decide +kernel) (Nat.le_of_ble_eq_true rfl) ?_
  intro p e s m args below meth c C0 hTH hNP hPre hTab hR ls hl
  obtain ⟨hx, hb, hr, hlocks, hml, hown, hts, hK⟩ := id C0
  have hS : va_S (AA b s.heap.size) s.heap s.heap [] := va_S.rf
  have hl : lv_has ls 4 [(0, .ref (adr b 0 0)), (1, .int (jI p0)), (2, .ref o)] := hl
  obtain ⟨H, hH⟩ : ∃ z, z = s.heap := ⟨_, rfl⟩
  obtain ⟨locs, hlo⟩ : ∃ z : List Loc, z = [] := ⟨_, rfl⟩
  have hR : Rel g b M H := by rw [hH]; exact hR
  have hS : va_S (AA b s.heap.size) s.heap H locs := by rw [hH, hlo]; exact hS
  obtain ⟨⟨x0, hO⟩, hA⟩ := hPre
  suffices hW : W p l e rmL_sizeOf s m args below meth c H locs 0 0 (vx_MQ below (wqI g b 1 M (fun H => ∃ x, OL g o x H) o s.heap.size) noX args s 1 6 (AO b o s.heap.size)) (F0 m 0 ls []) by rw [hH, hlo] at hW; exact hW
  refine lv_aload_n hx hb dL_sizeOf_0 rfl (lv_at hl 2 rfl) ?_
  refine lv_iconst hx hb (v := jI 0) dL_sizeOf_1 rfl ?_
  refine lv_aload_n hx hb dL_sizeOf_2 rfl (lv_at hl 0 rfl) ?_
  refine lv_iload_n hx hb dL_sizeOf_3 rfl (lv_at hl 1 rfl) ?_
  refine x_tC (As := [.int (jI p0)]) (rest := [.int (jI 0), .ref o]) hx hb hml hown hts hK hTH hR hS hC wd846 wd847 wd848 wd1 wd849 hyL_sizeOf ⟨rfl, rfl⟩ ⟨Nat.le_trans (Nat.succ_le_succ (Nat.le_max_right _ _)) (Nat.le_refl _), Nat.add_le_add_left (Nat.le_max_right _ _) _⟩ hl.1 (Nat.le_of_ble_eq_true rfl) dL_sizeOf_4 ⟨Nat.le_refl _, Nat.le_refl _⟩ rfl ?_
  intro H1 locs1 q ce hR hS1 hce hcv hcl
  have hS := AO_S (o := o) hS1
  refine vx_catch (name := exN 1) hown [] ⟨0, 9, 12, 13⟩ [⟨0, 9, 15, 15⟩] hTab (fun z hz => by cases hz) (by decide +kernel) (by decide) (hts _ wd178) hTH.2.2.1 hce hcv hcl ?_
  refine lv_astore_n hx hb dL_sizeOf_12 rfl hl (by decide) rfl ?_
  intro ls1 hl1
  refine lv_iconst hx hb (v := jI 1) dL_sizeOf_13 rfl ?_
  exact x_wend hx hb hlocks hK hR ⟨x0, hO.kept (hS1.2.1 o (Array.getElem?_eq_some_iff.mp hO.choose_spec.1).1 hA)⟩ hS hr (Nat.le_refl _) (Nat.le_refl _) dL_sizeOf_14
set_option maxHeartbeats 4000000 in
set_option maxRecDepth 100000 in
theorem tL_sizeOf_2 {l : Launch} {g : Gx} {b o : Nat} {p0 : Int} {M : Mm} (hC : Tt l yX3_sizeOf cX3_sizeOf 2 (some .int) rmTX3_sizeOf g b [.ref (adr b 0 0), .int (jI p0)] M 2) : Lt l yL_sizeOf cL_sizeOf 4 hhL_sizeOf rmL_sizeOf g b o [.ref (adr b 0 0), .int (jI p0), .ref o] M (OLp g b o) 2 M (fun H => ∃ x, OL g o x H) := by
  refine lt_of (by decide +kernel) (Nat.le_of_ble_eq_true rfl) ?_
  intro p e s m args below meth c C0 hTH hNP hPre hTab hR ls hl
  obtain ⟨hx, hb, hr, hlocks, hml, hown, hts, hK⟩ := id C0
  have hS : va_S (AA b s.heap.size) s.heap s.heap [] := va_S.rf
  have hl : lv_has ls 4 [(0, .ref (adr b 0 0)), (1, .int (jI p0)), (2, .ref o)] := hl
  obtain ⟨H, hH⟩ : ∃ z, z = s.heap := ⟨_, rfl⟩
  obtain ⟨locs, hlo⟩ : ∃ z : List Loc, z = [] := ⟨_, rfl⟩
  have hR : Rel g b M H := by rw [hH]; exact hR
  have hS : va_S (AA b s.heap.size) s.heap H locs := by rw [hH, hlo]; exact hS
  obtain ⟨⟨x0, hO⟩, hA⟩ := hPre
  suffices hW : W p l e rmL_sizeOf s m args below meth c H locs 0 0 (vx_MQ below (wqI g b 2 M (fun H => ∃ x, OL g o x H) o s.heap.size) noX args s 1 6 (AO b o s.heap.size)) (F0 m 0 ls []) by rw [hH, hlo] at hW; exact hW
  refine lv_aload_n hx hb dL_sizeOf_0 rfl (lv_at hl 2 rfl) ?_
  refine lv_iconst hx hb (v := jI 0) dL_sizeOf_1 rfl ?_
  refine lv_aload_n hx hb dL_sizeOf_2 rfl (lv_at hl 0 rfl) ?_
  refine lv_iload_n hx hb dL_sizeOf_3 rfl (lv_at hl 1 rfl) ?_
  refine x_tC (As := [.int (jI p0)]) (rest := [.int (jI 0), .ref o]) hx hb hml hown hts hK hTH hR hS hC wd846 wd847 wd848 wd1 wd849 hyL_sizeOf ⟨rfl, rfl⟩ ⟨Nat.le_trans (Nat.succ_le_succ (Nat.le_max_right _ _)) (Nat.le_refl _), Nat.add_le_add_left (Nat.le_max_right _ _) _⟩ hl.1 (Nat.le_of_ble_eq_true rfl) dL_sizeOf_4 ⟨Nat.le_refl _, Nat.le_refl _⟩ rfl ?_
  intro H1 locs1 q ce hR hS1 hce hcv hcl
  have hS := AO_S (o := o) hS1
  refine vx_catch (name := exN 2) hown [⟨0, 9, 12, 13⟩] ⟨0, 9, 15, 15⟩ [] hTab (by intro z hz; simp only [List.mem_cons, List.not_mem_nil, or_false] at hz; rcases hz with rfl; exact Or.inr ⟨by decide, exN 1, hts _ wd178, hNP.1⟩) (by decide +kernel) (by decide) (hts _ wd179) hTH.2.2.2.1 hce hcv hcl ?_
  refine lv_astore_n hx hb dL_sizeOf_15 rfl hl (by decide) rfl ?_
  intro ls1 hl1
  refine lv_iconst hx hb (v := jI 2) dL_sizeOf_16 rfl ?_
  exact x_wend hx hb hlocks hK hR ⟨x0, hO.kept (hS1.2.1 o (Array.getElem?_eq_some_iff.mp hO.choose_spec.1).1 hA)⟩ hS hr (Nat.le_refl _) (Nat.le_refl _) dL_sizeOf_17
abbrev rmL_blocksOf : Room := { frames := max rmX3_blocksOf.frames rmTX3_blocksOf.frames + 1, cells := 1, slots := 6, locals := 8 + (2 + 11) + max rmX3_blocksOf.locals rmTX3_blocksOf.locals }
abbrev hhL_blocksOf : List (Nat × Nat × Nat × Nat) := [(0, 9, 12, 13), (0, 9, 15, 15)]
theorem hyL_blocksOf : yX3_blocksOf.cls = RX3 ∧ yX3_blocksOf.cls ≠ "java/lang/invoke/MethodHandle" ∧ yX3_blocksOf.cls ≠ "java/lang/invoke/VarHandle" ∧ (parseMethodDescriptor yX3_blocksOf.desc).map (fun d => d.parameters.length) = some 1 := by decide +kernel
set_option maxHeartbeats 4000000 in
set_option maxRecDepth 100000 in
theorem nL_blocksOf {l : Launch} {g : Gx} {b o : Nat} {p0 : Int} {M M' : Mm} {r : Int} (hC : Ct l yX3_blocksOf cX3_blocksOf 2 (some .int) rmX3_blocksOf g b [.ref (adr b 0 0), .int (jI p0)] M (qI g b r M')) : Lt l yL_blocksOf cL_blocksOf 4 hhL_blocksOf rmL_blocksOf g b o [.ref (adr b 0 0), .int (jI p0), .ref o] M (OLp g b o) 0 M' (OL g o (jI r).toInt64) := by
  refine lt_of (by decide +kernel) (Nat.le_of_ble_eq_true rfl) ?_
  intro p e s m args below meth c C0 hTH hNP hPre hTab hR ls hl
  obtain ⟨hx, hb, hr, hlocks, hml, hown, hts, hK⟩ := id C0
  have hS : va_S (AA b s.heap.size) s.heap s.heap [] := va_S.rf
  have hl : lv_has ls 4 [(0, .ref (adr b 0 0)), (1, .int (jI p0)), (2, .ref o)] := hl
  obtain ⟨H, hH⟩ : ∃ z, z = s.heap := ⟨_, rfl⟩
  obtain ⟨locs, hlo⟩ : ∃ z : List Loc, z = [] := ⟨_, rfl⟩
  have hR : Rel g b M H := by rw [hH]; exact hR
  have hS : va_S (AA b s.heap.size) s.heap H locs := by rw [hH, hlo]; exact hS
  obtain ⟨⟨x0, hO⟩, hA⟩ := hPre
  suffices hW : W p l e rmL_blocksOf s m args below meth c H locs 0 0 (vx_MQ below (wqI g b 0 M' (OL g o (jI r).toInt64) o s.heap.size) noX args s 1 6 (AO b o s.heap.size)) (F0 m 0 ls []) by rw [hH, hlo] at hW; exact hW
  refine lv_aload_n hx hb dL_blocksOf_0 rfl (lv_at hl 2 rfl) ?_
  refine lv_iconst hx hb (v := jI 0) dL_blocksOf_1 rfl ?_
  refine lv_aload_n hx hb dL_blocksOf_2 rfl (lv_at hl 0 rfl) ?_
  refine lv_iload_n hx hb dL_blocksOf_3 rfl (lv_at hl 1 rfl) ?_
  refine x_cVi (As := [.int (jI p0)]) (rest := [.int (jI 0), .ref o]) hx hb hml hown hts hK hR hS hC ok0 rfl (ci := 3) (C := RX3) (T := TX3) (N := 9) rfl wd857 wd858 wd859 wd1 wd860 hyL_blocksOf ⟨rfl, rfl⟩ ⟨Nat.le_trans (Nat.succ_le_succ (Nat.le_max_left _ _)) (Nat.le_refl _), Nat.add_le_add_left (Nat.le_max_left _ _) _⟩ hl.1 (Nat.le_of_ble_eq_true rfl) dL_blocksOf_4 ⟨Nat.zero_le _, Nat.zero_le _⟩ rfl ?_
  intro hr0 H1 locs1 hR hS1
  have hO1 : ∃ x, OL g o x H1 := ⟨x0, hO.kept (hS1.2.1 o (Array.getElem?_eq_some_iff.mp hO.choose_spec.1).1 hA)⟩
  have hS := AO_S (o := o) hS1
  refine lv_i2l hx hb dL_blocksOf_7 rfl ?_
  refine x_wst hx hb hK hR hO1 hA hS dL_blocksOf_8 ?_
  intro H2 locs2 hR hO2 hS
  refine lv_goto (tgt := 18) hx hb dL_blocksOf_9 rfl ?_
  refine lv_iconst hx hb (v := jI 0) dL_blocksOf_18 rfl ?_
  exact x_wend hx hb hlocks hK hR hO2 hS hr (Nat.zero_le _) (Nat.zero_le _) dL_blocksOf_19
set_option maxHeartbeats 4000000 in
set_option maxRecDepth 100000 in
theorem tL_blocksOf_1 {l : Launch} {g : Gx} {b o : Nat} {p0 : Int} {M : Mm} (hC : Tt l yX3_blocksOf cX3_blocksOf 2 (some .int) rmTX3_blocksOf g b [.ref (adr b 0 0), .int (jI p0)] M 1) : Lt l yL_blocksOf cL_blocksOf 4 hhL_blocksOf rmL_blocksOf g b o [.ref (adr b 0 0), .int (jI p0), .ref o] M (OLp g b o) 1 M (fun H => ∃ x, OL g o x H) := by
  refine lt_of (by decide +kernel) (Nat.le_of_ble_eq_true rfl) ?_
  intro p e s m args below meth c C0 hTH hNP hPre hTab hR ls hl
  obtain ⟨hx, hb, hr, hlocks, hml, hown, hts, hK⟩ := id C0
  have hS : va_S (AA b s.heap.size) s.heap s.heap [] := va_S.rf
  have hl : lv_has ls 4 [(0, .ref (adr b 0 0)), (1, .int (jI p0)), (2, .ref o)] := hl
  obtain ⟨H, hH⟩ : ∃ z, z = s.heap := ⟨_, rfl⟩
  obtain ⟨locs, hlo⟩ : ∃ z : List Loc, z = [] := ⟨_, rfl⟩
  have hR : Rel g b M H := by rw [hH]; exact hR
  have hS : va_S (AA b s.heap.size) s.heap H locs := by rw [hH, hlo]; exact hS
  obtain ⟨⟨x0, hO⟩, hA⟩ := hPre
  suffices hW : W p l e rmL_blocksOf s m args below meth c H locs 0 0 (vx_MQ below (wqI g b 1 M (fun H => ∃ x, OL g o x H) o s.heap.size) noX args s 1 6 (AO b o s.heap.size)) (F0 m 0 ls []) by rw [hH, hlo] at hW; exact hW
  refine lv_aload_n hx hb dL_blocksOf_0 rfl (lv_at hl 2 rfl) ?_
  refine lv_iconst hx hb (v := jI 0) dL_blocksOf_1 rfl ?_
  refine lv_aload_n hx hb dL_blocksOf_2 rfl (lv_at hl 0 rfl) ?_
  refine lv_iload_n hx hb dL_blocksOf_3 rfl (lv_at hl 1 rfl) ?_
  refine x_tC (As := [.int (jI p0)]) (rest := [.int (jI 0), .ref o]) hx hb hml hown hts hK hTH hR hS hC wd857 wd858 wd859 wd1 wd860 hyL_blocksOf ⟨rfl, rfl⟩ ⟨Nat.le_trans (Nat.succ_le_succ (Nat.le_max_right _ _)) (Nat.le_refl _), Nat.add_le_add_left (Nat.le_max_right _ _) _⟩ hl.1 (Nat.le_of_ble_eq_true rfl) dL_blocksOf_4 ⟨Nat.le_refl _, Nat.le_refl _⟩ rfl ?_
  intro H1 locs1 q ce hR hS1 hce hcv hcl
  have hS := AO_S (o := o) hS1
  refine vx_catch (name := exN 1) hown [] ⟨0, 9, 12, 13⟩ [⟨0, 9, 15, 15⟩] hTab (fun z hz => by cases hz) (by decide +kernel) (by decide) (hts _ wd178) hTH.2.2.1 hce hcv hcl ?_
  refine lv_astore_n hx hb dL_blocksOf_12 rfl hl (by decide) rfl ?_
  intro ls1 hl1
  refine lv_iconst hx hb (v := jI 1) dL_blocksOf_13 rfl ?_
  exact x_wend hx hb hlocks hK hR ⟨x0, hO.kept (hS1.2.1 o (Array.getElem?_eq_some_iff.mp hO.choose_spec.1).1 hA)⟩ hS hr (Nat.le_refl _) (Nat.le_refl _) dL_blocksOf_14
set_option maxHeartbeats 4000000 in
set_option maxRecDepth 100000 in
theorem tL_blocksOf_2 {l : Launch} {g : Gx} {b o : Nat} {p0 : Int} {M : Mm} (hC : Tt l yX3_blocksOf cX3_blocksOf 2 (some .int) rmTX3_blocksOf g b [.ref (adr b 0 0), .int (jI p0)] M 2) : Lt l yL_blocksOf cL_blocksOf 4 hhL_blocksOf rmL_blocksOf g b o [.ref (adr b 0 0), .int (jI p0), .ref o] M (OLp g b o) 2 M (fun H => ∃ x, OL g o x H) := by
  refine lt_of (by decide +kernel) (Nat.le_of_ble_eq_true rfl) ?_
  intro p e s m args below meth c C0 hTH hNP hPre hTab hR ls hl
  obtain ⟨hx, hb, hr, hlocks, hml, hown, hts, hK⟩ := id C0
  have hS : va_S (AA b s.heap.size) s.heap s.heap [] := va_S.rf
  have hl : lv_has ls 4 [(0, .ref (adr b 0 0)), (1, .int (jI p0)), (2, .ref o)] := hl
  obtain ⟨H, hH⟩ : ∃ z, z = s.heap := ⟨_, rfl⟩
  obtain ⟨locs, hlo⟩ : ∃ z : List Loc, z = [] := ⟨_, rfl⟩
  have hR : Rel g b M H := by rw [hH]; exact hR
  have hS : va_S (AA b s.heap.size) s.heap H locs := by rw [hH, hlo]; exact hS
  obtain ⟨⟨x0, hO⟩, hA⟩ := hPre
  suffices hW : W p l e rmL_blocksOf s m args below meth c H locs 0 0 (vx_MQ below (wqI g b 2 M (fun H => ∃ x, OL g o x H) o s.heap.size) noX args s 1 6 (AO b o s.heap.size)) (F0 m 0 ls []) by rw [hH, hlo] at hW; exact hW
  refine lv_aload_n hx hb dL_blocksOf_0 rfl (lv_at hl 2 rfl) ?_
  refine lv_iconst hx hb (v := jI 0) dL_blocksOf_1 rfl ?_
  refine lv_aload_n hx hb dL_blocksOf_2 rfl (lv_at hl 0 rfl) ?_
  refine lv_iload_n hx hb dL_blocksOf_3 rfl (lv_at hl 1 rfl) ?_
  refine x_tC (As := [.int (jI p0)]) (rest := [.int (jI 0), .ref o]) hx hb hml hown hts hK hTH hR hS hC wd857 wd858 wd859 wd1 wd860 hyL_blocksOf ⟨rfl, rfl⟩ ⟨Nat.le_trans (Nat.succ_le_succ (Nat.le_max_right _ _)) (Nat.le_refl _), Nat.add_le_add_left (Nat.le_max_right _ _) _⟩ hl.1 (Nat.le_of_ble_eq_true rfl) dL_blocksOf_4 ⟨Nat.le_refl _, Nat.le_refl _⟩ rfl ?_
  intro H1 locs1 q ce hR hS1 hce hcv hcl
  have hS := AO_S (o := o) hS1
  refine vx_catch (name := exN 2) hown [⟨0, 9, 12, 13⟩] ⟨0, 9, 15, 15⟩ [] hTab (by intro z hz; simp only [List.mem_cons, List.not_mem_nil, or_false] at hz; rcases hz with rfl; exact Or.inr ⟨by decide, exN 1, hts _ wd178, hNP.1⟩) (by decide +kernel) (by decide) (hts _ wd179) hTH.2.2.2.1 hce hcv hcl ?_
  refine lv_astore_n hx hb dL_blocksOf_15 rfl hl (by decide) rfl ?_
  intro ls1 hl1
  refine lv_iconst hx hb (v := jI 2) dL_blocksOf_16 rfl ?_
  exact x_wend hx hb hlocks hK hR ⟨x0, hO.kept (hS1.2.1 o (Array.getElem?_eq_some_iff.mp hO.choose_spec.1).1 hA)⟩ hS hr (Nat.le_refl _) (Nat.le_refl _) dL_blocksOf_17
abbrev rmL_sharedOf : Room := { frames := max rmX3_sharedOf.frames rmTX3_sharedOf.frames + 1, cells := 1, slots := 6, locals := 8 + (2 + 11) + max rmX3_sharedOf.locals rmTX3_sharedOf.locals }
abbrev hhL_sharedOf : List (Nat × Nat × Nat × Nat) := [(0, 9, 12, 13), (0, 9, 15, 15)]
theorem hyL_sharedOf : yX3_sharedOf.cls = RX3 ∧ yX3_sharedOf.cls ≠ "java/lang/invoke/MethodHandle" ∧ yX3_sharedOf.cls ≠ "java/lang/invoke/VarHandle" ∧ (parseMethodDescriptor yX3_sharedOf.desc).map (fun d => d.parameters.length) = some 1 := by decide +kernel
set_option maxHeartbeats 4000000 in
set_option maxRecDepth 100000 in
theorem nL_sharedOf {l : Launch} {g : Gx} {b o : Nat} {p0 : Int} {M M' : Mm} {r : Int} (hC : Ct l yX3_sharedOf cX3_sharedOf 2 (some .int) rmX3_sharedOf g b [.ref (adr b 0 0), .int (jI p0)] M (qI g b r M')) : Lt l yL_sharedOf cL_sharedOf 4 hhL_sharedOf rmL_sharedOf g b o [.ref (adr b 0 0), .int (jI p0), .ref o] M (OLp g b o) 0 M' (OL g o (jI r).toInt64) := by
  refine lt_of (by decide +kernel) (Nat.le_of_ble_eq_true rfl) ?_
  intro p e s m args below meth c C0 hTH hNP hPre hTab hR ls hl
  obtain ⟨hx, hb, hr, hlocks, hml, hown, hts, hK⟩ := id C0
  have hS : va_S (AA b s.heap.size) s.heap s.heap [] := va_S.rf
  have hl : lv_has ls 4 [(0, .ref (adr b 0 0)), (1, .int (jI p0)), (2, .ref o)] := hl
  obtain ⟨H, hH⟩ : ∃ z, z = s.heap := ⟨_, rfl⟩
  obtain ⟨locs, hlo⟩ : ∃ z : List Loc, z = [] := ⟨_, rfl⟩
  have hR : Rel g b M H := by rw [hH]; exact hR
  have hS : va_S (AA b s.heap.size) s.heap H locs := by rw [hH, hlo]; exact hS
  obtain ⟨⟨x0, hO⟩, hA⟩ := hPre
  suffices hW : W p l e rmL_sharedOf s m args below meth c H locs 0 0 (vx_MQ below (wqI g b 0 M' (OL g o (jI r).toInt64) o s.heap.size) noX args s 1 6 (AO b o s.heap.size)) (F0 m 0 ls []) by rw [hH, hlo] at hW; exact hW
  refine lv_aload_n hx hb dL_sharedOf_0 rfl (lv_at hl 2 rfl) ?_
  refine lv_iconst hx hb (v := jI 0) dL_sharedOf_1 rfl ?_
  refine lv_aload_n hx hb dL_sharedOf_2 rfl (lv_at hl 0 rfl) ?_
  refine lv_iload_n hx hb dL_sharedOf_3 rfl (lv_at hl 1 rfl) ?_
  refine x_cVi (As := [.int (jI p0)]) (rest := [.int (jI 0), .ref o]) hx hb hml hown hts hK hR hS hC ok0 rfl (ci := 3) (C := RX3) (T := TX3) (N := 9) rfl wd865 wd866 wd867 wd1 wd868 hyL_sharedOf ⟨rfl, rfl⟩ ⟨Nat.le_trans (Nat.succ_le_succ (Nat.le_max_left _ _)) (Nat.le_refl _), Nat.add_le_add_left (Nat.le_max_left _ _) _⟩ hl.1 (Nat.le_of_ble_eq_true rfl) dL_sharedOf_4 ⟨Nat.zero_le _, Nat.zero_le _⟩ rfl ?_
  intro hr0 H1 locs1 hR hS1
  have hO1 : ∃ x, OL g o x H1 := ⟨x0, hO.kept (hS1.2.1 o (Array.getElem?_eq_some_iff.mp hO.choose_spec.1).1 hA)⟩
  have hS := AO_S (o := o) hS1
  refine lv_i2l hx hb dL_sharedOf_7 rfl ?_
  refine x_wst hx hb hK hR hO1 hA hS dL_sharedOf_8 ?_
  intro H2 locs2 hR hO2 hS
  refine lv_goto (tgt := 18) hx hb dL_sharedOf_9 rfl ?_
  refine lv_iconst hx hb (v := jI 0) dL_sharedOf_18 rfl ?_
  exact x_wend hx hb hlocks hK hR hO2 hS hr (Nat.zero_le _) (Nat.zero_le _) dL_sharedOf_19
set_option maxHeartbeats 4000000 in
set_option maxRecDepth 100000 in
theorem tL_sharedOf_1 {l : Launch} {g : Gx} {b o : Nat} {p0 : Int} {M : Mm} (hC : Tt l yX3_sharedOf cX3_sharedOf 2 (some .int) rmTX3_sharedOf g b [.ref (adr b 0 0), .int (jI p0)] M 1) : Lt l yL_sharedOf cL_sharedOf 4 hhL_sharedOf rmL_sharedOf g b o [.ref (adr b 0 0), .int (jI p0), .ref o] M (OLp g b o) 1 M (fun H => ∃ x, OL g o x H) := by
  refine lt_of (by decide +kernel) (Nat.le_of_ble_eq_true rfl) ?_
  intro p e s m args below meth c C0 hTH hNP hPre hTab hR ls hl
  obtain ⟨hx, hb, hr, hlocks, hml, hown, hts, hK⟩ := id C0
  have hS : va_S (AA b s.heap.size) s.heap s.heap [] := va_S.rf
  have hl : lv_has ls 4 [(0, .ref (adr b 0 0)), (1, .int (jI p0)), (2, .ref o)] := hl
  obtain ⟨H, hH⟩ : ∃ z, z = s.heap := ⟨_, rfl⟩
  obtain ⟨locs, hlo⟩ : ∃ z : List Loc, z = [] := ⟨_, rfl⟩
  have hR : Rel g b M H := by rw [hH]; exact hR
  have hS : va_S (AA b s.heap.size) s.heap H locs := by rw [hH, hlo]; exact hS
  obtain ⟨⟨x0, hO⟩, hA⟩ := hPre
  suffices hW : W p l e rmL_sharedOf s m args below meth c H locs 0 0 (vx_MQ below (wqI g b 1 M (fun H => ∃ x, OL g o x H) o s.heap.size) noX args s 1 6 (AO b o s.heap.size)) (F0 m 0 ls []) by rw [hH, hlo] at hW; exact hW
  refine lv_aload_n hx hb dL_sharedOf_0 rfl (lv_at hl 2 rfl) ?_
  refine lv_iconst hx hb (v := jI 0) dL_sharedOf_1 rfl ?_
  refine lv_aload_n hx hb dL_sharedOf_2 rfl (lv_at hl 0 rfl) ?_
  refine lv_iload_n hx hb dL_sharedOf_3 rfl (lv_at hl 1 rfl) ?_
  refine x_tC (As := [.int (jI p0)]) (rest := [.int (jI 0), .ref o]) hx hb hml hown hts hK hTH hR hS hC wd865 wd866 wd867 wd1 wd868 hyL_sharedOf ⟨rfl, rfl⟩ ⟨Nat.le_trans (Nat.succ_le_succ (Nat.le_max_right _ _)) (Nat.le_refl _), Nat.add_le_add_left (Nat.le_max_right _ _) _⟩ hl.1 (Nat.le_of_ble_eq_true rfl) dL_sharedOf_4 ⟨Nat.le_refl _, Nat.le_refl _⟩ rfl ?_
  intro H1 locs1 q ce hR hS1 hce hcv hcl
  have hS := AO_S (o := o) hS1
  refine vx_catch (name := exN 1) hown [] ⟨0, 9, 12, 13⟩ [⟨0, 9, 15, 15⟩] hTab (fun z hz => by cases hz) (by decide +kernel) (by decide) (hts _ wd178) hTH.2.2.1 hce hcv hcl ?_
  refine lv_astore_n hx hb dL_sharedOf_12 rfl hl (by decide) rfl ?_
  intro ls1 hl1
  refine lv_iconst hx hb (v := jI 1) dL_sharedOf_13 rfl ?_
  exact x_wend hx hb hlocks hK hR ⟨x0, hO.kept (hS1.2.1 o (Array.getElem?_eq_some_iff.mp hO.choose_spec.1).1 hA)⟩ hS hr (Nat.le_refl _) (Nat.le_refl _) dL_sharedOf_14
set_option maxHeartbeats 4000000 in
set_option maxRecDepth 100000 in
theorem tL_sharedOf_2 {l : Launch} {g : Gx} {b o : Nat} {p0 : Int} {M : Mm} (hC : Tt l yX3_sharedOf cX3_sharedOf 2 (some .int) rmTX3_sharedOf g b [.ref (adr b 0 0), .int (jI p0)] M 2) : Lt l yL_sharedOf cL_sharedOf 4 hhL_sharedOf rmL_sharedOf g b o [.ref (adr b 0 0), .int (jI p0), .ref o] M (OLp g b o) 2 M (fun H => ∃ x, OL g o x H) := by
  refine lt_of (by decide +kernel) (Nat.le_of_ble_eq_true rfl) ?_
  intro p e s m args below meth c C0 hTH hNP hPre hTab hR ls hl
  obtain ⟨hx, hb, hr, hlocks, hml, hown, hts, hK⟩ := id C0
  have hS : va_S (AA b s.heap.size) s.heap s.heap [] := va_S.rf
  have hl : lv_has ls 4 [(0, .ref (adr b 0 0)), (1, .int (jI p0)), (2, .ref o)] := hl
  obtain ⟨H, hH⟩ : ∃ z, z = s.heap := ⟨_, rfl⟩
  obtain ⟨locs, hlo⟩ : ∃ z : List Loc, z = [] := ⟨_, rfl⟩
  have hR : Rel g b M H := by rw [hH]; exact hR
  have hS : va_S (AA b s.heap.size) s.heap H locs := by rw [hH, hlo]; exact hS
  obtain ⟨⟨x0, hO⟩, hA⟩ := hPre
  suffices hW : W p l e rmL_sharedOf s m args below meth c H locs 0 0 (vx_MQ below (wqI g b 2 M (fun H => ∃ x, OL g o x H) o s.heap.size) noX args s 1 6 (AO b o s.heap.size)) (F0 m 0 ls []) by rw [hH, hlo] at hW; exact hW
  refine lv_aload_n hx hb dL_sharedOf_0 rfl (lv_at hl 2 rfl) ?_
  refine lv_iconst hx hb (v := jI 0) dL_sharedOf_1 rfl ?_
  refine lv_aload_n hx hb dL_sharedOf_2 rfl (lv_at hl 0 rfl) ?_
  refine lv_iload_n hx hb dL_sharedOf_3 rfl (lv_at hl 1 rfl) ?_
  refine x_tC (As := [.int (jI p0)]) (rest := [.int (jI 0), .ref o]) hx hb hml hown hts hK hTH hR hS hC wd865 wd866 wd867 wd1 wd868 hyL_sharedOf ⟨rfl, rfl⟩ ⟨Nat.le_trans (Nat.succ_le_succ (Nat.le_max_right _ _)) (Nat.le_refl _), Nat.add_le_add_left (Nat.le_max_right _ _) _⟩ hl.1 (Nat.le_of_ble_eq_true rfl) dL_sharedOf_4 ⟨Nat.le_refl _, Nat.le_refl _⟩ rfl ?_
  intro H1 locs1 q ce hR hS1 hce hcv hcl
  have hS := AO_S (o := o) hS1
  refine vx_catch (name := exN 2) hown [⟨0, 9, 12, 13⟩] ⟨0, 9, 15, 15⟩ [] hTab (by intro z hz; simp only [List.mem_cons, List.not_mem_nil, or_false] at hz; rcases hz with rfl; exact Or.inr ⟨by decide, exN 1, hts _ wd178, hNP.1⟩) (by decide +kernel) (by decide) (hts _ wd179) hTH.2.2.2.1 hce hcv hcl ?_
  refine lv_astore_n hx hb dL_sharedOf_15 rfl hl (by decide) rfl ?_
  intro ls1 hl1
  refine lv_iconst hx hb (v := jI 2) dL_sharedOf_16 rfl ?_
  exact x_wend hx hb hlocks hK hR ⟨x0, hO.kept (hS1.2.1 o (Array.getElem?_eq_some_iff.mp hO.choose_spec.1).1 hA)⟩ hS hr (Nat.le_refl _) (Nat.le_refl _) dL_sharedOf_17
abbrev rmL_byteAt : Room := { frames := max rmX3_byteAt.frames rmTX3_byteAt.frames + 1, cells := 1, slots := 6, locals := 8 + (4 + 11) + max rmX3_byteAt.locals rmTX3_byteAt.locals }
abbrev hhL_byteAt : List (Nat × Nat × Nat × Nat) := [(0, 10, 13, 13), (0, 10, 17, 15), (0, 10, 21, 17)]
theorem hyL_byteAt : yX3_byteAt.cls = RX3 ∧ yX3_byteAt.cls ≠ "java/lang/invoke/MethodHandle" ∧ yX3_byteAt.cls ≠ "java/lang/invoke/VarHandle" ∧ (parseMethodDescriptor yX3_byteAt.desc).map (fun d => d.parameters.length) = some 2 := by decide +kernel
set_option maxHeartbeats 4000000 in
set_option maxRecDepth 100000 in
theorem nL_byteAt {l : Launch} {g : Gx} {b o : Nat} {p0 : Int} {p1 : Int} {M M' : Mm} {r : Int} (hC : Ct l yX3_byteAt cX3_byteAt 4 (some .int) rmX3_byteAt g b [.ref (adr b 0 0), .int (jI p0), .int (jI p1)] M (qI g b r M')) : Lt l yL_byteAt cL_byteAt 5 hhL_byteAt rmL_byteAt g b o [.ref (adr b 0 0), .int (jI p0), .int (jI p1), .ref o] M (OLp g b o) 0 M' (OL g o (jI r).toInt64) := by
  refine lt_of (by decide +kernel) (Nat.le_of_ble_eq_true rfl) ?_
  intro p e s m args below meth c C0 hTH hNP hPre hTab hR ls hl
  obtain ⟨hx, hb, hr, hlocks, hml, hown, hts, hK⟩ := id C0
  have hS : va_S (AA b s.heap.size) s.heap s.heap [] := va_S.rf
  have hl : lv_has ls 5 [(0, .ref (adr b 0 0)), (1, .int (jI p0)), (2, .int (jI p1)), (3, .ref o)] := hl
  obtain ⟨H, hH⟩ : ∃ z, z = s.heap := ⟨_, rfl⟩
  obtain ⟨locs, hlo⟩ : ∃ z : List Loc, z = [] := ⟨_, rfl⟩
  have hR : Rel g b M H := by rw [hH]; exact hR
  have hS : va_S (AA b s.heap.size) s.heap H locs := by rw [hH, hlo]; exact hS
  obtain ⟨⟨x0, hO⟩, hA⟩ := hPre
  suffices hW : W p l e rmL_byteAt s m args below meth c H locs 0 0 (vx_MQ below (wqI g b 0 M' (OL g o (jI r).toInt64) o s.heap.size) noX args s 1 6 (AO b o s.heap.size)) (F0 m 0 ls []) by rw [hH, hlo] at hW; exact hW
  refine lv_aload_n hx hb dL_byteAt_0 rfl (lv_at hl 3 rfl) ?_
  refine lv_iconst hx hb (v := jI 0) dL_byteAt_1 rfl ?_
  refine lv_aload_n hx hb dL_byteAt_2 rfl (lv_at hl 0 rfl) ?_
  refine lv_iload_n hx hb dL_byteAt_3 rfl (lv_at hl 1 rfl) ?_
  refine lv_iload_n hx hb dL_byteAt_4 rfl (lv_at hl 2 rfl) ?_
  refine x_cVi (As := [.int (jI p0), .int (jI p1)]) (rest := [.int (jI 0), .ref o]) hx hb hml hown hts hK hR hS hC ok0 rfl (ci := 3) (C := RX3) (T := TX3) (N := 9) rfl wd876 wd877 wd878 wd1 wd879 hyL_byteAt ⟨rfl, rfl⟩ ⟨Nat.le_trans (Nat.succ_le_succ (Nat.le_max_left _ _)) (Nat.le_refl _), Nat.add_le_add_left (Nat.le_max_left _ _) _⟩ hl.1 (Nat.le_of_ble_eq_true rfl) dL_byteAt_5 ⟨Nat.zero_le _, Nat.zero_le _⟩ rfl ?_
  intro hr0 H1 locs1 hR hS1
  have hO1 : ∃ x, OL g o x H1 := ⟨x0, hO.kept (hS1.2.1 o (Array.getElem?_eq_some_iff.mp hO.choose_spec.1).1 hA)⟩
  have hS := AO_S (o := o) hS1
  refine lv_i2l hx hb dL_byteAt_8 rfl ?_
  refine x_wst hx hb hK hR hO1 hA hS dL_byteAt_9 ?_
  intro H2 locs2 hR hO2 hS
  refine lv_goto (tgt := 25) hx hb dL_byteAt_10 rfl ?_
  refine lv_iconst hx hb (v := jI 0) dL_byteAt_25 rfl ?_
  exact x_wend hx hb hlocks hK hR hO2 hS hr (Nat.zero_le _) (Nat.zero_le _) dL_byteAt_26
set_option maxHeartbeats 4000000 in
set_option maxRecDepth 100000 in
theorem tL_byteAt_1 {l : Launch} {g : Gx} {b o : Nat} {p0 : Int} {p1 : Int} {M : Mm} (hC : Tt l yX3_byteAt cX3_byteAt 4 (some .int) rmTX3_byteAt g b [.ref (adr b 0 0), .int (jI p0), .int (jI p1)] M 1) : Lt l yL_byteAt cL_byteAt 5 hhL_byteAt rmL_byteAt g b o [.ref (adr b 0 0), .int (jI p0), .int (jI p1), .ref o] M (OLp g b o) 1 M (fun H => ∃ x, OL g o x H) := by
  refine lt_of (by decide +kernel) (Nat.le_of_ble_eq_true rfl) ?_
  intro p e s m args below meth c C0 hTH hNP hPre hTab hR ls hl
  obtain ⟨hx, hb, hr, hlocks, hml, hown, hts, hK⟩ := id C0
  have hS : va_S (AA b s.heap.size) s.heap s.heap [] := va_S.rf
  have hl : lv_has ls 5 [(0, .ref (adr b 0 0)), (1, .int (jI p0)), (2, .int (jI p1)), (3, .ref o)] := hl
  obtain ⟨H, hH⟩ : ∃ z, z = s.heap := ⟨_, rfl⟩
  obtain ⟨locs, hlo⟩ : ∃ z : List Loc, z = [] := ⟨_, rfl⟩
  have hR : Rel g b M H := by rw [hH]; exact hR
  have hS : va_S (AA b s.heap.size) s.heap H locs := by rw [hH, hlo]; exact hS
  obtain ⟨⟨x0, hO⟩, hA⟩ := hPre
  suffices hW : W p l e rmL_byteAt s m args below meth c H locs 0 0 (vx_MQ below (wqI g b 1 M (fun H => ∃ x, OL g o x H) o s.heap.size) noX args s 1 6 (AO b o s.heap.size)) (F0 m 0 ls []) by rw [hH, hlo] at hW; exact hW
  refine lv_aload_n hx hb dL_byteAt_0 rfl (lv_at hl 3 rfl) ?_
  refine lv_iconst hx hb (v := jI 0) dL_byteAt_1 rfl ?_
  refine lv_aload_n hx hb dL_byteAt_2 rfl (lv_at hl 0 rfl) ?_
  refine lv_iload_n hx hb dL_byteAt_3 rfl (lv_at hl 1 rfl) ?_
  refine lv_iload_n hx hb dL_byteAt_4 rfl (lv_at hl 2 rfl) ?_
  refine x_tC (As := [.int (jI p0), .int (jI p1)]) (rest := [.int (jI 0), .ref o]) hx hb hml hown hts hK hTH hR hS hC wd876 wd877 wd878 wd1 wd879 hyL_byteAt ⟨rfl, rfl⟩ ⟨Nat.le_trans (Nat.succ_le_succ (Nat.le_max_right _ _)) (Nat.le_refl _), Nat.add_le_add_left (Nat.le_max_right _ _) _⟩ hl.1 (Nat.le_of_ble_eq_true rfl) dL_byteAt_5 ⟨Nat.le_refl _, Nat.le_refl _⟩ rfl ?_
  intro H1 locs1 q ce hR hS1 hce hcv hcl
  have hS := AO_S (o := o) hS1
  refine vx_catch (name := exN 1) hown [] ⟨0, 10, 13, 13⟩ [⟨0, 10, 17, 15⟩, ⟨0, 10, 21, 17⟩] hTab (fun z hz => by cases hz) (by decide +kernel) (by decide) (hts _ wd178) hTH.2.2.1 hce hcv hcl ?_
  refine lv_astore hx hb dL_byteAt_13 hl (by decide) rfl ?_
  intro ls1 hl1
  refine lv_iconst hx hb (v := jI 1) dL_byteAt_15 rfl ?_
  exact x_wend hx hb hlocks hK hR ⟨x0, hO.kept (hS1.2.1 o (Array.getElem?_eq_some_iff.mp hO.choose_spec.1).1 hA)⟩ hS hr (Nat.le_refl _) (Nat.le_refl _) dL_byteAt_16
set_option maxHeartbeats 4000000 in
set_option maxRecDepth 100000 in
theorem tL_byteAt_2 {l : Launch} {g : Gx} {b o : Nat} {p0 : Int} {p1 : Int} {M : Mm} (hC : Tt l yX3_byteAt cX3_byteAt 4 (some .int) rmTX3_byteAt g b [.ref (adr b 0 0), .int (jI p0), .int (jI p1)] M 2) : Lt l yL_byteAt cL_byteAt 5 hhL_byteAt rmL_byteAt g b o [.ref (adr b 0 0), .int (jI p0), .int (jI p1), .ref o] M (OLp g b o) 2 M (fun H => ∃ x, OL g o x H) := by
  refine lt_of (by decide +kernel) (Nat.le_of_ble_eq_true rfl) ?_
  intro p e s m args below meth c C0 hTH hNP hPre hTab hR ls hl
  obtain ⟨hx, hb, hr, hlocks, hml, hown, hts, hK⟩ := id C0
  have hS : va_S (AA b s.heap.size) s.heap s.heap [] := va_S.rf
  have hl : lv_has ls 5 [(0, .ref (adr b 0 0)), (1, .int (jI p0)), (2, .int (jI p1)), (3, .ref o)] := hl
  obtain ⟨H, hH⟩ : ∃ z, z = s.heap := ⟨_, rfl⟩
  obtain ⟨locs, hlo⟩ : ∃ z : List Loc, z = [] := ⟨_, rfl⟩
  have hR : Rel g b M H := by rw [hH]; exact hR
  have hS : va_S (AA b s.heap.size) s.heap H locs := by rw [hH, hlo]; exact hS
  obtain ⟨⟨x0, hO⟩, hA⟩ := hPre
  suffices hW : W p l e rmL_byteAt s m args below meth c H locs 0 0 (vx_MQ below (wqI g b 2 M (fun H => ∃ x, OL g o x H) o s.heap.size) noX args s 1 6 (AO b o s.heap.size)) (F0 m 0 ls []) by rw [hH, hlo] at hW; exact hW
  refine lv_aload_n hx hb dL_byteAt_0 rfl (lv_at hl 3 rfl) ?_
  refine lv_iconst hx hb (v := jI 0) dL_byteAt_1 rfl ?_
  refine lv_aload_n hx hb dL_byteAt_2 rfl (lv_at hl 0 rfl) ?_
  refine lv_iload_n hx hb dL_byteAt_3 rfl (lv_at hl 1 rfl) ?_
  refine lv_iload_n hx hb dL_byteAt_4 rfl (lv_at hl 2 rfl) ?_
  refine x_tC (As := [.int (jI p0), .int (jI p1)]) (rest := [.int (jI 0), .ref o]) hx hb hml hown hts hK hTH hR hS hC wd876 wd877 wd878 wd1 wd879 hyL_byteAt ⟨rfl, rfl⟩ ⟨Nat.le_trans (Nat.succ_le_succ (Nat.le_max_right _ _)) (Nat.le_refl _), Nat.add_le_add_left (Nat.le_max_right _ _) _⟩ hl.1 (Nat.le_of_ble_eq_true rfl) dL_byteAt_5 ⟨Nat.le_refl _, Nat.le_refl _⟩ rfl ?_
  intro H1 locs1 q ce hR hS1 hce hcv hcl
  have hS := AO_S (o := o) hS1
  refine vx_catch (name := exN 2) hown [⟨0, 10, 13, 13⟩] ⟨0, 10, 17, 15⟩ [⟨0, 10, 21, 17⟩] hTab (by intro z hz; simp only [List.mem_cons, List.not_mem_nil, or_false] at hz; rcases hz with rfl; exact Or.inr ⟨by decide, exN 1, hts _ wd178, hNP.1⟩) (by decide +kernel) (by decide) (hts _ wd179) hTH.2.2.2.1 hce hcv hcl ?_
  refine lv_astore hx hb dL_byteAt_17 hl (by decide) rfl ?_
  intro ls1 hl1
  refine lv_iconst hx hb (v := jI 2) dL_byteAt_19 rfl ?_
  exact x_wend hx hb hlocks hK hR ⟨x0, hO.kept (hS1.2.1 o (Array.getElem?_eq_some_iff.mp hO.choose_spec.1).1 hA)⟩ hS hr (Nat.le_refl _) (Nat.le_refl _) dL_byteAt_20
set_option maxHeartbeats 4000000 in
set_option maxRecDepth 100000 in
theorem tL_byteAt_3 {l : Launch} {g : Gx} {b o : Nat} {p0 : Int} {p1 : Int} {M : Mm} (hC : Tt l yX3_byteAt cX3_byteAt 4 (some .int) rmTX3_byteAt g b [.ref (adr b 0 0), .int (jI p0), .int (jI p1)] M 3) : Lt l yL_byteAt cL_byteAt 5 hhL_byteAt rmL_byteAt g b o [.ref (adr b 0 0), .int (jI p0), .int (jI p1), .ref o] M (OLp g b o) 3 M (fun H => ∃ x, OL g o x H) := by
  refine lt_of (by decide +kernel) (Nat.le_of_ble_eq_true rfl) ?_
  intro p e s m args below meth c C0 hTH hNP hPre hTab hR ls hl
  obtain ⟨hx, hb, hr, hlocks, hml, hown, hts, hK⟩ := id C0
  have hS : va_S (AA b s.heap.size) s.heap s.heap [] := va_S.rf
  have hl : lv_has ls 5 [(0, .ref (adr b 0 0)), (1, .int (jI p0)), (2, .int (jI p1)), (3, .ref o)] := hl
  obtain ⟨H, hH⟩ : ∃ z, z = s.heap := ⟨_, rfl⟩
  obtain ⟨locs, hlo⟩ : ∃ z : List Loc, z = [] := ⟨_, rfl⟩
  have hR : Rel g b M H := by rw [hH]; exact hR
  have hS : va_S (AA b s.heap.size) s.heap H locs := by rw [hH, hlo]; exact hS
  obtain ⟨⟨x0, hO⟩, hA⟩ := hPre
  suffices hW : W p l e rmL_byteAt s m args below meth c H locs 0 0 (vx_MQ below (wqI g b 3 M (fun H => ∃ x, OL g o x H) o s.heap.size) noX args s 1 6 (AO b o s.heap.size)) (F0 m 0 ls []) by rw [hH, hlo] at hW; exact hW
  refine lv_aload_n hx hb dL_byteAt_0 rfl (lv_at hl 3 rfl) ?_
  refine lv_iconst hx hb (v := jI 0) dL_byteAt_1 rfl ?_
  refine lv_aload_n hx hb dL_byteAt_2 rfl (lv_at hl 0 rfl) ?_
  refine lv_iload_n hx hb dL_byteAt_3 rfl (lv_at hl 1 rfl) ?_
  refine lv_iload_n hx hb dL_byteAt_4 rfl (lv_at hl 2 rfl) ?_
  refine x_tC (As := [.int (jI p0), .int (jI p1)]) (rest := [.int (jI 0), .ref o]) hx hb hml hown hts hK hTH hR hS hC wd876 wd877 wd878 wd1 wd879 hyL_byteAt ⟨rfl, rfl⟩ ⟨Nat.le_trans (Nat.succ_le_succ (Nat.le_max_right _ _)) (Nat.le_refl _), Nat.add_le_add_left (Nat.le_max_right _ _) _⟩ hl.1 (Nat.le_of_ble_eq_true rfl) dL_byteAt_5 ⟨Nat.le_refl _, Nat.le_refl _⟩ rfl ?_
  intro H1 locs1 q ce hR hS1 hce hcv hcl
  have hS := AO_S (o := o) hS1
  refine vx_catch (name := exN 3) hown [⟨0, 10, 13, 13⟩, ⟨0, 10, 17, 15⟩] ⟨0, 10, 21, 17⟩ [] hTab (by
      intro z hz
      simp only [List.mem_cons, List.not_mem_nil, or_false] at hz
      rcases hz with rfl | rfl
      · exact Or.inr ⟨by decide, exN 1, hts _ wd178, hNP.2.1⟩
      · exact Or.inr ⟨by decide, exN 2, hts _ wd179, hNP.2.2⟩) (by decide +kernel) (by decide) (hts _ wd180) hTH.2.2.2.2.1 hce hcv hcl ?_
  refine lv_astore hx hb dL_byteAt_21 hl (by decide) rfl ?_
  intro ls1 hl1
  refine lv_iconst hx hb (v := jI 3) dL_byteAt_23 rfl ?_
  exact x_wend hx hb hlocks hK hR ⟨x0, hO.kept (hS1.2.1 o (Array.getElem?_eq_some_iff.mp hO.choose_spec.1).1 hA)⟩ hS hr (Nat.le_refl _) (Nat.le_refl _) dL_byteAt_24
abbrev rmL_isHole : Room := { frames := max rmX3_isHole.frames rmTX3_isHole.frames + 1, cells := 1, slots := 6, locals := 8 + (4 + 11) + max rmX3_isHole.locals rmTX3_isHole.locals }
abbrev hhL_isHole : List (Nat × Nat × Nat × Nat) := [(0, 17, 20, 13), (0, 17, 24, 15), (0, 17, 28, 17)]
theorem hyL_isHole : yX3_isHole.cls = RX3 ∧ yX3_isHole.cls ≠ "java/lang/invoke/MethodHandle" ∧ yX3_isHole.cls ≠ "java/lang/invoke/VarHandle" ∧ (parseMethodDescriptor yX3_isHole.desc).map (fun d => d.parameters.length) = some 2 := by decide +kernel
set_option maxHeartbeats 4000000 in
set_option maxRecDepth 100000 in
theorem nL_isHole {l : Launch} {g : Gx} {b o : Nat} {p0 : Int} {p1 : Int} {M M' : Mm} {r : Int} (hC : Ct l yX3_isHole cX3_isHole 4 (some .boolean) rmX3_isHole g b [.ref (adr b 0 0), .int (jI p0), .int (jI p1)] M (qI g b r M')) : Lt l yL_isHole cL_isHole 5 hhL_isHole rmL_isHole g b o [.ref (adr b 0 0), .int (jI p0), .int (jI p1), .ref o] M (OLp g b o) 0 M' (OL g o (if r = 0 then 0 else 1)) := by
  refine lt_of (by decide +kernel) (Nat.le_of_ble_eq_true rfl) ?_
  intro p e s m args below meth c C0 hTH hNP hPre hTab hR ls hl
  obtain ⟨hx, hb, hr, hlocks, hml, hown, hts, hK⟩ := id C0
  have hS : va_S (AA b s.heap.size) s.heap s.heap [] := va_S.rf
  have hl : lv_has ls 5 [(0, .ref (adr b 0 0)), (1, .int (jI p0)), (2, .int (jI p1)), (3, .ref o)] := hl
  obtain ⟨H, hH⟩ : ∃ z, z = s.heap := ⟨_, rfl⟩
  obtain ⟨locs, hlo⟩ : ∃ z : List Loc, z = [] := ⟨_, rfl⟩
  have hR : Rel g b M H := by rw [hH]; exact hR
  have hS : va_S (AA b s.heap.size) s.heap H locs := by rw [hH, hlo]; exact hS
  obtain ⟨⟨x0, hO⟩, hA⟩ := hPre
  suffices hW : W p l e rmL_isHole s m args below meth c H locs 0 0 (vx_MQ below (wqI g b 0 M' (OL g o (if r = 0 then 0 else 1)) o s.heap.size) noX args s 1 6 (AO b o s.heap.size)) (F0 m 0 ls []) by rw [hH, hlo] at hW; exact hW
  refine lv_aload_n hx hb dL_isHole_0 rfl (lv_at hl 3 rfl) ?_
  refine lv_iconst hx hb (v := jI 0) dL_isHole_1 rfl ?_
  refine lv_aload_n hx hb dL_isHole_2 rfl (lv_at hl 0 rfl) ?_
  refine lv_iload_n hx hb dL_isHole_3 rfl (lv_at hl 1 rfl) ?_
  refine lv_iload_n hx hb dL_isHole_4 rfl (lv_at hl 2 rfl) ?_
  refine x_cVi (As := [.int (jI p0), .int (jI p1)]) (rest := [.int (jI 0), .ref o]) hx hb hml hown hts hK hR hS hC ok0 rfl (ci := 3) (C := RX3) (T := TX3) (N := 9) rfl wd883 wd884 wd885 wd1 wd886 hyL_isHole ⟨rfl, rfl⟩ ⟨Nat.le_trans (Nat.succ_le_succ (Nat.le_max_left _ _)) (Nat.le_refl _), Nat.add_le_add_left (Nat.le_max_left _ _) _⟩ hl.1 (Nat.le_of_ble_eq_true rfl) dL_isHole_5 ⟨Nat.zero_le _, Nat.zero_le _⟩ rfl ?_
  intro hr0 H1 locs1 hR hS1
  have hO1 : ∃ x, OL g o x H1 := ⟨x0, hO.kept (hS1.2.1 o (Array.getElem?_eq_some_iff.mp hO.choose_spec.1).1 hA)⟩
  have hS := AO_S (o := o) hS1
  refine lv_if_eq (tgt := 15) hx hb dL_isHole_8 rfl (fun ci => ?_) (fun ci => ?_)
  · have c0 : r = 0 := (jI_eq hr0 rg_0).mp (ci.trans jI_0.symm)
    rw [if_pos c0]
    refine lv_lconst hx hb (v := 0) dL_isHole_15 rfl ?_
    refine x_wst hx hb hK hR hO1 hA hS dL_isHole_16 ?_
    intro H2 locs2 hR hO2 hS
    refine lv_goto (tgt := 32) hx hb dL_isHole_17 rfl ?_
    refine lv_iconst hx hb (v := jI 0) dL_isHole_32 rfl ?_
    exact x_wend hx hb hlocks hK hR hO2 hS hr (Nat.zero_le _) (Nat.zero_le _) dL_isHole_33
  · have c0 : ¬ r = 0 := fun z => ci (by rw [z]; exact jI_0)
    rw [if_neg c0]
    refine lv_lconst hx hb (v := 1) dL_isHole_11 rfl ?_
    refine lv_goto (tgt := 16) hx hb dL_isHole_12 rfl ?_
    refine x_wst hx hb hK hR hO1 hA hS dL_isHole_16 ?_
    intro H2 locs2 hR hO2 hS
    refine lv_goto (tgt := 32) hx hb dL_isHole_17 rfl ?_
    refine lv_iconst hx hb (v := jI 0) dL_isHole_32 rfl ?_
    exact x_wend hx hb hlocks hK hR hO2 hS hr (Nat.zero_le _) (Nat.zero_le _) dL_isHole_33
set_option maxHeartbeats 4000000 in
set_option maxRecDepth 100000 in
theorem tL_isHole_1 {l : Launch} {g : Gx} {b o : Nat} {p0 : Int} {p1 : Int} {M : Mm} (hC : Tt l yX3_isHole cX3_isHole 4 (some .boolean) rmTX3_isHole g b [.ref (adr b 0 0), .int (jI p0), .int (jI p1)] M 1) : Lt l yL_isHole cL_isHole 5 hhL_isHole rmL_isHole g b o [.ref (adr b 0 0), .int (jI p0), .int (jI p1), .ref o] M (OLp g b o) 1 M (fun H => ∃ x, OL g o x H) := by
  refine lt_of (by decide +kernel) (Nat.le_of_ble_eq_true rfl) ?_
  intro p e s m args below meth c C0 hTH hNP hPre hTab hR ls hl
  obtain ⟨hx, hb, hr, hlocks, hml, hown, hts, hK⟩ := id C0
  have hS : va_S (AA b s.heap.size) s.heap s.heap [] := va_S.rf
  have hl : lv_has ls 5 [(0, .ref (adr b 0 0)), (1, .int (jI p0)), (2, .int (jI p1)), (3, .ref o)] := hl
  obtain ⟨H, hH⟩ : ∃ z, z = s.heap := ⟨_, rfl⟩
  obtain ⟨locs, hlo⟩ : ∃ z : List Loc, z = [] := ⟨_, rfl⟩
  have hR : Rel g b M H := by rw [hH]; exact hR
  have hS : va_S (AA b s.heap.size) s.heap H locs := by rw [hH, hlo]; exact hS
  obtain ⟨⟨x0, hO⟩, hA⟩ := hPre
  suffices hW : W p l e rmL_isHole s m args below meth c H locs 0 0 (vx_MQ below (wqI g b 1 M (fun H => ∃ x, OL g o x H) o s.heap.size) noX args s 1 6 (AO b o s.heap.size)) (F0 m 0 ls []) by rw [hH, hlo] at hW; exact hW
  refine lv_aload_n hx hb dL_isHole_0 rfl (lv_at hl 3 rfl) ?_
  refine lv_iconst hx hb (v := jI 0) dL_isHole_1 rfl ?_
  refine lv_aload_n hx hb dL_isHole_2 rfl (lv_at hl 0 rfl) ?_
  refine lv_iload_n hx hb dL_isHole_3 rfl (lv_at hl 1 rfl) ?_
  refine lv_iload_n hx hb dL_isHole_4 rfl (lv_at hl 2 rfl) ?_
  refine x_tC (As := [.int (jI p0), .int (jI p1)]) (rest := [.int (jI 0), .ref o]) hx hb hml hown hts hK hTH hR hS hC wd883 wd884 wd885 wd1 wd886 hyL_isHole ⟨rfl, rfl⟩ ⟨Nat.le_trans (Nat.succ_le_succ (Nat.le_max_right _ _)) (Nat.le_refl _), Nat.add_le_add_left (Nat.le_max_right _ _) _⟩ hl.1 (Nat.le_of_ble_eq_true rfl) dL_isHole_5 ⟨Nat.le_refl _, Nat.le_refl _⟩ rfl ?_
  intro H1 locs1 q ce hR hS1 hce hcv hcl
  have hS := AO_S (o := o) hS1
  refine vx_catch (name := exN 1) hown [] ⟨0, 17, 20, 13⟩ [⟨0, 17, 24, 15⟩, ⟨0, 17, 28, 17⟩] hTab (fun z hz => by cases hz) (by decide +kernel) (by decide) (hts _ wd178) hTH.2.2.1 hce hcv hcl ?_
  refine lv_astore hx hb dL_isHole_20 hl (by decide) rfl ?_
  intro ls1 hl1
  refine lv_iconst hx hb (v := jI 1) dL_isHole_22 rfl ?_
  exact x_wend hx hb hlocks hK hR ⟨x0, hO.kept (hS1.2.1 o (Array.getElem?_eq_some_iff.mp hO.choose_spec.1).1 hA)⟩ hS hr (Nat.le_refl _) (Nat.le_refl _) dL_isHole_23
set_option maxHeartbeats 4000000 in
set_option maxRecDepth 100000 in
theorem tL_isHole_2 {l : Launch} {g : Gx} {b o : Nat} {p0 : Int} {p1 : Int} {M : Mm} (hC : Tt l yX3_isHole cX3_isHole 4 (some .boolean) rmTX3_isHole g b [.ref (adr b 0 0), .int (jI p0), .int (jI p1)] M 2) : Lt l yL_isHole cL_isHole 5 hhL_isHole rmL_isHole g b o [.ref (adr b 0 0), .int (jI p0), .int (jI p1), .ref o] M (OLp g b o) 2 M (fun H => ∃ x, OL g o x H) := by
  refine lt_of (by decide +kernel) (Nat.le_of_ble_eq_true rfl) ?_
  intro p e s m args below meth c C0 hTH hNP hPre hTab hR ls hl
  obtain ⟨hx, hb, hr, hlocks, hml, hown, hts, hK⟩ := id C0
  have hS : va_S (AA b s.heap.size) s.heap s.heap [] := va_S.rf
  have hl : lv_has ls 5 [(0, .ref (adr b 0 0)), (1, .int (jI p0)), (2, .int (jI p1)), (3, .ref o)] := hl
  obtain ⟨H, hH⟩ : ∃ z, z = s.heap := ⟨_, rfl⟩
  obtain ⟨locs, hlo⟩ : ∃ z : List Loc, z = [] := ⟨_, rfl⟩
  have hR : Rel g b M H := by rw [hH]; exact hR
  have hS : va_S (AA b s.heap.size) s.heap H locs := by rw [hH, hlo]; exact hS
  obtain ⟨⟨x0, hO⟩, hA⟩ := hPre
  suffices hW : W p l e rmL_isHole s m args below meth c H locs 0 0 (vx_MQ below (wqI g b 2 M (fun H => ∃ x, OL g o x H) o s.heap.size) noX args s 1 6 (AO b o s.heap.size)) (F0 m 0 ls []) by rw [hH, hlo] at hW; exact hW
  refine lv_aload_n hx hb dL_isHole_0 rfl (lv_at hl 3 rfl) ?_
  refine lv_iconst hx hb (v := jI 0) dL_isHole_1 rfl ?_
  refine lv_aload_n hx hb dL_isHole_2 rfl (lv_at hl 0 rfl) ?_
  refine lv_iload_n hx hb dL_isHole_3 rfl (lv_at hl 1 rfl) ?_
  refine lv_iload_n hx hb dL_isHole_4 rfl (lv_at hl 2 rfl) ?_
  refine x_tC (As := [.int (jI p0), .int (jI p1)]) (rest := [.int (jI 0), .ref o]) hx hb hml hown hts hK hTH hR hS hC wd883 wd884 wd885 wd1 wd886 hyL_isHole ⟨rfl, rfl⟩ ⟨Nat.le_trans (Nat.succ_le_succ (Nat.le_max_right _ _)) (Nat.le_refl _), Nat.add_le_add_left (Nat.le_max_right _ _) _⟩ hl.1 (Nat.le_of_ble_eq_true rfl) dL_isHole_5 ⟨Nat.le_refl _, Nat.le_refl _⟩ rfl ?_
  intro H1 locs1 q ce hR hS1 hce hcv hcl
  have hS := AO_S (o := o) hS1
  refine vx_catch (name := exN 2) hown [⟨0, 17, 20, 13⟩] ⟨0, 17, 24, 15⟩ [⟨0, 17, 28, 17⟩] hTab (by intro z hz; simp only [List.mem_cons, List.not_mem_nil, or_false] at hz; rcases hz with rfl; exact Or.inr ⟨by decide, exN 1, hts _ wd178, hNP.1⟩) (by decide +kernel) (by decide) (hts _ wd179) hTH.2.2.2.1 hce hcv hcl ?_
  refine lv_astore hx hb dL_isHole_24 hl (by decide) rfl ?_
  intro ls1 hl1
  refine lv_iconst hx hb (v := jI 2) dL_isHole_26 rfl ?_
  exact x_wend hx hb hlocks hK hR ⟨x0, hO.kept (hS1.2.1 o (Array.getElem?_eq_some_iff.mp hO.choose_spec.1).1 hA)⟩ hS hr (Nat.le_refl _) (Nat.le_refl _) dL_isHole_27
set_option maxHeartbeats 4000000 in
set_option maxRecDepth 100000 in
theorem tL_isHole_3 {l : Launch} {g : Gx} {b o : Nat} {p0 : Int} {p1 : Int} {M : Mm} (hC : Tt l yX3_isHole cX3_isHole 4 (some .boolean) rmTX3_isHole g b [.ref (adr b 0 0), .int (jI p0), .int (jI p1)] M 3) : Lt l yL_isHole cL_isHole 5 hhL_isHole rmL_isHole g b o [.ref (adr b 0 0), .int (jI p0), .int (jI p1), .ref o] M (OLp g b o) 3 M (fun H => ∃ x, OL g o x H) := by
  refine lt_of (by decide +kernel) (Nat.le_of_ble_eq_true rfl) ?_
  intro p e s m args below meth c C0 hTH hNP hPre hTab hR ls hl
  obtain ⟨hx, hb, hr, hlocks, hml, hown, hts, hK⟩ := id C0
  have hS : va_S (AA b s.heap.size) s.heap s.heap [] := va_S.rf
  have hl : lv_has ls 5 [(0, .ref (adr b 0 0)), (1, .int (jI p0)), (2, .int (jI p1)), (3, .ref o)] := hl
  obtain ⟨H, hH⟩ : ∃ z, z = s.heap := ⟨_, rfl⟩
  obtain ⟨locs, hlo⟩ : ∃ z : List Loc, z = [] := ⟨_, rfl⟩
  have hR : Rel g b M H := by rw [hH]; exact hR
  have hS : va_S (AA b s.heap.size) s.heap H locs := by rw [hH, hlo]; exact hS
  obtain ⟨⟨x0, hO⟩, hA⟩ := hPre
  suffices hW : W p l e rmL_isHole s m args below meth c H locs 0 0 (vx_MQ below (wqI g b 3 M (fun H => ∃ x, OL g o x H) o s.heap.size) noX args s 1 6 (AO b o s.heap.size)) (F0 m 0 ls []) by rw [hH, hlo] at hW; exact hW
  refine lv_aload_n hx hb dL_isHole_0 rfl (lv_at hl 3 rfl) ?_
  refine lv_iconst hx hb (v := jI 0) dL_isHole_1 rfl ?_
  refine lv_aload_n hx hb dL_isHole_2 rfl (lv_at hl 0 rfl) ?_
  refine lv_iload_n hx hb dL_isHole_3 rfl (lv_at hl 1 rfl) ?_
  refine lv_iload_n hx hb dL_isHole_4 rfl (lv_at hl 2 rfl) ?_
  refine x_tC (As := [.int (jI p0), .int (jI p1)]) (rest := [.int (jI 0), .ref o]) hx hb hml hown hts hK hTH hR hS hC wd883 wd884 wd885 wd1 wd886 hyL_isHole ⟨rfl, rfl⟩ ⟨Nat.le_trans (Nat.succ_le_succ (Nat.le_max_right _ _)) (Nat.le_refl _), Nat.add_le_add_left (Nat.le_max_right _ _) _⟩ hl.1 (Nat.le_of_ble_eq_true rfl) dL_isHole_5 ⟨Nat.le_refl _, Nat.le_refl _⟩ rfl ?_
  intro H1 locs1 q ce hR hS1 hce hcv hcl
  have hS := AO_S (o := o) hS1
  refine vx_catch (name := exN 3) hown [⟨0, 17, 20, 13⟩, ⟨0, 17, 24, 15⟩] ⟨0, 17, 28, 17⟩ [] hTab (by
      intro z hz
      simp only [List.mem_cons, List.not_mem_nil, or_false] at hz
      rcases hz with rfl | rfl
      · exact Or.inr ⟨by decide, exN 1, hts _ wd178, hNP.2.1⟩
      · exact Or.inr ⟨by decide, exN 2, hts _ wd179, hNP.2.2⟩) (by decide +kernel) (by decide) (hts _ wd180) hTH.2.2.2.2.1 hce hcv hcl ?_
  refine lv_astore hx hb dL_isHole_28 hl (by decide) rfl ?_
  intro ls1 hl1
  refine lv_iconst hx hb (v := jI 3) dL_isHole_30 rfl ?_
  exact x_wend hx hb hlocks hK hR ⟨x0, hO.kept (hS1.2.1 o (Array.getElem?_eq_some_iff.mp hO.choose_spec.1).1 hA)⟩ hS hr (Nat.le_refl _) (Nat.le_refl _) dL_isHole_31
abbrev rmL_nextData : Room := { frames := max rmX3_nextData.frames rmTX3_nextData.frames + 1, cells := 1, slots := 6, locals := 8 + (4 + 11) + max rmX3_nextData.locals rmTX3_nextData.locals }
abbrev hhL_nextData : List (Nat × Nat × Nat × Nat) := [(0, 10, 13, 13), (0, 10, 17, 15), (0, 10, 21, 17)]
theorem hyL_nextData : yX3_nextData.cls = RX3 ∧ yX3_nextData.cls ≠ "java/lang/invoke/MethodHandle" ∧ yX3_nextData.cls ≠ "java/lang/invoke/VarHandle" ∧ (parseMethodDescriptor yX3_nextData.desc).map (fun d => d.parameters.length) = some 2 := by decide +kernel
set_option maxHeartbeats 4000000 in
set_option maxRecDepth 100000 in
theorem nL_nextData {l : Launch} {g : Gx} {b o : Nat} {p0 : Int} {p1 : Int} {M M' : Mm} {r : Int} (hC : Ct l yX3_nextData cX3_nextData 4 (some .int) rmX3_nextData g b [.ref (adr b 0 0), .int (jI p0), .int (jI p1)] M (qI g b r M')) : Lt l yL_nextData cL_nextData 5 hhL_nextData rmL_nextData g b o [.ref (adr b 0 0), .int (jI p0), .int (jI p1), .ref o] M (OLp g b o) 0 M' (OL g o (jI r).toInt64) := by
  refine lt_of (by decide +kernel) (Nat.le_of_ble_eq_true rfl) ?_
  intro p e s m args below meth c C0 hTH hNP hPre hTab hR ls hl
  obtain ⟨hx, hb, hr, hlocks, hml, hown, hts, hK⟩ := id C0
  have hS : va_S (AA b s.heap.size) s.heap s.heap [] := va_S.rf
  have hl : lv_has ls 5 [(0, .ref (adr b 0 0)), (1, .int (jI p0)), (2, .int (jI p1)), (3, .ref o)] := hl
  obtain ⟨H, hH⟩ : ∃ z, z = s.heap := ⟨_, rfl⟩
  obtain ⟨locs, hlo⟩ : ∃ z : List Loc, z = [] := ⟨_, rfl⟩
  have hR : Rel g b M H := by rw [hH]; exact hR
  have hS : va_S (AA b s.heap.size) s.heap H locs := by rw [hH, hlo]; exact hS
  obtain ⟨⟨x0, hO⟩, hA⟩ := hPre
  suffices hW : W p l e rmL_nextData s m args below meth c H locs 0 0 (vx_MQ below (wqI g b 0 M' (OL g o (jI r).toInt64) o s.heap.size) noX args s 1 6 (AO b o s.heap.size)) (F0 m 0 ls []) by rw [hH, hlo] at hW; exact hW
  refine lv_aload_n hx hb dL_nextData_0 rfl (lv_at hl 3 rfl) ?_
  refine lv_iconst hx hb (v := jI 0) dL_nextData_1 rfl ?_
  refine lv_aload_n hx hb dL_nextData_2 rfl (lv_at hl 0 rfl) ?_
  refine lv_iload_n hx hb dL_nextData_3 rfl (lv_at hl 1 rfl) ?_
  refine lv_iload_n hx hb dL_nextData_4 rfl (lv_at hl 2 rfl) ?_
  refine x_cVi (As := [.int (jI p0), .int (jI p1)]) (rest := [.int (jI 0), .ref o]) hx hb hml hown hts hK hR hS hC ok0 rfl (ci := 3) (C := RX3) (T := TX3) (N := 9) rfl wd890 wd891 wd892 wd1 wd893 hyL_nextData ⟨rfl, rfl⟩ ⟨Nat.le_trans (Nat.succ_le_succ (Nat.le_max_left _ _)) (Nat.le_refl _), Nat.add_le_add_left (Nat.le_max_left _ _) _⟩ hl.1 (Nat.le_of_ble_eq_true rfl) dL_nextData_5 ⟨Nat.zero_le _, Nat.zero_le _⟩ rfl ?_
  intro hr0 H1 locs1 hR hS1
  have hO1 : ∃ x, OL g o x H1 := ⟨x0, hO.kept (hS1.2.1 o (Array.getElem?_eq_some_iff.mp hO.choose_spec.1).1 hA)⟩
  have hS := AO_S (o := o) hS1
  refine lv_i2l hx hb dL_nextData_8 rfl ?_
  refine x_wst hx hb hK hR hO1 hA hS dL_nextData_9 ?_
  intro H2 locs2 hR hO2 hS
  refine lv_goto (tgt := 25) hx hb dL_nextData_10 rfl ?_
  refine lv_iconst hx hb (v := jI 0) dL_nextData_25 rfl ?_
  exact x_wend hx hb hlocks hK hR hO2 hS hr (Nat.zero_le _) (Nat.zero_le _) dL_nextData_26
set_option maxHeartbeats 4000000 in
set_option maxRecDepth 100000 in
theorem tL_nextData_1 {l : Launch} {g : Gx} {b o : Nat} {p0 : Int} {p1 : Int} {M : Mm} (hC : Tt l yX3_nextData cX3_nextData 4 (some .int) rmTX3_nextData g b [.ref (adr b 0 0), .int (jI p0), .int (jI p1)] M 1) : Lt l yL_nextData cL_nextData 5 hhL_nextData rmL_nextData g b o [.ref (adr b 0 0), .int (jI p0), .int (jI p1), .ref o] M (OLp g b o) 1 M (fun H => ∃ x, OL g o x H) := by
  refine lt_of (by decide +kernel) (Nat.le_of_ble_eq_true rfl) ?_
  intro p e s m args below meth c C0 hTH hNP hPre hTab hR ls hl
  obtain ⟨hx, hb, hr, hlocks, hml, hown, hts, hK⟩ := id C0
  have hS : va_S (AA b s.heap.size) s.heap s.heap [] := va_S.rf
  have hl : lv_has ls 5 [(0, .ref (adr b 0 0)), (1, .int (jI p0)), (2, .int (jI p1)), (3, .ref o)] := hl
  obtain ⟨H, hH⟩ : ∃ z, z = s.heap := ⟨_, rfl⟩
  obtain ⟨locs, hlo⟩ : ∃ z : List Loc, z = [] := ⟨_, rfl⟩
  have hR : Rel g b M H := by rw [hH]; exact hR
  have hS : va_S (AA b s.heap.size) s.heap H locs := by rw [hH, hlo]; exact hS
  obtain ⟨⟨x0, hO⟩, hA⟩ := hPre
  suffices hW : W p l e rmL_nextData s m args below meth c H locs 0 0 (vx_MQ below (wqI g b 1 M (fun H => ∃ x, OL g o x H) o s.heap.size) noX args s 1 6 (AO b o s.heap.size)) (F0 m 0 ls []) by rw [hH, hlo] at hW; exact hW
  refine lv_aload_n hx hb dL_nextData_0 rfl (lv_at hl 3 rfl) ?_
  refine lv_iconst hx hb (v := jI 0) dL_nextData_1 rfl ?_
  refine lv_aload_n hx hb dL_nextData_2 rfl (lv_at hl 0 rfl) ?_
  refine lv_iload_n hx hb dL_nextData_3 rfl (lv_at hl 1 rfl) ?_
  refine lv_iload_n hx hb dL_nextData_4 rfl (lv_at hl 2 rfl) ?_
  refine x_tC (As := [.int (jI p0), .int (jI p1)]) (rest := [.int (jI 0), .ref o]) hx hb hml hown hts hK hTH hR hS hC wd890 wd891 wd892 wd1 wd893 hyL_nextData ⟨rfl, rfl⟩ ⟨Nat.le_trans (Nat.succ_le_succ (Nat.le_max_right _ _)) (Nat.le_refl _), Nat.add_le_add_left (Nat.le_max_right _ _) _⟩ hl.1 (Nat.le_of_ble_eq_true rfl) dL_nextData_5 ⟨Nat.le_refl _, Nat.le_refl _⟩ rfl ?_
  intro H1 locs1 q ce hR hS1 hce hcv hcl
  have hS := AO_S (o := o) hS1
  refine vx_catch (name := exN 1) hown [] ⟨0, 10, 13, 13⟩ [⟨0, 10, 17, 15⟩, ⟨0, 10, 21, 17⟩] hTab (fun z hz => by cases hz) (by decide +kernel) (by decide) (hts _ wd178) hTH.2.2.1 hce hcv hcl ?_
  refine lv_astore hx hb dL_nextData_13 hl (by decide) rfl ?_
  intro ls1 hl1
  refine lv_iconst hx hb (v := jI 1) dL_nextData_15 rfl ?_
  exact x_wend hx hb hlocks hK hR ⟨x0, hO.kept (hS1.2.1 o (Array.getElem?_eq_some_iff.mp hO.choose_spec.1).1 hA)⟩ hS hr (Nat.le_refl _) (Nat.le_refl _) dL_nextData_16
set_option maxHeartbeats 4000000 in
set_option maxRecDepth 100000 in
theorem tL_nextData_2 {l : Launch} {g : Gx} {b o : Nat} {p0 : Int} {p1 : Int} {M : Mm} (hC : Tt l yX3_nextData cX3_nextData 4 (some .int) rmTX3_nextData g b [.ref (adr b 0 0), .int (jI p0), .int (jI p1)] M 2) : Lt l yL_nextData cL_nextData 5 hhL_nextData rmL_nextData g b o [.ref (adr b 0 0), .int (jI p0), .int (jI p1), .ref o] M (OLp g b o) 2 M (fun H => ∃ x, OL g o x H) := by
  refine lt_of (by decide +kernel) (Nat.le_of_ble_eq_true rfl) ?_
  intro p e s m args below meth c C0 hTH hNP hPre hTab hR ls hl
  obtain ⟨hx, hb, hr, hlocks, hml, hown, hts, hK⟩ := id C0
  have hS : va_S (AA b s.heap.size) s.heap s.heap [] := va_S.rf
  have hl : lv_has ls 5 [(0, .ref (adr b 0 0)), (1, .int (jI p0)), (2, .int (jI p1)), (3, .ref o)] := hl
  obtain ⟨H, hH⟩ : ∃ z, z = s.heap := ⟨_, rfl⟩
  obtain ⟨locs, hlo⟩ : ∃ z : List Loc, z = [] := ⟨_, rfl⟩
  have hR : Rel g b M H := by rw [hH]; exact hR
  have hS : va_S (AA b s.heap.size) s.heap H locs := by rw [hH, hlo]; exact hS
  obtain ⟨⟨x0, hO⟩, hA⟩ := hPre
  suffices hW : W p l e rmL_nextData s m args below meth c H locs 0 0 (vx_MQ below (wqI g b 2 M (fun H => ∃ x, OL g o x H) o s.heap.size) noX args s 1 6 (AO b o s.heap.size)) (F0 m 0 ls []) by rw [hH, hlo] at hW; exact hW
  refine lv_aload_n hx hb dL_nextData_0 rfl (lv_at hl 3 rfl) ?_
  refine lv_iconst hx hb (v := jI 0) dL_nextData_1 rfl ?_
  refine lv_aload_n hx hb dL_nextData_2 rfl (lv_at hl 0 rfl) ?_
  refine lv_iload_n hx hb dL_nextData_3 rfl (lv_at hl 1 rfl) ?_
  refine lv_iload_n hx hb dL_nextData_4 rfl (lv_at hl 2 rfl) ?_
  refine x_tC (As := [.int (jI p0), .int (jI p1)]) (rest := [.int (jI 0), .ref o]) hx hb hml hown hts hK hTH hR hS hC wd890 wd891 wd892 wd1 wd893 hyL_nextData ⟨rfl, rfl⟩ ⟨Nat.le_trans (Nat.succ_le_succ (Nat.le_max_right _ _)) (Nat.le_refl _), Nat.add_le_add_left (Nat.le_max_right _ _) _⟩ hl.1 (Nat.le_of_ble_eq_true rfl) dL_nextData_5 ⟨Nat.le_refl _, Nat.le_refl _⟩ rfl ?_
  intro H1 locs1 q ce hR hS1 hce hcv hcl
  have hS := AO_S (o := o) hS1
  refine vx_catch (name := exN 2) hown [⟨0, 10, 13, 13⟩] ⟨0, 10, 17, 15⟩ [⟨0, 10, 21, 17⟩] hTab (by intro z hz; simp only [List.mem_cons, List.not_mem_nil, or_false] at hz; rcases hz with rfl; exact Or.inr ⟨by decide, exN 1, hts _ wd178, hNP.1⟩) (by decide +kernel) (by decide) (hts _ wd179) hTH.2.2.2.1 hce hcv hcl ?_
  refine lv_astore hx hb dL_nextData_17 hl (by decide) rfl ?_
  intro ls1 hl1
  refine lv_iconst hx hb (v := jI 2) dL_nextData_19 rfl ?_
  exact x_wend hx hb hlocks hK hR ⟨x0, hO.kept (hS1.2.1 o (Array.getElem?_eq_some_iff.mp hO.choose_spec.1).1 hA)⟩ hS hr (Nat.le_refl _) (Nat.le_refl _) dL_nextData_20
set_option maxHeartbeats 4000000 in
set_option maxRecDepth 100000 in
theorem tL_nextData_3 {l : Launch} {g : Gx} {b o : Nat} {p0 : Int} {p1 : Int} {M : Mm} (hC : Tt l yX3_nextData cX3_nextData 4 (some .int) rmTX3_nextData g b [.ref (adr b 0 0), .int (jI p0), .int (jI p1)] M 3) : Lt l yL_nextData cL_nextData 5 hhL_nextData rmL_nextData g b o [.ref (adr b 0 0), .int (jI p0), .int (jI p1), .ref o] M (OLp g b o) 3 M (fun H => ∃ x, OL g o x H) := by
  refine lt_of (by decide +kernel) (Nat.le_of_ble_eq_true rfl) ?_
  intro p e s m args below meth c C0 hTH hNP hPre hTab hR ls hl
  obtain ⟨hx, hb, hr, hlocks, hml, hown, hts, hK⟩ := id C0
  have hS : va_S (AA b s.heap.size) s.heap s.heap [] := va_S.rf
  have hl : lv_has ls 5 [(0, .ref (adr b 0 0)), (1, .int (jI p0)), (2, .int (jI p1)), (3, .ref o)] := hl
  obtain ⟨H, hH⟩ : ∃ z, z = s.heap := ⟨_, rfl⟩
  obtain ⟨locs, hlo⟩ : ∃ z : List Loc, z = [] := ⟨_, rfl⟩
  have hR : Rel g b M H := by rw [hH]; exact hR
  have hS : va_S (AA b s.heap.size) s.heap H locs := by rw [hH, hlo]; exact hS
  obtain ⟨⟨x0, hO⟩, hA⟩ := hPre
  suffices hW : W p l e rmL_nextData s m args below meth c H locs 0 0 (vx_MQ below (wqI g b 3 M (fun H => ∃ x, OL g o x H) o s.heap.size) noX args s 1 6 (AO b o s.heap.size)) (F0 m 0 ls []) by rw [hH, hlo] at hW; exact hW
  refine lv_aload_n hx hb dL_nextData_0 rfl (lv_at hl 3 rfl) ?_
  refine lv_iconst hx hb (v := jI 0) dL_nextData_1 rfl ?_
  refine lv_aload_n hx hb dL_nextData_2 rfl (lv_at hl 0 rfl) ?_
  refine lv_iload_n hx hb dL_nextData_3 rfl (lv_at hl 1 rfl) ?_
  refine lv_iload_n hx hb dL_nextData_4 rfl (lv_at hl 2 rfl) ?_
  refine x_tC (As := [.int (jI p0), .int (jI p1)]) (rest := [.int (jI 0), .ref o]) hx hb hml hown hts hK hTH hR hS hC wd890 wd891 wd892 wd1 wd893 hyL_nextData ⟨rfl, rfl⟩ ⟨Nat.le_trans (Nat.succ_le_succ (Nat.le_max_right _ _)) (Nat.le_refl _), Nat.add_le_add_left (Nat.le_max_right _ _) _⟩ hl.1 (Nat.le_of_ble_eq_true rfl) dL_nextData_5 ⟨Nat.le_refl _, Nat.le_refl _⟩ rfl ?_
  intro H1 locs1 q ce hR hS1 hce hcv hcl
  have hS := AO_S (o := o) hS1
  refine vx_catch (name := exN 3) hown [⟨0, 10, 13, 13⟩, ⟨0, 10, 17, 15⟩] ⟨0, 10, 21, 17⟩ [] hTab (by
      intro z hz
      simp only [List.mem_cons, List.not_mem_nil, or_false] at hz
      rcases hz with rfl | rfl
      · exact Or.inr ⟨by decide, exN 1, hts _ wd178, hNP.2.1⟩
      · exact Or.inr ⟨by decide, exN 2, hts _ wd179, hNP.2.2⟩) (by decide +kernel) (by decide) (hts _ wd180) hTH.2.2.2.2.1 hce hcv hcl ?_
  refine lv_astore hx hb dL_nextData_21 hl (by decide) rfl ?_
  intro ls1 hl1
  refine lv_iconst hx hb (v := jI 3) dL_nextData_23 rfl ?_
  exact x_wend hx hb hlocks hK hR ⟨x0, hO.kept (hS1.2.1 o (Array.getElem?_eq_some_iff.mp hO.choose_spec.1).1 hA)⟩ hS hr (Nat.le_refl _) (Nat.le_refl _) dL_nextData_24
abbrev rmL_nextHole : Room := { frames := max rmX3_nextHole.frames rmTX3_nextHole.frames + 1, cells := 1, slots := 6, locals := 8 + (5 + 11) + max rmX3_nextHole.locals rmTX3_nextHole.locals }
abbrev hhL_nextHole : List (Nat × Nat × Nat × Nat) := [(0, 10, 13, 13), (0, 10, 17, 15), (0, 10, 21, 17)]
theorem hyL_nextHole : yX3_nextHole.cls = RX3 ∧ yX3_nextHole.cls ≠ "java/lang/invoke/MethodHandle" ∧ yX3_nextHole.cls ≠ "java/lang/invoke/VarHandle" ∧ (parseMethodDescriptor yX3_nextHole.desc).map (fun d => d.parameters.length) = some 2 := by decide +kernel
set_option maxHeartbeats 4000000 in
set_option maxRecDepth 100000 in
theorem nL_nextHole {l : Launch} {g : Gx} {b o : Nat} {p0 : Int} {p1 : Int} {M M' : Mm} {r : Int} (hC : Ct l yX3_nextHole cX3_nextHole 5 (some .int) rmX3_nextHole g b [.ref (adr b 0 0), .int (jI p0), .int (jI p1)] M (qI g b r M')) : Lt l yL_nextHole cL_nextHole 5 hhL_nextHole rmL_nextHole g b o [.ref (adr b 0 0), .int (jI p0), .int (jI p1), .ref o] M (OLp g b o) 0 M' (OL g o (jI r).toInt64) := by
  refine lt_of (by decide +kernel) (Nat.le_of_ble_eq_true rfl) ?_
  intro p e s m args below meth c C0 hTH hNP hPre hTab hR ls hl
  obtain ⟨hx, hb, hr, hlocks, hml, hown, hts, hK⟩ := id C0
  have hS : va_S (AA b s.heap.size) s.heap s.heap [] := va_S.rf
  have hl : lv_has ls 5 [(0, .ref (adr b 0 0)), (1, .int (jI p0)), (2, .int (jI p1)), (3, .ref o)] := hl
  obtain ⟨H, hH⟩ : ∃ z, z = s.heap := ⟨_, rfl⟩
  obtain ⟨locs, hlo⟩ : ∃ z : List Loc, z = [] := ⟨_, rfl⟩
  have hR : Rel g b M H := by rw [hH]; exact hR
  have hS : va_S (AA b s.heap.size) s.heap H locs := by rw [hH, hlo]; exact hS
  obtain ⟨⟨x0, hO⟩, hA⟩ := hPre
  suffices hW : W p l e rmL_nextHole s m args below meth c H locs 0 0 (vx_MQ below (wqI g b 0 M' (OL g o (jI r).toInt64) o s.heap.size) noX args s 1 6 (AO b o s.heap.size)) (F0 m 0 ls []) by rw [hH, hlo] at hW; exact hW
  refine lv_aload_n hx hb dL_nextHole_0 rfl (lv_at hl 3 rfl) ?_
  refine lv_iconst hx hb (v := jI 0) dL_nextHole_1 rfl ?_
  refine lv_aload_n hx hb dL_nextHole_2 rfl (lv_at hl 0 rfl) ?_
  refine lv_iload_n hx hb dL_nextHole_3 rfl (lv_at hl 1 rfl) ?_
  refine lv_iload_n hx hb dL_nextHole_4 rfl (lv_at hl 2 rfl) ?_
  refine x_cVi (As := [.int (jI p0), .int (jI p1)]) (rest := [.int (jI 0), .ref o]) hx hb hml hown hts hK hR hS hC ok0 rfl (ci := 3) (C := RX3) (T := TX3) (N := 9) rfl wd902 wd903 wd904 wd1 wd905 hyL_nextHole ⟨rfl, rfl⟩ ⟨Nat.le_trans (Nat.succ_le_succ (Nat.le_max_left _ _)) (Nat.le_refl _), Nat.add_le_add_left (Nat.le_max_left _ _) _⟩ hl.1 (Nat.le_of_ble_eq_true rfl) dL_nextHole_5 ⟨Nat.zero_le _, Nat.zero_le _⟩ rfl ?_
  intro hr0 H1 locs1 hR hS1
  have hO1 : ∃ x, OL g o x H1 := ⟨x0, hO.kept (hS1.2.1 o (Array.getElem?_eq_some_iff.mp hO.choose_spec.1).1 hA)⟩
  have hS := AO_S (o := o) hS1
  refine lv_i2l hx hb dL_nextHole_8 rfl ?_
  refine x_wst hx hb hK hR hO1 hA hS dL_nextHole_9 ?_
  intro H2 locs2 hR hO2 hS
  refine lv_goto (tgt := 25) hx hb dL_nextHole_10 rfl ?_
  refine lv_iconst hx hb (v := jI 0) dL_nextHole_25 rfl ?_
  exact x_wend hx hb hlocks hK hR hO2 hS hr (Nat.zero_le _) (Nat.zero_le _) dL_nextHole_26
set_option maxHeartbeats 4000000 in
set_option maxRecDepth 100000 in
theorem tL_nextHole_1 {l : Launch} {g : Gx} {b o : Nat} {p0 : Int} {p1 : Int} {M : Mm} (hC : Tt l yX3_nextHole cX3_nextHole 5 (some .int) rmTX3_nextHole g b [.ref (adr b 0 0), .int (jI p0), .int (jI p1)] M 1) : Lt l yL_nextHole cL_nextHole 5 hhL_nextHole rmL_nextHole g b o [.ref (adr b 0 0), .int (jI p0), .int (jI p1), .ref o] M (OLp g b o) 1 M (fun H => ∃ x, OL g o x H) := by
  refine lt_of (by decide +kernel) (Nat.le_of_ble_eq_true rfl) ?_
  intro p e s m args below meth c C0 hTH hNP hPre hTab hR ls hl
  obtain ⟨hx, hb, hr, hlocks, hml, hown, hts, hK⟩ := id C0
  have hS : va_S (AA b s.heap.size) s.heap s.heap [] := va_S.rf
  have hl : lv_has ls 5 [(0, .ref (adr b 0 0)), (1, .int (jI p0)), (2, .int (jI p1)), (3, .ref o)] := hl
  obtain ⟨H, hH⟩ : ∃ z, z = s.heap := ⟨_, rfl⟩
  obtain ⟨locs, hlo⟩ : ∃ z : List Loc, z = [] := ⟨_, rfl⟩
  have hR : Rel g b M H := by rw [hH]; exact hR
  have hS : va_S (AA b s.heap.size) s.heap H locs := by rw [hH, hlo]; exact hS
  obtain ⟨⟨x0, hO⟩, hA⟩ := hPre
  suffices hW : W p l e rmL_nextHole s m args below meth c H locs 0 0 (vx_MQ below (wqI g b 1 M (fun H => ∃ x, OL g o x H) o s.heap.size) noX args s 1 6 (AO b o s.heap.size)) (F0 m 0 ls []) by rw [hH, hlo] at hW; exact hW
  refine lv_aload_n hx hb dL_nextHole_0 rfl (lv_at hl 3 rfl) ?_
  refine lv_iconst hx hb (v := jI 0) dL_nextHole_1 rfl ?_
  refine lv_aload_n hx hb dL_nextHole_2 rfl (lv_at hl 0 rfl) ?_
  refine lv_iload_n hx hb dL_nextHole_3 rfl (lv_at hl 1 rfl) ?_
  refine lv_iload_n hx hb dL_nextHole_4 rfl (lv_at hl 2 rfl) ?_
  refine x_tC (As := [.int (jI p0), .int (jI p1)]) (rest := [.int (jI 0), .ref o]) hx hb hml hown hts hK hTH hR hS hC wd902 wd903 wd904 wd1 wd905 hyL_nextHole ⟨rfl, rfl⟩ ⟨Nat.le_trans (Nat.succ_le_succ (Nat.le_max_right _ _)) (Nat.le_refl _), Nat.add_le_add_left (Nat.le_max_right _ _) _⟩ hl.1 (Nat.le_of_ble_eq_true rfl) dL_nextHole_5 ⟨Nat.le_refl _, Nat.le_refl _⟩ rfl ?_
  intro H1 locs1 q ce hR hS1 hce hcv hcl
  have hS := AO_S (o := o) hS1
  refine vx_catch (name := exN 1) hown [] ⟨0, 10, 13, 13⟩ [⟨0, 10, 17, 15⟩, ⟨0, 10, 21, 17⟩] hTab (fun z hz => by cases hz) (by decide +kernel) (by decide) (hts _ wd178) hTH.2.2.1 hce hcv hcl ?_
  refine lv_astore hx hb dL_nextHole_13 hl (by decide) rfl ?_
  intro ls1 hl1
  refine lv_iconst hx hb (v := jI 1) dL_nextHole_15 rfl ?_
  exact x_wend hx hb hlocks hK hR ⟨x0, hO.kept (hS1.2.1 o (Array.getElem?_eq_some_iff.mp hO.choose_spec.1).1 hA)⟩ hS hr (Nat.le_refl _) (Nat.le_refl _) dL_nextHole_16
set_option maxHeartbeats 4000000 in
set_option maxRecDepth 100000 in
theorem tL_nextHole_2 {l : Launch} {g : Gx} {b o : Nat} {p0 : Int} {p1 : Int} {M : Mm} (hC : Tt l yX3_nextHole cX3_nextHole 5 (some .int) rmTX3_nextHole g b [.ref (adr b 0 0), .int (jI p0), .int (jI p1)] M 2) : Lt l yL_nextHole cL_nextHole 5 hhL_nextHole rmL_nextHole g b o [.ref (adr b 0 0), .int (jI p0), .int (jI p1), .ref o] M (OLp g b o) 2 M (fun H => ∃ x, OL g o x H) := by
  refine lt_of (by decide +kernel) (Nat.le_of_ble_eq_true rfl) ?_
  intro p e s m args below meth c C0 hTH hNP hPre hTab hR ls hl
  obtain ⟨hx, hb, hr, hlocks, hml, hown, hts, hK⟩ := id C0
  have hS : va_S (AA b s.heap.size) s.heap s.heap [] := va_S.rf
  have hl : lv_has ls 5 [(0, .ref (adr b 0 0)), (1, .int (jI p0)), (2, .int (jI p1)), (3, .ref o)] := hl
  obtain ⟨H, hH⟩ : ∃ z, z = s.heap := ⟨_, rfl⟩
  obtain ⟨locs, hlo⟩ : ∃ z : List Loc, z = [] := ⟨_, rfl⟩
  have hR : Rel g b M H := by rw [hH]; exact hR
  have hS : va_S (AA b s.heap.size) s.heap H locs := by rw [hH, hlo]; exact hS
  obtain ⟨⟨x0, hO⟩, hA⟩ := hPre
  suffices hW : W p l e rmL_nextHole s m args below meth c H locs 0 0 (vx_MQ below (wqI g b 2 M (fun H => ∃ x, OL g o x H) o s.heap.size) noX args s 1 6 (AO b o s.heap.size)) (F0 m 0 ls []) by rw [hH, hlo] at hW; exact hW
  refine lv_aload_n hx hb dL_nextHole_0 rfl (lv_at hl 3 rfl) ?_
  refine lv_iconst hx hb (v := jI 0) dL_nextHole_1 rfl ?_
  refine lv_aload_n hx hb dL_nextHole_2 rfl (lv_at hl 0 rfl) ?_
  refine lv_iload_n hx hb dL_nextHole_3 rfl (lv_at hl 1 rfl) ?_
  refine lv_iload_n hx hb dL_nextHole_4 rfl (lv_at hl 2 rfl) ?_
  refine x_tC (As := [.int (jI p0), .int (jI p1)]) (rest := [.int (jI 0), .ref o]) hx hb hml hown hts hK hTH hR hS hC wd902 wd903 wd904 wd1 wd905 hyL_nextHole ⟨rfl, rfl⟩ ⟨Nat.le_trans (Nat.succ_le_succ (Nat.le_max_right _ _)) (Nat.le_refl _), Nat.add_le_add_left (Nat.le_max_right _ _) _⟩ hl.1 (Nat.le_of_ble_eq_true rfl) dL_nextHole_5 ⟨Nat.le_refl _, Nat.le_refl _⟩ rfl ?_
  intro H1 locs1 q ce hR hS1 hce hcv hcl
  have hS := AO_S (o := o) hS1
  refine vx_catch (name := exN 2) hown [⟨0, 10, 13, 13⟩] ⟨0, 10, 17, 15⟩ [⟨0, 10, 21, 17⟩] hTab (by intro z hz; simp only [List.mem_cons, List.not_mem_nil, or_false] at hz; rcases hz with rfl; exact Or.inr ⟨by decide, exN 1, hts _ wd178, hNP.1⟩) (by decide +kernel) (by decide) (hts _ wd179) hTH.2.2.2.1 hce hcv hcl ?_
  refine lv_astore hx hb dL_nextHole_17 hl (by decide) rfl ?_
  intro ls1 hl1
  refine lv_iconst hx hb (v := jI 2) dL_nextHole_19 rfl ?_
  exact x_wend hx hb hlocks hK hR ⟨x0, hO.kept (hS1.2.1 o (Array.getElem?_eq_some_iff.mp hO.choose_spec.1).1 hA)⟩ hS hr (Nat.le_refl _) (Nat.le_refl _) dL_nextHole_20
set_option maxHeartbeats 4000000 in
set_option maxRecDepth 100000 in
theorem tL_nextHole_3 {l : Launch} {g : Gx} {b o : Nat} {p0 : Int} {p1 : Int} {M : Mm} (hC : Tt l yX3_nextHole cX3_nextHole 5 (some .int) rmTX3_nextHole g b [.ref (adr b 0 0), .int (jI p0), .int (jI p1)] M 3) : Lt l yL_nextHole cL_nextHole 5 hhL_nextHole rmL_nextHole g b o [.ref (adr b 0 0), .int (jI p0), .int (jI p1), .ref o] M (OLp g b o) 3 M (fun H => ∃ x, OL g o x H) := by
  refine lt_of (by decide +kernel) (Nat.le_of_ble_eq_true rfl) ?_
  intro p e s m args below meth c C0 hTH hNP hPre hTab hR ls hl
  obtain ⟨hx, hb, hr, hlocks, hml, hown, hts, hK⟩ := id C0
  have hS : va_S (AA b s.heap.size) s.heap s.heap [] := va_S.rf
  have hl : lv_has ls 5 [(0, .ref (adr b 0 0)), (1, .int (jI p0)), (2, .int (jI p1)), (3, .ref o)] := hl
  obtain ⟨H, hH⟩ : ∃ z, z = s.heap := ⟨_, rfl⟩
  obtain ⟨locs, hlo⟩ : ∃ z : List Loc, z = [] := ⟨_, rfl⟩
  have hR : Rel g b M H := by rw [hH]; exact hR
  have hS : va_S (AA b s.heap.size) s.heap H locs := by rw [hH, hlo]; exact hS
  obtain ⟨⟨x0, hO⟩, hA⟩ := hPre
  suffices hW : W p l e rmL_nextHole s m args below meth c H locs 0 0 (vx_MQ below (wqI g b 3 M (fun H => ∃ x, OL g o x H) o s.heap.size) noX args s 1 6 (AO b o s.heap.size)) (F0 m 0 ls []) by rw [hH, hlo] at hW; exact hW
  refine lv_aload_n hx hb dL_nextHole_0 rfl (lv_at hl 3 rfl) ?_
  refine lv_iconst hx hb (v := jI 0) dL_nextHole_1 rfl ?_
  refine lv_aload_n hx hb dL_nextHole_2 rfl (lv_at hl 0 rfl) ?_
  refine lv_iload_n hx hb dL_nextHole_3 rfl (lv_at hl 1 rfl) ?_
  refine lv_iload_n hx hb dL_nextHole_4 rfl (lv_at hl 2 rfl) ?_
  refine x_tC (As := [.int (jI p0), .int (jI p1)]) (rest := [.int (jI 0), .ref o]) hx hb hml hown hts hK hTH hR hS hC wd902 wd903 wd904 wd1 wd905 hyL_nextHole ⟨rfl, rfl⟩ ⟨Nat.le_trans (Nat.succ_le_succ (Nat.le_max_right _ _)) (Nat.le_refl _), Nat.add_le_add_left (Nat.le_max_right _ _) _⟩ hl.1 (Nat.le_of_ble_eq_true rfl) dL_nextHole_5 ⟨Nat.le_refl _, Nat.le_refl _⟩ rfl ?_
  intro H1 locs1 q ce hR hS1 hce hcv hcl
  have hS := AO_S (o := o) hS1
  refine vx_catch (name := exN 3) hown [⟨0, 10, 13, 13⟩, ⟨0, 10, 17, 15⟩] ⟨0, 10, 21, 17⟩ [] hTab (by
      intro z hz
      simp only [List.mem_cons, List.not_mem_nil, or_false] at hz
      rcases hz with rfl | rfl
      · exact Or.inr ⟨by decide, exN 1, hts _ wd178, hNP.2.1⟩
      · exact Or.inr ⟨by decide, exN 2, hts _ wd179, hNP.2.2⟩) (by decide +kernel) (by decide) (hts _ wd180) hTH.2.2.2.2.1 hce hcv hcl ?_
  refine lv_astore hx hb dL_nextHole_21 hl (by decide) rfl ?_
  intro ls1 hl1
  refine lv_iconst hx hb (v := jI 3) dL_nextHole_23 rfl ?_
  exact x_wend hx hb hlocks hK hR ⟨x0, hO.kept (hS1.2.1 o (Array.getElem?_eq_some_iff.mp hO.choose_spec.1).1 hA)⟩ hS hr (Nat.le_refl _) (Nat.le_refl _) dL_nextHole_24
abbrev rmL_sameBytes : Room := { frames := max rmX3_sameBytes.frames rmTX3_sameBytes.frames + 1, cells := 1, slots := 6, locals := 8 + (3 + 11) + max rmX3_sameBytes.locals rmTX3_sameBytes.locals }
abbrev hhL_sameBytes : List (Nat × Nat × Nat × Nat) := [(0, 17, 20, 13), (0, 17, 24, 15)]
theorem hyL_sameBytes : yX3_sameBytes.cls = RX3 ∧ yX3_sameBytes.cls ≠ "java/lang/invoke/MethodHandle" ∧ yX3_sameBytes.cls ≠ "java/lang/invoke/VarHandle" ∧ (parseMethodDescriptor yX3_sameBytes.desc).map (fun d => d.parameters.length) = some 2 := by decide +kernel
set_option maxHeartbeats 4000000 in
set_option maxRecDepth 100000 in
theorem nL_sameBytes {l : Launch} {g : Gx} {b o : Nat} {p0 : Int} {p1 : Int} {M M' : Mm} {r : Int} (hC : Ct l yX3_sameBytes cX3_sameBytes 3 (some .boolean) rmX3_sameBytes g b [.ref (adr b 0 0), .int (jI p0), .int (jI p1)] M (qI g b r M')) : Lt l yL_sameBytes cL_sameBytes 5 hhL_sameBytes rmL_sameBytes g b o [.ref (adr b 0 0), .int (jI p0), .int (jI p1), .ref o] M (OLp g b o) 0 M' (OL g o (if r = 0 then 0 else 1)) := by
  refine lt_of (by decide +kernel) (Nat.le_of_ble_eq_true rfl) ?_
  intro p e s m args below meth c C0 hTH hNP hPre hTab hR ls hl
  obtain ⟨hx, hb, hr, hlocks, hml, hown, hts, hK⟩ := id C0
  have hS : va_S (AA b s.heap.size) s.heap s.heap [] := va_S.rf
  have hl : lv_has ls 5 [(0, .ref (adr b 0 0)), (1, .int (jI p0)), (2, .int (jI p1)), (3, .ref o)] := hl
  obtain ⟨H, hH⟩ : ∃ z, z = s.heap := ⟨_, rfl⟩
  obtain ⟨locs, hlo⟩ : ∃ z : List Loc, z = [] := ⟨_, rfl⟩
  have hR : Rel g b M H := by rw [hH]; exact hR
  have hS : va_S (AA b s.heap.size) s.heap H locs := by rw [hH, hlo]; exact hS
  obtain ⟨⟨x0, hO⟩, hA⟩ := hPre
  suffices hW : W p l e rmL_sameBytes s m args below meth c H locs 0 0 (vx_MQ below (wqI g b 0 M' (OL g o (if r = 0 then 0 else 1)) o s.heap.size) noX args s 1 6 (AO b o s.heap.size)) (F0 m 0 ls []) by rw [hH, hlo] at hW; exact hW
  refine lv_aload_n hx hb dL_sameBytes_0 rfl (lv_at hl 3 rfl) ?_
  refine lv_iconst hx hb (v := jI 0) dL_sameBytes_1 rfl ?_
  refine lv_aload_n hx hb dL_sameBytes_2 rfl (lv_at hl 0 rfl) ?_
  refine lv_iload_n hx hb dL_sameBytes_3 rfl (lv_at hl 1 rfl) ?_
  refine lv_iload_n hx hb dL_sameBytes_4 rfl (lv_at hl 2 rfl) ?_
  refine x_cVi (As := [.int (jI p0), .int (jI p1)]) (rest := [.int (jI 0), .ref o]) hx hb hml hown hts hK hR hS hC ok0 rfl (ci := 3) (C := RX3) (T := TX3) (N := 9) rfl wd909 wd910 wd911 wd1 wd912 hyL_sameBytes ⟨rfl, rfl⟩ ⟨Nat.le_trans (Nat.succ_le_succ (Nat.le_max_left _ _)) (Nat.le_refl _), Nat.add_le_add_left (Nat.le_max_left _ _) _⟩ hl.1 (Nat.le_of_ble_eq_true rfl) dL_sameBytes_5 ⟨Nat.zero_le _, Nat.zero_le _⟩ rfl ?_
  intro hr0 H1 locs1 hR hS1
  have hO1 : ∃ x, OL g o x H1 := ⟨x0, hO.kept (hS1.2.1 o (Array.getElem?_eq_some_iff.mp hO.choose_spec.1).1 hA)⟩
  have hS := AO_S (o := o) hS1
  refine lv_if_eq (tgt := 15) hx hb dL_sameBytes_8 rfl (fun ci => ?_) (fun ci => ?_)
  · have c0 : r = 0 := (jI_eq hr0 rg_0).mp (ci.trans jI_0.symm)
    rw [if_pos c0]
    refine lv_lconst hx hb (v := 0) dL_sameBytes_15 rfl ?_
    refine x_wst hx hb hK hR hO1 hA hS dL_sameBytes_16 ?_
    intro H2 locs2 hR hO2 hS
    refine lv_goto (tgt := 28) hx hb dL_sameBytes_17 rfl ?_
    refine lv_iconst hx hb (v := jI 0) dL_sameBytes_28 rfl ?_
    exact x_wend hx hb hlocks hK hR hO2 hS hr (Nat.zero_le _) (Nat.zero_le _) dL_sameBytes_29
  · have c0 : ¬ r = 0 := fun z => ci (by rw [z]; exact jI_0)
    rw [if_neg c0]
    refine lv_lconst hx hb (v := 1) dL_sameBytes_11 rfl ?_
    refine lv_goto (tgt := 16) hx hb dL_sameBytes_12 rfl ?_
    refine x_wst hx hb hK hR hO1 hA hS dL_sameBytes_16 ?_
    intro H2 locs2 hR hO2 hS
    refine lv_goto (tgt := 28) hx hb dL_sameBytes_17 rfl ?_
    refine lv_iconst hx hb (v := jI 0) dL_sameBytes_28 rfl ?_
    exact x_wend hx hb hlocks hK hR hO2 hS hr (Nat.zero_le _) (Nat.zero_le _) dL_sameBytes_29
set_option maxHeartbeats 4000000 in
set_option maxRecDepth 100000 in
theorem tL_sameBytes_1 {l : Launch} {g : Gx} {b o : Nat} {p0 : Int} {p1 : Int} {M : Mm} (hC : Tt l yX3_sameBytes cX3_sameBytes 3 (some .boolean) rmTX3_sameBytes g b [.ref (adr b 0 0), .int (jI p0), .int (jI p1)] M 1) : Lt l yL_sameBytes cL_sameBytes 5 hhL_sameBytes rmL_sameBytes g b o [.ref (adr b 0 0), .int (jI p0), .int (jI p1), .ref o] M (OLp g b o) 1 M (fun H => ∃ x, OL g o x H) := by
  refine lt_of (by decide +kernel) (Nat.le_of_ble_eq_true rfl) ?_
  intro p e s m args below meth c C0 hTH hNP hPre hTab hR ls hl
  obtain ⟨hx, hb, hr, hlocks, hml, hown, hts, hK⟩ := id C0
  have hS : va_S (AA b s.heap.size) s.heap s.heap [] := va_S.rf
  have hl : lv_has ls 5 [(0, .ref (adr b 0 0)), (1, .int (jI p0)), (2, .int (jI p1)), (3, .ref o)] := hl
  obtain ⟨H, hH⟩ : ∃ z, z = s.heap := ⟨_, rfl⟩
  obtain ⟨locs, hlo⟩ : ∃ z : List Loc, z = [] := ⟨_, rfl⟩
  have hR : Rel g b M H := by rw [hH]; exact hR
  have hS : va_S (AA b s.heap.size) s.heap H locs := by rw [hH, hlo]; exact hS
  obtain ⟨⟨x0, hO⟩, hA⟩ := hPre
  suffices hW : W p l e rmL_sameBytes s m args below meth c H locs 0 0 (vx_MQ below (wqI g b 1 M (fun H => ∃ x, OL g o x H) o s.heap.size) noX args s 1 6 (AO b o s.heap.size)) (F0 m 0 ls []) by rw [hH, hlo] at hW; exact hW
  refine lv_aload_n hx hb dL_sameBytes_0 rfl (lv_at hl 3 rfl) ?_
  refine lv_iconst hx hb (v := jI 0) dL_sameBytes_1 rfl ?_
  refine lv_aload_n hx hb dL_sameBytes_2 rfl (lv_at hl 0 rfl) ?_
  refine lv_iload_n hx hb dL_sameBytes_3 rfl (lv_at hl 1 rfl) ?_
  refine lv_iload_n hx hb dL_sameBytes_4 rfl (lv_at hl 2 rfl) ?_
  refine x_tC (As := [.int (jI p0), .int (jI p1)]) (rest := [.int (jI 0), .ref o]) hx hb hml hown hts hK hTH hR hS hC wd909 wd910 wd911 wd1 wd912 hyL_sameBytes ⟨rfl, rfl⟩ ⟨Nat.le_trans (Nat.succ_le_succ (Nat.le_max_right _ _)) (Nat.le_refl _), Nat.add_le_add_left (Nat.le_max_right _ _) _⟩ hl.1 (Nat.le_of_ble_eq_true rfl) dL_sameBytes_5 ⟨Nat.le_refl _, Nat.le_refl _⟩ rfl ?_
  intro H1 locs1 q ce hR hS1 hce hcv hcl
  have hS := AO_S (o := o) hS1
  refine vx_catch (name := exN 1) hown [] ⟨0, 17, 20, 13⟩ [⟨0, 17, 24, 15⟩] hTab (fun z hz => by cases hz) (by decide +kernel) (by decide) (hts _ wd178) hTH.2.2.1 hce hcv hcl ?_
  refine lv_astore hx hb dL_sameBytes_20 hl (by decide) rfl ?_
  intro ls1 hl1
  refine lv_iconst hx hb (v := jI 1) dL_sameBytes_22 rfl ?_
  exact x_wend hx hb hlocks hK hR ⟨x0, hO.kept (hS1.2.1 o (Array.getElem?_eq_some_iff.mp hO.choose_spec.1).1 hA)⟩ hS hr (Nat.le_refl _) (Nat.le_refl _) dL_sameBytes_23
set_option maxHeartbeats 4000000 in
set_option maxRecDepth 100000 in
theorem tL_sameBytes_2 {l : Launch} {g : Gx} {b o : Nat} {p0 : Int} {p1 : Int} {M : Mm} (hC : Tt l yX3_sameBytes cX3_sameBytes 3 (some .boolean) rmTX3_sameBytes g b [.ref (adr b 0 0), .int (jI p0), .int (jI p1)] M 2) : Lt l yL_sameBytes cL_sameBytes 5 hhL_sameBytes rmL_sameBytes g b o [.ref (adr b 0 0), .int (jI p0), .int (jI p1), .ref o] M (OLp g b o) 2 M (fun H => ∃ x, OL g o x H) := by
  refine lt_of (by decide +kernel) (Nat.le_of_ble_eq_true rfl) ?_
  intro p e s m args below meth c C0 hTH hNP hPre hTab hR ls hl
  obtain ⟨hx, hb, hr, hlocks, hml, hown, hts, hK⟩ := id C0
  have hS : va_S (AA b s.heap.size) s.heap s.heap [] := va_S.rf
  have hl : lv_has ls 5 [(0, .ref (adr b 0 0)), (1, .int (jI p0)), (2, .int (jI p1)), (3, .ref o)] := hl
  obtain ⟨H, hH⟩ : ∃ z, z = s.heap := ⟨_, rfl⟩
  obtain ⟨locs, hlo⟩ : ∃ z : List Loc, z = [] := ⟨_, rfl⟩
  have hR : Rel g b M H := by rw [hH]; exact hR
  have hS : va_S (AA b s.heap.size) s.heap H locs := by rw [hH, hlo]; exact hS
  obtain ⟨⟨x0, hO⟩, hA⟩ := hPre
  suffices hW : W p l e rmL_sameBytes s m args below meth c H locs 0 0 (vx_MQ below (wqI g b 2 M (fun H => ∃ x, OL g o x H) o s.heap.size) noX args s 1 6 (AO b o s.heap.size)) (F0 m 0 ls []) by rw [hH, hlo] at hW; exact hW
  refine lv_aload_n hx hb dL_sameBytes_0 rfl (lv_at hl 3 rfl) ?_
  refine lv_iconst hx hb (v := jI 0) dL_sameBytes_1 rfl ?_
  refine lv_aload_n hx hb dL_sameBytes_2 rfl (lv_at hl 0 rfl) ?_
  refine lv_iload_n hx hb dL_sameBytes_3 rfl (lv_at hl 1 rfl) ?_
  refine lv_iload_n hx hb dL_sameBytes_4 rfl (lv_at hl 2 rfl) ?_
  refine x_tC (As := [.int (jI p0), .int (jI p1)]) (rest := [.int (jI 0), .ref o]) hx hb hml hown hts hK hTH hR hS hC wd909 wd910 wd911 wd1 wd912 hyL_sameBytes ⟨rfl, rfl⟩ ⟨Nat.le_trans (Nat.succ_le_succ (Nat.le_max_right _ _)) (Nat.le_refl _), Nat.add_le_add_left (Nat.le_max_right _ _) _⟩ hl.1 (Nat.le_of_ble_eq_true rfl) dL_sameBytes_5 ⟨Nat.le_refl _, Nat.le_refl _⟩ rfl ?_
  intro H1 locs1 q ce hR hS1 hce hcv hcl
  have hS := AO_S (o := o) hS1
  refine vx_catch (name := exN 2) hown [⟨0, 17, 20, 13⟩] ⟨0, 17, 24, 15⟩ [] hTab (by intro z hz; simp only [List.mem_cons, List.not_mem_nil, or_false] at hz; rcases hz with rfl; exact Or.inr ⟨by decide, exN 1, hts _ wd178, hNP.1⟩) (by decide +kernel) (by decide) (hts _ wd179) hTH.2.2.2.1 hce hcv hcl ?_
  refine lv_astore hx hb dL_sameBytes_24 hl (by decide) rfl ?_
  intro ls1 hl1
  refine lv_iconst hx hb (v := jI 2) dL_sameBytes_26 rfl ?_
  exact x_wend hx hb hlocks hK hR ⟨x0, hO.kept (hS1.2.1 o (Array.getElem?_eq_some_iff.mp hO.choose_spec.1).1 hA)⟩ hS hr (Nat.le_refl _) (Nat.le_refl _) dL_sameBytes_27
abbrev rmL_lookup : Room := { frames := max rmX3_lookup.frames rmTX3_lookup.frames + 1, cells := 1, slots := 6, locals := 8 + (4 + 11) + max rmX3_lookup.locals rmTX3_lookup.locals }
abbrev hhL_lookup : List (Nat × Nat × Nat × Nat) := [(0, 10, 13, 13), (0, 10, 17, 15), (0, 10, 21, 17)]
theorem hyL_lookup : yX3_lookup.cls = RX3 ∧ yX3_lookup.cls ≠ "java/lang/invoke/MethodHandle" ∧ yX3_lookup.cls ≠ "java/lang/invoke/VarHandle" ∧ (parseMethodDescriptor yX3_lookup.desc).map (fun d => d.parameters.length) = some 2 := by decide +kernel
set_option maxHeartbeats 4000000 in
set_option maxRecDepth 100000 in
theorem nL_lookup {l : Launch} {g : Gx} {b o : Nat} {p0 : Int} {p1 : Int} {M M' : Mm} {r : Int} (hC : Ct l yX3_lookup cX3_lookup 4 (some .int) rmX3_lookup g b [.ref (adr b 0 0), .int (jI p0), .int (jI p1)] M (qI g b r M')) : Lt l yL_lookup cL_lookup 5 hhL_lookup rmL_lookup g b o [.ref (adr b 0 0), .int (jI p0), .int (jI p1), .ref o] M (OLp g b o) 0 M' (OL g o (jI r).toInt64) := by
  refine lt_of (by decide +kernel) (Nat.le_of_ble_eq_true rfl) ?_
  intro p e s m args below meth c C0 hTH hNP hPre hTab hR ls hl
  obtain ⟨hx, hb, hr, hlocks, hml, hown, hts, hK⟩ := id C0
  have hS : va_S (AA b s.heap.size) s.heap s.heap [] := va_S.rf
  have hl : lv_has ls 5 [(0, .ref (adr b 0 0)), (1, .int (jI p0)), (2, .int (jI p1)), (3, .ref o)] := hl
  obtain ⟨H, hH⟩ : ∃ z, z = s.heap := ⟨_, rfl⟩
  obtain ⟨locs, hlo⟩ : ∃ z : List Loc, z = [] := ⟨_, rfl⟩
  have hR : Rel g b M H := by rw [hH]; exact hR
  have hS : va_S (AA b s.heap.size) s.heap H locs := by rw [hH, hlo]; exact hS
  obtain ⟨⟨x0, hO⟩, hA⟩ := hPre
  suffices hW : W p l e rmL_lookup s m args below meth c H locs 0 0 (vx_MQ below (wqI g b 0 M' (OL g o (jI r).toInt64) o s.heap.size) noX args s 1 6 (AO b o s.heap.size)) (F0 m 0 ls []) by rw [hH, hlo] at hW; exact hW
  refine lv_aload_n hx hb dL_lookup_0 rfl (lv_at hl 3 rfl) ?_
  refine lv_iconst hx hb (v := jI 0) dL_lookup_1 rfl ?_
  refine lv_aload_n hx hb dL_lookup_2 rfl (lv_at hl 0 rfl) ?_
  refine lv_iload_n hx hb dL_lookup_3 rfl (lv_at hl 1 rfl) ?_
  refine lv_iload_n hx hb dL_lookup_4 rfl (lv_at hl 2 rfl) ?_
  refine x_cVi (As := [.int (jI p0), .int (jI p1)]) (rest := [.int (jI 0), .ref o]) hx hb hml hown hts hK hR hS hC ok0 rfl (ci := 3) (C := RX3) (T := TX3) (N := 9) rfl wd921 wd922 wd923 wd1 wd924 hyL_lookup ⟨rfl, rfl⟩ ⟨Nat.le_trans (Nat.succ_le_succ (Nat.le_max_left _ _)) (Nat.le_refl _), Nat.add_le_add_left (Nat.le_max_left _ _) _⟩ hl.1 (Nat.le_of_ble_eq_true rfl) dL_lookup_5 ⟨Nat.zero_le _, Nat.zero_le _⟩ rfl ?_
  intro hr0 H1 locs1 hR hS1
  have hO1 : ∃ x, OL g o x H1 := ⟨x0, hO.kept (hS1.2.1 o (Array.getElem?_eq_some_iff.mp hO.choose_spec.1).1 hA)⟩
  have hS := AO_S (o := o) hS1
  refine lv_i2l hx hb dL_lookup_8 rfl ?_
  refine x_wst hx hb hK hR hO1 hA hS dL_lookup_9 ?_
  intro H2 locs2 hR hO2 hS
  refine lv_goto (tgt := 25) hx hb dL_lookup_10 rfl ?_
  refine lv_iconst hx hb (v := jI 0) dL_lookup_25 rfl ?_
  exact x_wend hx hb hlocks hK hR hO2 hS hr (Nat.zero_le _) (Nat.zero_le _) dL_lookup_26
set_option maxHeartbeats 4000000 in
set_option maxRecDepth 100000 in
theorem tL_lookup_1 {l : Launch} {g : Gx} {b o : Nat} {p0 : Int} {p1 : Int} {M : Mm} (hC : Tt l yX3_lookup cX3_lookup 4 (some .int) rmTX3_lookup g b [.ref (adr b 0 0), .int (jI p0), .int (jI p1)] M 1) : Lt l yL_lookup cL_lookup 5 hhL_lookup rmL_lookup g b o [.ref (adr b 0 0), .int (jI p0), .int (jI p1), .ref o] M (OLp g b o) 1 M (fun H => ∃ x, OL g o x H) := by
  refine lt_of (by decide +kernel) (Nat.le_of_ble_eq_true rfl) ?_
  intro p e s m args below meth c C0 hTH hNP hPre hTab hR ls hl
  obtain ⟨hx, hb, hr, hlocks, hml, hown, hts, hK⟩ := id C0
  have hS : va_S (AA b s.heap.size) s.heap s.heap [] := va_S.rf
  have hl : lv_has ls 5 [(0, .ref (adr b 0 0)), (1, .int (jI p0)), (2, .int (jI p1)), (3, .ref o)] := hl
  obtain ⟨H, hH⟩ : ∃ z, z = s.heap := ⟨_, rfl⟩
  obtain ⟨locs, hlo⟩ : ∃ z : List Loc, z = [] := ⟨_, rfl⟩
  have hR : Rel g b M H := by rw [hH]; exact hR
  have hS : va_S (AA b s.heap.size) s.heap H locs := by rw [hH, hlo]; exact hS
  obtain ⟨⟨x0, hO⟩, hA⟩ := hPre
  suffices hW : W p l e rmL_lookup s m args below meth c H locs 0 0 (vx_MQ below (wqI g b 1 M (fun H => ∃ x, OL g o x H) o s.heap.size) noX args s 1 6 (AO b o s.heap.size)) (F0 m 0 ls []) by rw [hH, hlo] at hW; exact hW
  refine lv_aload_n hx hb dL_lookup_0 rfl (lv_at hl 3 rfl) ?_
  refine lv_iconst hx hb (v := jI 0) dL_lookup_1 rfl ?_
  refine lv_aload_n hx hb dL_lookup_2 rfl (lv_at hl 0 rfl) ?_
  refine lv_iload_n hx hb dL_lookup_3 rfl (lv_at hl 1 rfl) ?_
  refine lv_iload_n hx hb dL_lookup_4 rfl (lv_at hl 2 rfl) ?_
  refine x_tC (As := [.int (jI p0), .int (jI p1)]) (rest := [.int (jI 0), .ref o]) hx hb hml hown hts hK hTH hR hS hC wd921 wd922 wd923 wd1 wd924 hyL_lookup ⟨rfl, rfl⟩ ⟨Nat.le_trans (Nat.succ_le_succ (Nat.le_max_right _ _)) (Nat.le_refl _), Nat.add_le_add_left (Nat.le_max_right _ _) _⟩ hl.1 (Nat.le_of_ble_eq_true rfl) dL_lookup_5 ⟨Nat.le_refl _, Nat.le_refl _⟩ rfl ?_
  intro H1 locs1 q ce hR hS1 hce hcv hcl
  have hS := AO_S (o := o) hS1
  refine vx_catch (name := exN 1) hown [] ⟨0, 10, 13, 13⟩ [⟨0, 10, 17, 15⟩, ⟨0, 10, 21, 17⟩] hTab (fun z hz => by cases hz) (by decide +kernel) (by decide) (hts _ wd178) hTH.2.2.1 hce hcv hcl ?_
  refine lv_astore hx hb dL_lookup_13 hl (by decide) rfl ?_
  intro ls1 hl1
  refine lv_iconst hx hb (v := jI 1) dL_lookup_15 rfl ?_
  exact x_wend hx hb hlocks hK hR ⟨x0, hO.kept (hS1.2.1 o (Array.getElem?_eq_some_iff.mp hO.choose_spec.1).1 hA)⟩ hS hr (Nat.le_refl _) (Nat.le_refl _) dL_lookup_16
set_option maxHeartbeats 4000000 in
set_option maxRecDepth 100000 in
theorem tL_lookup_2 {l : Launch} {g : Gx} {b o : Nat} {p0 : Int} {p1 : Int} {M : Mm} (hC : Tt l yX3_lookup cX3_lookup 4 (some .int) rmTX3_lookup g b [.ref (adr b 0 0), .int (jI p0), .int (jI p1)] M 2) : Lt l yL_lookup cL_lookup 5 hhL_lookup rmL_lookup g b o [.ref (adr b 0 0), .int (jI p0), .int (jI p1), .ref o] M (OLp g b o) 2 M (fun H => ∃ x, OL g o x H) := by
  refine lt_of (by decide +kernel) (Nat.le_of_ble_eq_true rfl) ?_
  intro p e s m args below meth c C0 hTH hNP hPre hTab hR ls hl
  obtain ⟨hx, hb, hr, hlocks, hml, hown, hts, hK⟩ := id C0
  have hS : va_S (AA b s.heap.size) s.heap s.heap [] := va_S.rf
  have hl : lv_has ls 5 [(0, .ref (adr b 0 0)), (1, .int (jI p0)), (2, .int (jI p1)), (3, .ref o)] := hl
  obtain ⟨H, hH⟩ : ∃ z, z = s.heap := ⟨_, rfl⟩
  obtain ⟨locs, hlo⟩ : ∃ z : List Loc, z = [] := ⟨_, rfl⟩
  have hR : Rel g b M H := by rw [hH]; exact hR
  have hS : va_S (AA b s.heap.size) s.heap H locs := by rw [hH, hlo]; exact hS
  obtain ⟨⟨x0, hO⟩, hA⟩ := hPre
  suffices hW : W p l e rmL_lookup s m args below meth c H locs 0 0 (vx_MQ below (wqI g b 2 M (fun H => ∃ x, OL g o x H) o s.heap.size) noX args s 1 6 (AO b o s.heap.size)) (F0 m 0 ls []) by rw [hH, hlo] at hW; exact hW
  refine lv_aload_n hx hb dL_lookup_0 rfl (lv_at hl 3 rfl) ?_
  refine lv_iconst hx hb (v := jI 0) dL_lookup_1 rfl ?_
  refine lv_aload_n hx hb dL_lookup_2 rfl (lv_at hl 0 rfl) ?_
  refine lv_iload_n hx hb dL_lookup_3 rfl (lv_at hl 1 rfl) ?_
  refine lv_iload_n hx hb dL_lookup_4 rfl (lv_at hl 2 rfl) ?_
  refine x_tC (As := [.int (jI p0), .int (jI p1)]) (rest := [.int (jI 0), .ref o]) hx hb hml hown hts hK hTH hR hS hC wd921 wd922 wd923 wd1 wd924 hyL_lookup ⟨rfl, rfl⟩ ⟨Nat.le_trans (Nat.succ_le_succ (Nat.le_max_right _ _)) (Nat.le_refl _), Nat.add_le_add_left (Nat.le_max_right _ _) _⟩ hl.1 (Nat.le_of_ble_eq_true rfl) dL_lookup_5 ⟨Nat.le_refl _, Nat.le_refl _⟩ rfl ?_
  intro H1 locs1 q ce hR hS1 hce hcv hcl
  have hS := AO_S (o := o) hS1
  refine vx_catch (name := exN 2) hown [⟨0, 10, 13, 13⟩] ⟨0, 10, 17, 15⟩ [⟨0, 10, 21, 17⟩] hTab (by intro z hz; simp only [List.mem_cons, List.not_mem_nil, or_false] at hz; rcases hz with rfl; exact Or.inr ⟨by decide, exN 1, hts _ wd178, hNP.1⟩) (by decide +kernel) (by decide) (hts _ wd179) hTH.2.2.2.1 hce hcv hcl ?_
  refine lv_astore hx hb dL_lookup_17 hl (by decide) rfl ?_
  intro ls1 hl1
  refine lv_iconst hx hb (v := jI 2) dL_lookup_19 rfl ?_
  exact x_wend hx hb hlocks hK hR ⟨x0, hO.kept (hS1.2.1 o (Array.getElem?_eq_some_iff.mp hO.choose_spec.1).1 hA)⟩ hS hr (Nat.le_refl _) (Nat.le_refl _) dL_lookup_20
set_option maxHeartbeats 4000000 in
set_option maxRecDepth 100000 in
theorem tL_lookup_3 {l : Launch} {g : Gx} {b o : Nat} {p0 : Int} {p1 : Int} {M : Mm} (hC : Tt l yX3_lookup cX3_lookup 4 (some .int) rmTX3_lookup g b [.ref (adr b 0 0), .int (jI p0), .int (jI p1)] M 3) : Lt l yL_lookup cL_lookup 5 hhL_lookup rmL_lookup g b o [.ref (adr b 0 0), .int (jI p0), .int (jI p1), .ref o] M (OLp g b o) 3 M (fun H => ∃ x, OL g o x H) := by
  refine lt_of (by decide +kernel) (Nat.le_of_ble_eq_true rfl) ?_
  intro p e s m args below meth c C0 hTH hNP hPre hTab hR ls hl
  obtain ⟨hx, hb, hr, hlocks, hml, hown, hts, hK⟩ := id C0
  have hS : va_S (AA b s.heap.size) s.heap s.heap [] := va_S.rf
  have hl : lv_has ls 5 [(0, .ref (adr b 0 0)), (1, .int (jI p0)), (2, .int (jI p1)), (3, .ref o)] := hl
  obtain ⟨H, hH⟩ : ∃ z, z = s.heap := ⟨_, rfl⟩
  obtain ⟨locs, hlo⟩ : ∃ z : List Loc, z = [] := ⟨_, rfl⟩
  have hR : Rel g b M H := by rw [hH]; exact hR
  have hS : va_S (AA b s.heap.size) s.heap H locs := by rw [hH, hlo]; exact hS
  obtain ⟨⟨x0, hO⟩, hA⟩ := hPre
  suffices hW : W p l e rmL_lookup s m args below meth c H locs 0 0 (vx_MQ below (wqI g b 3 M (fun H => ∃ x, OL g o x H) o s.heap.size) noX args s 1 6 (AO b o s.heap.size)) (F0 m 0 ls []) by rw [hH, hlo] at hW; exact hW
  refine lv_aload_n hx hb dL_lookup_0 rfl (lv_at hl 3 rfl) ?_
  refine lv_iconst hx hb (v := jI 0) dL_lookup_1 rfl ?_
  refine lv_aload_n hx hb dL_lookup_2 rfl (lv_at hl 0 rfl) ?_
  refine lv_iload_n hx hb dL_lookup_3 rfl (lv_at hl 1 rfl) ?_
  refine lv_iload_n hx hb dL_lookup_4 rfl (lv_at hl 2 rfl) ?_
  refine x_tC (As := [.int (jI p0), .int (jI p1)]) (rest := [.int (jI 0), .ref o]) hx hb hml hown hts hK hTH hR hS hC wd921 wd922 wd923 wd1 wd924 hyL_lookup ⟨rfl, rfl⟩ ⟨Nat.le_trans (Nat.succ_le_succ (Nat.le_max_right _ _)) (Nat.le_refl _), Nat.add_le_add_left (Nat.le_max_right _ _) _⟩ hl.1 (Nat.le_of_ble_eq_true rfl) dL_lookup_5 ⟨Nat.le_refl _, Nat.le_refl _⟩ rfl ?_
  intro H1 locs1 q ce hR hS1 hce hcv hcl
  have hS := AO_S (o := o) hS1
  refine vx_catch (name := exN 3) hown [⟨0, 10, 13, 13⟩, ⟨0, 10, 17, 15⟩] ⟨0, 10, 21, 17⟩ [] hTab (by
      intro z hz
      simp only [List.mem_cons, List.not_mem_nil, or_false] at hz
      rcases hz with rfl | rfl
      · exact Or.inr ⟨by decide, exN 1, hts _ wd178, hNP.2.1⟩
      · exact Or.inr ⟨by decide, exN 2, hts _ wd179, hNP.2.2⟩) (by decide +kernel) (by decide) (hts _ wd180) hTH.2.2.2.2.1 hce hcv hcl ?_
  refine lv_astore hx hb dL_lookup_21 hl (by decide) rfl ?_
  intro ls1 hl1
  refine lv_iconst hx hb (v := jI 3) dL_lookup_23 rfl ?_
  exact x_wend hx hb hlocks hK hR ⟨x0, hO.kept (hS1.2.1 o (Array.getElem?_eq_some_iff.mp hO.choose_spec.1).1 hA)⟩ hS hr (Nat.le_refl _) (Nat.le_refl _) dL_lookup_24
abbrev rmL_follow : Room := { frames := max rmX3_follow.frames rmTX3_follow.frames + 1, cells := 1, slots := 6, locals := 8 + (3 + 11) + max rmX3_follow.locals rmTX3_follow.locals }
abbrev hhL_follow : List (Nat × Nat × Nat × Nat) := [(0, 10, 13, 13), (0, 10, 17, 15), (0, 10, 21, 17)]
theorem hyL_follow : yX3_follow.cls = RX3 ∧ yX3_follow.cls ≠ "java/lang/invoke/MethodHandle" ∧ yX3_follow.cls ≠ "java/lang/invoke/VarHandle" ∧ (parseMethodDescriptor yX3_follow.desc).map (fun d => d.parameters.length) = some 2 := by decide +kernel
set_option maxHeartbeats 4000000 in
set_option maxRecDepth 100000 in
theorem nL_follow {l : Launch} {g : Gx} {b o : Nat} {p0 : Int} {p1 : Int} {M M' : Mm} {r : Int} (hC : Ct l yX3_follow cX3_follow 3 (some .int) rmX3_follow g b [.ref (adr b 0 0), .int (jI p0), .int (jI p1)] M (qI g b r M')) : Lt l yL_follow cL_follow 5 hhL_follow rmL_follow g b o [.ref (adr b 0 0), .int (jI p0), .int (jI p1), .ref o] M (OLp g b o) 0 M' (OL g o (jI r).toInt64) := by
  refine lt_of (by decide +kernel) (Nat.le_of_ble_eq_true rfl) ?_
  intro p e s m args below meth c C0 hTH hNP hPre hTab hR ls hl
  obtain ⟨hx, hb, hr, hlocks, hml, hown, hts, hK⟩ := id C0
  have hS : va_S (AA b s.heap.size) s.heap s.heap [] := va_S.rf
  have hl : lv_has ls 5 [(0, .ref (adr b 0 0)), (1, .int (jI p0)), (2, .int (jI p1)), (3, .ref o)] := hl
  obtain ⟨H, hH⟩ : ∃ z, z = s.heap := ⟨_, rfl⟩
  obtain ⟨locs, hlo⟩ : ∃ z : List Loc, z = [] := ⟨_, rfl⟩
  have hR : Rel g b M H := by rw [hH]; exact hR
  have hS : va_S (AA b s.heap.size) s.heap H locs := by rw [hH, hlo]; exact hS
  obtain ⟨⟨x0, hO⟩, hA⟩ := hPre
  suffices hW : W p l e rmL_follow s m args below meth c H locs 0 0 (vx_MQ below (wqI g b 0 M' (OL g o (jI r).toInt64) o s.heap.size) noX args s 1 6 (AO b o s.heap.size)) (F0 m 0 ls []) by rw [hH, hlo] at hW; exact hW
  refine lv_aload_n hx hb dL_follow_0 rfl (lv_at hl 3 rfl) ?_
  refine lv_iconst hx hb (v := jI 0) dL_follow_1 rfl ?_
  refine lv_aload_n hx hb dL_follow_2 rfl (lv_at hl 0 rfl) ?_
  refine lv_iload_n hx hb dL_follow_3 rfl (lv_at hl 1 rfl) ?_
  refine lv_iload_n hx hb dL_follow_4 rfl (lv_at hl 2 rfl) ?_
  refine x_cVi (As := [.int (jI p0), .int (jI p1)]) (rest := [.int (jI 0), .ref o]) hx hb hml hown hts hK hR hS hC ok0 rfl (ci := 3) (C := RX3) (T := TX3) (N := 9) rfl wd928 wd929 wd930 wd1 wd931 hyL_follow ⟨rfl, rfl⟩ ⟨Nat.le_trans (Nat.succ_le_succ (Nat.le_max_left _ _)) (Nat.le_refl _), Nat.add_le_add_left (Nat.le_max_left _ _) _⟩ hl.1 (Nat.le_of_ble_eq_true rfl) dL_follow_5 ⟨Nat.zero_le _, Nat.zero_le _⟩ rfl ?_
  intro hr0 H1 locs1 hR hS1
  have hO1 : ∃ x, OL g o x H1 := ⟨x0, hO.kept (hS1.2.1 o (Array.getElem?_eq_some_iff.mp hO.choose_spec.1).1 hA)⟩
  have hS := AO_S (o := o) hS1
  refine lv_i2l hx hb dL_follow_8 rfl ?_
  refine x_wst hx hb hK hR hO1 hA hS dL_follow_9 ?_
  intro H2 locs2 hR hO2 hS
  refine lv_goto (tgt := 25) hx hb dL_follow_10 rfl ?_
  refine lv_iconst hx hb (v := jI 0) dL_follow_25 rfl ?_
  exact x_wend hx hb hlocks hK hR hO2 hS hr (Nat.zero_le _) (Nat.zero_le _) dL_follow_26
set_option maxHeartbeats 4000000 in
set_option maxRecDepth 100000 in
theorem tL_follow_1 {l : Launch} {g : Gx} {b o : Nat} {p0 : Int} {p1 : Int} {M : Mm} (hC : Tt l yX3_follow cX3_follow 3 (some .int) rmTX3_follow g b [.ref (adr b 0 0), .int (jI p0), .int (jI p1)] M 1) : Lt l yL_follow cL_follow 5 hhL_follow rmL_follow g b o [.ref (adr b 0 0), .int (jI p0), .int (jI p1), .ref o] M (OLp g b o) 1 M (fun H => ∃ x, OL g o x H) := by
  refine lt_of (by decide +kernel) (Nat.le_of_ble_eq_true rfl) ?_
  intro p e s m args below meth c C0 hTH hNP hPre hTab hR ls hl
  obtain ⟨hx, hb, hr, hlocks, hml, hown, hts, hK⟩ := id C0
  have hS : va_S (AA b s.heap.size) s.heap s.heap [] := va_S.rf
  have hl : lv_has ls 5 [(0, .ref (adr b 0 0)), (1, .int (jI p0)), (2, .int (jI p1)), (3, .ref o)] := hl
  obtain ⟨H, hH⟩ : ∃ z, z = s.heap := ⟨_, rfl⟩
  obtain ⟨locs, hlo⟩ : ∃ z : List Loc, z = [] := ⟨_, rfl⟩
  have hR : Rel g b M H := by rw [hH]; exact hR
  have hS : va_S (AA b s.heap.size) s.heap H locs := by rw [hH, hlo]; exact hS
  obtain ⟨⟨x0, hO⟩, hA⟩ := hPre
  suffices hW : W p l e rmL_follow s m args below meth c H locs 0 0 (vx_MQ below (wqI g b 1 M (fun H => ∃ x, OL g o x H) o s.heap.size) noX args s 1 6 (AO b o s.heap.size)) (F0 m 0 ls []) by rw [hH, hlo] at hW; exact hW
  refine lv_aload_n hx hb dL_follow_0 rfl (lv_at hl 3 rfl) ?_
  refine lv_iconst hx hb (v := jI 0) dL_follow_1 rfl ?_
  refine lv_aload_n hx hb dL_follow_2 rfl (lv_at hl 0 rfl) ?_
  refine lv_iload_n hx hb dL_follow_3 rfl (lv_at hl 1 rfl) ?_
  refine lv_iload_n hx hb dL_follow_4 rfl (lv_at hl 2 rfl) ?_
  refine x_tC (As := [.int (jI p0), .int (jI p1)]) (rest := [.int (jI 0), .ref o]) hx hb hml hown hts hK hTH hR hS hC wd928 wd929 wd930 wd1 wd931 hyL_follow ⟨rfl, rfl⟩ ⟨Nat.le_trans (Nat.succ_le_succ (Nat.le_max_right _ _)) (Nat.le_refl _), Nat.add_le_add_left (Nat.le_max_right _ _) _⟩ hl.1 (Nat.le_of_ble_eq_true rfl) dL_follow_5 ⟨Nat.le_refl _, Nat.le_refl _⟩ rfl ?_
  intro H1 locs1 q ce hR hS1 hce hcv hcl
  have hS := AO_S (o := o) hS1
  refine vx_catch (name := exN 1) hown [] ⟨0, 10, 13, 13⟩ [⟨0, 10, 17, 15⟩, ⟨0, 10, 21, 17⟩] hTab (fun z hz => by cases hz) (by decide +kernel) (by decide) (hts _ wd178) hTH.2.2.1 hce hcv hcl ?_
  refine lv_astore hx hb dL_follow_13 hl (by decide) rfl ?_
  intro ls1 hl1
  refine lv_iconst hx hb (v := jI 1) dL_follow_15 rfl ?_
  exact x_wend hx hb hlocks hK hR ⟨x0, hO.kept (hS1.2.1 o (Array.getElem?_eq_some_iff.mp hO.choose_spec.1).1 hA)⟩ hS hr (Nat.le_refl _) (Nat.le_refl _) dL_follow_16
set_option maxHeartbeats 4000000 in
set_option maxRecDepth 100000 in
theorem tL_follow_2 {l : Launch} {g : Gx} {b o : Nat} {p0 : Int} {p1 : Int} {M : Mm} (hC : Tt l yX3_follow cX3_follow 3 (some .int) rmTX3_follow g b [.ref (adr b 0 0), .int (jI p0), .int (jI p1)] M 2) : Lt l yL_follow cL_follow 5 hhL_follow rmL_follow g b o [.ref (adr b 0 0), .int (jI p0), .int (jI p1), .ref o] M (OLp g b o) 2 M (fun H => ∃ x, OL g o x H) := by
  refine lt_of (by decide +kernel) (Nat.le_of_ble_eq_true rfl) ?_
  intro p e s m args below meth c C0 hTH hNP hPre hTab hR ls hl
  obtain ⟨hx, hb, hr, hlocks, hml, hown, hts, hK⟩ := id C0
  have hS : va_S (AA b s.heap.size) s.heap s.heap [] := va_S.rf
  have hl : lv_has ls 5 [(0, .ref (adr b 0 0)), (1, .int (jI p0)), (2, .int (jI p1)), (3, .ref o)] := hl
  obtain ⟨H, hH⟩ : ∃ z, z = s.heap := ⟨_, rfl⟩
  obtain ⟨locs, hlo⟩ : ∃ z : List Loc, z = [] := ⟨_, rfl⟩
  have hR : Rel g b M H := by rw [hH]; exact hR
  have hS : va_S (AA b s.heap.size) s.heap H locs := by rw [hH, hlo]; exact hS
  obtain ⟨⟨x0, hO⟩, hA⟩ := hPre
  suffices hW : W p l e rmL_follow s m args below meth c H locs 0 0 (vx_MQ below (wqI g b 2 M (fun H => ∃ x, OL g o x H) o s.heap.size) noX args s 1 6 (AO b o s.heap.size)) (F0 m 0 ls []) by rw [hH, hlo] at hW; exact hW
  refine lv_aload_n hx hb dL_follow_0 rfl (lv_at hl 3 rfl) ?_
  refine lv_iconst hx hb (v := jI 0) dL_follow_1 rfl ?_
  refine lv_aload_n hx hb dL_follow_2 rfl (lv_at hl 0 rfl) ?_
  refine lv_iload_n hx hb dL_follow_3 rfl (lv_at hl 1 rfl) ?_
  refine lv_iload_n hx hb dL_follow_4 rfl (lv_at hl 2 rfl) ?_
  refine x_tC (As := [.int (jI p0), .int (jI p1)]) (rest := [.int (jI 0), .ref o]) hx hb hml hown hts hK hTH hR hS hC wd928 wd929 wd930 wd1 wd931 hyL_follow ⟨rfl, rfl⟩ ⟨Nat.le_trans (Nat.succ_le_succ (Nat.le_max_right _ _)) (Nat.le_refl _), Nat.add_le_add_left (Nat.le_max_right _ _) _⟩ hl.1 (Nat.le_of_ble_eq_true rfl) dL_follow_5 ⟨Nat.le_refl _, Nat.le_refl _⟩ rfl ?_
  intro H1 locs1 q ce hR hS1 hce hcv hcl
  have hS := AO_S (o := o) hS1
  refine vx_catch (name := exN 2) hown [⟨0, 10, 13, 13⟩] ⟨0, 10, 17, 15⟩ [⟨0, 10, 21, 17⟩] hTab (by intro z hz; simp only [List.mem_cons, List.not_mem_nil, or_false] at hz; rcases hz with rfl; exact Or.inr ⟨by decide, exN 1, hts _ wd178, hNP.1⟩) (by decide +kernel) (by decide) (hts _ wd179) hTH.2.2.2.1 hce hcv hcl ?_
  refine lv_astore hx hb dL_follow_17 hl (by decide) rfl ?_
  intro ls1 hl1
  refine lv_iconst hx hb (v := jI 2) dL_follow_19 rfl ?_
  exact x_wend hx hb hlocks hK hR ⟨x0, hO.kept (hS1.2.1 o (Array.getElem?_eq_some_iff.mp hO.choose_spec.1).1 hA)⟩ hS hr (Nat.le_refl _) (Nat.le_refl _) dL_follow_20
set_option maxHeartbeats 4000000 in
set_option maxRecDepth 100000 in
theorem tL_follow_3 {l : Launch} {g : Gx} {b o : Nat} {p0 : Int} {p1 : Int} {M : Mm} (hC : Tt l yX3_follow cX3_follow 3 (some .int) rmTX3_follow g b [.ref (adr b 0 0), .int (jI p0), .int (jI p1)] M 3) : Lt l yL_follow cL_follow 5 hhL_follow rmL_follow g b o [.ref (adr b 0 0), .int (jI p0), .int (jI p1), .ref o] M (OLp g b o) 3 M (fun H => ∃ x, OL g o x H) := by
  refine lt_of (by decide +kernel) (Nat.le_of_ble_eq_true rfl) ?_
  intro p e s m args below meth c C0 hTH hNP hPre hTab hR ls hl
  obtain ⟨hx, hb, hr, hlocks, hml, hown, hts, hK⟩ := id C0
  have hS : va_S (AA b s.heap.size) s.heap s.heap [] := va_S.rf
  have hl : lv_has ls 5 [(0, .ref (adr b 0 0)), (1, .int (jI p0)), (2, .int (jI p1)), (3, .ref o)] := hl
  obtain ⟨H, hH⟩ : ∃ z, z = s.heap := ⟨_, rfl⟩
  obtain ⟨locs, hlo⟩ : ∃ z : List Loc, z = [] := ⟨_, rfl⟩
  have hR : Rel g b M H := by rw [hH]; exact hR
  have hS : va_S (AA b s.heap.size) s.heap H locs := by rw [hH, hlo]; exact hS
  obtain ⟨⟨x0, hO⟩, hA⟩ := hPre
  suffices hW : W p l e rmL_follow s m args below meth c H locs 0 0 (vx_MQ below (wqI g b 3 M (fun H => ∃ x, OL g o x H) o s.heap.size) noX args s 1 6 (AO b o s.heap.size)) (F0 m 0 ls []) by rw [hH, hlo] at hW; exact hW
  refine lv_aload_n hx hb dL_follow_0 rfl (lv_at hl 3 rfl) ?_
  refine lv_iconst hx hb (v := jI 0) dL_follow_1 rfl ?_
  refine lv_aload_n hx hb dL_follow_2 rfl (lv_at hl 0 rfl) ?_
  refine lv_iload_n hx hb dL_follow_3 rfl (lv_at hl 1 rfl) ?_
  refine lv_iload_n hx hb dL_follow_4 rfl (lv_at hl 2 rfl) ?_
  refine x_tC (As := [.int (jI p0), .int (jI p1)]) (rest := [.int (jI 0), .ref o]) hx hb hml hown hts hK hTH hR hS hC wd928 wd929 wd930 wd1 wd931 hyL_follow ⟨rfl, rfl⟩ ⟨Nat.le_trans (Nat.succ_le_succ (Nat.le_max_right _ _)) (Nat.le_refl _), Nat.add_le_add_left (Nat.le_max_right _ _) _⟩ hl.1 (Nat.le_of_ble_eq_true rfl) dL_follow_5 ⟨Nat.le_refl _, Nat.le_refl _⟩ rfl ?_
  intro H1 locs1 q ce hR hS1 hce hcv hcl
  have hS := AO_S (o := o) hS1
  refine vx_catch (name := exN 3) hown [⟨0, 10, 13, 13⟩, ⟨0, 10, 17, 15⟩] ⟨0, 10, 21, 17⟩ [] hTab (by
      intro z hz
      simp only [List.mem_cons, List.not_mem_nil, or_false] at hz
      rcases hz with rfl | rfl
      · exact Or.inr ⟨by decide, exN 1, hts _ wd178, hNP.2.1⟩
      · exact Or.inr ⟨by decide, exN 2, hts _ wd179, hNP.2.2⟩) (by decide +kernel) (by decide) (hts _ wd180) hTH.2.2.2.2.1 hce hcv hcl ?_
  refine lv_astore hx hb dL_follow_21 hl (by decide) rfl ?_
  intro ls1 hl1
  refine lv_iconst hx hb (v := jI 3) dL_follow_23 rfl ?_
  exact x_wend hx hb hlocks hK hR ⟨x0, hO.kept (hS1.2.1 o (Array.getElem?_eq_some_iff.mp hO.choose_spec.1).1 hA)⟩ hS hr (Nat.le_refl _) (Nat.le_refl _) dL_follow_24
abbrev rmL_nameAt : Room := { frames := max rmX3_nameAt.frames rmTX3_nameAt.frames + 1, cells := 1, slots := 6, locals := 8 + (3 + 11) + max rmX3_nameAt.locals rmTX3_nameAt.locals }
abbrev hhL_nameAt : List (Nat × Nat × Nat × Nat) := [(0, 10, 13, 13), (0, 10, 17, 15)]
theorem hyL_nameAt : yX3_nameAt.cls = RX3 ∧ yX3_nameAt.cls ≠ "java/lang/invoke/MethodHandle" ∧ yX3_nameAt.cls ≠ "java/lang/invoke/VarHandle" ∧ (parseMethodDescriptor yX3_nameAt.desc).map (fun d => d.parameters.length) = some 2 := by decide +kernel
set_option maxHeartbeats 4000000 in
set_option maxRecDepth 100000 in
theorem nL_nameAt {l : Launch} {g : Gx} {b o : Nat} {p0 : Int} {p1 : Int} {M M' : Mm} {r : Int} (hC : Ct l yX3_nameAt cX3_nameAt 3 (some .int) rmX3_nameAt g b [.ref (adr b 0 0), .int (jI p0), .int (jI p1)] M (qI g b r M')) : Lt l yL_nameAt cL_nameAt 5 hhL_nameAt rmL_nameAt g b o [.ref (adr b 0 0), .int (jI p0), .int (jI p1), .ref o] M (OLp g b o) 0 M' (OL g o (jI r).toInt64) := by
  refine lt_of (by decide +kernel) (Nat.le_of_ble_eq_true rfl) ?_
  intro p e s m args below meth c C0 hTH hNP hPre hTab hR ls hl
  obtain ⟨hx, hb, hr, hlocks, hml, hown, hts, hK⟩ := id C0
  have hS : va_S (AA b s.heap.size) s.heap s.heap [] := va_S.rf
  have hl : lv_has ls 5 [(0, .ref (adr b 0 0)), (1, .int (jI p0)), (2, .int (jI p1)), (3, .ref o)] := hl
  obtain ⟨H, hH⟩ : ∃ z, z = s.heap := ⟨_, rfl⟩
  obtain ⟨locs, hlo⟩ : ∃ z : List Loc, z = [] := ⟨_, rfl⟩
  have hR : Rel g b M H := by rw [hH]; exact hR
  have hS : va_S (AA b s.heap.size) s.heap H locs := by rw [hH, hlo]; exact hS
  obtain ⟨⟨x0, hO⟩, hA⟩ := hPre
  suffices hW : W p l e rmL_nameAt s m args below meth c H locs 0 0 (vx_MQ below (wqI g b 0 M' (OL g o (jI r).toInt64) o s.heap.size) noX args s 1 6 (AO b o s.heap.size)) (F0 m 0 ls []) by rw [hH, hlo] at hW; exact hW
  refine lv_aload_n hx hb dL_nameAt_0 rfl (lv_at hl 3 rfl) ?_
  refine lv_iconst hx hb (v := jI 0) dL_nameAt_1 rfl ?_
  refine lv_aload_n hx hb dL_nameAt_2 rfl (lv_at hl 0 rfl) ?_
  refine lv_iload_n hx hb dL_nameAt_3 rfl (lv_at hl 1 rfl) ?_
  refine lv_iload_n hx hb dL_nameAt_4 rfl (lv_at hl 2 rfl) ?_
  refine x_cVi (As := [.int (jI p0), .int (jI p1)]) (rest := [.int (jI 0), .ref o]) hx hb hml hown hts hK hR hS hC ok0 rfl (ci := 3) (C := RX3) (T := TX3) (N := 9) rfl wd944 wd945 wd946 wd1 wd947 hyL_nameAt ⟨rfl, rfl⟩ ⟨Nat.le_trans (Nat.succ_le_succ (Nat.le_max_left _ _)) (Nat.le_refl _), Nat.add_le_add_left (Nat.le_max_left _ _) _⟩ hl.1 (Nat.le_of_ble_eq_true rfl) dL_nameAt_5 ⟨Nat.zero_le _, Nat.zero_le _⟩ rfl ?_
  intro hr0 H1 locs1 hR hS1
  have hO1 : ∃ x, OL g o x H1 := ⟨x0, hO.kept (hS1.2.1 o (Array.getElem?_eq_some_iff.mp hO.choose_spec.1).1 hA)⟩
  have hS := AO_S (o := o) hS1
  refine lv_i2l hx hb dL_nameAt_8 rfl ?_
  refine x_wst hx hb hK hR hO1 hA hS dL_nameAt_9 ?_
  intro H2 locs2 hR hO2 hS
  refine lv_goto (tgt := 21) hx hb dL_nameAt_10 rfl ?_
  refine lv_iconst hx hb (v := jI 0) dL_nameAt_21 rfl ?_
  exact x_wend hx hb hlocks hK hR hO2 hS hr (Nat.zero_le _) (Nat.zero_le _) dL_nameAt_22
set_option maxHeartbeats 4000000 in
set_option maxRecDepth 100000 in
theorem tL_nameAt_1 {l : Launch} {g : Gx} {b o : Nat} {p0 : Int} {p1 : Int} {M : Mm} (hC : Tt l yX3_nameAt cX3_nameAt 3 (some .int) rmTX3_nameAt g b [.ref (adr b 0 0), .int (jI p0), .int (jI p1)] M 1) : Lt l yL_nameAt cL_nameAt 5 hhL_nameAt rmL_nameAt g b o [.ref (adr b 0 0), .int (jI p0), .int (jI p1), .ref o] M (OLp g b o) 1 M (fun H => ∃ x, OL g o x H) := by
  refine lt_of (by decide +kernel) (Nat.le_of_ble_eq_true rfl) ?_
  intro p e s m args below meth c C0 hTH hNP hPre hTab hR ls hl
  obtain ⟨hx, hb, hr, hlocks, hml, hown, hts, hK⟩ := id C0
  have hS : va_S (AA b s.heap.size) s.heap s.heap [] := va_S.rf
  have hl : lv_has ls 5 [(0, .ref (adr b 0 0)), (1, .int (jI p0)), (2, .int (jI p1)), (3, .ref o)] := hl
  obtain ⟨H, hH⟩ : ∃ z, z = s.heap := ⟨_, rfl⟩
  obtain ⟨locs, hlo⟩ : ∃ z : List Loc, z = [] := ⟨_, rfl⟩
  have hR : Rel g b M H := by rw [hH]; exact hR
  have hS : va_S (AA b s.heap.size) s.heap H locs := by rw [hH, hlo]; exact hS
  obtain ⟨⟨x0, hO⟩, hA⟩ := hPre
  suffices hW : W p l e rmL_nameAt s m args below meth c H locs 0 0 (vx_MQ below (wqI g b 1 M (fun H => ∃ x, OL g o x H) o s.heap.size) noX args s 1 6 (AO b o s.heap.size)) (F0 m 0 ls []) by rw [hH, hlo] at hW; exact hW
  refine lv_aload_n hx hb dL_nameAt_0 rfl (lv_at hl 3 rfl) ?_
  refine lv_iconst hx hb (v := jI 0) dL_nameAt_1 rfl ?_
  refine lv_aload_n hx hb dL_nameAt_2 rfl (lv_at hl 0 rfl) ?_
  refine lv_iload_n hx hb dL_nameAt_3 rfl (lv_at hl 1 rfl) ?_
  refine lv_iload_n hx hb dL_nameAt_4 rfl (lv_at hl 2 rfl) ?_
  refine x_tC (As := [.int (jI p0), .int (jI p1)]) (rest := [.int (jI 0), .ref o]) hx hb hml hown hts hK hTH hR hS hC wd944 wd945 wd946 wd1 wd947 hyL_nameAt ⟨rfl, rfl⟩ ⟨Nat.le_trans (Nat.succ_le_succ (Nat.le_max_right _ _)) (Nat.le_refl _), Nat.add_le_add_left (Nat.le_max_right _ _) _⟩ hl.1 (Nat.le_of_ble_eq_true rfl) dL_nameAt_5 ⟨Nat.le_refl _, Nat.le_refl _⟩ rfl ?_
  intro H1 locs1 q ce hR hS1 hce hcv hcl
  have hS := AO_S (o := o) hS1
  refine vx_catch (name := exN 1) hown [] ⟨0, 10, 13, 13⟩ [⟨0, 10, 17, 15⟩] hTab (fun z hz => by cases hz) (by decide +kernel) (by decide) (hts _ wd178) hTH.2.2.1 hce hcv hcl ?_
  refine lv_astore hx hb dL_nameAt_13 hl (by decide) rfl ?_
  intro ls1 hl1
  refine lv_iconst hx hb (v := jI 1) dL_nameAt_15 rfl ?_
  exact x_wend hx hb hlocks hK hR ⟨x0, hO.kept (hS1.2.1 o (Array.getElem?_eq_some_iff.mp hO.choose_spec.1).1 hA)⟩ hS hr (Nat.le_refl _) (Nat.le_refl _) dL_nameAt_16
set_option maxHeartbeats 4000000 in
set_option maxRecDepth 100000 in
theorem tL_nameAt_2 {l : Launch} {g : Gx} {b o : Nat} {p0 : Int} {p1 : Int} {M : Mm} (hC : Tt l yX3_nameAt cX3_nameAt 3 (some .int) rmTX3_nameAt g b [.ref (adr b 0 0), .int (jI p0), .int (jI p1)] M 2) : Lt l yL_nameAt cL_nameAt 5 hhL_nameAt rmL_nameAt g b o [.ref (adr b 0 0), .int (jI p0), .int (jI p1), .ref o] M (OLp g b o) 2 M (fun H => ∃ x, OL g o x H) := by
  refine lt_of (by decide +kernel) (Nat.le_of_ble_eq_true rfl) ?_
  intro p e s m args below meth c C0 hTH hNP hPre hTab hR ls hl
  obtain ⟨hx, hb, hr, hlocks, hml, hown, hts, hK⟩ := id C0
  have hS : va_S (AA b s.heap.size) s.heap s.heap [] := va_S.rf
  have hl : lv_has ls 5 [(0, .ref (adr b 0 0)), (1, .int (jI p0)), (2, .int (jI p1)), (3, .ref o)] := hl
  obtain ⟨H, hH⟩ : ∃ z, z = s.heap := ⟨_, rfl⟩
  obtain ⟨locs, hlo⟩ : ∃ z : List Loc, z = [] := ⟨_, rfl⟩
  have hR : Rel g b M H := by rw [hH]; exact hR
  have hS : va_S (AA b s.heap.size) s.heap H locs := by rw [hH, hlo]; exact hS
  obtain ⟨⟨x0, hO⟩, hA⟩ := hPre
  suffices hW : W p l e rmL_nameAt s m args below meth c H locs 0 0 (vx_MQ below (wqI g b 2 M (fun H => ∃ x, OL g o x H) o s.heap.size) noX args s 1 6 (AO b o s.heap.size)) (F0 m 0 ls []) by rw [hH, hlo] at hW; exact hW
  refine lv_aload_n hx hb dL_nameAt_0 rfl (lv_at hl 3 rfl) ?_
  refine lv_iconst hx hb (v := jI 0) dL_nameAt_1 rfl ?_
  refine lv_aload_n hx hb dL_nameAt_2 rfl (lv_at hl 0 rfl) ?_
  refine lv_iload_n hx hb dL_nameAt_3 rfl (lv_at hl 1 rfl) ?_
  refine lv_iload_n hx hb dL_nameAt_4 rfl (lv_at hl 2 rfl) ?_
  refine x_tC (As := [.int (jI p0), .int (jI p1)]) (rest := [.int (jI 0), .ref o]) hx hb hml hown hts hK hTH hR hS hC wd944 wd945 wd946 wd1 wd947 hyL_nameAt ⟨rfl, rfl⟩ ⟨Nat.le_trans (Nat.succ_le_succ (Nat.le_max_right _ _)) (Nat.le_refl _), Nat.add_le_add_left (Nat.le_max_right _ _) _⟩ hl.1 (Nat.le_of_ble_eq_true rfl) dL_nameAt_5 ⟨Nat.le_refl _, Nat.le_refl _⟩ rfl ?_
  intro H1 locs1 q ce hR hS1 hce hcv hcl
  have hS := AO_S (o := o) hS1
  refine vx_catch (name := exN 2) hown [⟨0, 10, 13, 13⟩] ⟨0, 10, 17, 15⟩ [] hTab (by intro z hz; simp only [List.mem_cons, List.not_mem_nil, or_false] at hz; rcases hz with rfl; exact Or.inr ⟨by decide, exN 1, hts _ wd178, hNP.1⟩) (by decide +kernel) (by decide) (hts _ wd179) hTH.2.2.2.1 hce hcv hcl ?_
  refine lv_astore hx hb dL_nameAt_17 hl (by decide) rfl ?_
  intro ls1 hl1
  refine lv_iconst hx hb (v := jI 2) dL_nameAt_19 rfl ?_
  exact x_wend hx hb hlocks hK hR ⟨x0, hO.kept (hS1.2.1 o (Array.getElem?_eq_some_iff.mp hO.choose_spec.1).1 hA)⟩ hS hr (Nat.le_refl _) (Nat.le_refl _) dL_nameAt_20
abbrev rmL_parentOf : Room := { frames := max rmX3_parentOf.frames rmTX3_parentOf.frames + 1, cells := 1, slots := 6, locals := 8 + (2 + 11) + max rmX3_parentOf.locals rmTX3_parentOf.locals }
abbrev hhL_parentOf : List (Nat × Nat × Nat × Nat) := [(0, 9, 12, 13), (0, 9, 15, 15)]
theorem hyL_parentOf : yX3_parentOf.cls = RX3 ∧ yX3_parentOf.cls ≠ "java/lang/invoke/MethodHandle" ∧ yX3_parentOf.cls ≠ "java/lang/invoke/VarHandle" ∧ (parseMethodDescriptor yX3_parentOf.desc).map (fun d => d.parameters.length) = some 1 := by decide +kernel
set_option maxHeartbeats 4000000 in
set_option maxRecDepth 100000 in
theorem nL_parentOf {l : Launch} {g : Gx} {b o : Nat} {p0 : Int} {M M' : Mm} {r : Int} (hC : Ct l yX3_parentOf cX3_parentOf 2 (some .int) rmX3_parentOf g b [.ref (adr b 0 0), .int (jI p0)] M (qI g b r M')) : Lt l yL_parentOf cL_parentOf 4 hhL_parentOf rmL_parentOf g b o [.ref (adr b 0 0), .int (jI p0), .ref o] M (OLp g b o) 0 M' (OL g o (jI r).toInt64) := by
  refine lt_of (by decide +kernel) (Nat.le_of_ble_eq_true rfl) ?_
  intro p e s m args below meth c C0 hTH hNP hPre hTab hR ls hl
  obtain ⟨hx, hb, hr, hlocks, hml, hown, hts, hK⟩ := id C0
  have hS : va_S (AA b s.heap.size) s.heap s.heap [] := va_S.rf
  have hl : lv_has ls 4 [(0, .ref (adr b 0 0)), (1, .int (jI p0)), (2, .ref o)] := hl
  obtain ⟨H, hH⟩ : ∃ z, z = s.heap := ⟨_, rfl⟩
  obtain ⟨locs, hlo⟩ : ∃ z : List Loc, z = [] := ⟨_, rfl⟩
  have hR : Rel g b M H := by rw [hH]; exact hR
  have hS : va_S (AA b s.heap.size) s.heap H locs := by rw [hH, hlo]; exact hS
  obtain ⟨⟨x0, hO⟩, hA⟩ := hPre
  suffices hW : W p l e rmL_parentOf s m args below meth c H locs 0 0 (vx_MQ below (wqI g b 0 M' (OL g o (jI r).toInt64) o s.heap.size) noX args s 1 6 (AO b o s.heap.size)) (F0 m 0 ls []) by rw [hH, hlo] at hW; exact hW
  refine lv_aload_n hx hb dL_parentOf_0 rfl (lv_at hl 2 rfl) ?_
  refine lv_iconst hx hb (v := jI 0) dL_parentOf_1 rfl ?_
  refine lv_aload_n hx hb dL_parentOf_2 rfl (lv_at hl 0 rfl) ?_
  refine lv_iload_n hx hb dL_parentOf_3 rfl (lv_at hl 1 rfl) ?_
  refine x_cVi (As := [.int (jI p0)]) (rest := [.int (jI 0), .ref o]) hx hb hml hown hts hK hR hS hC ok0 rfl (ci := 3) (C := RX3) (T := TX3) (N := 9) rfl wd955 wd956 wd957 wd1 wd958 hyL_parentOf ⟨rfl, rfl⟩ ⟨Nat.le_trans (Nat.succ_le_succ (Nat.le_max_left _ _)) (Nat.le_refl _), Nat.add_le_add_left (Nat.le_max_left _ _) _⟩ hl.1 (Nat.le_of_ble_eq_true rfl) dL_parentOf_4 ⟨Nat.zero_le _, Nat.zero_le _⟩ rfl ?_
  intro hr0 H1 locs1 hR hS1
  have hO1 : ∃ x, OL g o x H1 := ⟨x0, hO.kept (hS1.2.1 o (Array.getElem?_eq_some_iff.mp hO.choose_spec.1).1 hA)⟩
  have hS := AO_S (o := o) hS1
  refine lv_i2l hx hb dL_parentOf_7 rfl ?_
  refine x_wst hx hb hK hR hO1 hA hS dL_parentOf_8 ?_
  intro H2 locs2 hR hO2 hS
  refine lv_goto (tgt := 18) hx hb dL_parentOf_9 rfl ?_
  refine lv_iconst hx hb (v := jI 0) dL_parentOf_18 rfl ?_
  exact x_wend hx hb hlocks hK hR hO2 hS hr (Nat.zero_le _) (Nat.zero_le _) dL_parentOf_19
set_option maxHeartbeats 4000000 in
set_option maxRecDepth 100000 in
theorem tL_parentOf_1 {l : Launch} {g : Gx} {b o : Nat} {p0 : Int} {M : Mm} (hC : Tt l yX3_parentOf cX3_parentOf 2 (some .int) rmTX3_parentOf g b [.ref (adr b 0 0), .int (jI p0)] M 1) : Lt l yL_parentOf cL_parentOf 4 hhL_parentOf rmL_parentOf g b o [.ref (adr b 0 0), .int (jI p0), .ref o] M (OLp g b o) 1 M (fun H => ∃ x, OL g o x H) := by
  refine lt_of (by decide +kernel) (Nat.le_of_ble_eq_true rfl) ?_
  intro p e s m args below meth c C0 hTH hNP hPre hTab hR ls hl
  obtain ⟨hx, hb, hr, hlocks, hml, hown, hts, hK⟩ := id C0
  have hS : va_S (AA b s.heap.size) s.heap s.heap [] := va_S.rf
  have hl : lv_has ls 4 [(0, .ref (adr b 0 0)), (1, .int (jI p0)), (2, .ref o)] := hl
  obtain ⟨H, hH⟩ : ∃ z, z = s.heap := ⟨_, rfl⟩
  obtain ⟨locs, hlo⟩ : ∃ z : List Loc, z = [] := ⟨_, rfl⟩
  have hR : Rel g b M H := by rw [hH]; exact hR
  have hS : va_S (AA b s.heap.size) s.heap H locs := by rw [hH, hlo]; exact hS
  obtain ⟨⟨x0, hO⟩, hA⟩ := hPre
  suffices hW : W p l e rmL_parentOf s m args below meth c H locs 0 0 (vx_MQ below (wqI g b 1 M (fun H => ∃ x, OL g o x H) o s.heap.size) noX args s 1 6 (AO b o s.heap.size)) (F0 m 0 ls []) by rw [hH, hlo] at hW; exact hW
  refine lv_aload_n hx hb dL_parentOf_0 rfl (lv_at hl 2 rfl) ?_
  refine lv_iconst hx hb (v := jI 0) dL_parentOf_1 rfl ?_
  refine lv_aload_n hx hb dL_parentOf_2 rfl (lv_at hl 0 rfl) ?_
  refine lv_iload_n hx hb dL_parentOf_3 rfl (lv_at hl 1 rfl) ?_
  refine x_tC (As := [.int (jI p0)]) (rest := [.int (jI 0), .ref o]) hx hb hml hown hts hK hTH hR hS hC wd955 wd956 wd957 wd1 wd958 hyL_parentOf ⟨rfl, rfl⟩ ⟨Nat.le_trans (Nat.succ_le_succ (Nat.le_max_right _ _)) (Nat.le_refl _), Nat.add_le_add_left (Nat.le_max_right _ _) _⟩ hl.1 (Nat.le_of_ble_eq_true rfl) dL_parentOf_4 ⟨Nat.le_refl _, Nat.le_refl _⟩ rfl ?_
  intro H1 locs1 q ce hR hS1 hce hcv hcl
  have hS := AO_S (o := o) hS1
  refine vx_catch (name := exN 1) hown [] ⟨0, 9, 12, 13⟩ [⟨0, 9, 15, 15⟩] hTab (fun z hz => by cases hz) (by decide +kernel) (by decide) (hts _ wd178) hTH.2.2.1 hce hcv hcl ?_
  refine lv_astore_n hx hb dL_parentOf_12 rfl hl (by decide) rfl ?_
  intro ls1 hl1
  refine lv_iconst hx hb (v := jI 1) dL_parentOf_13 rfl ?_
  exact x_wend hx hb hlocks hK hR ⟨x0, hO.kept (hS1.2.1 o (Array.getElem?_eq_some_iff.mp hO.choose_spec.1).1 hA)⟩ hS hr (Nat.le_refl _) (Nat.le_refl _) dL_parentOf_14
set_option maxHeartbeats 4000000 in
set_option maxRecDepth 100000 in
theorem tL_parentOf_2 {l : Launch} {g : Gx} {b o : Nat} {p0 : Int} {M : Mm} (hC : Tt l yX3_parentOf cX3_parentOf 2 (some .int) rmTX3_parentOf g b [.ref (adr b 0 0), .int (jI p0)] M 2) : Lt l yL_parentOf cL_parentOf 4 hhL_parentOf rmL_parentOf g b o [.ref (adr b 0 0), .int (jI p0), .ref o] M (OLp g b o) 2 M (fun H => ∃ x, OL g o x H) := by
  refine lt_of (by decide +kernel) (Nat.le_of_ble_eq_true rfl) ?_
  intro p e s m args below meth c C0 hTH hNP hPre hTab hR ls hl
  obtain ⟨hx, hb, hr, hlocks, hml, hown, hts, hK⟩ := id C0
  have hS : va_S (AA b s.heap.size) s.heap s.heap [] := va_S.rf
  have hl : lv_has ls 4 [(0, .ref (adr b 0 0)), (1, .int (jI p0)), (2, .ref o)] := hl
  obtain ⟨H, hH⟩ : ∃ z, z = s.heap := ⟨_, rfl⟩
  obtain ⟨locs, hlo⟩ : ∃ z : List Loc, z = [] := ⟨_, rfl⟩
  have hR : Rel g b M H := by rw [hH]; exact hR
  have hS : va_S (AA b s.heap.size) s.heap H locs := by rw [hH, hlo]; exact hS
  obtain ⟨⟨x0, hO⟩, hA⟩ := hPre
  suffices hW : W p l e rmL_parentOf s m args below meth c H locs 0 0 (vx_MQ below (wqI g b 2 M (fun H => ∃ x, OL g o x H) o s.heap.size) noX args s 1 6 (AO b o s.heap.size)) (F0 m 0 ls []) by rw [hH, hlo] at hW; exact hW
  refine lv_aload_n hx hb dL_parentOf_0 rfl (lv_at hl 2 rfl) ?_
  refine lv_iconst hx hb (v := jI 0) dL_parentOf_1 rfl ?_
  refine lv_aload_n hx hb dL_parentOf_2 rfl (lv_at hl 0 rfl) ?_
  refine lv_iload_n hx hb dL_parentOf_3 rfl (lv_at hl 1 rfl) ?_
  refine x_tC (As := [.int (jI p0)]) (rest := [.int (jI 0), .ref o]) hx hb hml hown hts hK hTH hR hS hC wd955 wd956 wd957 wd1 wd958 hyL_parentOf ⟨rfl, rfl⟩ ⟨Nat.le_trans (Nat.succ_le_succ (Nat.le_max_right _ _)) (Nat.le_refl _), Nat.add_le_add_left (Nat.le_max_right _ _) _⟩ hl.1 (Nat.le_of_ble_eq_true rfl) dL_parentOf_4 ⟨Nat.le_refl _, Nat.le_refl _⟩ rfl ?_
  intro H1 locs1 q ce hR hS1 hce hcv hcl
  have hS := AO_S (o := o) hS1
  refine vx_catch (name := exN 2) hown [⟨0, 9, 12, 13⟩] ⟨0, 9, 15, 15⟩ [] hTab (by intro z hz; simp only [List.mem_cons, List.not_mem_nil, or_false] at hz; rcases hz with rfl; exact Or.inr ⟨by decide, exN 1, hts _ wd178, hNP.1⟩) (by decide +kernel) (by decide) (hts _ wd179) hTH.2.2.2.1 hce hcv hcl ?_
  refine lv_astore_n hx hb dL_parentOf_15 rfl hl (by decide) rfl ?_
  intro ls1 hl1
  refine lv_iconst hx hb (v := jI 2) dL_parentOf_16 rfl ?_
  exact x_wend hx hb hlocks hK hR ⟨x0, hO.kept (hS1.2.1 o (Array.getElem?_eq_some_iff.mp hO.choose_spec.1).1 hA)⟩ hS hr (Nat.le_refl _) (Nat.le_refl _) dL_parentOf_17
abbrev rmL_depthOf : Room := { frames := max rmX3_depthOf.frames rmTX3_depthOf.frames + 1, cells := 1, slots := 6, locals := 8 + (2 + 11) + max rmX3_depthOf.locals rmTX3_depthOf.locals }
abbrev hhL_depthOf : List (Nat × Nat × Nat × Nat) := [(0, 9, 12, 13), (0, 9, 15, 15)]
theorem hyL_depthOf : yX3_depthOf.cls = RX3 ∧ yX3_depthOf.cls ≠ "java/lang/invoke/MethodHandle" ∧ yX3_depthOf.cls ≠ "java/lang/invoke/VarHandle" ∧ (parseMethodDescriptor yX3_depthOf.desc).map (fun d => d.parameters.length) = some 1 := by decide +kernel
set_option maxHeartbeats 4000000 in
set_option maxRecDepth 100000 in
theorem nL_depthOf {l : Launch} {g : Gx} {b o : Nat} {p0 : Int} {M M' : Mm} {r : Int} (hC : Ct l yX3_depthOf cX3_depthOf 2 (some .int) rmX3_depthOf g b [.ref (adr b 0 0), .int (jI p0)] M (qI g b r M')) : Lt l yL_depthOf cL_depthOf 4 hhL_depthOf rmL_depthOf g b o [.ref (adr b 0 0), .int (jI p0), .ref o] M (OLp g b o) 0 M' (OL g o (jI r).toInt64) := by
  refine lt_of (by decide +kernel) (Nat.le_of_ble_eq_true rfl) ?_
  intro p e s m args below meth c C0 hTH hNP hPre hTab hR ls hl
  obtain ⟨hx, hb, hr, hlocks, hml, hown, hts, hK⟩ := id C0
  have hS : va_S (AA b s.heap.size) s.heap s.heap [] := va_S.rf
  have hl : lv_has ls 4 [(0, .ref (adr b 0 0)), (1, .int (jI p0)), (2, .ref o)] := hl
  obtain ⟨H, hH⟩ : ∃ z, z = s.heap := ⟨_, rfl⟩
  obtain ⟨locs, hlo⟩ : ∃ z : List Loc, z = [] := ⟨_, rfl⟩
  have hR : Rel g b M H := by rw [hH]; exact hR
  have hS : va_S (AA b s.heap.size) s.heap H locs := by rw [hH, hlo]; exact hS
  obtain ⟨⟨x0, hO⟩, hA⟩ := hPre
  suffices hW : W p l e rmL_depthOf s m args below meth c H locs 0 0 (vx_MQ below (wqI g b 0 M' (OL g o (jI r).toInt64) o s.heap.size) noX args s 1 6 (AO b o s.heap.size)) (F0 m 0 ls []) by rw [hH, hlo] at hW; exact hW
  refine lv_aload_n hx hb dL_depthOf_0 rfl (lv_at hl 2 rfl) ?_
  refine lv_iconst hx hb (v := jI 0) dL_depthOf_1 rfl ?_
  refine lv_aload_n hx hb dL_depthOf_2 rfl (lv_at hl 0 rfl) ?_
  refine lv_iload_n hx hb dL_depthOf_3 rfl (lv_at hl 1 rfl) ?_
  refine x_cVi (As := [.int (jI p0)]) (rest := [.int (jI 0), .ref o]) hx hb hml hown hts hK hR hS hC ok0 rfl (ci := 3) (C := RX3) (T := TX3) (N := 9) rfl wd962 wd963 wd964 wd1 wd965 hyL_depthOf ⟨rfl, rfl⟩ ⟨Nat.le_trans (Nat.succ_le_succ (Nat.le_max_left _ _)) (Nat.le_refl _), Nat.add_le_add_left (Nat.le_max_left _ _) _⟩ hl.1 (Nat.le_of_ble_eq_true rfl) dL_depthOf_4 ⟨Nat.zero_le _, Nat.zero_le _⟩ rfl ?_
  intro hr0 H1 locs1 hR hS1
  have hO1 : ∃ x, OL g o x H1 := ⟨x0, hO.kept (hS1.2.1 o (Array.getElem?_eq_some_iff.mp hO.choose_spec.1).1 hA)⟩
  have hS := AO_S (o := o) hS1
  refine lv_i2l hx hb dL_depthOf_7 rfl ?_
  refine x_wst hx hb hK hR hO1 hA hS dL_depthOf_8 ?_
  intro H2 locs2 hR hO2 hS
  refine lv_goto (tgt := 18) hx hb dL_depthOf_9 rfl ?_
  refine lv_iconst hx hb (v := jI 0) dL_depthOf_18 rfl ?_
  exact x_wend hx hb hlocks hK hR hO2 hS hr (Nat.zero_le _) (Nat.zero_le _) dL_depthOf_19
set_option maxHeartbeats 4000000 in
set_option maxRecDepth 100000 in
theorem tL_depthOf_1 {l : Launch} {g : Gx} {b o : Nat} {p0 : Int} {M : Mm} (hC : Tt l yX3_depthOf cX3_depthOf 2 (some .int) rmTX3_depthOf g b [.ref (adr b 0 0), .int (jI p0)] M 1) : Lt l yL_depthOf cL_depthOf 4 hhL_depthOf rmL_depthOf g b o [.ref (adr b 0 0), .int (jI p0), .ref o] M (OLp g b o) 1 M (fun H => ∃ x, OL g o x H) := by
  refine lt_of (by decide +kernel) (Nat.le_of_ble_eq_true rfl) ?_
  intro p e s m args below meth c C0 hTH hNP hPre hTab hR ls hl
  obtain ⟨hx, hb, hr, hlocks, hml, hown, hts, hK⟩ := id C0
  have hS : va_S (AA b s.heap.size) s.heap s.heap [] := va_S.rf
  have hl : lv_has ls 4 [(0, .ref (adr b 0 0)), (1, .int (jI p0)), (2, .ref o)] := hl
  obtain ⟨H, hH⟩ : ∃ z, z = s.heap := ⟨_, rfl⟩
  obtain ⟨locs, hlo⟩ : ∃ z : List Loc, z = [] := ⟨_, rfl⟩
  have hR : Rel g b M H := by rw [hH]; exact hR
  have hS : va_S (AA b s.heap.size) s.heap H locs := by rw [hH, hlo]; exact hS
  obtain ⟨⟨x0, hO⟩, hA⟩ := hPre
  suffices hW : W p l e rmL_depthOf s m args below meth c H locs 0 0 (vx_MQ below (wqI g b 1 M (fun H => ∃ x, OL g o x H) o s.heap.size) noX args s 1 6 (AO b o s.heap.size)) (F0 m 0 ls []) by rw [hH, hlo] at hW; exact hW
  refine lv_aload_n hx hb dL_depthOf_0 rfl (lv_at hl 2 rfl) ?_
  refine lv_iconst hx hb (v := jI 0) dL_depthOf_1 rfl ?_
  refine lv_aload_n hx hb dL_depthOf_2 rfl (lv_at hl 0 rfl) ?_
  refine lv_iload_n hx hb dL_depthOf_3 rfl (lv_at hl 1 rfl) ?_
  refine x_tC (As := [.int (jI p0)]) (rest := [.int (jI 0), .ref o]) hx hb hml hown hts hK hTH hR hS hC wd962 wd963 wd964 wd1 wd965 hyL_depthOf ⟨rfl, rfl⟩ ⟨Nat.le_trans (Nat.succ_le_succ (Nat.le_max_right _ _)) (Nat.le_refl _), Nat.add_le_add_left (Nat.le_max_right _ _) _⟩ hl.1 (Nat.le_of_ble_eq_true rfl) dL_depthOf_4 ⟨Nat.le_refl _, Nat.le_refl _⟩ rfl ?_
  intro H1 locs1 q ce hR hS1 hce hcv hcl
  have hS := AO_S (o := o) hS1
  refine vx_catch (name := exN 1) hown [] ⟨0, 9, 12, 13⟩ [⟨0, 9, 15, 15⟩] hTab (fun z hz => by cases hz) (by decide +kernel) (by decide) (hts _ wd178) hTH.2.2.1 hce hcv hcl ?_
  refine lv_astore_n hx hb dL_depthOf_12 rfl hl (by decide) rfl ?_
  intro ls1 hl1
  refine lv_iconst hx hb (v := jI 1) dL_depthOf_13 rfl ?_
  exact x_wend hx hb hlocks hK hR ⟨x0, hO.kept (hS1.2.1 o (Array.getElem?_eq_some_iff.mp hO.choose_spec.1).1 hA)⟩ hS hr (Nat.le_refl _) (Nat.le_refl _) dL_depthOf_14
set_option maxHeartbeats 4000000 in
set_option maxRecDepth 100000 in
theorem tL_depthOf_2 {l : Launch} {g : Gx} {b o : Nat} {p0 : Int} {M : Mm} (hC : Tt l yX3_depthOf cX3_depthOf 2 (some .int) rmTX3_depthOf g b [.ref (adr b 0 0), .int (jI p0)] M 2) : Lt l yL_depthOf cL_depthOf 4 hhL_depthOf rmL_depthOf g b o [.ref (adr b 0 0), .int (jI p0), .ref o] M (OLp g b o) 2 M (fun H => ∃ x, OL g o x H) := by
  refine lt_of (by decide +kernel) (Nat.le_of_ble_eq_true rfl) ?_
  intro p e s m args below meth c C0 hTH hNP hPre hTab hR ls hl
  obtain ⟨hx, hb, hr, hlocks, hml, hown, hts, hK⟩ := id C0
  have hS : va_S (AA b s.heap.size) s.heap s.heap [] := va_S.rf
  have hl : lv_has ls 4 [(0, .ref (adr b 0 0)), (1, .int (jI p0)), (2, .ref o)] := hl
  obtain ⟨H, hH⟩ : ∃ z, z = s.heap := ⟨_, rfl⟩
  obtain ⟨locs, hlo⟩ : ∃ z : List Loc, z = [] := ⟨_, rfl⟩
  have hR : Rel g b M H := by rw [hH]; exact hR
  have hS : va_S (AA b s.heap.size) s.heap H locs := by rw [hH, hlo]; exact hS
  obtain ⟨⟨x0, hO⟩, hA⟩ := hPre
  suffices hW : W p l e rmL_depthOf s m args below meth c H locs 0 0 (vx_MQ below (wqI g b 2 M (fun H => ∃ x, OL g o x H) o s.heap.size) noX args s 1 6 (AO b o s.heap.size)) (F0 m 0 ls []) by rw [hH, hlo] at hW; exact hW
  refine lv_aload_n hx hb dL_depthOf_0 rfl (lv_at hl 2 rfl) ?_
  refine lv_iconst hx hb (v := jI 0) dL_depthOf_1 rfl ?_
  refine lv_aload_n hx hb dL_depthOf_2 rfl (lv_at hl 0 rfl) ?_
  refine lv_iload_n hx hb dL_depthOf_3 rfl (lv_at hl 1 rfl) ?_
  refine x_tC (As := [.int (jI p0)]) (rest := [.int (jI 0), .ref o]) hx hb hml hown hts hK hTH hR hS hC wd962 wd963 wd964 wd1 wd965 hyL_depthOf ⟨rfl, rfl⟩ ⟨Nat.le_trans (Nat.succ_le_succ (Nat.le_max_right _ _)) (Nat.le_refl _), Nat.add_le_add_left (Nat.le_max_right _ _) _⟩ hl.1 (Nat.le_of_ble_eq_true rfl) dL_depthOf_4 ⟨Nat.le_refl _, Nat.le_refl _⟩ rfl ?_
  intro H1 locs1 q ce hR hS1 hce hcv hcl
  have hS := AO_S (o := o) hS1
  refine vx_catch (name := exN 2) hown [⟨0, 9, 12, 13⟩] ⟨0, 9, 15, 15⟩ [] hTab (by intro z hz; simp only [List.mem_cons, List.not_mem_nil, or_false] at hz; rcases hz with rfl; exact Or.inr ⟨by decide, exN 1, hts _ wd178, hNP.1⟩) (by decide +kernel) (by decide) (hts _ wd179) hTH.2.2.2.1 hce hcv hcl ?_
  refine lv_astore_n hx hb dL_depthOf_15 rfl hl (by decide) rfl ?_
  intro ls1 hl1
  refine lv_iconst hx hb (v := jI 2) dL_depthOf_16 rfl ?_
  exact x_wend hx hb hlocks hK hR ⟨x0, hO.kept (hS1.2.1 o (Array.getElem?_eq_some_iff.mp hO.choose_spec.1).1 hA)⟩ hS hr (Nat.le_refl _) (Nat.le_refl _) dL_depthOf_17
abbrev rmL_isOrphan : Room := { frames := max rmX3_isOrphan.frames rmTX3_isOrphan.frames + 1, cells := 1, slots := 6, locals := 8 + (2 + 11) + max rmX3_isOrphan.locals rmTX3_isOrphan.locals }
abbrev hhL_isOrphan : List (Nat × Nat × Nat × Nat) := [(0, 16, 19, 13), (0, 16, 22, 15)]
theorem hyL_isOrphan : yX3_isOrphan.cls = RX3 ∧ yX3_isOrphan.cls ≠ "java/lang/invoke/MethodHandle" ∧ yX3_isOrphan.cls ≠ "java/lang/invoke/VarHandle" ∧ (parseMethodDescriptor yX3_isOrphan.desc).map (fun d => d.parameters.length) = some 1 := by decide +kernel
set_option maxHeartbeats 4000000 in
set_option maxRecDepth 100000 in
theorem nL_isOrphan {l : Launch} {g : Gx} {b o : Nat} {p0 : Int} {M M' : Mm} {r : Int} (hC : Ct l yX3_isOrphan cX3_isOrphan 2 (some .boolean) rmX3_isOrphan g b [.ref (adr b 0 0), .int (jI p0)] M (qI g b r M')) : Lt l yL_isOrphan cL_isOrphan 4 hhL_isOrphan rmL_isOrphan g b o [.ref (adr b 0 0), .int (jI p0), .ref o] M (OLp g b o) 0 M' (OL g o (if r = 0 then 0 else 1)) := by
  refine lt_of (by decide +kernel) (Nat.le_of_ble_eq_true rfl) ?_
  intro p e s m args below meth c C0 hTH hNP hPre hTab hR ls hl
  obtain ⟨hx, hb, hr, hlocks, hml, hown, hts, hK⟩ := id C0
  have hS : va_S (AA b s.heap.size) s.heap s.heap [] := va_S.rf
  have hl : lv_has ls 4 [(0, .ref (adr b 0 0)), (1, .int (jI p0)), (2, .ref o)] := hl
  obtain ⟨H, hH⟩ : ∃ z, z = s.heap := ⟨_, rfl⟩
  obtain ⟨locs, hlo⟩ : ∃ z : List Loc, z = [] := ⟨_, rfl⟩
  have hR : Rel g b M H := by rw [hH]; exact hR
  have hS : va_S (AA b s.heap.size) s.heap H locs := by rw [hH, hlo]; exact hS
  obtain ⟨⟨x0, hO⟩, hA⟩ := hPre
  suffices hW : W p l e rmL_isOrphan s m args below meth c H locs 0 0 (vx_MQ below (wqI g b 0 M' (OL g o (if r = 0 then 0 else 1)) o s.heap.size) noX args s 1 6 (AO b o s.heap.size)) (F0 m 0 ls []) by rw [hH, hlo] at hW; exact hW
  refine lv_aload_n hx hb dL_isOrphan_0 rfl (lv_at hl 2 rfl) ?_
  refine lv_iconst hx hb (v := jI 0) dL_isOrphan_1 rfl ?_
  refine lv_aload_n hx hb dL_isOrphan_2 rfl (lv_at hl 0 rfl) ?_
  refine lv_iload_n hx hb dL_isOrphan_3 rfl (lv_at hl 1 rfl) ?_
  refine x_cVi (As := [.int (jI p0)]) (rest := [.int (jI 0), .ref o]) hx hb hml hown hts hK hR hS hC ok0 rfl (ci := 3) (C := RX3) (T := TX3) (N := 9) rfl wd973 wd974 wd975 wd1 wd976 hyL_isOrphan ⟨rfl, rfl⟩ ⟨Nat.le_trans (Nat.succ_le_succ (Nat.le_max_left _ _)) (Nat.le_refl _), Nat.add_le_add_left (Nat.le_max_left _ _) _⟩ hl.1 (Nat.le_of_ble_eq_true rfl) dL_isOrphan_4 ⟨Nat.zero_le _, Nat.zero_le _⟩ rfl ?_
  intro hr0 H1 locs1 hR hS1
  have hO1 : ∃ x, OL g o x H1 := ⟨x0, hO.kept (hS1.2.1 o (Array.getElem?_eq_some_iff.mp hO.choose_spec.1).1 hA)⟩
  have hS := AO_S (o := o) hS1
  refine lv_if_eq (tgt := 14) hx hb dL_isOrphan_7 rfl (fun ci => ?_) (fun ci => ?_)
  · have c0 : r = 0 := (jI_eq hr0 rg_0).mp (ci.trans jI_0.symm)
    rw [if_pos c0]
    refine lv_lconst hx hb (v := 0) dL_isOrphan_14 rfl ?_
    refine x_wst hx hb hK hR hO1 hA hS dL_isOrphan_15 ?_
    intro H2 locs2 hR hO2 hS
    refine lv_goto (tgt := 25) hx hb dL_isOrphan_16 rfl ?_
    refine lv_iconst hx hb (v := jI 0) dL_isOrphan_25 rfl ?_
    exact x_wend hx hb hlocks hK hR hO2 hS hr (Nat.zero_le _) (Nat.zero_le _) dL_isOrphan_26
  · have c0 : ¬ r = 0 := fun z => ci (by rw [z]; exact jI_0)
    rw [if_neg c0]
    refine lv_lconst hx hb (v := 1) dL_isOrphan_10 rfl ?_
    refine lv_goto (tgt := 15) hx hb dL_isOrphan_11 rfl ?_
    refine x_wst hx hb hK hR hO1 hA hS dL_isOrphan_15 ?_
    intro H2 locs2 hR hO2 hS
    refine lv_goto (tgt := 25) hx hb dL_isOrphan_16 rfl ?_
    refine lv_iconst hx hb (v := jI 0) dL_isOrphan_25 rfl ?_
    exact x_wend hx hb hlocks hK hR hO2 hS hr (Nat.zero_le _) (Nat.zero_le _) dL_isOrphan_26
set_option maxHeartbeats 4000000 in
set_option maxRecDepth 100000 in
theorem tL_isOrphan_1 {l : Launch} {g : Gx} {b o : Nat} {p0 : Int} {M : Mm} (hC : Tt l yX3_isOrphan cX3_isOrphan 2 (some .boolean) rmTX3_isOrphan g b [.ref (adr b 0 0), .int (jI p0)] M 1) : Lt l yL_isOrphan cL_isOrphan 4 hhL_isOrphan rmL_isOrphan g b o [.ref (adr b 0 0), .int (jI p0), .ref o] M (OLp g b o) 1 M (fun H => ∃ x, OL g o x H) := by
  refine lt_of (by decide +kernel) (Nat.le_of_ble_eq_true rfl) ?_
  intro p e s m args below meth c C0 hTH hNP hPre hTab hR ls hl
  obtain ⟨hx, hb, hr, hlocks, hml, hown, hts, hK⟩ := id C0
  have hS : va_S (AA b s.heap.size) s.heap s.heap [] := va_S.rf
  have hl : lv_has ls 4 [(0, .ref (adr b 0 0)), (1, .int (jI p0)), (2, .ref o)] := hl
  obtain ⟨H, hH⟩ : ∃ z, z = s.heap := ⟨_, rfl⟩
  obtain ⟨locs, hlo⟩ : ∃ z : List Loc, z = [] := ⟨_, rfl⟩
  have hR : Rel g b M H := by rw [hH]; exact hR
  have hS : va_S (AA b s.heap.size) s.heap H locs := by rw [hH, hlo]; exact hS
  obtain ⟨⟨x0, hO⟩, hA⟩ := hPre
  suffices hW : W p l e rmL_isOrphan s m args below meth c H locs 0 0 (vx_MQ below (wqI g b 1 M (fun H => ∃ x, OL g o x H) o s.heap.size) noX args s 1 6 (AO b o s.heap.size)) (F0 m 0 ls []) by rw [hH, hlo] at hW; exact hW
  refine lv_aload_n hx hb dL_isOrphan_0 rfl (lv_at hl 2 rfl) ?_
  refine lv_iconst hx hb (v := jI 0) dL_isOrphan_1 rfl ?_
  refine lv_aload_n hx hb dL_isOrphan_2 rfl (lv_at hl 0 rfl) ?_
  refine lv_iload_n hx hb dL_isOrphan_3 rfl (lv_at hl 1 rfl) ?_
  refine x_tC (As := [.int (jI p0)]) (rest := [.int (jI 0), .ref o]) hx hb hml hown hts hK hTH hR hS hC wd973 wd974 wd975 wd1 wd976 hyL_isOrphan ⟨rfl, rfl⟩ ⟨Nat.le_trans (Nat.succ_le_succ (Nat.le_max_right _ _)) (Nat.le_refl _), Nat.add_le_add_left (Nat.le_max_right _ _) _⟩ hl.1 (Nat.le_of_ble_eq_true rfl) dL_isOrphan_4 ⟨Nat.le_refl _, Nat.le_refl _⟩ rfl ?_
  intro H1 locs1 q ce hR hS1 hce hcv hcl
  have hS := AO_S (o := o) hS1
  refine vx_catch (name := exN 1) hown [] ⟨0, 16, 19, 13⟩ [⟨0, 16, 22, 15⟩] hTab (fun z hz => by cases hz) (by decide +kernel) (by decide) (hts _ wd178) hTH.2.2.1 hce hcv hcl ?_
  refine lv_astore_n hx hb dL_isOrphan_19 rfl hl (by decide) rfl ?_
  intro ls1 hl1
  refine lv_iconst hx hb (v := jI 1) dL_isOrphan_20 rfl ?_
  exact x_wend hx hb hlocks hK hR ⟨x0, hO.kept (hS1.2.1 o (Array.getElem?_eq_some_iff.mp hO.choose_spec.1).1 hA)⟩ hS hr (Nat.le_refl _) (Nat.le_refl _) dL_isOrphan_21
set_option maxHeartbeats 4000000 in
set_option maxRecDepth 100000 in
theorem tL_isOrphan_2 {l : Launch} {g : Gx} {b o : Nat} {p0 : Int} {M : Mm} (hC : Tt l yX3_isOrphan cX3_isOrphan 2 (some .boolean) rmTX3_isOrphan g b [.ref (adr b 0 0), .int (jI p0)] M 2) : Lt l yL_isOrphan cL_isOrphan 4 hhL_isOrphan rmL_isOrphan g b o [.ref (adr b 0 0), .int (jI p0), .ref o] M (OLp g b o) 2 M (fun H => ∃ x, OL g o x H) := by
  refine lt_of (by decide +kernel) (Nat.le_of_ble_eq_true rfl) ?_
  intro p e s m args below meth c C0 hTH hNP hPre hTab hR ls hl
  obtain ⟨hx, hb, hr, hlocks, hml, hown, hts, hK⟩ := id C0
  have hS : va_S (AA b s.heap.size) s.heap s.heap [] := va_S.rf
  have hl : lv_has ls 4 [(0, .ref (adr b 0 0)), (1, .int (jI p0)), (2, .ref o)] := hl
  obtain ⟨H, hH⟩ : ∃ z, z = s.heap := ⟨_, rfl⟩
  obtain ⟨locs, hlo⟩ : ∃ z : List Loc, z = [] := ⟨_, rfl⟩
  have hR : Rel g b M H := by rw [hH]; exact hR
  have hS : va_S (AA b s.heap.size) s.heap H locs := by rw [hH, hlo]; exact hS
  obtain ⟨⟨x0, hO⟩, hA⟩ := hPre
  suffices hW : W p l e rmL_isOrphan s m args below meth c H locs 0 0 (vx_MQ below (wqI g b 2 M (fun H => ∃ x, OL g o x H) o s.heap.size) noX args s 1 6 (AO b o s.heap.size)) (F0 m 0 ls []) by rw [hH, hlo] at hW; exact hW
  refine lv_aload_n hx hb dL_isOrphan_0 rfl (lv_at hl 2 rfl) ?_
  refine lv_iconst hx hb (v := jI 0) dL_isOrphan_1 rfl ?_
  refine lv_aload_n hx hb dL_isOrphan_2 rfl (lv_at hl 0 rfl) ?_
  refine lv_iload_n hx hb dL_isOrphan_3 rfl (lv_at hl 1 rfl) ?_
  refine x_tC (As := [.int (jI p0)]) (rest := [.int (jI 0), .ref o]) hx hb hml hown hts hK hTH hR hS hC wd973 wd974 wd975 wd1 wd976 hyL_isOrphan ⟨rfl, rfl⟩ ⟨Nat.le_trans (Nat.succ_le_succ (Nat.le_max_right _ _)) (Nat.le_refl _), Nat.add_le_add_left (Nat.le_max_right _ _) _⟩ hl.1 (Nat.le_of_ble_eq_true rfl) dL_isOrphan_4 ⟨Nat.le_refl _, Nat.le_refl _⟩ rfl ?_
  intro H1 locs1 q ce hR hS1 hce hcv hcl
  have hS := AO_S (o := o) hS1
  refine vx_catch (name := exN 2) hown [⟨0, 16, 19, 13⟩] ⟨0, 16, 22, 15⟩ [] hTab (by intro z hz; simp only [List.mem_cons, List.not_mem_nil, or_false] at hz; rcases hz with rfl; exact Or.inr ⟨by decide, exN 1, hts _ wd178, hNP.1⟩) (by decide +kernel) (by decide) (hts _ wd179) hTH.2.2.2.1 hce hcv hcl ?_
  refine lv_astore_n hx hb dL_isOrphan_22 rfl hl (by decide) rfl ?_
  intro ls1 hl1
  refine lv_iconst hx hb (v := jI 2) dL_isOrphan_23 rfl ?_
  exact x_wend hx hb hlocks hK hR ⟨x0, hO.kept (hS1.2.1 o (Array.getElem?_eq_some_iff.mp hO.choose_spec.1).1 hA)⟩ hS hr (Nat.le_refl _) (Nat.le_refl _) dL_isOrphan_24
abbrev rmL_blocksUnder : Room := { frames := max rmX3_blocksUnder.frames rmTX3_blocksUnder.frames + 1, cells := 1, slots := 6, locals := 8 + (2 + 11) + max rmX3_blocksUnder.locals rmTX3_blocksUnder.locals }
abbrev hhL_blocksUnder : List (Nat × Nat × Nat × Nat) := [(0, 9, 12, 13), (0, 9, 15, 15)]
theorem hyL_blocksUnder : yX3_blocksUnder.cls = RX3 ∧ yX3_blocksUnder.cls ≠ "java/lang/invoke/MethodHandle" ∧ yX3_blocksUnder.cls ≠ "java/lang/invoke/VarHandle" ∧ (parseMethodDescriptor yX3_blocksUnder.desc).map (fun d => d.parameters.length) = some 1 := by decide +kernel
set_option maxHeartbeats 4000000 in
set_option maxRecDepth 100000 in
theorem nL_blocksUnder {l : Launch} {g : Gx} {b o : Nat} {p0 : Int} {M M' : Mm} {r : Int} (hC : Ct l yX3_blocksUnder cX3_blocksUnder 2 (some .int) rmX3_blocksUnder g b [.ref (adr b 0 0), .int (jI p0)] M (qI g b r M')) : Lt l yL_blocksUnder cL_blocksUnder 4 hhL_blocksUnder rmL_blocksUnder g b o [.ref (adr b 0 0), .int (jI p0), .ref o] M (OLp g b o) 0 M' (OL g o (jI r).toInt64) := by
  refine lt_of (by decide +kernel) (Nat.le_of_ble_eq_true rfl) ?_
  intro p e s m args below meth c C0 hTH hNP hPre hTab hR ls hl
  obtain ⟨hx, hb, hr, hlocks, hml, hown, hts, hK⟩ := id C0
  have hS : va_S (AA b s.heap.size) s.heap s.heap [] := va_S.rf
  have hl : lv_has ls 4 [(0, .ref (adr b 0 0)), (1, .int (jI p0)), (2, .ref o)] := hl
  obtain ⟨H, hH⟩ : ∃ z, z = s.heap := ⟨_, rfl⟩
  obtain ⟨locs, hlo⟩ : ∃ z : List Loc, z = [] := ⟨_, rfl⟩
  have hR : Rel g b M H := by rw [hH]; exact hR
  have hS : va_S (AA b s.heap.size) s.heap H locs := by rw [hH, hlo]; exact hS
  obtain ⟨⟨x0, hO⟩, hA⟩ := hPre
  suffices hW : W p l e rmL_blocksUnder s m args below meth c H locs 0 0 (vx_MQ below (wqI g b 0 M' (OL g o (jI r).toInt64) o s.heap.size) noX args s 1 6 (AO b o s.heap.size)) (F0 m 0 ls []) by rw [hH, hlo] at hW; exact hW
  refine lv_aload_n hx hb dL_blocksUnder_0 rfl (lv_at hl 2 rfl) ?_
  refine lv_iconst hx hb (v := jI 0) dL_blocksUnder_1 rfl ?_
  refine lv_aload_n hx hb dL_blocksUnder_2 rfl (lv_at hl 0 rfl) ?_
  refine lv_iload_n hx hb dL_blocksUnder_3 rfl (lv_at hl 1 rfl) ?_
  refine x_cVi (As := [.int (jI p0)]) (rest := [.int (jI 0), .ref o]) hx hb hml hown hts hK hR hS hC ok0 rfl (ci := 3) (C := RX3) (T := TX3) (N := 9) rfl wd980 wd981 wd982 wd1 wd983 hyL_blocksUnder ⟨rfl, rfl⟩ ⟨Nat.le_trans (Nat.succ_le_succ (Nat.le_max_left _ _)) (Nat.le_refl _), Nat.add_le_add_left (Nat.le_max_left _ _) _⟩ hl.1 (Nat.le_of_ble_eq_true rfl) dL_blocksUnder_4 ⟨Nat.zero_le _, Nat.zero_le _⟩ rfl ?_
  intro hr0 H1 locs1 hR hS1
  have hO1 : ∃ x, OL g o x H1 := ⟨x0, hO.kept (hS1.2.1 o (Array.getElem?_eq_some_iff.mp hO.choose_spec.1).1 hA)⟩
  have hS := AO_S (o := o) hS1
  refine lv_i2l hx hb dL_blocksUnder_7 rfl ?_
  refine x_wst hx hb hK hR hO1 hA hS dL_blocksUnder_8 ?_
  intro H2 locs2 hR hO2 hS
  refine lv_goto (tgt := 18) hx hb dL_blocksUnder_9 rfl ?_
  refine lv_iconst hx hb (v := jI 0) dL_blocksUnder_18 rfl ?_
  exact x_wend hx hb hlocks hK hR hO2 hS hr (Nat.zero_le _) (Nat.zero_le _) dL_blocksUnder_19
set_option maxHeartbeats 4000000 in
set_option maxRecDepth 100000 in
theorem tL_blocksUnder_1 {l : Launch} {g : Gx} {b o : Nat} {p0 : Int} {M : Mm} (hC : Tt l yX3_blocksUnder cX3_blocksUnder 2 (some .int) rmTX3_blocksUnder g b [.ref (adr b 0 0), .int (jI p0)] M 1) : Lt l yL_blocksUnder cL_blocksUnder 4 hhL_blocksUnder rmL_blocksUnder g b o [.ref (adr b 0 0), .int (jI p0), .ref o] M (OLp g b o) 1 M (fun H => ∃ x, OL g o x H) := by
  refine lt_of (by decide +kernel) (Nat.le_of_ble_eq_true rfl) ?_
  intro p e s m args below meth c C0 hTH hNP hPre hTab hR ls hl
  obtain ⟨hx, hb, hr, hlocks, hml, hown, hts, hK⟩ := id C0
  have hS : va_S (AA b s.heap.size) s.heap s.heap [] := va_S.rf
  have hl : lv_has ls 4 [(0, .ref (adr b 0 0)), (1, .int (jI p0)), (2, .ref o)] := hl
  obtain ⟨H, hH⟩ : ∃ z, z = s.heap := ⟨_, rfl⟩
  obtain ⟨locs, hlo⟩ : ∃ z : List Loc, z = [] := ⟨_, rfl⟩
  have hR : Rel g b M H := by rw [hH]; exact hR
  have hS : va_S (AA b s.heap.size) s.heap H locs := by rw [hH, hlo]; exact hS
  obtain ⟨⟨x0, hO⟩, hA⟩ := hPre
  suffices hW : W p l e rmL_blocksUnder s m args below meth c H locs 0 0 (vx_MQ below (wqI g b 1 M (fun H => ∃ x, OL g o x H) o s.heap.size) noX args s 1 6 (AO b o s.heap.size)) (F0 m 0 ls []) by rw [hH, hlo] at hW; exact hW
  refine lv_aload_n hx hb dL_blocksUnder_0 rfl (lv_at hl 2 rfl) ?_
  refine lv_iconst hx hb (v := jI 0) dL_blocksUnder_1 rfl ?_
  refine lv_aload_n hx hb dL_blocksUnder_2 rfl (lv_at hl 0 rfl) ?_
  refine lv_iload_n hx hb dL_blocksUnder_3 rfl (lv_at hl 1 rfl) ?_
  refine x_tC (As := [.int (jI p0)]) (rest := [.int (jI 0), .ref o]) hx hb hml hown hts hK hTH hR hS hC wd980 wd981 wd982 wd1 wd983 hyL_blocksUnder ⟨rfl, rfl⟩ ⟨Nat.le_trans (Nat.succ_le_succ (Nat.le_max_right _ _)) (Nat.le_refl _), Nat.add_le_add_left (Nat.le_max_right _ _) _⟩ hl.1 (Nat.le_of_ble_eq_true rfl) dL_blocksUnder_4 ⟨Nat.le_refl _, Nat.le_refl _⟩ rfl ?_
  intro H1 locs1 q ce hR hS1 hce hcv hcl
  have hS := AO_S (o := o) hS1
  refine vx_catch (name := exN 1) hown [] ⟨0, 9, 12, 13⟩ [⟨0, 9, 15, 15⟩] hTab (fun z hz => by cases hz) (by decide +kernel) (by decide) (hts _ wd178) hTH.2.2.1 hce hcv hcl ?_
  refine lv_astore_n hx hb dL_blocksUnder_12 rfl hl (by decide) rfl ?_
  intro ls1 hl1
  refine lv_iconst hx hb (v := jI 1) dL_blocksUnder_13 rfl ?_
  exact x_wend hx hb hlocks hK hR ⟨x0, hO.kept (hS1.2.1 o (Array.getElem?_eq_some_iff.mp hO.choose_spec.1).1 hA)⟩ hS hr (Nat.le_refl _) (Nat.le_refl _) dL_blocksUnder_14
set_option maxHeartbeats 4000000 in
set_option maxRecDepth 100000 in
theorem tL_blocksUnder_2 {l : Launch} {g : Gx} {b o : Nat} {p0 : Int} {M : Mm} (hC : Tt l yX3_blocksUnder cX3_blocksUnder 2 (some .int) rmTX3_blocksUnder g b [.ref (adr b 0 0), .int (jI p0)] M 2) : Lt l yL_blocksUnder cL_blocksUnder 4 hhL_blocksUnder rmL_blocksUnder g b o [.ref (adr b 0 0), .int (jI p0), .ref o] M (OLp g b o) 2 M (fun H => ∃ x, OL g o x H) := by
  refine lt_of (by decide +kernel) (Nat.le_of_ble_eq_true rfl) ?_
  intro p e s m args below meth c C0 hTH hNP hPre hTab hR ls hl
  obtain ⟨hx, hb, hr, hlocks, hml, hown, hts, hK⟩ := id C0
  have hS : va_S (AA b s.heap.size) s.heap s.heap [] := va_S.rf
  have hl : lv_has ls 4 [(0, .ref (adr b 0 0)), (1, .int (jI p0)), (2, .ref o)] := hl
  obtain ⟨H, hH⟩ : ∃ z, z = s.heap := ⟨_, rfl⟩
  obtain ⟨locs, hlo⟩ : ∃ z : List Loc, z = [] := ⟨_, rfl⟩
  have hR : Rel g b M H := by rw [hH]; exact hR
  have hS : va_S (AA b s.heap.size) s.heap H locs := by rw [hH, hlo]; exact hS
  obtain ⟨⟨x0, hO⟩, hA⟩ := hPre
  suffices hW : W p l e rmL_blocksUnder s m args below meth c H locs 0 0 (vx_MQ below (wqI g b 2 M (fun H => ∃ x, OL g o x H) o s.heap.size) noX args s 1 6 (AO b o s.heap.size)) (F0 m 0 ls []) by rw [hH, hlo] at hW; exact hW
  refine lv_aload_n hx hb dL_blocksUnder_0 rfl (lv_at hl 2 rfl) ?_
  refine lv_iconst hx hb (v := jI 0) dL_blocksUnder_1 rfl ?_
  refine lv_aload_n hx hb dL_blocksUnder_2 rfl (lv_at hl 0 rfl) ?_
  refine lv_iload_n hx hb dL_blocksUnder_3 rfl (lv_at hl 1 rfl) ?_
  refine x_tC (As := [.int (jI p0)]) (rest := [.int (jI 0), .ref o]) hx hb hml hown hts hK hTH hR hS hC wd980 wd981 wd982 wd1 wd983 hyL_blocksUnder ⟨rfl, rfl⟩ ⟨Nat.le_trans (Nat.succ_le_succ (Nat.le_max_right _ _)) (Nat.le_refl _), Nat.add_le_add_left (Nat.le_max_right _ _) _⟩ hl.1 (Nat.le_of_ble_eq_true rfl) dL_blocksUnder_4 ⟨Nat.le_refl _, Nat.le_refl _⟩ rfl ?_
  intro H1 locs1 q ce hR hS1 hce hcv hcl
  have hS := AO_S (o := o) hS1
  refine vx_catch (name := exN 2) hown [⟨0, 9, 12, 13⟩] ⟨0, 9, 15, 15⟩ [] hTab (by intro z hz; simp only [List.mem_cons, List.not_mem_nil, or_false] at hz; rcases hz with rfl; exact Or.inr ⟨by decide, exN 1, hts _ wd178, hNP.1⟩) (by decide +kernel) (by decide) (hts _ wd179) hTH.2.2.2.1 hce hcv hcl ?_
  refine lv_astore_n hx hb dL_blocksUnder_15 rfl hl (by decide) rfl ?_
  intro ls1 hl1
  refine lv_iconst hx hb (v := jI 2) dL_blocksUnder_16 rfl ?_
  exact x_wend hx hb hlocks hK hR ⟨x0, hO.kept (hS1.2.1 o (Array.getElem?_eq_some_iff.mp hO.choose_spec.1).1 hA)⟩ hS hr (Nat.le_refl _) (Nat.le_refl _) dL_blocksUnder_17
abbrev rmL_wouldFree : Room := { frames := max rmX3_wouldFree.frames rmTX3_wouldFree.frames + 1, cells := 1, slots := 6, locals := 8 + (2 + 11) + max rmX3_wouldFree.locals rmTX3_wouldFree.locals }
abbrev hhL_wouldFree : List (Nat × Nat × Nat × Nat) := [(0, 9, 12, 13), (0, 9, 15, 15)]
theorem hyL_wouldFree : yX3_wouldFree.cls = RX3 ∧ yX3_wouldFree.cls ≠ "java/lang/invoke/MethodHandle" ∧ yX3_wouldFree.cls ≠ "java/lang/invoke/VarHandle" ∧ (parseMethodDescriptor yX3_wouldFree.desc).map (fun d => d.parameters.length) = some 1 := by decide +kernel
set_option maxHeartbeats 4000000 in
set_option maxRecDepth 100000 in
theorem nL_wouldFree {l : Launch} {g : Gx} {b o : Nat} {p0 : Int} {M M' : Mm} {r : Int} (hC : Ct l yX3_wouldFree cX3_wouldFree 2 (some .int) rmX3_wouldFree g b [.ref (adr b 0 0), .int (jI p0)] M (qI g b r M')) : Lt l yL_wouldFree cL_wouldFree 4 hhL_wouldFree rmL_wouldFree g b o [.ref (adr b 0 0), .int (jI p0), .ref o] M (OLp g b o) 0 M' (OL g o (jI r).toInt64) := by
  refine lt_of (by decide +kernel) (Nat.le_of_ble_eq_true rfl) ?_
  intro p e s m args below meth c C0 hTH hNP hPre hTab hR ls hl
  obtain ⟨hx, hb, hr, hlocks, hml, hown, hts, hK⟩ := id C0
  have hS : va_S (AA b s.heap.size) s.heap s.heap [] := va_S.rf
  have hl : lv_has ls 4 [(0, .ref (adr b 0 0)), (1, .int (jI p0)), (2, .ref o)] := hl
  obtain ⟨H, hH⟩ : ∃ z, z = s.heap := ⟨_, rfl⟩
  obtain ⟨locs, hlo⟩ : ∃ z : List Loc, z = [] := ⟨_, rfl⟩
  have hR : Rel g b M H := by rw [hH]; exact hR
  have hS : va_S (AA b s.heap.size) s.heap H locs := by rw [hH, hlo]; exact hS
  obtain ⟨⟨x0, hO⟩, hA⟩ := hPre
  suffices hW : W p l e rmL_wouldFree s m args below meth c H locs 0 0 (vx_MQ below (wqI g b 0 M' (OL g o (jI r).toInt64) o s.heap.size) noX args s 1 6 (AO b o s.heap.size)) (F0 m 0 ls []) by rw [hH, hlo] at hW; exact hW
  refine lv_aload_n hx hb dL_wouldFree_0 rfl (lv_at hl 2 rfl) ?_
  refine lv_iconst hx hb (v := jI 0) dL_wouldFree_1 rfl ?_
  refine lv_aload_n hx hb dL_wouldFree_2 rfl (lv_at hl 0 rfl) ?_
  refine lv_iload_n hx hb dL_wouldFree_3 rfl (lv_at hl 1 rfl) ?_
  refine x_cVi (As := [.int (jI p0)]) (rest := [.int (jI 0), .ref o]) hx hb hml hown hts hK hR hS hC ok0 rfl (ci := 3) (C := RX3) (T := TX3) (N := 9) rfl wd1005 wd1006 wd1007 wd1 wd1008 hyL_wouldFree ⟨rfl, rfl⟩ ⟨Nat.le_trans (Nat.succ_le_succ (Nat.le_max_left _ _)) (Nat.le_refl _), Nat.add_le_add_left (Nat.le_max_left _ _) _⟩ hl.1 (Nat.le_of_ble_eq_true rfl) dL_wouldFree_4 ⟨Nat.zero_le _, Nat.zero_le _⟩ rfl ?_
  intro hr0 H1 locs1 hR hS1
  have hO1 : ∃ x, OL g o x H1 := ⟨x0, hO.kept (hS1.2.1 o (Array.getElem?_eq_some_iff.mp hO.choose_spec.1).1 hA)⟩
  have hS := AO_S (o := o) hS1
  refine lv_i2l hx hb dL_wouldFree_7 rfl ?_
  refine x_wst hx hb hK hR hO1 hA hS dL_wouldFree_8 ?_
  intro H2 locs2 hR hO2 hS
  refine lv_goto (tgt := 18) hx hb dL_wouldFree_9 rfl ?_
  refine lv_iconst hx hb (v := jI 0) dL_wouldFree_18 rfl ?_
  exact x_wend hx hb hlocks hK hR hO2 hS hr (Nat.zero_le _) (Nat.zero_le _) dL_wouldFree_19
set_option maxHeartbeats 4000000 in
set_option maxRecDepth 100000 in
theorem tL_wouldFree_1 {l : Launch} {g : Gx} {b o : Nat} {p0 : Int} {M : Mm} (hC : Tt l yX3_wouldFree cX3_wouldFree 2 (some .int) rmTX3_wouldFree g b [.ref (adr b 0 0), .int (jI p0)] M 1) : Lt l yL_wouldFree cL_wouldFree 4 hhL_wouldFree rmL_wouldFree g b o [.ref (adr b 0 0), .int (jI p0), .ref o] M (OLp g b o) 1 M (fun H => ∃ x, OL g o x H) := by
  refine lt_of (by decide +kernel) (Nat.le_of_ble_eq_true rfl) ?_
  intro p e s m args below meth c C0 hTH hNP hPre hTab hR ls hl
  obtain ⟨hx, hb, hr, hlocks, hml, hown, hts, hK⟩ := id C0
  have hS : va_S (AA b s.heap.size) s.heap s.heap [] := va_S.rf
  have hl : lv_has ls 4 [(0, .ref (adr b 0 0)), (1, .int (jI p0)), (2, .ref o)] := hl
  obtain ⟨H, hH⟩ : ∃ z, z = s.heap := ⟨_, rfl⟩
  obtain ⟨locs, hlo⟩ : ∃ z : List Loc, z = [] := ⟨_, rfl⟩
  have hR : Rel g b M H := by rw [hH]; exact hR
  have hS : va_S (AA b s.heap.size) s.heap H locs := by rw [hH, hlo]; exact hS
  obtain ⟨⟨x0, hO⟩, hA⟩ := hPre
  suffices hW : W p l e rmL_wouldFree s m args below meth c H locs 0 0 (vx_MQ below (wqI g b 1 M (fun H => ∃ x, OL g o x H) o s.heap.size) noX args s 1 6 (AO b o s.heap.size)) (F0 m 0 ls []) by rw [hH, hlo] at hW; exact hW
  refine lv_aload_n hx hb dL_wouldFree_0 rfl (lv_at hl 2 rfl) ?_
  refine lv_iconst hx hb (v := jI 0) dL_wouldFree_1 rfl ?_
  refine lv_aload_n hx hb dL_wouldFree_2 rfl (lv_at hl 0 rfl) ?_
  refine lv_iload_n hx hb dL_wouldFree_3 rfl (lv_at hl 1 rfl) ?_
  refine x_tC (As := [.int (jI p0)]) (rest := [.int (jI 0), .ref o]) hx hb hml hown hts hK hTH hR hS hC wd1005 wd1006 wd1007 wd1 wd1008 hyL_wouldFree ⟨rfl, rfl⟩ ⟨Nat.le_trans (Nat.succ_le_succ (Nat.le_max_right _ _)) (Nat.le_refl _), Nat.add_le_add_left (Nat.le_max_right _ _) _⟩ hl.1 (Nat.le_of_ble_eq_true rfl) dL_wouldFree_4 ⟨Nat.le_refl _, Nat.le_refl _⟩ rfl ?_
  intro H1 locs1 q ce hR hS1 hce hcv hcl
  have hS := AO_S (o := o) hS1
  refine vx_catch (name := exN 1) hown [] ⟨0, 9, 12, 13⟩ [⟨0, 9, 15, 15⟩] hTab (fun z hz => by cases hz) (by decide +kernel) (by decide) (hts _ wd178) hTH.2.2.1 hce hcv hcl ?_
  refine lv_astore_n hx hb dL_wouldFree_12 rfl hl (by decide) rfl ?_
  intro ls1 hl1
  refine lv_iconst hx hb (v := jI 1) dL_wouldFree_13 rfl ?_
  exact x_wend hx hb hlocks hK hR ⟨x0, hO.kept (hS1.2.1 o (Array.getElem?_eq_some_iff.mp hO.choose_spec.1).1 hA)⟩ hS hr (Nat.le_refl _) (Nat.le_refl _) dL_wouldFree_14
set_option maxHeartbeats 4000000 in
set_option maxRecDepth 100000 in
theorem tL_wouldFree_2 {l : Launch} {g : Gx} {b o : Nat} {p0 : Int} {M : Mm} (hC : Tt l yX3_wouldFree cX3_wouldFree 2 (some .int) rmTX3_wouldFree g b [.ref (adr b 0 0), .int (jI p0)] M 2) : Lt l yL_wouldFree cL_wouldFree 4 hhL_wouldFree rmL_wouldFree g b o [.ref (adr b 0 0), .int (jI p0), .ref o] M (OLp g b o) 2 M (fun H => ∃ x, OL g o x H) := by
  refine lt_of (by decide +kernel) (Nat.le_of_ble_eq_true rfl) ?_
  intro p e s m args below meth c C0 hTH hNP hPre hTab hR ls hl
  obtain ⟨hx, hb, hr, hlocks, hml, hown, hts, hK⟩ := id C0
  have hS : va_S (AA b s.heap.size) s.heap s.heap [] := va_S.rf
  have hl : lv_has ls 4 [(0, .ref (adr b 0 0)), (1, .int (jI p0)), (2, .ref o)] := hl
  obtain ⟨H, hH⟩ : ∃ z, z = s.heap := ⟨_, rfl⟩
  obtain ⟨locs, hlo⟩ : ∃ z : List Loc, z = [] := ⟨_, rfl⟩
  have hR : Rel g b M H := by rw [hH]; exact hR
  have hS : va_S (AA b s.heap.size) s.heap H locs := by rw [hH, hlo]; exact hS
  obtain ⟨⟨x0, hO⟩, hA⟩ := hPre
  suffices hW : W p l e rmL_wouldFree s m args below meth c H locs 0 0 (vx_MQ below (wqI g b 2 M (fun H => ∃ x, OL g o x H) o s.heap.size) noX args s 1 6 (AO b o s.heap.size)) (F0 m 0 ls []) by rw [hH, hlo] at hW; exact hW
  refine lv_aload_n hx hb dL_wouldFree_0 rfl (lv_at hl 2 rfl) ?_
  refine lv_iconst hx hb (v := jI 0) dL_wouldFree_1 rfl ?_
  refine lv_aload_n hx hb dL_wouldFree_2 rfl (lv_at hl 0 rfl) ?_
  refine lv_iload_n hx hb dL_wouldFree_3 rfl (lv_at hl 1 rfl) ?_
  refine x_tC (As := [.int (jI p0)]) (rest := [.int (jI 0), .ref o]) hx hb hml hown hts hK hTH hR hS hC wd1005 wd1006 wd1007 wd1 wd1008 hyL_wouldFree ⟨rfl, rfl⟩ ⟨Nat.le_trans (Nat.succ_le_succ (Nat.le_max_right _ _)) (Nat.le_refl _), Nat.add_le_add_left (Nat.le_max_right _ _) _⟩ hl.1 (Nat.le_of_ble_eq_true rfl) dL_wouldFree_4 ⟨Nat.le_refl _, Nat.le_refl _⟩ rfl ?_
  intro H1 locs1 q ce hR hS1 hce hcv hcl
  have hS := AO_S (o := o) hS1
  refine vx_catch (name := exN 2) hown [⟨0, 9, 12, 13⟩] ⟨0, 9, 15, 15⟩ [] hTab (by intro z hz; simp only [List.mem_cons, List.not_mem_nil, or_false] at hz; rcases hz with rfl; exact Or.inr ⟨by decide, exN 1, hts _ wd178, hNP.1⟩) (by decide +kernel) (by decide) (hts _ wd179) hTH.2.2.2.1 hce hcv hcl ?_
  refine lv_astore_n hx hb dL_wouldFree_15 rfl hl (by decide) rfl ?_
  intro ls1 hl1
  refine lv_iconst hx hb (v := jI 2) dL_wouldFree_16 rfl ?_
  exact x_wend hx hb hlocks hK hR ⟨x0, hO.kept (hS1.2.1 o (Array.getElem?_eq_some_iff.mp hO.choose_spec.1).1 hA)⟩ hS hr (Nat.le_refl _) (Nat.le_refl _) dL_wouldFree_17
abbrev rmL_used : Room := { frames := max rmX3_used.frames rmTX3_used.frames + 1, cells := 1, slots := 6, locals := 8 + (1 + 11) + max rmX3_used.locals rmTX3_used.locals }
abbrev hhL_used : List (Nat × Nat × Nat × Nat) := [(0, 8, 11, 13)]
theorem hyL_used : yX3_used.cls = RX3 ∧ yX3_used.cls ≠ "java/lang/invoke/MethodHandle" ∧ yX3_used.cls ≠ "java/lang/invoke/VarHandle" ∧ (parseMethodDescriptor yX3_used.desc).map (fun d => d.parameters.length) = some 0 := by decide +kernel
set_option maxHeartbeats 4000000 in
set_option maxRecDepth 100000 in
theorem nL_used {l : Launch} {g : Gx} {b o : Nat} {M M' : Mm} {r : Int} (hC : Ct l yX3_used cX3_used 1 (some .int) rmX3_used g b [.ref (adr b 0 0)] M (qI g b r M')) : Lt l yL_used cL_used 3 hhL_used rmL_used g b o [.ref (adr b 0 0), .ref o] M (OLp g b o) 0 M' (OL g o (jI r).toInt64) := by
  refine lt_of (by decide +kernel) (Nat.le_of_ble_eq_true rfl) ?_
  intro p e s m args below meth c C0 hTH hNP hPre hTab hR ls hl
  obtain ⟨hx, hb, hr, hlocks, hml, hown, hts, hK⟩ := id C0
  have hS : va_S (AA b s.heap.size) s.heap s.heap [] := va_S.rf
  have hl : lv_has ls 3 [(0, .ref (adr b 0 0)), (1, .ref o)] := hl
  obtain ⟨H, hH⟩ : ∃ z, z = s.heap := ⟨_, rfl⟩
  obtain ⟨locs, hlo⟩ : ∃ z : List Loc, z = [] := ⟨_, rfl⟩
  have hR : Rel g b M H := by rw [hH]; exact hR
  have hS : va_S (AA b s.heap.size) s.heap H locs := by rw [hH, hlo]; exact hS
  obtain ⟨⟨x0, hO⟩, hA⟩ := hPre
  suffices hW : W p l e rmL_used s m args below meth c H locs 0 0 (vx_MQ below (wqI g b 0 M' (OL g o (jI r).toInt64) o s.heap.size) noX args s 1 6 (AO b o s.heap.size)) (F0 m 0 ls []) by rw [hH, hlo] at hW; exact hW
  refine lv_aload_n hx hb dL_used_0 rfl (lv_at hl 1 rfl) ?_
  refine lv_iconst hx hb (v := jI 0) dL_used_1 rfl ?_
  refine lv_aload_n hx hb dL_used_2 rfl (lv_at hl 0 rfl) ?_
  refine x_cVi (As := []) (rest := [.int (jI 0), .ref o]) hx hb hml hown hts hK hR hS hC ok0 rfl (ci := 3) (C := RX3) (T := TX3) (N := 9) rfl wd1020 wd1021 wd1022 wd1 wd1023 hyL_used ⟨rfl, rfl⟩ ⟨Nat.le_trans (Nat.succ_le_succ (Nat.le_max_left _ _)) (Nat.le_refl _), Nat.add_le_add_left (Nat.le_max_left _ _) _⟩ hl.1 (Nat.le_of_ble_eq_true rfl) dL_used_3 ⟨Nat.zero_le _, Nat.zero_le _⟩ rfl ?_
  intro hr0 H1 locs1 hR hS1
  have hO1 : ∃ x, OL g o x H1 := ⟨x0, hO.kept (hS1.2.1 o (Array.getElem?_eq_some_iff.mp hO.choose_spec.1).1 hA)⟩
  have hS := AO_S (o := o) hS1
  refine lv_i2l hx hb dL_used_6 rfl ?_
  refine x_wst hx hb hK hR hO1 hA hS dL_used_7 ?_
  intro H2 locs2 hR hO2 hS
  refine lv_goto (tgt := 14) hx hb dL_used_8 rfl ?_
  refine lv_iconst hx hb (v := jI 0) dL_used_14 rfl ?_
  exact x_wend hx hb hlocks hK hR hO2 hS hr (Nat.zero_le _) (Nat.zero_le _) dL_used_15
set_option maxHeartbeats 4000000 in
set_option maxRecDepth 100000 in
theorem tL_used_1 {l : Launch} {g : Gx} {b o : Nat} {M : Mm} (hC : Tt l yX3_used cX3_used 1 (some .int) rmTX3_used g b [.ref (adr b 0 0)] M 1) : Lt l yL_used cL_used 3 hhL_used rmL_used g b o [.ref (adr b 0 0), .ref o] M (OLp g b o) 1 M (fun H => ∃ x, OL g o x H) := by
  refine lt_of (by decide +kernel) (Nat.le_of_ble_eq_true rfl) ?_
  intro p e s m args below meth c C0 hTH hNP hPre hTab hR ls hl
  obtain ⟨hx, hb, hr, hlocks, hml, hown, hts, hK⟩ := id C0
  have hS : va_S (AA b s.heap.size) s.heap s.heap [] := va_S.rf
  have hl : lv_has ls 3 [(0, .ref (adr b 0 0)), (1, .ref o)] := hl
  obtain ⟨H, hH⟩ : ∃ z, z = s.heap := ⟨_, rfl⟩
  obtain ⟨locs, hlo⟩ : ∃ z : List Loc, z = [] := ⟨_, rfl⟩
  have hR : Rel g b M H := by rw [hH]; exact hR
  have hS : va_S (AA b s.heap.size) s.heap H locs := by rw [hH, hlo]; exact hS
  obtain ⟨⟨x0, hO⟩, hA⟩ := hPre
  suffices hW : W p l e rmL_used s m args below meth c H locs 0 0 (vx_MQ below (wqI g b 1 M (fun H => ∃ x, OL g o x H) o s.heap.size) noX args s 1 6 (AO b o s.heap.size)) (F0 m 0 ls []) by rw [hH, hlo] at hW; exact hW
  refine lv_aload_n hx hb dL_used_0 rfl (lv_at hl 1 rfl) ?_
  refine lv_iconst hx hb (v := jI 0) dL_used_1 rfl ?_
  refine lv_aload_n hx hb dL_used_2 rfl (lv_at hl 0 rfl) ?_
  refine x_tC (As := []) (rest := [.int (jI 0), .ref o]) hx hb hml hown hts hK hTH hR hS hC wd1020 wd1021 wd1022 wd1 wd1023 hyL_used ⟨rfl, rfl⟩ ⟨Nat.le_trans (Nat.succ_le_succ (Nat.le_max_right _ _)) (Nat.le_refl _), Nat.add_le_add_left (Nat.le_max_right _ _) _⟩ hl.1 (Nat.le_of_ble_eq_true rfl) dL_used_3 ⟨Nat.le_refl _, Nat.le_refl _⟩ rfl ?_
  intro H1 locs1 q ce hR hS1 hce hcv hcl
  have hS := AO_S (o := o) hS1
  refine vx_catch (name := exN 1) hown [] ⟨0, 8, 11, 13⟩ [] hTab (fun z hz => by cases hz) (by decide +kernel) (by decide) (hts _ wd178) hTH.2.2.1 hce hcv hcl ?_
  refine lv_astore_n hx hb dL_used_11 rfl hl (by decide) rfl ?_
  intro ls1 hl1
  refine lv_iconst hx hb (v := jI 1) dL_used_12 rfl ?_
  exact x_wend hx hb hlocks hK hR ⟨x0, hO.kept (hS1.2.1 o (Array.getElem?_eq_some_iff.mp hO.choose_spec.1).1 hA)⟩ hS hr (Nat.le_refl _) (Nat.le_refl _) dL_used_13
abbrev rmL_usedBy : Room := { frames := max rmX3_usedBy.frames rmTX3_usedBy.frames + 1, cells := 1, slots := 6, locals := 8 + (2 + 11) + max rmX3_usedBy.locals rmTX3_usedBy.locals }
abbrev hhL_usedBy : List (Nat × Nat × Nat × Nat) := [(0, 9, 12, 13), (0, 9, 15, 17)]
theorem hyL_usedBy : yX3_usedBy.cls = RX3 ∧ yX3_usedBy.cls ≠ "java/lang/invoke/MethodHandle" ∧ yX3_usedBy.cls ≠ "java/lang/invoke/VarHandle" ∧ (parseMethodDescriptor yX3_usedBy.desc).map (fun d => d.parameters.length) = some 1 := by decide +kernel
set_option maxHeartbeats 4000000 in
set_option maxRecDepth 100000 in
theorem nL_usedBy {l : Launch} {g : Gx} {b o : Nat} {p0 : Int} {M M' : Mm} {r : Int} (hC : Ct l yX3_usedBy cX3_usedBy 2 (some .int) rmX3_usedBy g b [.ref (adr b 0 0), .int (jI p0)] M (qI g b r M')) : Lt l yL_usedBy cL_usedBy 4 hhL_usedBy rmL_usedBy g b o [.ref (adr b 0 0), .int (jI p0), .ref o] M (OLp g b o) 0 M' (OL g o (jI r).toInt64) := by
  refine lt_of (by decide +kernel) (Nat.le_of_ble_eq_true rfl) ?_
  intro p e s m args below meth c C0 hTH hNP hPre hTab hR ls hl
  obtain ⟨hx, hb, hr, hlocks, hml, hown, hts, hK⟩ := id C0
  have hS : va_S (AA b s.heap.size) s.heap s.heap [] := va_S.rf
  have hl : lv_has ls 4 [(0, .ref (adr b 0 0)), (1, .int (jI p0)), (2, .ref o)] := hl
  obtain ⟨H, hH⟩ : ∃ z, z = s.heap := ⟨_, rfl⟩
  obtain ⟨locs, hlo⟩ : ∃ z : List Loc, z = [] := ⟨_, rfl⟩
  have hR : Rel g b M H := by rw [hH]; exact hR
  have hS : va_S (AA b s.heap.size) s.heap H locs := by rw [hH, hlo]; exact hS
  obtain ⟨⟨x0, hO⟩, hA⟩ := hPre
  suffices hW : W p l e rmL_usedBy s m args below meth c H locs 0 0 (vx_MQ below (wqI g b 0 M' (OL g o (jI r).toInt64) o s.heap.size) noX args s 1 6 (AO b o s.heap.size)) (F0 m 0 ls []) by rw [hH, hlo] at hW; exact hW
  refine lv_aload_n hx hb dL_usedBy_0 rfl (lv_at hl 2 rfl) ?_
  refine lv_iconst hx hb (v := jI 0) dL_usedBy_1 rfl ?_
  refine lv_aload_n hx hb dL_usedBy_2 rfl (lv_at hl 0 rfl) ?_
  refine lv_iload_n hx hb dL_usedBy_3 rfl (lv_at hl 1 rfl) ?_
  refine x_cVi (As := [.int (jI p0)]) (rest := [.int (jI 0), .ref o]) hx hb hml hown hts hK hR hS hC ok0 rfl (ci := 3) (C := RX3) (T := TX3) (N := 9) rfl wd1027 wd1028 wd1029 wd1 wd1030 hyL_usedBy ⟨rfl, rfl⟩ ⟨Nat.le_trans (Nat.succ_le_succ (Nat.le_max_left _ _)) (Nat.le_refl _), Nat.add_le_add_left (Nat.le_max_left _ _) _⟩ hl.1 (Nat.le_of_ble_eq_true rfl) dL_usedBy_4 ⟨Nat.zero_le _, Nat.zero_le _⟩ rfl ?_
  intro hr0 H1 locs1 hR hS1
  have hO1 : ∃ x, OL g o x H1 := ⟨x0, hO.kept (hS1.2.1 o (Array.getElem?_eq_some_iff.mp hO.choose_spec.1).1 hA)⟩
  have hS := AO_S (o := o) hS1
  refine lv_i2l hx hb dL_usedBy_7 rfl ?_
  refine x_wst hx hb hK hR hO1 hA hS dL_usedBy_8 ?_
  intro H2 locs2 hR hO2 hS
  refine lv_goto (tgt := 18) hx hb dL_usedBy_9 rfl ?_
  refine lv_iconst hx hb (v := jI 0) dL_usedBy_18 rfl ?_
  exact x_wend hx hb hlocks hK hR hO2 hS hr (Nat.zero_le _) (Nat.zero_le _) dL_usedBy_19
set_option maxHeartbeats 4000000 in
set_option maxRecDepth 100000 in
theorem tL_usedBy_1 {l : Launch} {g : Gx} {b o : Nat} {p0 : Int} {M : Mm} (hC : Tt l yX3_usedBy cX3_usedBy 2 (some .int) rmTX3_usedBy g b [.ref (adr b 0 0), .int (jI p0)] M 1) : Lt l yL_usedBy cL_usedBy 4 hhL_usedBy rmL_usedBy g b o [.ref (adr b 0 0), .int (jI p0), .ref o] M (OLp g b o) 1 M (fun H => ∃ x, OL g o x H) := by
  refine lt_of (by decide +kernel) (Nat.le_of_ble_eq_true rfl) ?_
  intro p e s m args below meth c C0 hTH hNP hPre hTab hR ls hl
  obtain ⟨hx, hb, hr, hlocks, hml, hown, hts, hK⟩ := id C0
  have hS : va_S (AA b s.heap.size) s.heap s.heap [] := va_S.rf
  have hl : lv_has ls 4 [(0, .ref (adr b 0 0)), (1, .int (jI p0)), (2, .ref o)] := hl
  obtain ⟨H, hH⟩ : ∃ z, z = s.heap := ⟨_, rfl⟩
  obtain ⟨locs, hlo⟩ : ∃ z : List Loc, z = [] := ⟨_, rfl⟩
  have hR : Rel g b M H := by rw [hH]; exact hR
  have hS : va_S (AA b s.heap.size) s.heap H locs := by rw [hH, hlo]; exact hS
  obtain ⟨⟨x0, hO⟩, hA⟩ := hPre
  suffices hW : W p l e rmL_usedBy s m args below meth c H locs 0 0 (vx_MQ below (wqI g b 1 M (fun H => ∃ x, OL g o x H) o s.heap.size) noX args s 1 6 (AO b o s.heap.size)) (F0 m 0 ls []) by rw [hH, hlo] at hW; exact hW
  refine lv_aload_n hx hb dL_usedBy_0 rfl (lv_at hl 2 rfl) ?_
  refine lv_iconst hx hb (v := jI 0) dL_usedBy_1 rfl ?_
  refine lv_aload_n hx hb dL_usedBy_2 rfl (lv_at hl 0 rfl) ?_
  refine lv_iload_n hx hb dL_usedBy_3 rfl (lv_at hl 1 rfl) ?_
  refine x_tC (As := [.int (jI p0)]) (rest := [.int (jI 0), .ref o]) hx hb hml hown hts hK hTH hR hS hC wd1027 wd1028 wd1029 wd1 wd1030 hyL_usedBy ⟨rfl, rfl⟩ ⟨Nat.le_trans (Nat.succ_le_succ (Nat.le_max_right _ _)) (Nat.le_refl _), Nat.add_le_add_left (Nat.le_max_right _ _) _⟩ hl.1 (Nat.le_of_ble_eq_true rfl) dL_usedBy_4 ⟨Nat.le_refl _, Nat.le_refl _⟩ rfl ?_
  intro H1 locs1 q ce hR hS1 hce hcv hcl
  have hS := AO_S (o := o) hS1
  refine vx_catch (name := exN 1) hown [] ⟨0, 9, 12, 13⟩ [⟨0, 9, 15, 17⟩] hTab (fun z hz => by cases hz) (by decide +kernel) (by decide) (hts _ wd178) hTH.2.2.1 hce hcv hcl ?_
  refine lv_astore_n hx hb dL_usedBy_12 rfl hl (by decide) rfl ?_
  intro ls1 hl1
  refine lv_iconst hx hb (v := jI 1) dL_usedBy_13 rfl ?_
  exact x_wend hx hb hlocks hK hR ⟨x0, hO.kept (hS1.2.1 o (Array.getElem?_eq_some_iff.mp hO.choose_spec.1).1 hA)⟩ hS hr (Nat.le_refl _) (Nat.le_refl _) dL_usedBy_14
set_option maxHeartbeats 4000000 in
set_option maxRecDepth 100000 in
theorem tL_usedBy_3 {l : Launch} {g : Gx} {b o : Nat} {p0 : Int} {M : Mm} (hC : Tt l yX3_usedBy cX3_usedBy 2 (some .int) rmTX3_usedBy g b [.ref (adr b 0 0), .int (jI p0)] M 3) : Lt l yL_usedBy cL_usedBy 4 hhL_usedBy rmL_usedBy g b o [.ref (adr b 0 0), .int (jI p0), .ref o] M (OLp g b o) 2 M (fun H => ∃ x, OL g o x H) := by
  refine lt_of (by decide +kernel) (Nat.le_of_ble_eq_true rfl) ?_
  intro p e s m args below meth c C0 hTH hNP hPre hTab hR ls hl
  obtain ⟨hx, hb, hr, hlocks, hml, hown, hts, hK⟩ := id C0
  have hS : va_S (AA b s.heap.size) s.heap s.heap [] := va_S.rf
  have hl : lv_has ls 4 [(0, .ref (adr b 0 0)), (1, .int (jI p0)), (2, .ref o)] := hl
  obtain ⟨H, hH⟩ : ∃ z, z = s.heap := ⟨_, rfl⟩
  obtain ⟨locs, hlo⟩ : ∃ z : List Loc, z = [] := ⟨_, rfl⟩
  have hR : Rel g b M H := by rw [hH]; exact hR
  have hS : va_S (AA b s.heap.size) s.heap H locs := by rw [hH, hlo]; exact hS
  obtain ⟨⟨x0, hO⟩, hA⟩ := hPre
  suffices hW : W p l e rmL_usedBy s m args below meth c H locs 0 0 (vx_MQ below (wqI g b 2 M (fun H => ∃ x, OL g o x H) o s.heap.size) noX args s 1 6 (AO b o s.heap.size)) (F0 m 0 ls []) by rw [hH, hlo] at hW; exact hW
  refine lv_aload_n hx hb dL_usedBy_0 rfl (lv_at hl 2 rfl) ?_
  refine lv_iconst hx hb (v := jI 0) dL_usedBy_1 rfl ?_
  refine lv_aload_n hx hb dL_usedBy_2 rfl (lv_at hl 0 rfl) ?_
  refine lv_iload_n hx hb dL_usedBy_3 rfl (lv_at hl 1 rfl) ?_
  refine x_tC (As := [.int (jI p0)]) (rest := [.int (jI 0), .ref o]) hx hb hml hown hts hK hTH hR hS hC wd1027 wd1028 wd1029 wd1 wd1030 hyL_usedBy ⟨rfl, rfl⟩ ⟨Nat.le_trans (Nat.succ_le_succ (Nat.le_max_right _ _)) (Nat.le_refl _), Nat.add_le_add_left (Nat.le_max_right _ _) _⟩ hl.1 (Nat.le_of_ble_eq_true rfl) dL_usedBy_4 ⟨Nat.le_refl _, Nat.le_refl _⟩ rfl ?_
  intro H1 locs1 q ce hR hS1 hce hcv hcl
  have hS := AO_S (o := o) hS1
  refine vx_catch (name := exN 3) hown [⟨0, 9, 12, 13⟩] ⟨0, 9, 15, 17⟩ [] hTab (by intro z hz; simp only [List.mem_cons, List.not_mem_nil, or_false] at hz; rcases hz with rfl; exact Or.inr ⟨by decide, exN 1, hts _ wd178, hNP.2.1⟩) (by decide +kernel) (by decide) (hts _ wd180) hTH.2.2.2.2.1 hce hcv hcl ?_
  refine lv_astore_n hx hb dL_usedBy_15 rfl hl (by decide) rfl ?_
  intro ls1 hl1
  refine lv_iconst hx hb (v := jI 2) dL_usedBy_16 rfl ?_
  exact x_wend hx hb hlocks hK hR ⟨x0, hO.kept (hS1.2.1 o (Array.getElem?_eq_some_iff.mp hO.choose_spec.1).1 hA)⟩ hS hr (Nat.le_refl _) (Nat.le_refl _) dL_usedBy_17
abbrev rmL_quotaOf : Room := { frames := max rmX3_quotaOf.frames rmTX3_quotaOf.frames + 1, cells := 1, slots := 6, locals := 8 + (2 + 11) + max rmX3_quotaOf.locals rmTX3_quotaOf.locals }
abbrev hhL_quotaOf : List (Nat × Nat × Nat × Nat) := [(0, 9, 12, 13), (0, 9, 15, 17)]
theorem hyL_quotaOf : yX3_quotaOf.cls = RX3 ∧ yX3_quotaOf.cls ≠ "java/lang/invoke/MethodHandle" ∧ yX3_quotaOf.cls ≠ "java/lang/invoke/VarHandle" ∧ (parseMethodDescriptor yX3_quotaOf.desc).map (fun d => d.parameters.length) = some 1 := by decide +kernel
set_option maxHeartbeats 4000000 in
set_option maxRecDepth 100000 in
theorem nL_quotaOf {l : Launch} {g : Gx} {b o : Nat} {p0 : Int} {M M' : Mm} {r : Int} (hC : Ct l yX3_quotaOf cX3_quotaOf 2 (some .int) rmX3_quotaOf g b [.ref (adr b 0 0), .int (jI p0)] M (qI g b r M')) : Lt l yL_quotaOf cL_quotaOf 4 hhL_quotaOf rmL_quotaOf g b o [.ref (adr b 0 0), .int (jI p0), .ref o] M (OLp g b o) 0 M' (OL g o (jI r).toInt64) := by
  refine lt_of (by decide +kernel) (Nat.le_of_ble_eq_true rfl) ?_
  intro p e s m args below meth c C0 hTH hNP hPre hTab hR ls hl
  obtain ⟨hx, hb, hr, hlocks, hml, hown, hts, hK⟩ := id C0
  have hS : va_S (AA b s.heap.size) s.heap s.heap [] := va_S.rf
  have hl : lv_has ls 4 [(0, .ref (adr b 0 0)), (1, .int (jI p0)), (2, .ref o)] := hl
  obtain ⟨H, hH⟩ : ∃ z, z = s.heap := ⟨_, rfl⟩
  obtain ⟨locs, hlo⟩ : ∃ z : List Loc, z = [] := ⟨_, rfl⟩
  have hR : Rel g b M H := by rw [hH]; exact hR
  have hS : va_S (AA b s.heap.size) s.heap H locs := by rw [hH, hlo]; exact hS
  obtain ⟨⟨x0, hO⟩, hA⟩ := hPre
  suffices hW : W p l e rmL_quotaOf s m args below meth c H locs 0 0 (vx_MQ below (wqI g b 0 M' (OL g o (jI r).toInt64) o s.heap.size) noX args s 1 6 (AO b o s.heap.size)) (F0 m 0 ls []) by rw [hH, hlo] at hW; exact hW
  refine lv_aload_n hx hb dL_quotaOf_0 rfl (lv_at hl 2 rfl) ?_
  refine lv_iconst hx hb (v := jI 0) dL_quotaOf_1 rfl ?_
  refine lv_aload_n hx hb dL_quotaOf_2 rfl (lv_at hl 0 rfl) ?_
  refine lv_iload_n hx hb dL_quotaOf_3 rfl (lv_at hl 1 rfl) ?_
  refine x_cVi (As := [.int (jI p0)]) (rest := [.int (jI 0), .ref o]) hx hb hml hown hts hK hR hS hC ok0 rfl (ci := 3) (C := RX3) (T := TX3) (N := 9) rfl wd1034 wd1035 wd1036 wd1 wd1037 hyL_quotaOf ⟨rfl, rfl⟩ ⟨Nat.le_trans (Nat.succ_le_succ (Nat.le_max_left _ _)) (Nat.le_refl _), Nat.add_le_add_left (Nat.le_max_left _ _) _⟩ hl.1 (Nat.le_of_ble_eq_true rfl) dL_quotaOf_4 ⟨Nat.zero_le _, Nat.zero_le _⟩ rfl ?_
  intro hr0 H1 locs1 hR hS1
  have hO1 : ∃ x, OL g o x H1 := ⟨x0, hO.kept (hS1.2.1 o (Array.getElem?_eq_some_iff.mp hO.choose_spec.1).1 hA)⟩
  have hS := AO_S (o := o) hS1
  refine lv_i2l hx hb dL_quotaOf_7 rfl ?_
  refine x_wst hx hb hK hR hO1 hA hS dL_quotaOf_8 ?_
  intro H2 locs2 hR hO2 hS
  refine lv_goto (tgt := 18) hx hb dL_quotaOf_9 rfl ?_
  refine lv_iconst hx hb (v := jI 0) dL_quotaOf_18 rfl ?_
  exact x_wend hx hb hlocks hK hR hO2 hS hr (Nat.zero_le _) (Nat.zero_le _) dL_quotaOf_19
set_option maxHeartbeats 4000000 in
set_option maxRecDepth 100000 in
theorem tL_quotaOf_1 {l : Launch} {g : Gx} {b o : Nat} {p0 : Int} {M : Mm} (hC : Tt l yX3_quotaOf cX3_quotaOf 2 (some .int) rmTX3_quotaOf g b [.ref (adr b 0 0), .int (jI p0)] M 1) : Lt l yL_quotaOf cL_quotaOf 4 hhL_quotaOf rmL_quotaOf g b o [.ref (adr b 0 0), .int (jI p0), .ref o] M (OLp g b o) 1 M (fun H => ∃ x, OL g o x H) := by
  refine lt_of (by decide +kernel) (Nat.le_of_ble_eq_true rfl) ?_
  intro p e s m args below meth c C0 hTH hNP hPre hTab hR ls hl
  obtain ⟨hx, hb, hr, hlocks, hml, hown, hts, hK⟩ := id C0
  have hS : va_S (AA b s.heap.size) s.heap s.heap [] := va_S.rf
  have hl : lv_has ls 4 [(0, .ref (adr b 0 0)), (1, .int (jI p0)), (2, .ref o)] := hl
  obtain ⟨H, hH⟩ : ∃ z, z = s.heap := ⟨_, rfl⟩
  obtain ⟨locs, hlo⟩ : ∃ z : List Loc, z = [] := ⟨_, rfl⟩
  have hR : Rel g b M H := by rw [hH]; exact hR
  have hS : va_S (AA b s.heap.size) s.heap H locs := by rw [hH, hlo]; exact hS
  obtain ⟨⟨x0, hO⟩, hA⟩ := hPre
  suffices hW : W p l e rmL_quotaOf s m args below meth c H locs 0 0 (vx_MQ below (wqI g b 1 M (fun H => ∃ x, OL g o x H) o s.heap.size) noX args s 1 6 (AO b o s.heap.size)) (F0 m 0 ls []) by rw [hH, hlo] at hW; exact hW
  refine lv_aload_n hx hb dL_quotaOf_0 rfl (lv_at hl 2 rfl) ?_
  refine lv_iconst hx hb (v := jI 0) dL_quotaOf_1 rfl ?_
  refine lv_aload_n hx hb dL_quotaOf_2 rfl (lv_at hl 0 rfl) ?_
  refine lv_iload_n hx hb dL_quotaOf_3 rfl (lv_at hl 1 rfl) ?_
  refine x_tC (As := [.int (jI p0)]) (rest := [.int (jI 0), .ref o]) hx hb hml hown hts hK hTH hR hS hC wd1034 wd1035 wd1036 wd1 wd1037 hyL_quotaOf ⟨rfl, rfl⟩ ⟨Nat.le_trans (Nat.succ_le_succ (Nat.le_max_right _ _)) (Nat.le_refl _), Nat.add_le_add_left (Nat.le_max_right _ _) _⟩ hl.1 (Nat.le_of_ble_eq_true rfl) dL_quotaOf_4 ⟨Nat.le_refl _, Nat.le_refl _⟩ rfl ?_
  intro H1 locs1 q ce hR hS1 hce hcv hcl
  have hS := AO_S (o := o) hS1
  refine vx_catch (name := exN 1) hown [] ⟨0, 9, 12, 13⟩ [⟨0, 9, 15, 17⟩] hTab (fun z hz => by cases hz) (by decide +kernel) (by decide) (hts _ wd178) hTH.2.2.1 hce hcv hcl ?_
  refine lv_astore_n hx hb dL_quotaOf_12 rfl hl (by decide) rfl ?_
  intro ls1 hl1
  refine lv_iconst hx hb (v := jI 1) dL_quotaOf_13 rfl ?_
  exact x_wend hx hb hlocks hK hR ⟨x0, hO.kept (hS1.2.1 o (Array.getElem?_eq_some_iff.mp hO.choose_spec.1).1 hA)⟩ hS hr (Nat.le_refl _) (Nat.le_refl _) dL_quotaOf_14
set_option maxHeartbeats 4000000 in
set_option maxRecDepth 100000 in
theorem tL_quotaOf_3 {l : Launch} {g : Gx} {b o : Nat} {p0 : Int} {M : Mm} (hC : Tt l yX3_quotaOf cX3_quotaOf 2 (some .int) rmTX3_quotaOf g b [.ref (adr b 0 0), .int (jI p0)] M 3) : Lt l yL_quotaOf cL_quotaOf 4 hhL_quotaOf rmL_quotaOf g b o [.ref (adr b 0 0), .int (jI p0), .ref o] M (OLp g b o) 2 M (fun H => ∃ x, OL g o x H) := by
  refine lt_of (by decide +kernel) (Nat.le_of_ble_eq_true rfl) ?_
  intro p e s m args below meth c C0 hTH hNP hPre hTab hR ls hl
  obtain ⟨hx, hb, hr, hlocks, hml, hown, hts, hK⟩ := id C0
  have hS : va_S (AA b s.heap.size) s.heap s.heap [] := va_S.rf
  have hl : lv_has ls 4 [(0, .ref (adr b 0 0)), (1, .int (jI p0)), (2, .ref o)] := hl
  obtain ⟨H, hH⟩ : ∃ z, z = s.heap := ⟨_, rfl⟩
  obtain ⟨locs, hlo⟩ : ∃ z : List Loc, z = [] := ⟨_, rfl⟩
  have hR : Rel g b M H := by rw [hH]; exact hR
  have hS : va_S (AA b s.heap.size) s.heap H locs := by rw [hH, hlo]; exact hS
  obtain ⟨⟨x0, hO⟩, hA⟩ := hPre
  suffices hW : W p l e rmL_quotaOf s m args below meth c H locs 0 0 (vx_MQ below (wqI g b 2 M (fun H => ∃ x, OL g o x H) o s.heap.size) noX args s 1 6 (AO b o s.heap.size)) (F0 m 0 ls []) by rw [hH, hlo] at hW; exact hW
  refine lv_aload_n hx hb dL_quotaOf_0 rfl (lv_at hl 2 rfl) ?_
  refine lv_iconst hx hb (v := jI 0) dL_quotaOf_1 rfl ?_
  refine lv_aload_n hx hb dL_quotaOf_2 rfl (lv_at hl 0 rfl) ?_
  refine lv_iload_n hx hb dL_quotaOf_3 rfl (lv_at hl 1 rfl) ?_
  refine x_tC (As := [.int (jI p0)]) (rest := [.int (jI 0), .ref o]) hx hb hml hown hts hK hTH hR hS hC wd1034 wd1035 wd1036 wd1 wd1037 hyL_quotaOf ⟨rfl, rfl⟩ ⟨Nat.le_trans (Nat.succ_le_succ (Nat.le_max_right _ _)) (Nat.le_refl _), Nat.add_le_add_left (Nat.le_max_right _ _) _⟩ hl.1 (Nat.le_of_ble_eq_true rfl) dL_quotaOf_4 ⟨Nat.le_refl _, Nat.le_refl _⟩ rfl ?_
  intro H1 locs1 q ce hR hS1 hce hcv hcl
  have hS := AO_S (o := o) hS1
  refine vx_catch (name := exN 3) hown [⟨0, 9, 12, 13⟩] ⟨0, 9, 15, 17⟩ [] hTab (by intro z hz; simp only [List.mem_cons, List.not_mem_nil, or_false] at hz; rcases hz with rfl; exact Or.inr ⟨by decide, exN 1, hts _ wd178, hNP.2.1⟩) (by decide +kernel) (by decide) (hts _ wd180) hTH.2.2.2.2.1 hce hcv hcl ?_
  refine lv_astore_n hx hb dL_quotaOf_15 rfl hl (by decide) rfl ?_
  intro ls1 hl1
  refine lv_iconst hx hb (v := jI 2) dL_quotaOf_16 rfl ?_
  exact x_wend hx hb hlocks hK hR ⟨x0, hO.kept (hS1.2.1 o (Array.getElem?_eq_some_iff.mp hO.choose_spec.1).1 hA)⟩ hS hr (Nat.le_refl _) (Nat.le_refl _) dL_quotaOf_17
abbrev rmL_greatestFile : Room := { frames := max rmX3_greatestFile.frames rmTX3_greatestFile.frames + 1, cells := 1, slots := 6, locals := 8 + (1 + 11) + max rmX3_greatestFile.locals rmTX3_greatestFile.locals }
abbrev hhL_greatestFile : List (Nat × Nat × Nat × Nat) := [(0, 8, 11, 13)]
theorem hyL_greatestFile : yX3_greatestFile.cls = RX3 ∧ yX3_greatestFile.cls ≠ "java/lang/invoke/MethodHandle" ∧ yX3_greatestFile.cls ≠ "java/lang/invoke/VarHandle" ∧ (parseMethodDescriptor yX3_greatestFile.desc).map (fun d => d.parameters.length) = some 0 := by decide +kernel
set_option maxHeartbeats 4000000 in
set_option maxRecDepth 100000 in
theorem nL_greatestFile {l : Launch} {g : Gx} {b o : Nat} {M M' : Mm} {r : Int} (hC : Ct l yX3_greatestFile cX3_greatestFile 1 (some .int) rmX3_greatestFile g b [.ref (adr b 0 0)] M (qI g b r M')) : Lt l yL_greatestFile cL_greatestFile 3 hhL_greatestFile rmL_greatestFile g b o [.ref (adr b 0 0), .ref o] M (OLp g b o) 0 M' (OL g o (jI r).toInt64) := by
  refine lt_of (by decide +kernel) (Nat.le_of_ble_eq_true rfl) ?_
  intro p e s m args below meth c C0 hTH hNP hPre hTab hR ls hl
  obtain ⟨hx, hb, hr, hlocks, hml, hown, hts, hK⟩ := id C0
  have hS : va_S (AA b s.heap.size) s.heap s.heap [] := va_S.rf
  have hl : lv_has ls 3 [(0, .ref (adr b 0 0)), (1, .ref o)] := hl
  obtain ⟨H, hH⟩ : ∃ z, z = s.heap := ⟨_, rfl⟩
  obtain ⟨locs, hlo⟩ : ∃ z : List Loc, z = [] := ⟨_, rfl⟩
  have hR : Rel g b M H := by rw [hH]; exact hR
  have hS : va_S (AA b s.heap.size) s.heap H locs := by rw [hH, hlo]; exact hS
  obtain ⟨⟨x0, hO⟩, hA⟩ := hPre
  suffices hW : W p l e rmL_greatestFile s m args below meth c H locs 0 0 (vx_MQ below (wqI g b 0 M' (OL g o (jI r).toInt64) o s.heap.size) noX args s 1 6 (AO b o s.heap.size)) (F0 m 0 ls []) by rw [hH, hlo] at hW; exact hW
  refine lv_aload_n hx hb dL_greatestFile_0 rfl (lv_at hl 1 rfl) ?_
  refine lv_iconst hx hb (v := jI 0) dL_greatestFile_1 rfl ?_
  refine lv_aload_n hx hb dL_greatestFile_2 rfl (lv_at hl 0 rfl) ?_
  refine x_cVi (As := []) (rest := [.int (jI 0), .ref o]) hx hb hml hown hts hK hR hS hC ok0 rfl (ci := 3) (C := RX3) (T := TX3) (N := 9) rfl wd1041 wd1042 wd1043 wd1 wd1044 hyL_greatestFile ⟨rfl, rfl⟩ ⟨Nat.le_trans (Nat.succ_le_succ (Nat.le_max_left _ _)) (Nat.le_refl _), Nat.add_le_add_left (Nat.le_max_left _ _) _⟩ hl.1 (Nat.le_of_ble_eq_true rfl) dL_greatestFile_3 ⟨Nat.zero_le _, Nat.zero_le _⟩ rfl ?_
  intro hr0 H1 locs1 hR hS1
  have hO1 : ∃ x, OL g o x H1 := ⟨x0, hO.kept (hS1.2.1 o (Array.getElem?_eq_some_iff.mp hO.choose_spec.1).1 hA)⟩
  have hS := AO_S (o := o) hS1
  refine lv_i2l hx hb dL_greatestFile_6 rfl ?_
  refine x_wst hx hb hK hR hO1 hA hS dL_greatestFile_7 ?_
  intro H2 locs2 hR hO2 hS
  refine lv_goto (tgt := 14) hx hb dL_greatestFile_8 rfl ?_
  refine lv_iconst hx hb (v := jI 0) dL_greatestFile_14 rfl ?_
  exact x_wend hx hb hlocks hK hR hO2 hS hr (Nat.zero_le _) (Nat.zero_le _) dL_greatestFile_15
set_option maxHeartbeats 4000000 in
set_option maxRecDepth 100000 in
theorem tL_greatestFile_1 {l : Launch} {g : Gx} {b o : Nat} {M : Mm} (hC : Tt l yX3_greatestFile cX3_greatestFile 1 (some .int) rmTX3_greatestFile g b [.ref (adr b 0 0)] M 1) : Lt l yL_greatestFile cL_greatestFile 3 hhL_greatestFile rmL_greatestFile g b o [.ref (adr b 0 0), .ref o] M (OLp g b o) 1 M (fun H => ∃ x, OL g o x H) := by
  refine lt_of (by decide +kernel) (Nat.le_of_ble_eq_true rfl) ?_
  intro p e s m args below meth c C0 hTH hNP hPre hTab hR ls hl
  obtain ⟨hx, hb, hr, hlocks, hml, hown, hts, hK⟩ := id C0
  have hS : va_S (AA b s.heap.size) s.heap s.heap [] := va_S.rf
  have hl : lv_has ls 3 [(0, .ref (adr b 0 0)), (1, .ref o)] := hl
  obtain ⟨H, hH⟩ : ∃ z, z = s.heap := ⟨_, rfl⟩
  obtain ⟨locs, hlo⟩ : ∃ z : List Loc, z = [] := ⟨_, rfl⟩
  have hR : Rel g b M H := by rw [hH]; exact hR
  have hS : va_S (AA b s.heap.size) s.heap H locs := by rw [hH, hlo]; exact hS
  obtain ⟨⟨x0, hO⟩, hA⟩ := hPre
  suffices hW : W p l e rmL_greatestFile s m args below meth c H locs 0 0 (vx_MQ below (wqI g b 1 M (fun H => ∃ x, OL g o x H) o s.heap.size) noX args s 1 6 (AO b o s.heap.size)) (F0 m 0 ls []) by rw [hH, hlo] at hW; exact hW
  refine lv_aload_n hx hb dL_greatestFile_0 rfl (lv_at hl 1 rfl) ?_
  refine lv_iconst hx hb (v := jI 0) dL_greatestFile_1 rfl ?_
  refine lv_aload_n hx hb dL_greatestFile_2 rfl (lv_at hl 0 rfl) ?_
  refine x_tC (As := []) (rest := [.int (jI 0), .ref o]) hx hb hml hown hts hK hTH hR hS hC wd1041 wd1042 wd1043 wd1 wd1044 hyL_greatestFile ⟨rfl, rfl⟩ ⟨Nat.le_trans (Nat.succ_le_succ (Nat.le_max_right _ _)) (Nat.le_refl _), Nat.add_le_add_left (Nat.le_max_right _ _) _⟩ hl.1 (Nat.le_of_ble_eq_true rfl) dL_greatestFile_3 ⟨Nat.le_refl _, Nat.le_refl _⟩ rfl ?_
  intro H1 locs1 q ce hR hS1 hce hcv hcl
  have hS := AO_S (o := o) hS1
  refine vx_catch (name := exN 1) hown [] ⟨0, 8, 11, 13⟩ [] hTab (fun z hz => by cases hz) (by decide +kernel) (by decide) (hts _ wd178) hTH.2.2.1 hce hcv hcl ?_
  refine lv_astore_n hx hb dL_greatestFile_11 rfl hl (by decide) rfl ?_
  intro ls1 hl1
  refine lv_iconst hx hb (v := jI 1) dL_greatestFile_12 rfl ?_
  exact x_wend hx hb hlocks hK hR ⟨x0, hO.kept (hS1.2.1 o (Array.getElem?_eq_some_iff.mp hO.choose_spec.1).1 hA)⟩ hS hr (Nat.le_refl _) (Nat.le_refl _) dL_greatestFile_13
abbrev rmL_flaws : Room := { frames := max rmX3_flaws.frames rmTX3_flaws.frames + 1, cells := 1, slots := 6, locals := 8 + (1 + 11) + max rmX3_flaws.locals rmTX3_flaws.locals }
abbrev hhL_flaws : List (Nat × Nat × Nat × Nat) := [(0, 8, 11, 13)]
theorem hyL_flaws : yX3_flaws.cls = RX3 ∧ yX3_flaws.cls ≠ "java/lang/invoke/MethodHandle" ∧ yX3_flaws.cls ≠ "java/lang/invoke/VarHandle" ∧ (parseMethodDescriptor yX3_flaws.desc).map (fun d => d.parameters.length) = some 0 := by decide +kernel
set_option maxHeartbeats 4000000 in
set_option maxRecDepth 100000 in
theorem nL_flaws {l : Launch} {g : Gx} {b o : Nat} {M M' : Mm} {r : Int} (hC : Ct l yX3_flaws cX3_flaws 1 (some .int) rmX3_flaws g b [.ref (adr b 0 0)] M (qI g b r M')) : Lt l yL_flaws cL_flaws 3 hhL_flaws rmL_flaws g b o [.ref (adr b 0 0), .ref o] M (OLp g b o) 0 M' (OL g o (jI r).toInt64) := by
  refine lt_of (by decide +kernel) (Nat.le_of_ble_eq_true rfl) ?_
  intro p e s m args below meth c C0 hTH hNP hPre hTab hR ls hl
  obtain ⟨hx, hb, hr, hlocks, hml, hown, hts, hK⟩ := id C0
  have hS : va_S (AA b s.heap.size) s.heap s.heap [] := va_S.rf
  have hl : lv_has ls 3 [(0, .ref (adr b 0 0)), (1, .ref o)] := hl
  obtain ⟨H, hH⟩ : ∃ z, z = s.heap := ⟨_, rfl⟩
  obtain ⟨locs, hlo⟩ : ∃ z : List Loc, z = [] := ⟨_, rfl⟩
  have hR : Rel g b M H := by rw [hH]; exact hR
  have hS : va_S (AA b s.heap.size) s.heap H locs := by rw [hH, hlo]; exact hS
  obtain ⟨⟨x0, hO⟩, hA⟩ := hPre
  suffices hW : W p l e rmL_flaws s m args below meth c H locs 0 0 (vx_MQ below (wqI g b 0 M' (OL g o (jI r).toInt64) o s.heap.size) noX args s 1 6 (AO b o s.heap.size)) (F0 m 0 ls []) by rw [hH, hlo] at hW; exact hW
  refine lv_aload_n hx hb dL_flaws_0 rfl (lv_at hl 1 rfl) ?_
  refine lv_iconst hx hb (v := jI 0) dL_flaws_1 rfl ?_
  refine lv_aload_n hx hb dL_flaws_2 rfl (lv_at hl 0 rfl) ?_
  refine x_cVi (As := []) (rest := [.int (jI 0), .ref o]) hx hb hml hown hts hK hR hS hC ok0 rfl (ci := 3) (C := RX3) (T := TX3) (N := 9) rfl wd1059 wd1060 wd1061 wd1 wd1062 hyL_flaws ⟨rfl, rfl⟩ ⟨Nat.le_trans (Nat.succ_le_succ (Nat.le_max_left _ _)) (Nat.le_refl _), Nat.add_le_add_left (Nat.le_max_left _ _) _⟩ hl.1 (Nat.le_of_ble_eq_true rfl) dL_flaws_3 ⟨Nat.zero_le _, Nat.zero_le _⟩ rfl ?_
  intro hr0 H1 locs1 hR hS1
  have hO1 : ∃ x, OL g o x H1 := ⟨x0, hO.kept (hS1.2.1 o (Array.getElem?_eq_some_iff.mp hO.choose_spec.1).1 hA)⟩
  have hS := AO_S (o := o) hS1
  refine lv_i2l hx hb dL_flaws_6 rfl ?_
  refine x_wst hx hb hK hR hO1 hA hS dL_flaws_7 ?_
  intro H2 locs2 hR hO2 hS
  refine lv_goto (tgt := 14) hx hb dL_flaws_8 rfl ?_
  refine lv_iconst hx hb (v := jI 0) dL_flaws_14 rfl ?_
  exact x_wend hx hb hlocks hK hR hO2 hS hr (Nat.zero_le _) (Nat.zero_le _) dL_flaws_15
set_option maxHeartbeats 4000000 in
set_option maxRecDepth 100000 in
theorem tL_flaws_1 {l : Launch} {g : Gx} {b o : Nat} {M : Mm} (hC : Tt l yX3_flaws cX3_flaws 1 (some .int) rmTX3_flaws g b [.ref (adr b 0 0)] M 1) : Lt l yL_flaws cL_flaws 3 hhL_flaws rmL_flaws g b o [.ref (adr b 0 0), .ref o] M (OLp g b o) 1 M (fun H => ∃ x, OL g o x H) := by
  refine lt_of (by decide +kernel) (Nat.le_of_ble_eq_true rfl) ?_
  intro p e s m args below meth c C0 hTH hNP hPre hTab hR ls hl
  obtain ⟨hx, hb, hr, hlocks, hml, hown, hts, hK⟩ := id C0
  have hS : va_S (AA b s.heap.size) s.heap s.heap [] := va_S.rf
  have hl : lv_has ls 3 [(0, .ref (adr b 0 0)), (1, .ref o)] := hl
  obtain ⟨H, hH⟩ : ∃ z, z = s.heap := ⟨_, rfl⟩
  obtain ⟨locs, hlo⟩ : ∃ z : List Loc, z = [] := ⟨_, rfl⟩
  have hR : Rel g b M H := by rw [hH]; exact hR
  have hS : va_S (AA b s.heap.size) s.heap H locs := by rw [hH, hlo]; exact hS
  obtain ⟨⟨x0, hO⟩, hA⟩ := hPre
  suffices hW : W p l e rmL_flaws s m args below meth c H locs 0 0 (vx_MQ below (wqI g b 1 M (fun H => ∃ x, OL g o x H) o s.heap.size) noX args s 1 6 (AO b o s.heap.size)) (F0 m 0 ls []) by rw [hH, hlo] at hW; exact hW
  refine lv_aload_n hx hb dL_flaws_0 rfl (lv_at hl 1 rfl) ?_
  refine lv_iconst hx hb (v := jI 0) dL_flaws_1 rfl ?_
  refine lv_aload_n hx hb dL_flaws_2 rfl (lv_at hl 0 rfl) ?_
  refine x_tC (As := []) (rest := [.int (jI 0), .ref o]) hx hb hml hown hts hK hTH hR hS hC wd1059 wd1060 wd1061 wd1 wd1062 hyL_flaws ⟨rfl, rfl⟩ ⟨Nat.le_trans (Nat.succ_le_succ (Nat.le_max_right _ _)) (Nat.le_refl _), Nat.add_le_add_left (Nat.le_max_right _ _) _⟩ hl.1 (Nat.le_of_ble_eq_true rfl) dL_flaws_3 ⟨Nat.le_refl _, Nat.le_refl _⟩ rfl ?_
  intro H1 locs1 q ce hR hS1 hce hcv hcl
  have hS := AO_S (o := o) hS1
  refine vx_catch (name := exN 1) hown [] ⟨0, 8, 11, 13⟩ [] hTab (fun z hz => by cases hz) (by decide +kernel) (by decide) (hts _ wd178) hTH.2.2.1 hce hcv hcl ?_
  refine lv_astore_n hx hb dL_flaws_11 rfl hl (by decide) rfl ?_
  intro ls1 hl1
  refine lv_iconst hx hb (v := jI 1) dL_flaws_12 rfl ?_
  exact x_wend hx hb hlocks hK hR ⟨x0, hO.kept (hS1.2.1 o (Array.getElem?_eq_some_iff.mp hO.choose_spec.1).1 hA)⟩ hS hr (Nat.le_refl _) (Nat.le_refl _) dL_flaws_13
abbrev rmL_digest : Room := { frames := max rmX3_digest.frames rmTX3_digest.frames + 1, cells := 1, slots := 6, locals := 8 + (4 + 11) + max rmX3_digest.locals rmTX3_digest.locals }
abbrev hhL_digest : List (Nat × Nat × Nat × Nat) := [(0, 7, 10, 13)]
theorem hyL_digest : yX3_digest.cls = RX3 ∧ yX3_digest.cls ≠ "java/lang/invoke/MethodHandle" ∧ yX3_digest.cls ≠ "java/lang/invoke/VarHandle" ∧ (parseMethodDescriptor yX3_digest.desc).map (fun d => d.parameters.length) = some 0 := by decide +kernel
set_option maxHeartbeats 4000000 in
set_option maxRecDepth 100000 in
theorem nL_digest {l : Launch} {g : Gx} {b o : Nat} {M M' : Mm} {r : Int64} (hC : Ct l yX3_digest cX3_digest 4 (some .long) rmX3_digest g b [.ref (adr b 0 0)] M (qL g b r M')) : Lt l yL_digest cL_digest 3 hhL_digest rmL_digest g b o [.ref (adr b 0 0), .ref o] M (OLp g b o) 0 M' (OL g o r) := by
  refine lt_of (by decide +kernel) (Nat.le_of_ble_eq_true rfl) ?_
  intro p e s m args below meth c C0 hTH hNP hPre hTab hR ls hl
  obtain ⟨hx, hb, hr, hlocks, hml, hown, hts, hK⟩ := id C0
  have hS : va_S (AA b s.heap.size) s.heap s.heap [] := va_S.rf
  have hl : lv_has ls 3 [(0, .ref (adr b 0 0)), (1, .ref o)] := hl
  obtain ⟨H, hH⟩ : ∃ z, z = s.heap := ⟨_, rfl⟩
  obtain ⟨locs, hlo⟩ : ∃ z : List Loc, z = [] := ⟨_, rfl⟩
  have hR : Rel g b M H := by rw [hH]; exact hR
  have hS : va_S (AA b s.heap.size) s.heap H locs := by rw [hH, hlo]; exact hS
  obtain ⟨⟨x0, hO⟩, hA⟩ := hPre
  suffices hW : W p l e rmL_digest s m args below meth c H locs 0 0 (vx_MQ below (wqI g b 0 M' (OL g o r) o s.heap.size) noX args s 1 6 (AO b o s.heap.size)) (F0 m 0 ls []) by rw [hH, hlo] at hW; exact hW
  refine lv_aload_n hx hb dL_digest_0 rfl (lv_at hl 1 rfl) ?_
  refine lv_iconst hx hb (v := jI 0) dL_digest_1 rfl ?_
  refine lv_aload_n hx hb dL_digest_2 rfl (lv_at hl 0 rfl) ?_
  refine x_cVl (As := []) (rest := [.int (jI 0), .ref o]) hx hb hml hown hts hK hR hS hC ok0 rfl (ci := 3) (C := RX3) (T := TX3) (N := 9) rfl wd1066 wd1067 wd1068 wd1 wd1069 hyL_digest ⟨rfl, rfl⟩ ⟨Nat.le_trans (Nat.succ_le_succ (Nat.le_max_left _ _)) (Nat.le_refl _), Nat.add_le_add_left (Nat.le_max_left _ _) _⟩ hl.1 (Nat.le_of_ble_eq_true rfl) dL_digest_3 ⟨Nat.zero_le _, Nat.zero_le _⟩ rfl ?_
  intro H1 locs1 hR hS1
  have hO1 : ∃ x, OL g o x H1 := ⟨x0, hO.kept (hS1.2.1 o (Array.getElem?_eq_some_iff.mp hO.choose_spec.1).1 hA)⟩
  have hS := AO_S (o := o) hS1
  refine x_wst hx hb hK hR hO1 hA hS dL_digest_6 ?_
  intro H2 locs2 hR hO2 hS
  refine lv_goto (tgt := 13) hx hb dL_digest_7 rfl ?_
  refine lv_iconst hx hb (v := jI 0) dL_digest_13 rfl ?_
  exact x_wend hx hb hlocks hK hR hO2 hS hr (Nat.zero_le _) (Nat.zero_le _) dL_digest_14
set_option maxHeartbeats 4000000 in
set_option maxRecDepth 100000 in
theorem tL_digest_1 {l : Launch} {g : Gx} {b o : Nat} {M : Mm} (hC : Tt l yX3_digest cX3_digest 4 (some .long) rmTX3_digest g b [.ref (adr b 0 0)] M 1) : Lt l yL_digest cL_digest 3 hhL_digest rmL_digest g b o [.ref (adr b 0 0), .ref o] M (OLp g b o) 1 M (fun H => ∃ x, OL g o x H) := by
  refine lt_of (by decide +kernel) (Nat.le_of_ble_eq_true rfl) ?_
  intro p e s m args below meth c C0 hTH hNP hPre hTab hR ls hl
  obtain ⟨hx, hb, hr, hlocks, hml, hown, hts, hK⟩ := id C0
  have hS : va_S (AA b s.heap.size) s.heap s.heap [] := va_S.rf
  have hl : lv_has ls 3 [(0, .ref (adr b 0 0)), (1, .ref o)] := hl
  obtain ⟨H, hH⟩ : ∃ z, z = s.heap := ⟨_, rfl⟩
  obtain ⟨locs, hlo⟩ : ∃ z : List Loc, z = [] := ⟨_, rfl⟩
  have hR : Rel g b M H := by rw [hH]; exact hR
  have hS : va_S (AA b s.heap.size) s.heap H locs := by rw [hH, hlo]; exact hS
  obtain ⟨⟨x0, hO⟩, hA⟩ := hPre
  suffices hW : W p l e rmL_digest s m args below meth c H locs 0 0 (vx_MQ below (wqI g b 1 M (fun H => ∃ x, OL g o x H) o s.heap.size) noX args s 1 6 (AO b o s.heap.size)) (F0 m 0 ls []) by rw [hH, hlo] at hW; exact hW
  refine lv_aload_n hx hb dL_digest_0 rfl (lv_at hl 1 rfl) ?_
  refine lv_iconst hx hb (v := jI 0) dL_digest_1 rfl ?_
  refine lv_aload_n hx hb dL_digest_2 rfl (lv_at hl 0 rfl) ?_
  refine x_tC (As := []) (rest := [.int (jI 0), .ref o]) hx hb hml hown hts hK hTH hR hS hC wd1066 wd1067 wd1068 wd1 wd1069 hyL_digest ⟨rfl, rfl⟩ ⟨Nat.le_trans (Nat.succ_le_succ (Nat.le_max_right _ _)) (Nat.le_refl _), Nat.add_le_add_left (Nat.le_max_right _ _) _⟩ hl.1 (Nat.le_of_ble_eq_true rfl) dL_digest_3 ⟨Nat.le_refl _, Nat.le_refl _⟩ rfl ?_
  intro H1 locs1 q ce hR hS1 hce hcv hcl
  have hS := AO_S (o := o) hS1
  refine vx_catch (name := exN 1) hown [] ⟨0, 7, 10, 13⟩ [] hTab (fun z hz => by cases hz) (by decide +kernel) (by decide) (hts _ wd178) hTH.2.2.1 hce hcv hcl ?_
  refine lv_astore_n hx hb dL_digest_10 rfl hl (by decide) rfl ?_
  intro ls1 hl1
  refine lv_iconst hx hb (v := jI 1) dL_digest_11 rfl ?_
  exact x_wend hx hb hlocks hK hR ⟨x0, hO.kept (hS1.2.1 o (Array.getElem?_eq_some_iff.mp hO.choose_spec.1).1 hA)⟩ hS hr (Nat.le_refl _) (Nat.le_refl _) dL_digest_12
