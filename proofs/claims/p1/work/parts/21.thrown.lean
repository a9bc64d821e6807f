abbrev rmTX3_needPower : Room := { frames := 6, cells := 1, slots := 6, locals := 90 }
def T_X3_needPower (M : Mm) : Option Nat := (if (M 0 0 5) = 0 then none else (some 1))
set_option maxHeartbeats 4000000 in
set_option maxRecDepth 100000 in
theorem t_X3_needPower {l : Launch} {g : Gx} {b : Nat} {M : Mm} {E : Nat} (hst : l.stackTraces = false) (hF : T_X3_needPower M  = some E) : Tt l yX3_needPower cX3_needPower 1 none rmTX3_needPower g b [.ref (adr b 0 0)] M E := by
  refine tt_of (by decide +kernel) (Nat.le_of_ble_eq_true rfl) ?_
  intro p e s m args below meth c C0 hTH hnt hR ls hl
  obtain ⟨hx, hb, hr, hlocks, hml, hown, hts, hK⟩ := id C0
  have hS : va_S (AA b s.heap.size) s.heap s.heap [] := va_S.rf
  have hl : lv_has ls 1 [(0, .ref (adr b 0 0))] := hl
  obtain ⟨H, hH⟩ : ∃ z, z = s.heap := ⟨_, rfl⟩
  obtain ⟨locs, hlo⟩ : ∃ z : List Loc, z = [] := ⟨_, rfl⟩
  have hR : Rel g b M H := by rw [hH]; exact hR
  have hS : va_S (AA b s.heap.size) s.heap H locs := by rw [hH, hlo]; exact hS
  suffices hW : W p l e rmTX3_needPower s m args below meth c H locs 0 0 (vx_MQ below (fun _ _ _ _ => False) (XT g b E M s.heap.size) args s 1 6 (AA b s.heap.size)) (F0 m 0 ls []) by rw [hH, hlo] at hW; exact hW
  rw [T_X3_needPower] at hF
  refine lv_aload_n hx hb dX3_needPower_0 rfl (lv_at hl 0 rfl) ?_
  refine gf_3_5 hx hb hts hown hK hR wd144 dX3_needPower_1 ?_
  have hg1 : rg (M 0 0 5) := hR.2 0 0 5 (by decide)
  refine x_if_eq (tgt := 18) hx hb hg1 dX3_needPower_4 (by decide) (fun ci2 => ?_) (fun ci2 => ?_)
  · rw [if_pos ci2] at hF
    cases hF
  · rw [if_neg ci2] at hF
    cases hF
    exact thr_X3_needPower_7 hx hb hst hml hl.1 hown hlocks hts hK hTH hnt hR hS (Nat.le_of_ble_eq_true rfl) (Nat.le_of_ble_eq_true rfl) (Nat.le_of_ble_eq_true rfl) (Nat.le_of_ble_eq_true rfl)
abbrev rmTX3_needNode : Room := { frames := 6, cells := 1, slots := 6, locals := 90 }
def T_X3_needNode (M : Mm) (a1 : Int) : Option Nat := (xk (M 0 0 0 = 0 ∨ M 0 0 0 = 1) (xb1 (F_X2_at M ((M 0 0 0).toNat) a1) fun y4 => (if (M 2 y4 0) = 0 then (some 2) else none)))
set_option maxHeartbeats 4000000 in
set_option maxRecDepth 100000 in
theorem t_X3_needNode {l : Launch} {g : Gx} {b : Nat} {M : Mm} {a1 : Int} {E : Nat} (hst : l.stackTraces = false) (ha1 : rg a1) (hF : T_X3_needNode M a1 = some E) : Tt l yX3_needNode cX3_needNode 2 none rmTX3_needNode g b [.ref (adr b 0 0), .int (jI a1)] M E := by
  refine tt_of (by decide +kernel) (Nat.le_of_ble_eq_true rfl) ?_
  intro p e s m args below meth c C0 hTH hnt hR ls hl
  obtain ⟨hx, hb, hr, hlocks, hml, hown, hts, hK⟩ := id C0
  have hS : va_S (AA b s.heap.size) s.heap s.heap [] := va_S.rf
  have hl : lv_has ls 2 [(0, .ref (adr b 0 0)), (1, .int (jI a1))] := hl
  obtain ⟨H, hH⟩ : ∃ z, z = s.heap := ⟨_, rfl⟩
  obtain ⟨locs, hlo⟩ : ∃ z : List Loc, z = [] := ⟨_, rfl⟩
  have hR : Rel g b M H := by rw [hH]; exact hR
  have hS : va_S (AA b s.heap.size) s.heap H locs := by rw [hH, hlo]; exact hS
  suffices hW : W p l e rmTX3_needNode s m args below meth c H locs 0 0 (vx_MQ below (fun _ _ _ _ => False) (XT g b E M s.heap.size) args s 1 6 (AA b s.heap.size)) (F0 m 0 ls []) by rw [hH, hlo] at hW; exact hW
  rw [T_X3_needNode] at hF
  refine lv_aload_n hx hb dX3_needNode_0 rfl (lv_at hl 0 rfl) ?_
  refine gf_3_0 hx hb hts hown hK hR wd139 dX3_needNode_1 ?_
  obtain ⟨ht1, hF⟩ := xk_some hF
  have hj2 : (M 0 0 0).toNat < 3 := by omega
  refine lv_iload_n hx hb dX3_needNode_4 rfl (lv_at hl 1 rfl) ?_
  obtain ⟨y4, hc3, hF⟩ := xb1_some hF
  refine x_cVr (C := RX2) (T := TX2) (N := 8) (ci := 2) (As := [.int (jI a1)]) (rest := []) hx hb hml hown hts hK hR hS (c_X2_at hj2 ha1 hc3) (ok1 hj2) rfl rfl wd265 wd266 wd267 wd2 wd268 hyX2_at ⟨rfl, rfl⟩ ⟨Nat.le_of_ble_eq_true rfl, Nat.le_of_ble_eq_true rfl⟩ hl.1 (Nat.le_of_ble_eq_true rfl) dX3_needNode_5 ⟨Nat.zero_le _, Nat.zero_le _⟩ rfl (fun hg5 H locs hR hS => ?_)
  have hj6 : y4 < 99 := lt2 hg5
  refine gf_1_0 hx hb hts hown hK hR hj6 wd37 dX3_needNode_8 ?_
  have hg7 : rg (M 2 y4 0) := hR.2 2 y4 0 (by decide)
  refine x_if_ne (tgt := 25) hx hb hg7 dX3_needNode_11 (by decide) (fun ci8 => ?_) (fun ci8 => ?_)
  · rw [if_neg ci8] at hF
    cases hF
  · rw [if_pos ci8] at hF
    cases hF
    exact thr_X3_needNode_14 hx hb hst hml hl.1 hown hlocks hts hK hTH hnt hR hS (Nat.le_of_ble_eq_true rfl) (Nat.le_of_ble_eq_true rfl) (Nat.le_of_ble_eq_true rfl) (Nat.le_of_ble_eq_true rfl)
abbrev rmTX3_needRange : Room := { frames := 6, cells := 1, slots := 6, locals := 90 }
def T_X3_needRange (M : Mm) (a1 : Int) (a2 : Int) (a3 : Int) : Option Nat := (if a1 < a2 then (some 3) else (if a1 ≤ a3 then none else (some 3)))
set_option maxHeartbeats 4000000 in
set_option maxRecDepth 100000 in
theorem t_X3_needRange {l : Launch} {g : Gx} {b : Nat} {M : Mm} {a1 : Int} {a2 : Int} {a3 : Int} {E : Nat} (hst : l.stackTraces = false) (ha1 : rg a1) (ha2 : rg a2) (ha3 : rg a3) (hF : T_X3_needRange M a1 a2 a3 = some E) : Tt l yX3_needRange cX3_needRange 4 none rmTX3_needRange g b [.ref (adr b 0 0), .int (jI a1), .int (jI a2), .int (jI a3)] M E := by
  refine tt_of (by decide +kernel) (Nat.le_of_ble_eq_true rfl) ?_
  intro p e s m args below meth c C0 hTH hnt hR ls hl
  obtain ⟨hx, hb, hr, hlocks, hml, hown, hts, hK⟩ := id C0
  have hS : va_S (AA b s.heap.size) s.heap s.heap [] := va_S.rf
  have hl : lv_has ls 4 [(0, .ref (adr b 0 0)), (1, .int (jI a1)), (2, .int (jI a2)), (3, .int (jI a3))] := hl
  obtain ⟨H, hH⟩ : ∃ z, z = s.heap := ⟨_, rfl⟩
  obtain ⟨locs, hlo⟩ : ∃ z : List Loc, z = [] := ⟨_, rfl⟩
  have hR : Rel g b M H := by rw [hH]; exact hR
  have hS : va_S (AA b s.heap.size) s.heap H locs := by rw [hH, hlo]; exact hS
  suffices hW : W p l e rmTX3_needRange s m args below meth c H locs 0 0 (vx_MQ below (fun _ _ _ _ => False) (XT g b E M s.heap.size) args s 1 6 (AA b s.heap.size)) (F0 m 0 ls []) by rw [hH, hlo] at hW; exact hW
  rw [T_X3_needRange] at hF
  refine lv_iload_n hx hb dX3_needRange_0 rfl (lv_at hl 1 rfl) ?_
  refine lv_iload_n hx hb dX3_needRange_1 rfl (lv_at hl 2 rfl) ?_
  refine x_icmp_lt (tgt := 10) hx hb ha1 ha2 dX3_needRange_2 (by decide) (fun ci1 => ?_) (fun ci1 => ?_)
  · rw [if_pos ci1] at hF
    cases hF
    exact thr_X3_needRange_10 hx hb hst hml hl.1 hown hlocks hts hK hTH hnt hR hS (Nat.le_of_ble_eq_true rfl) (Nat.le_of_ble_eq_true rfl) (Nat.le_of_ble_eq_true rfl) (Nat.le_of_ble_eq_true rfl)
  · rw [if_neg ci1] at hF
    refine lv_iload_n hx hb dX3_needRange_5 rfl (lv_at hl 1 rfl) ?_
    refine lv_iload_n hx hb dX3_needRange_6 rfl (lv_at hl 3 rfl) ?_
    refine x_icmp_le (tgt := 21) hx hb ha1 ha3 dX3_needRange_7 (by decide) (fun ci2 => ?_) (fun ci2 => ?_)
    · rw [if_pos ci2] at hF
      cases hF
    · rw [if_neg ci2] at hF
      cases hF
      exact thr_X3_needRange_10 hx hb hst hml hl.1 hown hlocks hts hK hTH hnt hR hS (Nat.le_of_ble_eq_true rfl) (Nat.le_of_ble_eq_true rfl) (Nat.le_of_ble_eq_true rfl) (Nat.le_of_ble_eq_true rfl)
abbrev rmTX3_needEntry : Room := { frames := 7, cells := 1, slots := 6, locals := 113 }
def T_X3_needEntry (M : Mm) (a1 : Int) (a2 : Int) : Option Nat := (xt (T_X3_needPower M ) (xb1 (F_X3_needPower M ) fun _ => (xt (T_X3_needNode M a1) (xb1 (F_X3_needNode M a1) fun _ => (xt (T_X3_needRange M a2 (1 : Int) (99 : Int)) (xb1 (F_X3_needRange M a2 (1 : Int) (99 : Int)) fun _ => none))))))
set_option maxHeartbeats 4000000 in
set_option maxRecDepth 100000 in
theorem t_X3_needEntry {l : Launch} {g : Gx} {b : Nat} {M : Mm} {a1 : Int} {a2 : Int} {E : Nat} (hst : l.stackTraces = false) (ha1 : rg a1) (ha2 : rg a2) (hF : T_X3_needEntry M a1 a2 = some E) : Tt l yX3_needEntry cX3_needEntry 3 none rmTX3_needEntry g b [.ref (adr b 0 0), .int (jI a1), .int (jI a2)] M E := by
  refine tt_of (by decide +kernel) (Nat.le_of_ble_eq_true rfl) ?_
  intro p e s m args below meth c C0 hTH hnt hR ls hl
  obtain ⟨hx, hb, hr, hlocks, hml, hown, hts, hK⟩ := id C0
  have hS : va_S (AA b s.heap.size) s.heap s.heap [] := va_S.rf
  have hl : lv_has ls 3 [(0, .ref (adr b 0 0)), (1, .int (jI a1)), (2, .int (jI a2))] := hl
  obtain ⟨H, hH⟩ : ∃ z, z = s.heap := ⟨_, rfl⟩
  obtain ⟨locs, hlo⟩ : ∃ z : List Loc, z = [] := ⟨_, rfl⟩
  have hR : Rel g b M H := by rw [hH]; exact hR
  have hS : va_S (AA b s.heap.size) s.heap H locs := by rw [hH, hlo]; exact hS
  suffices hW : W p l e rmTX3_needEntry s m args below meth c H locs 0 0 (vx_MQ below (fun _ _ _ _ => False) (XT g b E M s.heap.size) args s 1 6 (AA b s.heap.size)) (F0 m 0 ls []) by rw [hH, hlo] at hW; exact hW
  rw [T_X3_needEntry] at hF
  refine lv_aload_n hx hb dX3_needEntry_0 rfl (lv_at hl 0 rfl) ?_
  rcases xt_some hF with hT | ⟨-, hF⟩
  · exact x_tV (As := []) (rest := []) hx hb hml hown hlocks hts hK hTH hnt hR hS (t_X3_needPower hst  hT) wd189 wd191 ws1 wd1 wd192 hyX3_needPower ⟨rfl, rfl⟩ ⟨Nat.le_of_ble_eq_true rfl, Nat.le_of_ble_eq_true rfl⟩ hl.1 (Nat.le_of_ble_eq_true rfl) dX3_needEntry_1 ⟨Nat.le_of_ble_eq_true rfl, Nat.le_of_ble_eq_true rfl⟩ rfl
  obtain ⟨_, hc1, hF⟩ := xb1_some hF
  refine x_cVv (C := RX3) (T := TX3) (N := 9) (ci := 3) (As := []) (rest := []) hx hb hml hown hts hK hR hS (c_X3_needPower  hc1) ok0 rfl rfl wd189 wd191 ws1 wd1 wd192 hyX3_needPower ⟨rfl, rfl⟩ ⟨Nat.le_of_ble_eq_true rfl, Nat.le_of_ble_eq_true rfl⟩ hl.1 (Nat.le_of_ble_eq_true rfl) dX3_needEntry_1 ⟨Nat.zero_le _, Nat.zero_le _⟩ rfl (fun H locs hR hS => ?_)
  refine lv_aload_n hx hb dX3_needEntry_4 rfl (lv_at hl 0 rfl) ?_
  refine lv_iload_n hx hb dX3_needEntry_5 rfl (lv_at hl 1 rfl) ?_
  rcases xt_some hF with hT | ⟨-, hF⟩
  · exact x_tV (As := [.int (jI a1)]) (rest := []) hx hb hml hown hlocks hts hK hTH hnt hR hS (t_X3_needNode hst ha1 hT) wd261 wd263 ws3 wd1 wd264 hyX3_needNode ⟨rfl, rfl⟩ ⟨Nat.le_of_ble_eq_true rfl, Nat.le_of_ble_eq_true rfl⟩ hl.1 (Nat.le_of_ble_eq_true rfl) dX3_needEntry_6 ⟨Nat.le_of_ble_eq_true rfl, Nat.le_of_ble_eq_true rfl⟩ rfl
  obtain ⟨_, hc2, hF⟩ := xb1_some hF
  refine x_cVv (C := RX3) (T := TX3) (N := 9) (ci := 3) (As := [.int (jI a1)]) (rest := []) hx hb hml hown hts hK hR hS (c_X3_needNode ha1 hc2) ok0 rfl rfl wd261 wd263 ws3 wd1 wd264 hyX3_needNode ⟨rfl, rfl⟩ ⟨Nat.le_of_ble_eq_true rfl, Nat.le_of_ble_eq_true rfl⟩ hl.1 (Nat.le_of_ble_eq_true rfl) dX3_needEntry_6 ⟨Nat.zero_le _, Nat.zero_le _⟩ rfl (fun H locs hR hS => ?_)
  refine lv_aload_n hx hb dX3_needEntry_9 rfl (lv_at hl 0 rfl) ?_
  refine lv_iload_n hx hb dX3_needEntry_10 rfl (lv_at hl 2 rfl) ?_
  refine x_iconst hx hb dX3_needEntry_11 ?_
  refine x_bipush hx hb (by decide +kernel) dX3_needEntry_12 ?_
  rcases xt_some hF with hT | ⟨-, hF⟩
  · exact x_tV (As := [.int (jI a2), .int (jI (1 : Int)), .int (jI (99 : Int))]) (rest := []) hx hb hml hown hlocks hts hK hTH hnt hR hS (t_X3_needRange hst ha2 (by decide : rg (1 : Int)) (by decide : rg (99 : Int)) hT) wd285 wd287 ws4 wd1 wd288 hyX3_needRange ⟨rfl, rfl⟩ ⟨Nat.le_of_ble_eq_true rfl, Nat.le_of_ble_eq_true rfl⟩ hl.1 (Nat.le_of_ble_eq_true rfl) dX3_needEntry_14 ⟨Nat.le_of_ble_eq_true rfl, Nat.le_of_ble_eq_true rfl⟩ rfl
  obtain ⟨_, hc3, hF⟩ := xb1_some hF
  refine x_cVv (C := RX3) (T := TX3) (N := 9) (ci := 3) (As := [.int (jI a2), .int (jI (1 : Int)), .int (jI (99 : Int))]) (rest := []) hx hb hml hown hts hK hR hS (c_X3_needRange ha2 (by decide : rg (1 : Int)) (by decide : rg (99 : Int)) hc3) ok0 rfl rfl wd285 wd287 ws4 wd1 wd288 hyX3_needRange ⟨rfl, rfl⟩ ⟨Nat.le_of_ble_eq_true rfl, Nat.le_of_ble_eq_true rfl⟩ hl.1 (Nat.le_of_ble_eq_true rfl) dX3_needEntry_14 ⟨Nat.zero_le _, Nat.zero_le _⟩ rfl (fun H locs hR hS => ?_)
  cases hF
abbrev rmTX3_makeFile : Room := { frames := 8, cells := 1, slots := 6, locals := 155 }
def T_X3_makeFile (M : Mm) (a1 : Int) (a2 : Int) : Option Nat := (xt (T_X3_needEntry M a1 a2) (xb1 (F_X3_needEntry M a1 a2) fun _ => none))
set_option maxHeartbeats 4000000 in
set_option maxRecDepth 100000 in
theorem t_X3_makeFile {l : Launch} {g : Gx} {b : Nat} {M : Mm} {a1 : Int} {a2 : Int} {E : Nat} (hst : l.stackTraces = false) (ha1 : rg a1) (ha2 : rg a2) (hF : T_X3_makeFile M a1 a2 = some E) : Tt l yX3_makeFile cX3_makeFile 3 (some .int) rmTX3_makeFile g b [.ref (adr b 0 0), .int (jI a1), .int (jI a2)] M E := by
  refine tt_of (by decide +kernel) (Nat.le_of_ble_eq_true rfl) ?_
  intro p e s m args below meth c C0 hTH hnt hR ls hl
  obtain ⟨hx, hb, hr, hlocks, hml, hown, hts, hK⟩ := id C0
  have hS : va_S (AA b s.heap.size) s.heap s.heap [] := va_S.rf
  have hl : lv_has ls 3 [(0, .ref (adr b 0 0)), (1, .int (jI a1)), (2, .int (jI a2))] := hl
  obtain ⟨H, hH⟩ : ∃ z, z = s.heap := ⟨_, rfl⟩
  obtain ⟨locs, hlo⟩ : ∃ z : List Loc, z = [] := ⟨_, rfl⟩
  have hR : Rel g b M H := by rw [hH]; exact hR
  have hS : va_S (AA b s.heap.size) s.heap H locs := by rw [hH, hlo]; exact hS
  suffices hW : W p l e rmTX3_makeFile s m args below meth c H locs 0 0 (vx_MQ below (fun _ _ _ _ => False) (XT g b E M s.heap.size) args s 1 6 (AA b s.heap.size)) (F0 m 0 ls []) by rw [hH, hlo] at hW; exact hW
  rw [T_X3_makeFile] at hF
  refine lv_aload_n hx hb dX3_makeFile_0 rfl (lv_at hl 0 rfl) ?_
  refine lv_iload_n hx hb dX3_makeFile_1 rfl (lv_at hl 1 rfl) ?_
  refine lv_iload_n hx hb dX3_makeFile_2 rfl (lv_at hl 2 rfl) ?_
  rcases xt_some hF with hT | ⟨-, hF⟩
  · exact x_tV (As := [.int (jI a1), .int (jI a2)]) (rest := []) hx hb hml hown hlocks hts hK hTH hnt hR hS (t_X3_needEntry hst ha1 ha2 hT) wd185 wd187 ws0 wd1 wd188 hyX3_needEntry ⟨rfl, rfl⟩ ⟨Nat.le_of_ble_eq_true rfl, Nat.le_of_ble_eq_true rfl⟩ hl.1 (Nat.le_of_ble_eq_true rfl) dX3_makeFile_3 ⟨Nat.le_of_ble_eq_true rfl, Nat.le_of_ble_eq_true rfl⟩ rfl
  obtain ⟨_, hc1, hF⟩ := xb1_some hF
  refine x_cVv (C := RX3) (T := TX3) (N := 9) (ci := 3) (As := [.int (jI a1), .int (jI a2)]) (rest := []) hx hb hml hown hts hK hR hS (c_X3_needEntry ha1 ha2 hc1) ok0 rfl rfl wd185 wd187 ws0 wd1 wd188 hyX3_needEntry ⟨rfl, rfl⟩ ⟨Nat.le_of_ble_eq_true rfl, Nat.le_of_ble_eq_true rfl⟩ hl.1 (Nat.le_of_ble_eq_true rfl) dX3_makeFile_3 ⟨Nat.zero_le _, Nat.zero_le _⟩ rfl (fun H locs hR hS => ?_)
  refine lv_aload_n hx hb dX3_makeFile_6 rfl (lv_at hl 0 rfl) ?_
  refine x_iconst hx hb dX3_makeFile_7 ?_
  refine lv_iload_n hx hb dX3_makeFile_8 rfl (lv_at hl 1 rfl) ?_
  refine lv_iload_n hx hb dX3_makeFile_9 rfl (lv_at hl 2 rfl) ?_
  cases hF
abbrev rmTX3_makeFolder : Room := { frames := 8, cells := 1, slots := 6, locals := 155 }
def T_X3_makeFolder (M : Mm) (a1 : Int) (a2 : Int) : Option Nat := (xt (T_X3_needEntry M a1 a2) (xb1 (F_X3_needEntry M a1 a2) fun _ => none))
set_option maxHeartbeats 4000000 in
set_option maxRecDepth 100000 in
theorem t_X3_makeFolder {l : Launch} {g : Gx} {b : Nat} {M : Mm} {a1 : Int} {a2 : Int} {E : Nat} (hst : l.stackTraces = false) (ha1 : rg a1) (ha2 : rg a2) (hF : T_X3_makeFolder M a1 a2 = some E) : Tt l yX3_makeFolder cX3_makeFolder 3 (some .int) rmTX3_makeFolder g b [.ref (adr b 0 0), .int (jI a1), .int (jI a2)] M E := by
  refine tt_of (by decide +kernel) (Nat.le_of_ble_eq_true rfl) ?_
  intro p e s m args below meth c C0 hTH hnt hR ls hl
  obtain ⟨hx, hb, hr, hlocks, hml, hown, hts, hK⟩ := id C0
  have hS : va_S (AA b s.heap.size) s.heap s.heap [] := va_S.rf
  have hl : lv_has ls 3 [(0, .ref (adr b 0 0)), (1, .int (jI a1)), (2, .int (jI a2))] := hl
  obtain ⟨H, hH⟩ : ∃ z, z = s.heap := ⟨_, rfl⟩
  obtain ⟨locs, hlo⟩ : ∃ z : List Loc, z = [] := ⟨_, rfl⟩
  have hR : Rel g b M H := by rw [hH]; exact hR
  have hS : va_S (AA b s.heap.size) s.heap H locs := by rw [hH, hlo]; exact hS
  suffices hW : W p l e rmTX3_makeFolder s m args below meth c H locs 0 0 (vx_MQ below (fun _ _ _ _ => False) (XT g b E M s.heap.size) args s 1 6 (AA b s.heap.size)) (F0 m 0 ls []) by rw [hH, hlo] at hW; exact hW
  rw [T_X3_makeFolder] at hF
  refine lv_aload_n hx hb dX3_makeFolder_0 rfl (lv_at hl 0 rfl) ?_
  refine lv_iload_n hx hb dX3_makeFolder_1 rfl (lv_at hl 1 rfl) ?_
  refine lv_iload_n hx hb dX3_makeFolder_2 rfl (lv_at hl 2 rfl) ?_
  rcases xt_some hF with hT | ⟨-, hF⟩
  · exact x_tV (As := [.int (jI a1), .int (jI a2)]) (rest := []) hx hb hml hown hlocks hts hK hTH hnt hR hS (t_X3_needEntry hst ha1 ha2 hT) wd185 wd187 ws0 wd1 wd188 hyX3_needEntry ⟨rfl, rfl⟩ ⟨Nat.le_of_ble_eq_true rfl, Nat.le_of_ble_eq_true rfl⟩ hl.1 (Nat.le_of_ble_eq_true rfl) dX3_makeFolder_3 ⟨Nat.le_of_ble_eq_true rfl, Nat.le_of_ble_eq_true rfl⟩ rfl
  obtain ⟨_, hc1, hF⟩ := xb1_some hF
  refine x_cVv (C := RX3) (T := TX3) (N := 9) (ci := 3) (As := [.int (jI a1), .int (jI a2)]) (rest := []) hx hb hml hown hts hK hR hS (c_X3_needEntry ha1 ha2 hc1) ok0 rfl rfl wd185 wd187 ws0 wd1 wd188 hyX3_needEntry ⟨rfl, rfl⟩ ⟨Nat.le_of_ble_eq_true rfl, Nat.le_of_ble_eq_true rfl⟩ hl.1 (Nat.le_of_ble_eq_true rfl) dX3_makeFolder_3 ⟨Nat.zero_le _, Nat.zero_le _⟩ rfl (fun H locs hR hS => ?_)
  refine lv_aload_n hx hb dX3_makeFolder_6 rfl (lv_at hl 0 rfl) ?_
  refine x_iconst hx hb dX3_makeFolder_7 ?_
  refine lv_iload_n hx hb dX3_makeFolder_8 rfl (lv_at hl 1 rfl) ?_
  refine lv_iload_n hx hb dX3_makeFolder_9 rfl (lv_at hl 2 rfl) ?_
  cases hF
abbrev rmTX3_makeLink : Room := { frames := 8, cells := 1, slots := 6, locals := 135 }
def T_X3_makeLink_37 (M : Mm) (v1 : Int) (v2 : Int) (v3 : Int) (v4 : Int) (v5 : Int) (s1 : Int) (s2 : Int) (s3 : Int) : Option Nat := (xt (T_X3_needRange M s1 s2 s3) (xb1 (F_X3_needRange M s1 s2 s3) fun _ => (xb1 (F_X3_hindranceToMake M v1 v2) fun y3 => (if y3 = 0 then none else none))))
set_option maxHeartbeats 4000000 in
set_option maxRecDepth 100000 in
theorem u_X3_makeLink_37 {p : Program} {l : Launch} {e : Env} {s : State} {m : MethodId} {args : Array Value} {below : List Frame} {meth : Method} {c : Code} {g : Gx} {b : Nat} (C0 : XA p s m meth c args RX3 cX3_makeLink 8 (some .int) g) (hst : l.stackTraces = false) (hTH : TH b s) (hnt : ∀ x ∈ c.exceptionTable.toList, False) {E : Nat} {M : Mm} : ∀ (v1 : Int) (v2 : Int) (v3 : Int) (v4 : Int) (v5 : Int) (s1 : Int) (s2 : Int) (s3 : Int) (hv1 : rg v1) (hv2 : rg v2) (hv3 : rg v3) (hv4 : rg v4) (hv5 : rg v5) (hs1 : rg s1) (hs2 : rg s2) (hs3 : rg s3) (H : Heap) (locs : List Loc), Rel g b M H → va_S (AA b s.heap.size) s.heap H locs → ∀ ls : Array Slot, lv_has ls 8 [(0, .ref (adr b 0 0)), (1, .int (jI v1)), (2, .int (jI v2)), (3, .int (jI v3)), (4, .int (jI v4)), (5, .int (jI v5))] → T_X3_makeLink_37 M v1 v2 v3 v4 v5 s1 s2 s3 = some E → W p l e rmTX3_makeLink s m args below meth c H locs 0 0 (vx_MQ below (fun _ _ _ _ => False) (XT g b E M s.heap.size) args s 1 6 (AA b s.heap.size)) (F0 m 37 ls [.int (jI s3), .int (jI s2), .int (jI s1), .ref (adr b 0 0)]) := by
  obtain ⟨hx, hb, hr, hlocks, hml, hown, hts, hK⟩ := id C0
  intro v1 v2 v3 v4 v5 s1 s2 s3 hv1 hv2 hv3 hv4 hv5 hs1 hs2 hs3 H locs hR hS ls hl hF
  rw [T_X3_makeLink_37] at hF
  rcases xt_some hF with hT | ⟨-, hF⟩
  · exact x_tV (As := [.int (jI s1), .int (jI s2), .int (jI s3)]) (rest := []) hx hb hml hown hlocks hts hK hTH hnt hR hS (t_X3_needRange hst hs1 hs2 hs3 hT) wd285 wd287 ws4 wd1 wd288 hyX3_needRange ⟨rfl, rfl⟩ ⟨Nat.le_of_ble_eq_true rfl, Nat.le_of_ble_eq_true rfl⟩ hl.1 (Nat.le_of_ble_eq_true rfl) dX3_makeLink_37 ⟨Nat.le_of_ble_eq_true rfl, Nat.le_of_ble_eq_true rfl⟩ rfl
  obtain ⟨_, hc1, hF⟩ := xb1_some hF
  refine x_cVv (C := RX3) (T := TX3) (N := 9) (ci := 3) (As := [.int (jI s1), .int (jI s2), .int (jI s3)]) (rest := []) hx hb hml hown hts hK hR hS (c_X3_needRange hs1 hs2 hs3 hc1) ok0 rfl rfl wd285 wd287 ws4 wd1 wd288 hyX3_needRange ⟨rfl, rfl⟩ ⟨Nat.le_of_ble_eq_true rfl, Nat.le_of_ble_eq_true rfl⟩ hl.1 (Nat.le_of_ble_eq_true rfl) dX3_makeLink_37 ⟨Nat.zero_le _, Nat.zero_le _⟩ rfl (fun H locs hR hS => ?_)
  refine lv_aload_n hx hb dX3_makeLink_40 rfl (lv_at hl 0 rfl) ?_
  refine lv_iload_n hx hb dX3_makeLink_41 rfl (lv_at hl 1 rfl) ?_
  refine lv_iload_n hx hb dX3_makeLink_42 rfl (lv_at hl 2 rfl) ?_
  obtain ⟨y3, hc2, hF⟩ := xb1_some hF
  refine x_cVi (C := RX3) (T := TX3) (N := 9) (ci := 3) (As := [.int (jI v1), .int (jI v2)]) (rest := []) hx hb hml hown hts hK hR hS (c_X3_hindranceToMake hv1 hv2 hc2) ok0 rfl rfl wd309 wd311 ws6 wd1 wd312 hyX3_hindranceToMake ⟨rfl, rfl⟩ ⟨Nat.le_of_ble_eq_true rfl, Nat.le_of_ble_eq_true rfl⟩ hl.1 (Nat.le_of_ble_eq_true rfl) dX3_makeLink_43 ⟨Nat.zero_le _, Nat.zero_le _⟩ rfl (fun hg4 H locs hR hS => ?_)
  refine lv_istore (lv' := [(6, .int (jI y3)), (0, .ref (adr b 0 0)), (1, .int (jI v1)), (2, .int (jI v2)), (3, .int (jI v3)), (4, .int (jI v4)), (5, .int (jI v5))]) hx hb dX3_makeLink_46 hl (by decide) rfl (fun ls hl => ?_)
  refine lv_iload hx hb dX3_makeLink_48 (lv_at hl 0 rfl) ?_
  refine x_if_eq (tgt := 56) hx hb hg4 dX3_makeLink_50 (by decide) (fun ci5 => ?_) (fun ci5 => ?_)
  · rw [if_pos ci5] at hF
    refine lv_aload_n hx hb dX3_makeLink_56 rfl (lv_at hl 1 rfl) ?_
    cases hF
  · rw [if_neg ci5] at hF
    refine lv_iload hx hb dX3_makeLink_53 (lv_at hl 0 rfl) ?_
    cases hF
def T_X3_makeLink (M : Mm) (a1 : Int) (a2 : Int) (a3 : Int) (a4 : Int) (a5 : Int) : Option Nat := (xt (T_X3_needEntry M a1 a2) (xb1 (F_X3_needEntry M a1 a2) fun _ => (xt (T_X3_needRange M a3 (-1 : Int) (3 : Int)) (xb1 (F_X3_needRange M a3 (-1 : Int) (3 : Int)) fun _ => (xt (T_X3_needRange M a4 (0 : Int) (99 : Int)) (xb1 (F_X3_needRange M a4 (0 : Int) (99 : Int)) fun _ => (if a4 = 0 then (T_X3_makeLink_37 M a1 a2 a3 a4 a5 a5 (0 : Int) (0 : Int)) else (T_X3_makeLink_37 M a1 a2 a3 a4 a5 a5 (0 : Int) (99 : Int)))))))))
set_option maxHeartbeats 4000000 in
set_option maxRecDepth 100000 in
theorem t_X3_makeLink {l : Launch} {g : Gx} {b : Nat} {M : Mm} {a1 : Int} {a2 : Int} {a3 : Int} {a4 : Int} {a5 : Int} {E : Nat} (hst : l.stackTraces = false) (ha1 : rg a1) (ha2 : rg a2) (ha3 : rg a3) (ha4 : rg a4) (ha5 : rg a5) (hF : T_X3_makeLink M a1 a2 a3 a4 a5 = some E) : Tt l yX3_makeLink cX3_makeLink 8 (some .int) rmTX3_makeLink g b [.ref (adr b 0 0), .int (jI a1), .int (jI a2), .int (jI a3), .int (jI a4), .int (jI a5)] M E := by
  refine tt_of (by decide +kernel) (Nat.le_of_ble_eq_true rfl) ?_
  intro p e s m args below meth c C0 hTH hnt hR ls hl
  obtain ⟨hx, hb, hr, hlocks, hml, hown, hts, hK⟩ := id C0
  have hS : va_S (AA b s.heap.size) s.heap s.heap [] := va_S.rf
  have hl : lv_has ls 8 [(0, .ref (adr b 0 0)), (1, .int (jI a1)), (2, .int (jI a2)), (3, .int (jI a3)), (4, .int (jI a4)), (5, .int (jI a5))] := hl
  obtain ⟨H, hH⟩ : ∃ z, z = s.heap := ⟨_, rfl⟩
  obtain ⟨locs, hlo⟩ : ∃ z : List Loc, z = [] := ⟨_, rfl⟩
  have hR : Rel g b M H := by rw [hH]; exact hR
  have hS : va_S (AA b s.heap.size) s.heap H locs := by rw [hH, hlo]; exact hS
  suffices hW : W p l e rmTX3_makeLink s m args below meth c H locs 0 0 (vx_MQ below (fun _ _ _ _ => False) (XT g b E M s.heap.size) args s 1 6 (AA b s.heap.size)) (F0 m 0 ls []) by rw [hH, hlo] at hW; exact hW
  rw [T_X3_makeLink] at hF
  refine lv_aload_n hx hb dX3_makeLink_0 rfl (lv_at hl 0 rfl) ?_
  refine lv_iload_n hx hb dX3_makeLink_1 rfl (lv_at hl 1 rfl) ?_
  refine lv_iload_n hx hb dX3_makeLink_2 rfl (lv_at hl 2 rfl) ?_
  rcases xt_some hF with hT | ⟨-, hF⟩
  · exact x_tV (As := [.int (jI a1), .int (jI a2)]) (rest := []) hx hb hml hown hlocks hts hK hTH hnt hR hS (t_X3_needEntry hst ha1 ha2 hT) wd185 wd187 ws0 wd1 wd188 hyX3_needEntry ⟨rfl, rfl⟩ ⟨Nat.le_of_ble_eq_true rfl, Nat.le_of_ble_eq_true rfl⟩ hl.1 (Nat.le_of_ble_eq_true rfl) dX3_makeLink_3 ⟨Nat.le_of_ble_eq_true rfl, Nat.le_of_ble_eq_true rfl⟩ rfl
  obtain ⟨_, hc1, hF⟩ := xb1_some hF
  refine x_cVv (C := RX3) (T := TX3) (N := 9) (ci := 3) (As := [.int (jI a1), .int (jI a2)]) (rest := []) hx hb hml hown hts hK hR hS (c_X3_needEntry ha1 ha2 hc1) ok0 rfl rfl wd185 wd187 ws0 wd1 wd188 hyX3_needEntry ⟨rfl, rfl⟩ ⟨Nat.le_of_ble_eq_true rfl, Nat.le_of_ble_eq_true rfl⟩ hl.1 (Nat.le_of_ble_eq_true rfl) dX3_makeLink_3 ⟨Nat.zero_le _, Nat.zero_le _⟩ rfl (fun H locs hR hS => ?_)
  refine lv_aload_n hx hb dX3_makeLink_6 rfl (lv_at hl 0 rfl) ?_
  refine lv_iload_n hx hb dX3_makeLink_7 rfl (lv_at hl 3 rfl) ?_
  refine x_iconst hx hb dX3_makeLink_8 ?_
  refine x_iconst hx hb dX3_makeLink_9 ?_
  rcases xt_some hF with hT | ⟨-, hF⟩
  · exact x_tV (As := [.int (jI a3), .int (jI (-1 : Int)), .int (jI (3 : Int))]) (rest := []) hx hb hml hown hlocks hts hK hTH hnt hR hS (t_X3_needRange hst ha3 (by decide : rg (-1 : Int)) (by decide : rg (3 : Int)) hT) wd285 wd287 ws4 wd1 wd288 hyX3_needRange ⟨rfl, rfl⟩ ⟨Nat.le_of_ble_eq_true rfl, Nat.le_of_ble_eq_true rfl⟩ hl.1 (Nat.le_of_ble_eq_true rfl) dX3_makeLink_10 ⟨Nat.le_of_ble_eq_true rfl, Nat.le_of_ble_eq_true rfl⟩ rfl
  obtain ⟨_, hc2, hF⟩ := xb1_some hF
  refine x_cVv (C := RX3) (T := TX3) (N := 9) (ci := 3) (As := [.int (jI a3), .int (jI (-1 : Int)), .int (jI (3 : Int))]) (rest := []) hx hb hml hown hts hK hR hS (c_X3_needRange ha3 (by decide : rg (-1 : Int)) (by decide : rg (3 : Int)) hc2) ok0 rfl rfl wd285 wd287 ws4 wd1 wd288 hyX3_needRange ⟨rfl, rfl⟩ ⟨Nat.le_of_ble_eq_true rfl, Nat.le_of_ble_eq_true rfl⟩ hl.1 (Nat.le_of_ble_eq_true rfl) dX3_makeLink_10 ⟨Nat.zero_le _, Nat.zero_le _⟩ rfl (fun H locs hR hS => ?_)
  refine lv_aload_n hx hb dX3_makeLink_13 rfl (lv_at hl 0 rfl) ?_
  refine lv_iload hx hb dX3_makeLink_14 (lv_at hl 4 rfl) ?_
  refine x_iconst hx hb dX3_makeLink_16 ?_
  refine x_bipush hx hb (by decide +kernel) dX3_makeLink_17 ?_
  rcases xt_some hF with hT | ⟨-, hF⟩
  · exact x_tV (As := [.int (jI a4), .int (jI (0 : Int)), .int (jI (99 : Int))]) (rest := []) hx hb hml hown hlocks hts hK hTH hnt hR hS (t_X3_needRange hst ha4 (by decide : rg (0 : Int)) (by decide : rg (99 : Int)) hT) wd285 wd287 ws4 wd1 wd288 hyX3_needRange ⟨rfl, rfl⟩ ⟨Nat.le_of_ble_eq_true rfl, Nat.le_of_ble_eq_true rfl⟩ hl.1 (Nat.le_of_ble_eq_true rfl) dX3_makeLink_19 ⟨Nat.le_of_ble_eq_true rfl, Nat.le_of_ble_eq_true rfl⟩ rfl
  obtain ⟨_, hc3, hF⟩ := xb1_some hF
  refine x_cVv (C := RX3) (T := TX3) (N := 9) (ci := 3) (As := [.int (jI a4), .int (jI (0 : Int)), .int (jI (99 : Int))]) (rest := []) hx hb hml hown hts hK hR hS (c_X3_needRange ha4 (by decide : rg (0 : Int)) (by decide : rg (99 : Int)) hc3) ok0 rfl rfl wd285 wd287 ws4 wd1 wd288 hyX3_needRange ⟨rfl, rfl⟩ ⟨Nat.le_of_ble_eq_true rfl, Nat.le_of_ble_eq_true rfl⟩ hl.1 (Nat.le_of_ble_eq_true rfl) dX3_makeLink_19 ⟨Nat.zero_le _, Nat.zero_le _⟩ rfl (fun H locs hR hS => ?_)
  refine lv_aload_n hx hb dX3_makeLink_22 rfl (lv_at hl 0 rfl) ?_
  refine lv_iload hx hb dX3_makeLink_23 (lv_at hl 5 rfl) ?_
  refine x_iconst hx hb dX3_makeLink_25 ?_
  refine lv_iload hx hb dX3_makeLink_26 (lv_at hl 4 rfl) ?_
  refine x_if_ne (tgt := 35) hx hb ha4 dX3_makeLink_28 (by decide) (fun ci4 => ?_) (fun ci4 => ?_)
  · rw [if_neg ci4] at hF
    refine x_bipush hx hb (by decide +kernel) dX3_makeLink_35 ?_
    exact u_X3_makeLink_37 C0 hst hTH hnt a1 a2 a3 a4 a5 a5 (0 : Int) (99 : Int) ha1 ha2 ha3 ha4 ha5 ha5 (by decide : rg (0 : Int)) (by decide : rg (99 : Int)) H locs hR hS ls (lv_sub hl [0, 1, 2, 3, 4, 5] rfl) hF
  · rw [if_pos ci4] at hF
    refine x_iconst hx hb dX3_makeLink_31 ?_
    refine lv_goto (tgt := 37) hx hb dX3_makeLink_32 (by decide) ?_
    exact u_X3_makeLink_37 C0 hst hTH hnt a1 a2 a3 a4 a5 a5 (0 : Int) (0 : Int) ha1 ha2 ha3 ha4 ha5 ha5 (by decide : rg (0 : Int)) (by decide : rg (0 : Int)) H locs hR hS ls (lv_sub hl [0, 1, 2, 3, 4, 5] rfl) hF
abbrev rmTX3_cloneFile : Room := { frames := 7, cells := 1, slots := 6, locals := 131 }
def T_X3_cloneFile (M : Mm) (a1 : Int) (a2 : Int) (a3 : Int) : Option Nat := (xt (T_X3_needPower M ) (xb1 (F_X3_needPower M ) fun _ => (xt (T_X3_needNode M a1) (xb1 (F_X3_needNode M a1) fun _ => (xt (T_X3_needNode M a3) (xb1 (F_X3_needNode M a3) fun _ => (xt (T_X3_needRange M a2 (1 : Int) (99 : Int)) (xb1 (F_X3_needRange M a2 (1 : Int) (99 : Int)) fun _ => (xk (M 0 0 0 = 0 ∨ M 0 0 0 = 1) (xb1 (F_X2_at M ((M 0 0 0).toNat) a3) fun y8 => (if (M 2 y8 0) = (1 : Int) then (xb1 (F_X3_hindranceToMake M a1 a2) fun y14 => (if y14 = 0 then none else none)) else none)))))))))))
set_option maxHeartbeats 4000000 in
set_option maxRecDepth 100000 in
theorem t_X3_cloneFile {l : Launch} {g : Gx} {b : Nat} {M : Mm} {a1 : Int} {a2 : Int} {a3 : Int} {E : Nat} (hst : l.stackTraces = false) (ha1 : rg a1) (ha2 : rg a2) (ha3 : rg a3) (hF : T_X3_cloneFile M a1 a2 a3 = some E) : Tt l yX3_cloneFile cX3_cloneFile 6 (some .int) rmTX3_cloneFile g b [.ref (adr b 0 0), .int (jI a1), .int (jI a2), .int (jI a3)] M E := by
  refine tt_of (by decide +kernel) (Nat.le_of_ble_eq_true rfl) ?_
  intro p e s m args below meth c C0 hTH hnt hR ls hl
  obtain ⟨hx, hb, hr, hlocks, hml, hown, hts, hK⟩ := id C0
  have hS : va_S (AA b s.heap.size) s.heap s.heap [] := va_S.rf
  have hl : lv_has ls 6 [(0, .ref (adr b 0 0)), (1, .int (jI a1)), (2, .int (jI a2)), (3, .int (jI a3))] := hl
  obtain ⟨H, hH⟩ : ∃ z, z = s.heap := ⟨_, rfl⟩
  obtain ⟨locs, hlo⟩ : ∃ z : List Loc, z = [] := ⟨_, rfl⟩
  have hR : Rel g b M H := by rw [hH]; exact hR
  have hS : va_S (AA b s.heap.size) s.heap H locs := by rw [hH, hlo]; exact hS
  suffices hW : W p l e rmTX3_cloneFile s m args below meth c H locs 0 0 (vx_MQ below (fun _ _ _ _ => False) (XT g b E M s.heap.size) args s 1 6 (AA b s.heap.size)) (F0 m 0 ls []) by rw [hH, hlo] at hW; exact hW
  rw [T_X3_cloneFile] at hF
  refine lv_aload_n hx hb dX3_cloneFile_0 rfl (lv_at hl 0 rfl) ?_
  rcases xt_some hF with hT | ⟨-, hF⟩
  · exact x_tV (As := []) (rest := []) hx hb hml hown hlocks hts hK hTH hnt hR hS (t_X3_needPower hst  hT) wd189 wd191 ws1 wd1 wd192 hyX3_needPower ⟨rfl, rfl⟩ ⟨Nat.le_of_ble_eq_true rfl, Nat.le_of_ble_eq_true rfl⟩ hl.1 (Nat.le_of_ble_eq_true rfl) dX3_cloneFile_1 ⟨Nat.le_of_ble_eq_true rfl, Nat.le_of_ble_eq_true rfl⟩ rfl
  obtain ⟨_, hc1, hF⟩ := xb1_some hF
  refine x_cVv (C := RX3) (T := TX3) (N := 9) (ci := 3) (As := []) (rest := []) hx hb hml hown hts hK hR hS (c_X3_needPower  hc1) ok0 rfl rfl wd189 wd191 ws1 wd1 wd192 hyX3_needPower ⟨rfl, rfl⟩ ⟨Nat.le_of_ble_eq_true rfl, Nat.le_of_ble_eq_true rfl⟩ hl.1 (Nat.le_of_ble_eq_true rfl) dX3_cloneFile_1 ⟨Nat.zero_le _, Nat.zero_le _⟩ rfl (fun H locs hR hS => ?_)
  refine lv_aload_n hx hb dX3_cloneFile_4 rfl (lv_at hl 0 rfl) ?_
  refine lv_iload_n hx hb dX3_cloneFile_5 rfl (lv_at hl 1 rfl) ?_
  rcases xt_some hF with hT | ⟨-, hF⟩
  · exact x_tV (As := [.int (jI a1)]) (rest := []) hx hb hml hown hlocks hts hK hTH hnt hR hS (t_X3_needNode hst ha1 hT) wd261 wd263 ws3 wd1 wd264 hyX3_needNode ⟨rfl, rfl⟩ ⟨Nat.le_of_ble_eq_true rfl, Nat.le_of_ble_eq_true rfl⟩ hl.1 (Nat.le_of_ble_eq_true rfl) dX3_cloneFile_6 ⟨Nat.le_of_ble_eq_true rfl, Nat.le_of_ble_eq_true rfl⟩ rfl
  obtain ⟨_, hc2, hF⟩ := xb1_some hF
  refine x_cVv (C := RX3) (T := TX3) (N := 9) (ci := 3) (As := [.int (jI a1)]) (rest := []) hx hb hml hown hts hK hR hS (c_X3_needNode ha1 hc2) ok0 rfl rfl wd261 wd263 ws3 wd1 wd264 hyX3_needNode ⟨rfl, rfl⟩ ⟨Nat.le_of_ble_eq_true rfl, Nat.le_of_ble_eq_true rfl⟩ hl.1 (Nat.le_of_ble_eq_true rfl) dX3_cloneFile_6 ⟨Nat.zero_le _, Nat.zero_le _⟩ rfl (fun H locs hR hS => ?_)
  refine lv_aload_n hx hb dX3_cloneFile_9 rfl (lv_at hl 0 rfl) ?_
  refine lv_iload_n hx hb dX3_cloneFile_10 rfl (lv_at hl 3 rfl) ?_
  rcases xt_some hF with hT | ⟨-, hF⟩
  · exact x_tV (As := [.int (jI a3)]) (rest := []) hx hb hml hown hlocks hts hK hTH hnt hR hS (t_X3_needNode hst ha3 hT) wd261 wd263 ws3 wd1 wd264 hyX3_needNode ⟨rfl, rfl⟩ ⟨Nat.le_of_ble_eq_true rfl, Nat.le_of_ble_eq_true rfl⟩ hl.1 (Nat.le_of_ble_eq_true rfl) dX3_cloneFile_11 ⟨Nat.le_of_ble_eq_true rfl, Nat.le_of_ble_eq_true rfl⟩ rfl
  obtain ⟨_, hc3, hF⟩ := xb1_some hF
  refine x_cVv (C := RX3) (T := TX3) (N := 9) (ci := 3) (As := [.int (jI a3)]) (rest := []) hx hb hml hown hts hK hR hS (c_X3_needNode ha3 hc3) ok0 rfl rfl wd261 wd263 ws3 wd1 wd264 hyX3_needNode ⟨rfl, rfl⟩ ⟨Nat.le_of_ble_eq_true rfl, Nat.le_of_ble_eq_true rfl⟩ hl.1 (Nat.le_of_ble_eq_true rfl) dX3_cloneFile_11 ⟨Nat.zero_le _, Nat.zero_le _⟩ rfl (fun H locs hR hS => ?_)
  refine lv_aload_n hx hb dX3_cloneFile_14 rfl (lv_at hl 0 rfl) ?_
  refine lv_iload_n hx hb dX3_cloneFile_15 rfl (lv_at hl 2 rfl) ?_
  refine x_iconst hx hb dX3_cloneFile_16 ?_
  refine x_bipush hx hb (by decide +kernel) dX3_cloneFile_17 ?_
  rcases xt_some hF with hT | ⟨-, hF⟩
  · exact x_tV (As := [.int (jI a2), .int (jI (1 : Int)), .int (jI (99 : Int))]) (rest := []) hx hb hml hown hlocks hts hK hTH hnt hR hS (t_X3_needRange hst ha2 (by decide : rg (1 : Int)) (by decide : rg (99 : Int)) hT) wd285 wd287 ws4 wd1 wd288 hyX3_needRange ⟨rfl, rfl⟩ ⟨Nat.le_of_ble_eq_true rfl, Nat.le_of_ble_eq_true rfl⟩ hl.1 (Nat.le_of_ble_eq_true rfl) dX3_cloneFile_19 ⟨Nat.le_of_ble_eq_true rfl, Nat.le_of_ble_eq_true rfl⟩ rfl
  obtain ⟨_, hc4, hF⟩ := xb1_some hF
  refine x_cVv (C := RX3) (T := TX3) (N := 9) (ci := 3) (As := [.int (jI a2), .int (jI (1 : Int)), .int (jI (99 : Int))]) (rest := []) hx hb hml hown hts hK hR hS (c_X3_needRange ha2 (by decide : rg (1 : Int)) (by decide : rg (99 : Int)) hc4) ok0 rfl rfl wd285 wd287 ws4 wd1 wd288 hyX3_needRange ⟨rfl, rfl⟩ ⟨Nat.le_of_ble_eq_true rfl, Nat.le_of_ble_eq_true rfl⟩ hl.1 (Nat.le_of_ble_eq_true rfl) dX3_cloneFile_19 ⟨Nat.zero_le _, Nat.zero_le _⟩ rfl (fun H locs hR hS => ?_)
  refine lv_aload_n hx hb dX3_cloneFile_22 rfl (lv_at hl 0 rfl) ?_
  refine gf_3_0 hx hb hts hown hK hR wd139 dX3_cloneFile_23 ?_
  obtain ⟨ht5, hF⟩ := xk_some hF
  have hj6 : (M 0 0 0).toNat < 3 := by omega
  refine lv_iload_n hx hb dX3_cloneFile_26 rfl (lv_at hl 3 rfl) ?_
  obtain ⟨y8, hc7, hF⟩ := xb1_some hF
  refine x_cVr (C := RX2) (T := TX2) (N := 8) (ci := 2) (As := [.int (jI a3)]) (rest := []) hx hb hml hown hts hK hR hS (c_X2_at hj6 ha3 hc7) (ok1 hj6) rfl rfl wd265 wd266 wd267 wd2 wd268 hyX2_at ⟨rfl, rfl⟩ ⟨Nat.le_of_ble_eq_true rfl, Nat.le_of_ble_eq_true rfl⟩ hl.1 (Nat.le_of_ble_eq_true rfl) dX3_cloneFile_27 ⟨Nat.zero_le _, Nat.zero_le _⟩ rfl (fun hg9 H locs hR hS => ?_)
  have hj10 : y8 < 99 := lt2 hg9
  refine gf_1_0 hx hb hts hown hK hR hj10 wd37 dX3_cloneFile_30 ?_
  have hg11 : rg (M 2 y8 0) := hR.2 2 y8 0 (by decide)
  refine x_iconst hx hb dX3_cloneFile_33 ?_
  refine x_icmp_eq (tgt := 40) hx hb hg11 (by decide : rg (1 : Int)) dX3_cloneFile_34 (by decide) (fun ci12 => ?_) (fun ci12 => ?_)
  · rw [if_pos ci12] at hF
    refine lv_aload_n hx hb dX3_cloneFile_40 rfl (lv_at hl 0 rfl) ?_
    refine lv_iload_n hx hb dX3_cloneFile_41 rfl (lv_at hl 1 rfl) ?_
    refine lv_iload_n hx hb dX3_cloneFile_42 rfl (lv_at hl 2 rfl) ?_
    obtain ⟨y14, hc13, hF⟩ := xb1_some hF
    refine x_cVi (C := RX3) (T := TX3) (N := 9) (ci := 3) (As := [.int (jI a1), .int (jI a2)]) (rest := []) hx hb hml hown hts hK hR hS (c_X3_hindranceToMake ha1 ha2 hc13) ok0 rfl rfl wd309 wd311 ws6 wd1 wd312 hyX3_hindranceToMake ⟨rfl, rfl⟩ ⟨Nat.le_of_ble_eq_true rfl, Nat.le_of_ble_eq_true rfl⟩ hl.1 (Nat.le_of_ble_eq_true rfl) dX3_cloneFile_43 ⟨Nat.zero_le _, Nat.zero_le _⟩ rfl (fun hg15 H locs hR hS => ?_)
    refine lv_istore (lv' := [(4, .int (jI y14)), (0, .ref (adr b 0 0)), (1, .int (jI a1)), (2, .int (jI a2)), (3, .int (jI a3))]) hx hb dX3_cloneFile_46 hl (by decide) rfl (fun ls hl => ?_)
    refine lv_iload hx hb dX3_cloneFile_48 (lv_at hl 0 rfl) ?_
    refine x_if_eq (tgt := 56) hx hb hg15 dX3_cloneFile_50 (by decide) (fun ci16 => ?_) (fun ci16 => ?_)
    · rw [if_pos ci16] at hF
      refine lv_aload_n hx hb dX3_cloneFile_56 rfl (lv_at hl 1 rfl) ?_
      cases hF
    · rw [if_neg ci16] at hF
      refine lv_iload hx hb dX3_cloneFile_53 (lv_at hl 0 rfl) ?_
      cases hF
  · rw [if_neg ci12] at hF
    refine x_bipush hx hb (by decide +kernel) dX3_cloneFile_37 ?_
    cases hF
abbrev rmTX3_addName : Room := { frames := 7, cells := 1, slots := 6, locals := 131 }
def T_X3_addName (M : Mm) (a1 : Int) (a2 : Int) (a3 : Int) : Option Nat := (xt (T_X3_needPower M ) (xb1 (F_X3_needPower M ) fun _ => (xt (T_X3_needNode M a1) (xb1 (F_X3_needNode M a1) fun _ => (xt (T_X3_needNode M a3) (xb1 (F_X3_needNode M a3) fun _ => (xt (T_X3_needRange M a2 (1 : Int) (99 : Int)) (xb1 (F_X3_needRange M a2 (1 : Int) (99 : Int)) fun _ => (xk (M 0 0 0 = 0 ∨ M 0 0 0 = 1) (xb1 (F_X2_at M ((M 0 0 0).toNat) a1) fun y8 => (xk (M 0 0 0 = 0 ∨ M 0 0 0 = 1) (xb1 (F_X2_at M ((M 0 0 0).toNat) a3) fun y14 => (if (M 2 y8 0) = (2 : Int) then (if (M 2 y14 0) = (2 : Int) then none else (if (M 2 y14 2) = 0 then none else (xb1 (F_X1_nodeNamed M y8 a2) fun y24 => (if y24 = (-1 : Int) then (if (12 : Int) ≤ (M 2 y8 8) then none else (if (M 2 y14 2) < (6 : Int) then none else none)) else none)))) else none)))))))))))))
set_option maxHeartbeats 4000000 in
set_option maxRecDepth 100000 in
theorem t_X3_addName {l : Launch} {g : Gx} {b : Nat} {M : Mm} {a1 : Int} {a2 : Int} {a3 : Int} {E : Nat} (hst : l.stackTraces = false) (ha1 : rg a1) (ha2 : rg a2) (ha3 : rg a3) (hF : T_X3_addName M a1 a2 a3 = some E) : Tt l yX3_addName cX3_addName 6 (some .int) rmTX3_addName g b [.ref (adr b 0 0), .int (jI a1), .int (jI a2), .int (jI a3)] M E := by
  refine tt_of (by decide +kernel) (Nat.le_of_ble_eq_true rfl) ?_
  intro p e s m args below meth c C0 hTH hnt hR ls hl
  obtain ⟨hx, hb, hr, hlocks, hml, hown, hts, hK⟩ := id C0
  have hS : va_S (AA b s.heap.size) s.heap s.heap [] := va_S.rf
  have hl : lv_has ls 6 [(0, .ref (adr b 0 0)), (1, .int (jI a1)), (2, .int (jI a2)), (3, .int (jI a3))] := hl
  obtain ⟨H, hH⟩ : ∃ z, z = s.heap := ⟨_, rfl⟩
  obtain ⟨locs, hlo⟩ : ∃ z : List Loc, z = [] := ⟨_, rfl⟩
  have hR : Rel g b M H := by rw [hH]; exact hR
  have hS : va_S (AA b s.heap.size) s.heap H locs := by rw [hH, hlo]; exact hS
  suffices hW : W p l e rmTX3_addName s m args below meth c H locs 0 0 (vx_MQ below (fun _ _ _ _ => False) (XT g b E M s.heap.size) args s 1 6 (AA b s.heap.size)) (F0 m 0 ls []) by rw [hH, hlo] at hW; exact hW
  rw [T_X3_addName] at hF
  refine lv_aload_n hx hb dX3_addName_0 rfl (lv_at hl 0 rfl) ?_
  rcases xt_some hF with hT | ⟨-, hF⟩
  · exact x_tV (As := []) (rest := []) hx hb hml hown hlocks hts hK hTH hnt hR hS (t_X3_needPower hst  hT) wd189 wd191 ws1 wd1 wd192 hyX3_needPower ⟨rfl, rfl⟩ ⟨Nat.le_of_ble_eq_true rfl, Nat.le_of_ble_eq_true rfl⟩ hl.1 (Nat.le_of_ble_eq_true rfl) dX3_addName_1 ⟨Nat.le_of_ble_eq_true rfl, Nat.le_of_ble_eq_true rfl⟩ rfl
  obtain ⟨_, hc1, hF⟩ := xb1_some hF
  refine x_cVv (C := RX3) (T := TX3) (N := 9) (ci := 3) (As := []) (rest := []) hx hb hml hown hts hK hR hS (c_X3_needPower  hc1) ok0 rfl rfl wd189 wd191 ws1 wd1 wd192 hyX3_needPower ⟨rfl, rfl⟩ ⟨Nat.le_of_ble_eq_true rfl, Nat.le_of_ble_eq_true rfl⟩ hl.1 (Nat.le_of_ble_eq_true rfl) dX3_addName_1 ⟨Nat.zero_le _, Nat.zero_le _⟩ rfl (fun H locs hR hS => ?_)
  refine lv_aload_n hx hb dX3_addName_4 rfl (lv_at hl 0 rfl) ?_
  refine lv_iload_n hx hb dX3_addName_5 rfl (lv_at hl 1 rfl) ?_
  rcases xt_some hF with hT | ⟨-, hF⟩
  · exact x_tV (As := [.int (jI a1)]) (rest := []) hx hb hml hown hlocks hts hK hTH hnt hR hS (t_X3_needNode hst ha1 hT) wd261 wd263 ws3 wd1 wd264 hyX3_needNode ⟨rfl, rfl⟩ ⟨Nat.le_of_ble_eq_true rfl, Nat.le_of_ble_eq_true rfl⟩ hl.1 (Nat.le_of_ble_eq_true rfl) dX3_addName_6 ⟨Nat.le_of_ble_eq_true rfl, Nat.le_of_ble_eq_true rfl⟩ rfl
  obtain ⟨_, hc2, hF⟩ := xb1_some hF
  refine x_cVv (C := RX3) (T := TX3) (N := 9) (ci := 3) (As := [.int (jI a1)]) (rest := []) hx hb hml hown hts hK hR hS (c_X3_needNode ha1 hc2) ok0 rfl rfl wd261 wd263 ws3 wd1 wd264 hyX3_needNode ⟨rfl, rfl⟩ ⟨Nat.le_of_ble_eq_true rfl, Nat.le_of_ble_eq_true rfl⟩ hl.1 (Nat.le_of_ble_eq_true rfl) dX3_addName_6 ⟨Nat.zero_le _, Nat.zero_le _⟩ rfl (fun H locs hR hS => ?_)
  refine lv_aload_n hx hb dX3_addName_9 rfl (lv_at hl 0 rfl) ?_
  refine lv_iload_n hx hb dX3_addName_10 rfl (lv_at hl 3 rfl) ?_
  rcases xt_some hF with hT | ⟨-, hF⟩
  · exact x_tV (As := [.int (jI a3)]) (rest := []) hx hb hml hown hlocks hts hK hTH hnt hR hS (t_X3_needNode hst ha3 hT) wd261 wd263 ws3 wd1 wd264 hyX3_needNode ⟨rfl, rfl⟩ ⟨Nat.le_of_ble_eq_true rfl, Nat.le_of_ble_eq_true rfl⟩ hl.1 (Nat.le_of_ble_eq_true rfl) dX3_addName_11 ⟨Nat.le_of_ble_eq_true rfl, Nat.le_of_ble_eq_true rfl⟩ rfl
  obtain ⟨_, hc3, hF⟩ := xb1_some hF
  refine x_cVv (C := RX3) (T := TX3) (N := 9) (ci := 3) (As := [.int (jI a3)]) (rest := []) hx hb hml hown hts hK hR hS (c_X3_needNode ha3 hc3) ok0 rfl rfl wd261 wd263 ws3 wd1 wd264 hyX3_needNode ⟨rfl, rfl⟩ ⟨Nat.le_of_ble_eq_true rfl, Nat.le_of_ble_eq_true rfl⟩ hl.1 (Nat.le_of_ble_eq_true rfl) dX3_addName_11 ⟨Nat.zero_le _, Nat.zero_le _⟩ rfl (fun H locs hR hS => ?_)
  refine lv_aload_n hx hb dX3_addName_14 rfl (lv_at hl 0 rfl) ?_
  refine lv_iload_n hx hb dX3_addName_15 rfl (lv_at hl 2 rfl) ?_
  refine x_iconst hx hb dX3_addName_16 ?_
  refine x_bipush hx hb (by decide +kernel) dX3_addName_17 ?_
  rcases xt_some hF with hT | ⟨-, hF⟩
  · exact x_tV (As := [.int (jI a2), .int (jI (1 : Int)), .int (jI (99 : Int))]) (rest := []) hx hb hml hown hlocks hts hK hTH hnt hR hS (t_X3_needRange hst ha2 (by decide : rg (1 : Int)) (by decide : rg (99 : Int)) hT) wd285 wd287 ws4 wd1 wd288 hyX3_needRange ⟨rfl, rfl⟩ ⟨Nat.le_of_ble_eq_true rfl, Nat.le_of_ble_eq_true rfl⟩ hl.1 (Nat.le_of_ble_eq_true rfl) dX3_addName_19 ⟨Nat.le_of_ble_eq_true rfl, Nat.le_of_ble_eq_true rfl⟩ rfl
  obtain ⟨_, hc4, hF⟩ := xb1_some hF
  refine x_cVv (C := RX3) (T := TX3) (N := 9) (ci := 3) (As := [.int (jI a2), .int (jI (1 : Int)), .int (jI (99 : Int))]) (rest := []) hx hb hml hown hts hK hR hS (c_X3_needRange ha2 (by decide : rg (1 : Int)) (by decide : rg (99 : Int)) hc4) ok0 rfl rfl wd285 wd287 ws4 wd1 wd288 hyX3_needRange ⟨rfl, rfl⟩ ⟨Nat.le_of_ble_eq_true rfl, Nat.le_of_ble_eq_true rfl⟩ hl.1 (Nat.le_of_ble_eq_true rfl) dX3_addName_19 ⟨Nat.zero_le _, Nat.zero_le _⟩ rfl (fun H locs hR hS => ?_)
  refine lv_aload_n hx hb dX3_addName_22 rfl (lv_at hl 0 rfl) ?_
  refine gf_3_0 hx hb hts hown hK hR wd139 dX3_addName_23 ?_
  obtain ⟨ht5, hF⟩ := xk_some hF
  have hj6 : (M 0 0 0).toNat < 3 := by omega
  refine lv_iload_n hx hb dX3_addName_26 rfl (lv_at hl 1 rfl) ?_
  obtain ⟨y8, hc7, hF⟩ := xb1_some hF
  refine x_cVr (C := RX2) (T := TX2) (N := 8) (ci := 2) (As := [.int (jI a1)]) (rest := []) hx hb hml hown hts hK hR hS (c_X2_at hj6 ha1 hc7) (ok1 hj6) rfl rfl wd265 wd266 wd267 wd2 wd268 hyX2_at ⟨rfl, rfl⟩ ⟨Nat.le_of_ble_eq_true rfl, Nat.le_of_ble_eq_true rfl⟩ hl.1 (Nat.le_of_ble_eq_true rfl) dX3_addName_27 ⟨Nat.zero_le _, Nat.zero_le _⟩ rfl (fun hg9 H locs hR hS => ?_)
  have hj10 : y8 < 99 := lt2 hg9
  refine lv_astore (lv' := [(4, .ref (adr b 2 y8)), (0, .ref (adr b 0 0)), (1, .int (jI a1)), (2, .int (jI a2)), (3, .int (jI a3))]) hx hb dX3_addName_30 hl (by decide) rfl (fun ls hl => ?_)
  refine lv_aload_n hx hb dX3_addName_32 rfl (lv_at hl 1 rfl) ?_
  refine gf_3_0 hx hb hts hown hK hR wd139 dX3_addName_33 ?_
  obtain ⟨ht11, hF⟩ := xk_some hF
  have hj12 : (M 0 0 0).toNat < 3 := by omega
  refine lv_iload_n hx hb dX3_addName_36 rfl (lv_at hl 4 rfl) ?_
  obtain ⟨y14, hc13, hF⟩ := xb1_some hF
  refine x_cVr (C := RX2) (T := TX2) (N := 8) (ci := 2) (As := [.int (jI a3)]) (rest := []) hx hb hml hown hts hK hR hS (c_X2_at hj12 ha3 hc13) (ok1 hj12) rfl rfl wd265 wd266 wd267 wd2 wd268 hyX2_at ⟨rfl, rfl⟩ ⟨Nat.le_of_ble_eq_true rfl, Nat.le_of_ble_eq_true rfl⟩ hl.1 (Nat.le_of_ble_eq_true rfl) dX3_addName_37 ⟨Nat.zero_le _, Nat.zero_le _⟩ rfl (fun hg15 H locs hR hS => ?_)
  have hj16 : y14 < 99 := lt2 hg15
  refine lv_astore (lv' := [(5, .ref (adr b 2 y14)), (4, .ref (adr b 2 y8)), (0, .ref (adr b 0 0)), (1, .int (jI a1)), (2, .int (jI a2)), (3, .int (jI a3))]) hx hb dX3_addName_40 hl (by decide) rfl (fun ls hl => ?_)
  refine lv_aload hx hb dX3_addName_42 (lv_at hl 1 rfl) ?_
  refine gf_1_0 hx hb hts hown hK hR hj10 wd37 dX3_addName_44 ?_
  have hg17 : rg (M 2 y8 0) := hR.2 2 y8 0 (by decide)
  refine x_iconst hx hb dX3_addName_47 ?_
  refine x_icmp_ne (tgt := 60) hx hb hg17 (by decide : rg (2 : Int)) dX3_addName_48 (by decide) (fun ci18 => ?_) (fun ci18 => ?_)
  · rw [if_neg ci18] at hF
    refine x_bipush hx hb (by decide +kernel) dX3_addName_60 ?_
    cases hF
  · rw [if_pos ci18] at hF
    refine lv_aload hx hb dX3_addName_51 (lv_at hl 0 rfl) ?_
    refine gf_1_0 hx hb hts hown hK hR hj16 wd37 dX3_addName_53 ?_
    have hg19 : rg (M 2 y14 0) := hR.2 2 y14 0 (by decide)
    refine x_iconst hx hb dX3_addName_56 ?_
    refine x_icmp_ne (tgt := 63) hx hb hg19 (by decide : rg (2 : Int)) dX3_addName_57 (by decide) (fun ci20 => ?_) (fun ci20 => ?_)
    · rw [if_neg ci20] at hF
      refine lv_aload hx hb dX3_addName_63 (lv_at hl 0 rfl) ?_
      refine gf_1_2 hx hb hts hown hK hR hj16 wd42 dX3_addName_65 ?_
      have hg21 : rg (M 2 y14 2) := hR.2 2 y14 2 (by decide)
      refine x_if_ne (tgt := 73) hx hb hg21 dX3_addName_68 (by decide) (fun ci22 => ?_) (fun ci22 => ?_)
      · rw [if_neg ci22] at hF
        refine lv_aload hx hb dX3_addName_73 (lv_at hl 1 rfl) ?_
        refine lv_iload_n hx hb dX3_addName_75 rfl (lv_at hl 4 rfl) ?_
        obtain ⟨y24, hc23, hF⟩ := xb1_some hF
        refine x_cVi (C := RX1) (T := TX1) (N := 12) (ci := 1) (As := [.int (jI a2)]) (rest := []) hx hb hml hown hts hK hR hS (c_X1_nodeNamed hj10 ha2 hc23) (ok2 hj10) rfl rfl wd313 wd314 wd315 wd3 wd316 hyX1_nodeNamed ⟨rfl, rfl⟩ ⟨Nat.le_of_ble_eq_true rfl, Nat.le_of_ble_eq_true rfl⟩ hl.1 (Nat.le_of_ble_eq_true rfl) dX3_addName_76 ⟨Nat.zero_le _, Nat.zero_le _⟩ rfl (fun hg25 H locs hR hS => ?_)
        refine x_iconst hx hb dX3_addName_79 ?_
        refine x_icmp_eq (tgt := 86) hx hb hg25 (by decide : rg (-1 : Int)) dX3_addName_80 (by decide) (fun ci26 => ?_) (fun ci26 => ?_)
        · rw [if_pos ci26] at hF
          refine lv_aload hx hb dX3_addName_86 (lv_at hl 1 rfl) ?_
          refine gf_1_8 hx hb hts hown hK hR hj10 wd57 dX3_addName_88 ?_
          have hg27 : rg (M 2 y8 8) := hR.2 2 y8 8 (by decide)
          refine x_bipush hx hb (by decide +kernel) dX3_addName_91 ?_
          refine x_icmp_ge (tgt := 106) hx hb hg27 (by decide : rg (12 : Int)) dX3_addName_93 (by decide) (fun ci28 => ?_) (fun ci28 => ?_)
          · rw [if_pos ci28] at hF
            refine x_bipush hx hb (by decide +kernel) dX3_addName_106 ?_
            cases hF
          · rw [if_neg ci28] at hF
            refine lv_aload hx hb dX3_addName_96 (lv_at hl 0 rfl) ?_
            refine gf_1_2 hx hb hts hown hK hR hj16 wd42 dX3_addName_98 ?_
            have hg29 : rg (M 2 y14 2) := hR.2 2 y14 2 (by decide)
            refine x_bipush hx hb (by decide +kernel) dX3_addName_101 ?_
            refine x_icmp_lt (tgt := 109) hx hb hg29 (by decide : rg (6 : Int)) dX3_addName_103 (by decide) (fun ci30 => ?_) (fun ci30 => ?_)
            · rw [if_pos ci30] at hF
              refine lv_aload_n hx hb dX3_addName_109 rfl (lv_at hl 2 rfl) ?_
              cases hF
            · rw [if_neg ci30] at hF
              refine x_bipush hx hb (by decide +kernel) dX3_addName_106 ?_
              cases hF
        · rw [if_neg ci26] at hF
          refine x_bipush hx hb (by decide +kernel) dX3_addName_83 ?_
          cases hF
      · rw [if_pos ci22] at hF
        refine x_iconst hx hb dX3_addName_71 ?_
        cases hF
    · rw [if_pos ci20] at hF
      refine x_bipush hx hb (by decide +kernel) dX3_addName_60 ?_
      cases hF
abbrev rmTX3_unlink : Room := { frames := 8, cells := 1, slots := 6, locals := 135 }
def T_X3_unlink (M : Mm) (a1 : Int) (a2 : Int) : Option Nat := (xt (T_X3_needEntry M a1 a2) (xb1 (F_X3_needEntry M a1 a2) fun _ => (xk (M 0 0 0 = 0 ∨ M 0 0 0 = 1) (xb1 (F_X2_at M ((M 0 0 0).toNat) a1) fun y5 => (if (M 2 y5 0) = (2 : Int) then (xk (M 0 0 0 = 0 ∨ M 0 0 0 = 1) (xb1 (F_X2_at M ((M 0 0 0).toNat) a1) fun y13 => (xb1 (F_X1_nodeNamed M y13 a2) fun y17 => (if y17 = (-1 : Int) then none else (xk (M 0 0 0 = 0 ∨ M 0 0 0 = 1) (xb1 (F_X2_at M ((M 0 0 0).toNat) y17) fun y23 => (if (M 2 y23 0) = (2 : Int) then none else none))))))) else none)))))
set_option maxHeartbeats 4000000 in
set_option maxRecDepth 100000 in
theorem t_X3_unlink {l : Launch} {g : Gx} {b : Nat} {M : Mm} {a1 : Int} {a2 : Int} {E : Nat} (hst : l.stackTraces = false) (ha1 : rg a1) (ha2 : rg a2) (hF : T_X3_unlink M a1 a2 = some E) : Tt l yX3_unlink cX3_unlink 4 (some .int) rmTX3_unlink g b [.ref (adr b 0 0), .int (jI a1), .int (jI a2)] M E := by
  refine tt_of (by decide +kernel) (Nat.le_of_ble_eq_true rfl) ?_
  intro p e s m args below meth c C0 hTH hnt hR ls hl
  obtain ⟨hx, hb, hr, hlocks, hml, hown, hts, hK⟩ := id C0
  have hS : va_S (AA b s.heap.size) s.heap s.heap [] := va_S.rf
  have hl : lv_has ls 4 [(0, .ref (adr b 0 0)), (1, .int (jI a1)), (2, .int (jI a2))] := hl
  obtain ⟨H, hH⟩ : ∃ z, z = s.heap := ⟨_, rfl⟩
  obtain ⟨locs, hlo⟩ : ∃ z : List Loc, z = [] := ⟨_, rfl⟩
  have hR : Rel g b M H := by rw [hH]; exact hR
  have hS : va_S (AA b s.heap.size) s.heap H locs := by rw [hH, hlo]; exact hS
  suffices hW : W p l e rmTX3_unlink s m args below meth c H locs 0 0 (vx_MQ below (fun _ _ _ _ => False) (XT g b E M s.heap.size) args s 1 6 (AA b s.heap.size)) (F0 m 0 ls []) by rw [hH, hlo] at hW; exact hW
  rw [T_X3_unlink] at hF
  refine lv_aload_n hx hb dX3_unlink_0 rfl (lv_at hl 0 rfl) ?_
  refine lv_iload_n hx hb dX3_unlink_1 rfl (lv_at hl 1 rfl) ?_
  refine lv_iload_n hx hb dX3_unlink_2 rfl (lv_at hl 2 rfl) ?_
  rcases xt_some hF with hT | ⟨-, hF⟩
  · exact x_tV (As := [.int (jI a1), .int (jI a2)]) (rest := []) hx hb hml hown hlocks hts hK hTH hnt hR hS (t_X3_needEntry hst ha1 ha2 hT) wd185 wd187 ws0 wd1 wd188 hyX3_needEntry ⟨rfl, rfl⟩ ⟨Nat.le_of_ble_eq_true rfl, Nat.le_of_ble_eq_true rfl⟩ hl.1 (Nat.le_of_ble_eq_true rfl) dX3_unlink_3 ⟨Nat.le_of_ble_eq_true rfl, Nat.le_of_ble_eq_true rfl⟩ rfl
  obtain ⟨_, hc1, hF⟩ := xb1_some hF
  refine x_cVv (C := RX3) (T := TX3) (N := 9) (ci := 3) (As := [.int (jI a1), .int (jI a2)]) (rest := []) hx hb hml hown hts hK hR hS (c_X3_needEntry ha1 ha2 hc1) ok0 rfl rfl wd185 wd187 ws0 wd1 wd188 hyX3_needEntry ⟨rfl, rfl⟩ ⟨Nat.le_of_ble_eq_true rfl, Nat.le_of_ble_eq_true rfl⟩ hl.1 (Nat.le_of_ble_eq_true rfl) dX3_unlink_3 ⟨Nat.zero_le _, Nat.zero_le _⟩ rfl (fun H locs hR hS => ?_)
  refine lv_aload_n hx hb dX3_unlink_6 rfl (lv_at hl 0 rfl) ?_
  refine gf_3_0 hx hb hts hown hK hR wd139 dX3_unlink_7 ?_
  obtain ⟨ht2, hF⟩ := xk_some hF
  have hj3 : (M 0 0 0).toNat < 3 := by omega
  refine lv_iload_n hx hb dX3_unlink_10 rfl (lv_at hl 1 rfl) ?_
  obtain ⟨y5, hc4, hF⟩ := xb1_some hF
  refine x_cVr (C := RX2) (T := TX2) (N := 8) (ci := 2) (As := [.int (jI a1)]) (rest := []) hx hb hml hown hts hK hR hS (c_X2_at hj3 ha1 hc4) (ok1 hj3) rfl rfl wd265 wd266 wd267 wd2 wd268 hyX2_at ⟨rfl, rfl⟩ ⟨Nat.le_of_ble_eq_true rfl, Nat.le_of_ble_eq_true rfl⟩ hl.1 (Nat.le_of_ble_eq_true rfl) dX3_unlink_11 ⟨Nat.zero_le _, Nat.zero_le _⟩ rfl (fun hg6 H locs hR hS => ?_)
  have hj7 : y5 < 99 := lt2 hg6
  refine gf_1_0 hx hb hts hown hK hR hj7 wd37 dX3_unlink_14 ?_
  have hg8 : rg (M 2 y5 0) := hR.2 2 y5 0 (by decide)
  refine x_iconst hx hb dX3_unlink_17 ?_
  refine x_icmp_eq (tgt := 24) hx hb hg8 (by decide : rg (2 : Int)) dX3_unlink_18 (by decide) (fun ci9 => ?_) (fun ci9 => ?_)
  · rw [if_pos ci9] at hF
    refine lv_aload_n hx hb dX3_unlink_24 rfl (lv_at hl 0 rfl) ?_
    refine gf_3_0 hx hb hts hown hK hR wd139 dX3_unlink_25 ?_
    obtain ⟨ht10, hF⟩ := xk_some hF
    have hj11 : (M 0 0 0).toNat < 3 := by omega
    refine lv_iload_n hx hb dX3_unlink_28 rfl (lv_at hl 1 rfl) ?_
    obtain ⟨y13, hc12, hF⟩ := xb1_some hF
    refine x_cVr (C := RX2) (T := TX2) (N := 8) (ci := 2) (As := [.int (jI a1)]) (rest := []) hx hb hml hown hts hK hR hS (c_X2_at hj11 ha1 hc12) (ok1 hj11) rfl rfl wd265 wd266 wd267 wd2 wd268 hyX2_at ⟨rfl, rfl⟩ ⟨Nat.le_of_ble_eq_true rfl, Nat.le_of_ble_eq_true rfl⟩ hl.1 (Nat.le_of_ble_eq_true rfl) dX3_unlink_29 ⟨Nat.zero_le _, Nat.zero_le _⟩ rfl (fun hg14 H locs hR hS => ?_)
    have hj15 : y13 < 99 := lt2 hg14
    refine lv_iload_n hx hb dX3_unlink_32 rfl (lv_at hl 2 rfl) ?_
    obtain ⟨y17, hc16, hF⟩ := xb1_some hF
    refine x_cVi (C := RX1) (T := TX1) (N := 12) (ci := 1) (As := [.int (jI a2)]) (rest := []) hx hb hml hown hts hK hR hS (c_X1_nodeNamed hj15 ha2 hc16) (ok2 hj15) rfl rfl wd313 wd314 wd315 wd3 wd316 hyX1_nodeNamed ⟨rfl, rfl⟩ ⟨Nat.le_of_ble_eq_true rfl, Nat.le_of_ble_eq_true rfl⟩ hl.1 (Nat.le_of_ble_eq_true rfl) dX3_unlink_33 ⟨Nat.zero_le _, Nat.zero_le _⟩ rfl (fun hg18 H locs hR hS => ?_)
    refine lv_istore_n (lv' := [(3, .int (jI y17)), (0, .ref (adr b 0 0)), (1, .int (jI a1)), (2, .int (jI a2))]) hx hb dX3_unlink_36 rfl hl (by decide) rfl (fun ls hl => ?_)
    refine lv_iload_n hx hb dX3_unlink_37 rfl (lv_at hl 0 rfl) ?_
    refine x_iconst hx hb dX3_unlink_38 ?_
    refine x_icmp_ne (tgt := 44) hx hb hg18 (by decide : rg (-1 : Int)) dX3_unlink_39 (by decide) (fun ci19 => ?_) (fun ci19 => ?_)
    · rw [if_neg ci19] at hF
      refine lv_aload_n hx hb dX3_unlink_44 rfl (lv_at hl 1 rfl) ?_
      refine gf_3_0 hx hb hts hown hK hR wd139 dX3_unlink_45 ?_
      obtain ⟨ht20, hF⟩ := xk_some hF
      have hj21 : (M 0 0 0).toNat < 3 := by omega
      refine lv_iload_n hx hb dX3_unlink_48 rfl (lv_at hl 0 rfl) ?_
      obtain ⟨y23, hc22, hF⟩ := xb1_some hF
      refine x_cVr (C := RX2) (T := TX2) (N := 8) (ci := 2) (As := [.int (jI y17)]) (rest := []) hx hb hml hown hts hK hR hS (c_X2_at hj21 hg18 hc22) (ok1 hj21) rfl rfl wd265 wd266 wd267 wd2 wd268 hyX2_at ⟨rfl, rfl⟩ ⟨Nat.le_of_ble_eq_true rfl, Nat.le_of_ble_eq_true rfl⟩ hl.1 (Nat.le_of_ble_eq_true rfl) dX3_unlink_49 ⟨Nat.zero_le _, Nat.zero_le _⟩ rfl (fun hg24 H locs hR hS => ?_)
      have hj25 : y23 < 99 := lt2 hg24
      refine gf_1_0 hx hb hts hown hK hR hj25 wd37 dX3_unlink_52 ?_
      have hg26 : rg (M 2 y23 0) := hR.2 2 y23 0 (by decide)
      refine x_iconst hx hb dX3_unlink_55 ?_
      refine x_icmp_ne (tgt := 62) hx hb hg26 (by decide : rg (2 : Int)) dX3_unlink_56 (by decide) (fun ci27 => ?_) (fun ci27 => ?_)
      · rw [if_neg ci27] at hF
        refine lv_aload_n hx hb dX3_unlink_62 rfl (lv_at hl 1 rfl) ?_
        cases hF
      · rw [if_pos ci27] at hF
        refine x_bipush hx hb (by decide +kernel) dX3_unlink_59 ?_
        cases hF
    · rw [if_pos ci19] at hF
      refine x_iconst hx hb dX3_unlink_42 ?_
      cases hF
  · rw [if_neg ci9] at hF
    refine x_bipush hx hb (by decide +kernel) dX3_unlink_21 ?_
    cases hF
abbrev rmTX3_removeFolder : Room := { frames := 8, cells := 1, slots := 6, locals := 135 }
def T_X3_removeFolder (M : Mm) (a1 : Int) (a2 : Int) : Option Nat := (xt (T_X3_needEntry M a1 a2) (xb1 (F_X3_needEntry M a1 a2) fun _ => (xk (M 0 0 0 = 0 ∨ M 0 0 0 = 1) (xb1 (F_X2_at M ((M 0 0 0).toNat) a1) fun y5 => (if (M 2 y5 0) = (2 : Int) then (xk (M 0 0 0 = 0 ∨ M 0 0 0 = 1) (xb1 (F_X2_at M ((M 0 0 0).toNat) a1) fun y13 => (xb1 (F_X1_nodeNamed M y13 a2) fun y17 => (if y17 = (-1 : Int) then none else (xk (M 0 0 0 = 0 ∨ M 0 0 0 = 1) (xb1 (F_X2_at M ((M 0 0 0).toNat) y17) fun y23 => (if (M 2 y23 0) = (2 : Int) then (xk (M 0 0 0 = 0 ∨ M 0 0 0 = 1) (xb1 (F_X2_at M ((M 0 0 0).toNat) y17) fun y31 => (if (M 2 y31 8) ≤ 0 then none else none))) else none))))))) else none)))))
set_option maxHeartbeats 4000000 in
set_option maxRecDepth 100000 in
theorem t_X3_removeFolder {l : Launch} {g : Gx} {b : Nat} {M : Mm} {a1 : Int} {a2 : Int} {E : Nat} (hst : l.stackTraces = false) (ha1 : rg a1) (ha2 : rg a2) (hF : T_X3_removeFolder M a1 a2 = some E) : Tt l yX3_removeFolder cX3_removeFolder 4 (some .int) rmTX3_removeFolder g b [.ref (adr b 0 0), .int (jI a1), .int (jI a2)] M E := by
  refine tt_of (by decide +kernel) (Nat.le_of_ble_eq_true rfl) ?_
  intro p e s m args below meth c C0 hTH hnt hR ls hl
  obtain ⟨hx, hb, hr, hlocks, hml, hown, hts, hK⟩ := id C0
  have hS : va_S (AA b s.heap.size) s.heap s.heap [] := va_S.rf
  have hl : lv_has ls 4 [(0, .ref (adr b 0 0)), (1, .int (jI a1)), (2, .int (jI a2))] := hl
  obtain ⟨H, hH⟩ : ∃ z, z = s.heap := ⟨_, rfl⟩
  obtain ⟨locs, hlo⟩ : ∃ z : List Loc, z = [] := ⟨_, rfl⟩
  have hR : Rel g b M H := by rw [hH]; exact hR
  have hS : va_S (AA b s.heap.size) s.heap H locs := by rw [hH, hlo]; exact hS
  suffices hW : W p l e rmTX3_removeFolder s m args below meth c H locs 0 0 (vx_MQ below (fun _ _ _ _ => False) (XT g b E M s.heap.size) args s 1 6 (AA b s.heap.size)) (F0 m 0 ls []) by rw [hH, hlo] at hW; exact hW
  rw [T_X3_removeFolder] at hF
  refine lv_aload_n hx hb dX3_removeFolder_0 rfl (lv_at hl 0 rfl) ?_
  refine lv_iload_n hx hb dX3_removeFolder_1 rfl (lv_at hl 1 rfl) ?_
  refine lv_iload_n hx hb dX3_removeFolder_2 rfl (lv_at hl 2 rfl) ?_
  rcases xt_some hF with hT | ⟨-, hF⟩
  · exact x_tV (As := [.int (jI a1), .int (jI a2)]) (rest := []) hx hb hml hown hlocks hts hK hTH hnt hR hS (t_X3_needEntry hst ha1 ha2 hT) wd185 wd187 ws0 wd1 wd188 hyX3_needEntry ⟨rfl, rfl⟩ ⟨Nat.le_of_ble_eq_true rfl, Nat.le_of_ble_eq_true rfl⟩ hl.1 (Nat.le_of_ble_eq_true rfl) dX3_removeFolder_3 ⟨Nat.le_of_ble_eq_true rfl, Nat.le_of_ble_eq_true rfl⟩ rfl
  obtain ⟨_, hc1, hF⟩ := xb1_some hF
  refine x_cVv (C := RX3) (T := TX3) (N := 9) (ci := 3) (As := [.int (jI a1), .int (jI a2)]) (rest := []) hx hb hml hown hts hK hR hS (c_X3_needEntry ha1 ha2 hc1) ok0 rfl rfl wd185 wd187 ws0 wd1 wd188 hyX3_needEntry ⟨rfl, rfl⟩ ⟨Nat.le_of_ble_eq_true rfl, Nat.le_of_ble_eq_true rfl⟩ hl.1 (Nat.le_of_ble_eq_true rfl) dX3_removeFolder_3 ⟨Nat.zero_le _, Nat.zero_le _⟩ rfl (fun H locs hR hS => ?_)
  refine lv_aload_n hx hb dX3_removeFolder_6 rfl (lv_at hl 0 rfl) ?_
  refine gf_3_0 hx hb hts hown hK hR wd139 dX3_removeFolder_7 ?_
  obtain ⟨ht2, hF⟩ := xk_some hF
  have hj3 : (M 0 0 0).toNat < 3 := by omega
  refine lv_iload_n hx hb dX3_removeFolder_10 rfl (lv_at hl 1 rfl) ?_
  obtain ⟨y5, hc4, hF⟩ := xb1_some hF
  refine x_cVr (C := RX2) (T := TX2) (N := 8) (ci := 2) (As := [.int (jI a1)]) (rest := []) hx hb hml hown hts hK hR hS (c_X2_at hj3 ha1 hc4) (ok1 hj3) rfl rfl wd265 wd266 wd267 wd2 wd268 hyX2_at ⟨rfl, rfl⟩ ⟨Nat.le_of_ble_eq_true rfl, Nat.le_of_ble_eq_true rfl⟩ hl.1 (Nat.le_of_ble_eq_true rfl) dX3_removeFolder_11 ⟨Nat.zero_le _, Nat.zero_le _⟩ rfl (fun hg6 H locs hR hS => ?_)
  have hj7 : y5 < 99 := lt2 hg6
  refine gf_1_0 hx hb hts hown hK hR hj7 wd37 dX3_removeFolder_14 ?_
  have hg8 : rg (M 2 y5 0) := hR.2 2 y5 0 (by decide)
  refine x_iconst hx hb dX3_removeFolder_17 ?_
  refine x_icmp_eq (tgt := 24) hx hb hg8 (by decide : rg (2 : Int)) dX3_removeFolder_18 (by decide) (fun ci9 => ?_) (fun ci9 => ?_)
  · rw [if_pos ci9] at hF
    refine lv_aload_n hx hb dX3_removeFolder_24 rfl (lv_at hl 0 rfl) ?_
    refine gf_3_0 hx hb hts hown hK hR wd139 dX3_removeFolder_25 ?_
    obtain ⟨ht10, hF⟩ := xk_some hF
    have hj11 : (M 0 0 0).toNat < 3 := by omega
    refine lv_iload_n hx hb dX3_removeFolder_28 rfl (lv_at hl 1 rfl) ?_
    obtain ⟨y13, hc12, hF⟩ := xb1_some hF
    refine x_cVr (C := RX2) (T := TX2) (N := 8) (ci := 2) (As := [.int (jI a1)]) (rest := []) hx hb hml hown hts hK hR hS (c_X2_at hj11 ha1 hc12) (ok1 hj11) rfl rfl wd265 wd266 wd267 wd2 wd268 hyX2_at ⟨rfl, rfl⟩ ⟨Nat.le_of_ble_eq_true rfl, Nat.le_of_ble_eq_true rfl⟩ hl.1 (Nat.le_of_ble_eq_true rfl) dX3_removeFolder_29 ⟨Nat.zero_le _, Nat.zero_le _⟩ rfl (fun hg14 H locs hR hS => ?_)
    have hj15 : y13 < 99 := lt2 hg14
    refine lv_iload_n hx hb dX3_removeFolder_32 rfl (lv_at hl 2 rfl) ?_
    obtain ⟨y17, hc16, hF⟩ := xb1_some hF
    refine x_cVi (C := RX1) (T := TX1) (N := 12) (ci := 1) (As := [.int (jI a2)]) (rest := []) hx hb hml hown hts hK hR hS (c_X1_nodeNamed hj15 ha2 hc16) (ok2 hj15) rfl rfl wd313 wd314 wd315 wd3 wd316 hyX1_nodeNamed ⟨rfl, rfl⟩ ⟨Nat.le_of_ble_eq_true rfl, Nat.le_of_ble_eq_true rfl⟩ hl.1 (Nat.le_of_ble_eq_true rfl) dX3_removeFolder_33 ⟨Nat.zero_le _, Nat.zero_le _⟩ rfl (fun hg18 H locs hR hS => ?_)
    refine lv_istore_n (lv' := [(3, .int (jI y17)), (0, .ref (adr b 0 0)), (1, .int (jI a1)), (2, .int (jI a2))]) hx hb dX3_removeFolder_36 rfl hl (by decide) rfl (fun ls hl => ?_)
    refine lv_iload_n hx hb dX3_removeFolder_37 rfl (lv_at hl 0 rfl) ?_
    refine x_iconst hx hb dX3_removeFolder_38 ?_
    refine x_icmp_ne (tgt := 44) hx hb hg18 (by decide : rg (-1 : Int)) dX3_removeFolder_39 (by decide) (fun ci19 => ?_) (fun ci19 => ?_)
    · rw [if_neg ci19] at hF
      refine lv_aload_n hx hb dX3_removeFolder_44 rfl (lv_at hl 1 rfl) ?_
      refine gf_3_0 hx hb hts hown hK hR wd139 dX3_removeFolder_45 ?_
      obtain ⟨ht20, hF⟩ := xk_some hF
      have hj21 : (M 0 0 0).toNat < 3 := by omega
      refine lv_iload_n hx hb dX3_removeFolder_48 rfl (lv_at hl 0 rfl) ?_
      obtain ⟨y23, hc22, hF⟩ := xb1_some hF
      refine x_cVr (C := RX2) (T := TX2) (N := 8) (ci := 2) (As := [.int (jI y17)]) (rest := []) hx hb hml hown hts hK hR hS (c_X2_at hj21 hg18 hc22) (ok1 hj21) rfl rfl wd265 wd266 wd267 wd2 wd268 hyX2_at ⟨rfl, rfl⟩ ⟨Nat.le_of_ble_eq_true rfl, Nat.le_of_ble_eq_true rfl⟩ hl.1 (Nat.le_of_ble_eq_true rfl) dX3_removeFolder_49 ⟨Nat.zero_le _, Nat.zero_le _⟩ rfl (fun hg24 H locs hR hS => ?_)
      have hj25 : y23 < 99 := lt2 hg24
      refine gf_1_0 hx hb hts hown hK hR hj25 wd37 dX3_removeFolder_52 ?_
      have hg26 : rg (M 2 y23 0) := hR.2 2 y23 0 (by decide)
      refine x_iconst hx hb dX3_removeFolder_55 ?_
      refine x_icmp_eq (tgt := 62) hx hb hg26 (by decide : rg (2 : Int)) dX3_removeFolder_56 (by decide) (fun ci27 => ?_) (fun ci27 => ?_)
      · rw [if_pos ci27] at hF
        refine lv_aload_n hx hb dX3_removeFolder_62 rfl (lv_at hl 1 rfl) ?_
        refine gf_3_0 hx hb hts hown hK hR wd139 dX3_removeFolder_63 ?_
        obtain ⟨ht28, hF⟩ := xk_some hF
        have hj29 : (M 0 0 0).toNat < 3 := by omega
        refine lv_iload_n hx hb dX3_removeFolder_66 rfl (lv_at hl 0 rfl) ?_
        obtain ⟨y31, hc30, hF⟩ := xb1_some hF
        refine x_cVr (C := RX2) (T := TX2) (N := 8) (ci := 2) (As := [.int (jI y17)]) (rest := []) hx hb hml hown hts hK hR hS (c_X2_at hj29 hg18 hc30) (ok1 hj29) rfl rfl wd265 wd266 wd267 wd2 wd268 hyX2_at ⟨rfl, rfl⟩ ⟨Nat.le_of_ble_eq_true rfl, Nat.le_of_ble_eq_true rfl⟩ hl.1 (Nat.le_of_ble_eq_true rfl) dX3_removeFolder_67 ⟨Nat.zero_le _, Nat.zero_le _⟩ rfl (fun hg32 H locs hR hS => ?_)
        have hj33 : y31 < 99 := lt2 hg32
        refine gf_1_8 hx hb hts hown hK hR hj33 wd57 dX3_removeFolder_70 ?_
        have hg34 : rg (M 2 y31 8) := hR.2 2 y31 8 (by decide)
        refine x_if_le (tgt := 79) hx hb hg34 dX3_removeFolder_73 (by decide) (fun ci35 => ?_) (fun ci35 => ?_)
        · rw [if_pos ci35] at hF
          refine lv_aload_n hx hb dX3_removeFolder_79 rfl (lv_at hl 1 rfl) ?_
          cases hF
        · rw [if_neg ci35] at hF
          refine x_bipush hx hb (by decide +kernel) dX3_removeFolder_76 ?_
          cases hF
      · rw [if_neg ci27] at hF
        refine x_bipush hx hb (by decide +kernel) dX3_removeFolder_59 ?_
        cases hF
    · rw [if_pos ci19] at hF
      refine x_iconst hx hb dX3_removeFolder_42 ?_
      cases hF
  · rw [if_neg ci9] at hF
    refine x_bipush hx hb (by decide +kernel) dX3_removeFolder_21 ?_
    cases hF
abbrev rmTX3_needTwoEntries : Room := { frames := 7, cells := 1, slots := 6, locals := 113 }
def T_X3_needTwoEntries (M : Mm) (a1 : Int) (a2 : Int) (a3 : Int) (a4 : Int) : Option Nat := (xt (T_X3_needPower M ) (xb1 (F_X3_needPower M ) fun _ => (xt (T_X3_needNode M a1) (xb1 (F_X3_needNode M a1) fun _ => (xt (T_X3_needNode M a3) (xb1 (F_X3_needNode M a3) fun _ => (xt (T_X3_needRange M a2 (1 : Int) (99 : Int)) (xb1 (F_X3_needRange M a2 (1 : Int) (99 : Int)) fun _ => (xt (T_X3_needRange M a4 (1 : Int) (99 : Int)) (xb1 (F_X3_needRange M a4 (1 : Int) (99 : Int)) fun _ => none))))))))))
set_option maxHeartbeats 4000000 in
set_option maxRecDepth 100000 in
theorem t_X3_needTwoEntries {l : Launch} {g : Gx} {b : Nat} {M : Mm} {a1 : Int} {a2 : Int} {a3 : Int} {a4 : Int} {E : Nat} (hst : l.stackTraces = false) (ha1 : rg a1) (ha2 : rg a2) (ha3 : rg a3) (ha4 : rg a4) (hF : T_X3_needTwoEntries M a1 a2 a3 a4 = some E) : Tt l yX3_needTwoEntries cX3_needTwoEntries 5 none rmTX3_needTwoEntries g b [.ref (adr b 0 0), .int (jI a1), .int (jI a2), .int (jI a3), .int (jI a4)] M E := by
  refine tt_of (by decide +kernel) (Nat.le_of_ble_eq_true rfl) ?_
  intro p e s m args below meth c C0 hTH hnt hR ls hl
  obtain ⟨hx, hb, hr, hlocks, hml, hown, hts, hK⟩ := id C0
  have hS : va_S (AA b s.heap.size) s.heap s.heap [] := va_S.rf
  have hl : lv_has ls 5 [(0, .ref (adr b 0 0)), (1, .int (jI a1)), (2, .int (jI a2)), (3, .int (jI a3)), (4, .int (jI a4))] := hl
  obtain ⟨H, hH⟩ : ∃ z, z = s.heap := ⟨_, rfl⟩
  obtain ⟨locs, hlo⟩ : ∃ z : List Loc, z = [] := ⟨_, rfl⟩
  have hR : Rel g b M H := by rw [hH]; exact hR
  have hS : va_S (AA b s.heap.size) s.heap H locs := by rw [hH, hlo]; exact hS
  suffices hW : W p l e rmTX3_needTwoEntries s m args below meth c H locs 0 0 (vx_MQ below (fun _ _ _ _ => False) (XT g b E M s.heap.size) args s 1 6 (AA b s.heap.size)) (F0 m 0 ls []) by rw [hH, hlo] at hW; exact hW
  rw [T_X3_needTwoEntries] at hF
  refine lv_aload_n hx hb dX3_needTwoEntries_0 rfl (lv_at hl 0 rfl) ?_
  rcases xt_some hF with hT | ⟨-, hF⟩
  · exact x_tV (As := []) (rest := []) hx hb hml hown hlocks hts hK hTH hnt hR hS (t_X3_needPower hst  hT) wd189 wd191 ws1 wd1 wd192 hyX3_needPower ⟨rfl, rfl⟩ ⟨Nat.le_of_ble_eq_true rfl, Nat.le_of_ble_eq_true rfl⟩ hl.1 (Nat.le_of_ble_eq_true rfl) dX3_needTwoEntries_1 ⟨Nat.le_of_ble_eq_true rfl, Nat.le_of_ble_eq_true rfl⟩ rfl
  obtain ⟨_, hc1, hF⟩ := xb1_some hF
  refine x_cVv (C := RX3) (T := TX3) (N := 9) (ci := 3) (As := []) (rest := []) hx hb hml hown hts hK hR hS (c_X3_needPower  hc1) ok0 rfl rfl wd189 wd191 ws1 wd1 wd192 hyX3_needPower ⟨rfl, rfl⟩ ⟨Nat.le_of_ble_eq_true rfl, Nat.le_of_ble_eq_true rfl⟩ hl.1 (Nat.le_of_ble_eq_true rfl) dX3_needTwoEntries_1 ⟨Nat.zero_le _, Nat.zero_le _⟩ rfl (fun H locs hR hS => ?_)
  refine lv_aload_n hx hb dX3_needTwoEntries_4 rfl (lv_at hl 0 rfl) ?_
  refine lv_iload_n hx hb dX3_needTwoEntries_5 rfl (lv_at hl 1 rfl) ?_
  rcases xt_some hF with hT | ⟨-, hF⟩
  · exact x_tV (As := [.int (jI a1)]) (rest := []) hx hb hml hown hlocks hts hK hTH hnt hR hS (t_X3_needNode hst ha1 hT) wd261 wd263 ws3 wd1 wd264 hyX3_needNode ⟨rfl, rfl⟩ ⟨Nat.le_of_ble_eq_true rfl, Nat.le_of_ble_eq_true rfl⟩ hl.1 (Nat.le_of_ble_eq_true rfl) dX3_needTwoEntries_6 ⟨Nat.le_of_ble_eq_true rfl, Nat.le_of_ble_eq_true rfl⟩ rfl
  obtain ⟨_, hc2, hF⟩ := xb1_some hF
  refine x_cVv (C := RX3) (T := TX3) (N := 9) (ci := 3) (As := [.int (jI a1)]) (rest := []) hx hb hml hown hts hK hR hS (c_X3_needNode ha1 hc2) ok0 rfl rfl wd261 wd263 ws3 wd1 wd264 hyX3_needNode ⟨rfl, rfl⟩ ⟨Nat.le_of_ble_eq_true rfl, Nat.le_of_ble_eq_true rfl⟩ hl.1 (Nat.le_of_ble_eq_true rfl) dX3_needTwoEntries_6 ⟨Nat.zero_le _, Nat.zero_le _⟩ rfl (fun H locs hR hS => ?_)
  refine lv_aload_n hx hb dX3_needTwoEntries_9 rfl (lv_at hl 0 rfl) ?_
  refine lv_iload_n hx hb dX3_needTwoEntries_10 rfl (lv_at hl 3 rfl) ?_
  rcases xt_some hF with hT | ⟨-, hF⟩
  · exact x_tV (As := [.int (jI a3)]) (rest := []) hx hb hml hown hlocks hts hK hTH hnt hR hS (t_X3_needNode hst ha3 hT) wd261 wd263 ws3 wd1 wd264 hyX3_needNode ⟨rfl, rfl⟩ ⟨Nat.le_of_ble_eq_true rfl, Nat.le_of_ble_eq_true rfl⟩ hl.1 (Nat.le_of_ble_eq_true rfl) dX3_needTwoEntries_11 ⟨Nat.le_of_ble_eq_true rfl, Nat.le_of_ble_eq_true rfl⟩ rfl
  obtain ⟨_, hc3, hF⟩ := xb1_some hF
  refine x_cVv (C := RX3) (T := TX3) (N := 9) (ci := 3) (As := [.int (jI a3)]) (rest := []) hx hb hml hown hts hK hR hS (c_X3_needNode ha3 hc3) ok0 rfl rfl wd261 wd263 ws3 wd1 wd264 hyX3_needNode ⟨rfl, rfl⟩ ⟨Nat.le_of_ble_eq_true rfl, Nat.le_of_ble_eq_true rfl⟩ hl.1 (Nat.le_of_ble_eq_true rfl) dX3_needTwoEntries_11 ⟨Nat.zero_le _, Nat.zero_le _⟩ rfl (fun H locs hR hS => ?_)
  refine lv_aload_n hx hb dX3_needTwoEntries_14 rfl (lv_at hl 0 rfl) ?_
  refine lv_iload_n hx hb dX3_needTwoEntries_15 rfl (lv_at hl 2 rfl) ?_
  refine x_iconst hx hb dX3_needTwoEntries_16 ?_
  refine x_bipush hx hb (by decide +kernel) dX3_needTwoEntries_17 ?_
  rcases xt_some hF with hT | ⟨-, hF⟩
  · exact x_tV (As := [.int (jI a2), .int (jI (1 : Int)), .int (jI (99 : Int))]) (rest := []) hx hb hml hown hlocks hts hK hTH hnt hR hS (t_X3_needRange hst ha2 (by decide : rg (1 : Int)) (by decide : rg (99 : Int)) hT) wd285 wd287 ws4 wd1 wd288 hyX3_needRange ⟨rfl, rfl⟩ ⟨Nat.le_of_ble_eq_true rfl, Nat.le_of_ble_eq_true rfl⟩ hl.1 (Nat.le_of_ble_eq_true rfl) dX3_needTwoEntries_19 ⟨Nat.le_of_ble_eq_true rfl, Nat.le_of_ble_eq_true rfl⟩ rfl
  obtain ⟨_, hc4, hF⟩ := xb1_some hF
  refine x_cVv (C := RX3) (T := TX3) (N := 9) (ci := 3) (As := [.int (jI a2), .int (jI (1 : Int)), .int (jI (99 : Int))]) (rest := []) hx hb hml hown hts hK hR hS (c_X3_needRange ha2 (by decide : rg (1 : Int)) (by decide : rg (99 : Int)) hc4) ok0 rfl rfl wd285 wd287 ws4 wd1 wd288 hyX3_needRange ⟨rfl, rfl⟩ ⟨Nat.le_of_ble_eq_true rfl, Nat.le_of_ble_eq_true rfl⟩ hl.1 (Nat.le_of_ble_eq_true rfl) dX3_needTwoEntries_19 ⟨Nat.zero_le _, Nat.zero_le _⟩ rfl (fun H locs hR hS => ?_)
  refine lv_aload_n hx hb dX3_needTwoEntries_22 rfl (lv_at hl 0 rfl) ?_
  refine lv_iload hx hb dX3_needTwoEntries_23 (lv_at hl 4 rfl) ?_
  refine x_iconst hx hb dX3_needTwoEntries_25 ?_
  refine x_bipush hx hb (by decide +kernel) dX3_needTwoEntries_26 ?_
  rcases xt_some hF with hT | ⟨-, hF⟩
  · exact x_tV (As := [.int (jI a4), .int (jI (1 : Int)), .int (jI (99 : Int))]) (rest := []) hx hb hml hown hlocks hts hK hTH hnt hR hS (t_X3_needRange hst ha4 (by decide : rg (1 : Int)) (by decide : rg (99 : Int)) hT) wd285 wd287 ws4 wd1 wd288 hyX3_needRange ⟨rfl, rfl⟩ ⟨Nat.le_of_ble_eq_true rfl, Nat.le_of_ble_eq_true rfl⟩ hl.1 (Nat.le_of_ble_eq_true rfl) dX3_needTwoEntries_28 ⟨Nat.le_of_ble_eq_true rfl, Nat.le_of_ble_eq_true rfl⟩ rfl
  obtain ⟨_, hc5, hF⟩ := xb1_some hF
  refine x_cVv (C := RX3) (T := TX3) (N := 9) (ci := 3) (As := [.int (jI a4), .int (jI (1 : Int)), .int (jI (99 : Int))]) (rest := []) hx hb hml hown hts hK hR hS (c_X3_needRange ha4 (by decide : rg (1 : Int)) (by decide : rg (99 : Int)) hc5) ok0 rfl rfl wd285 wd287 ws4 wd1 wd288 hyX3_needRange ⟨rfl, rfl⟩ ⟨Nat.le_of_ble_eq_true rfl, Nat.le_of_ble_eq_true rfl⟩ hl.1 (Nat.le_of_ble_eq_true rfl) dX3_needTwoEntries_28 ⟨Nat.zero_le _, Nat.zero_le _⟩ rfl (fun H locs hR hS => ?_)
  cases hF
abbrev rmTX3_rename : Room := { frames := 8, cells := 1, slots := 6, locals := 137 }
def T_X3_rename_108 (M : Mm) (v1 : Int) (v2 : Int) (v3 : Int) (v4 : Int) (v5 : Int) (v6 : Int) (s0 : Int) : Option Nat := (if s0 = 0 then none else none)
set_option maxHeartbeats 4000000 in
set_option maxRecDepth 100000 in
theorem u_X3_rename_108 {p : Program} {l : Launch} {e : Env} {s : State} {m : MethodId} {args : Array Value} {below : List Frame} {meth : Method} {c : Code} {g : Gx} {b : Nat} (C0 : XA p s m meth c args RX3 cX3_rename 8 (some .int) g) (hst : l.stackTraces = false) (hTH : TH b s) (hnt : ∀ x ∈ c.exceptionTable.toList, False) {E : Nat} {M : Mm} : ∀ (v1 : Int) (v2 : Int) (v3 : Int) (v4 : Int) (v5 : Int) (v6 : Int) (s0 : Int) (hv1 : rg v1) (hv2 : rg v2) (hv3 : rg v3) (hv4 : rg v4) (hv5 : rg v5) (hv6 : rg v6) (hs0 : rg s0) (H : Heap) (locs : List Loc), Rel g b M H → va_S (AA b s.heap.size) s.heap H locs → ∀ ls : Array Slot, lv_has ls 8 [(0, .ref (adr b 0 0)), (1, .int (jI v1)), (2, .int (jI v2)), (3, .int (jI v3)), (4, .int (jI v4)), (5, .int (jI v5)), (6, .int (jI v6))] → T_X3_rename_108 M v1 v2 v3 v4 v5 v6 s0 = some E → W p l e rmTX3_rename s m args below meth c H locs 0 0 (vx_MQ below (fun _ _ _ _ => False) (XT g b E M s.heap.size) args s 1 6 (AA b s.heap.size)) (F0 m 108 ls [.int (jI s0)]) := by
  obtain ⟨hx, hb, hr, hlocks, hml, hown, hts, hK⟩ := id C0
  intro v1 v2 v3 v4 v5 v6 s0 hv1 hv2 hv3 hv4 hv5 hv6 hs0 H locs hR hS ls hl hF
  rw [T_X3_rename_108] at hF
  refine lv_istore (lv' := [(7, .int (jI s0)), (0, .ref (adr b 0 0)), (1, .int (jI v1)), (2, .int (jI v2)), (3, .int (jI v3)), (4, .int (jI v4)), (5, .int (jI v5)), (6, .int (jI v6))]) hx hb dX3_rename_108 hl (by decide) rfl (fun ls hl => ?_)
  refine lv_iload hx hb dX3_rename_110 (lv_at hl 0 rfl) ?_
  refine x_if_eq (tgt := 118) hx hb hs0 dX3_rename_112 (by decide) (fun ci1 => ?_) (fun ci1 => ?_)
  · rw [if_pos ci1] at hF
    refine lv_aload_n hx hb dX3_rename_118 rfl (lv_at hl 1 rfl) ?_
    cases hF
  · rw [if_neg ci1] at hF
    refine lv_iload hx hb dX3_rename_115 (lv_at hl 0 rfl) ?_
    cases hF
def T_X3_rename_87 (M : Mm) (v1 : Int) (v2 : Int) (v3 : Int) (v4 : Int) (v5 : Int) (s0 : Int) : Option Nat := (if s0 = 0 then (xb1 (F_X3_hindranceToMove M v1 v5 v3 v4) fun y3 => (T_X3_rename_108 M v1 v2 v3 v4 v5 s0 y3)) else (T_X3_rename_108 M v1 v2 v3 v4 v5 s0 (0 : Int)))
set_option maxHeartbeats 4000000 in
set_option maxRecDepth 100000 in
theorem u_X3_rename_87 {p : Program} {l : Launch} {e : Env} {s : State} {m : MethodId} {args : Array Value} {below : List Frame} {meth : Method} {c : Code} {g : Gx} {b : Nat} (C0 : XA p s m meth c args RX3 cX3_rename 8 (some .int) g) (hst : l.stackTraces = false) (hTH : TH b s) (hnt : ∀ x ∈ c.exceptionTable.toList, False) {E : Nat} {M : Mm} : ∀ (v1 : Int) (v2 : Int) (v3 : Int) (v4 : Int) (v5 : Int) (s0 : Int) (hv1 : rg v1) (hv2 : rg v2) (hv3 : rg v3) (hv4 : rg v4) (hv5 : rg v5) (hs0 : rg s0) (H : Heap) (locs : List Loc), Rel g b M H → va_S (AA b s.heap.size) s.heap H locs → ∀ ls : Array Slot, lv_has ls 8 [(0, .ref (adr b 0 0)), (1, .int (jI v1)), (2, .int (jI v2)), (3, .int (jI v3)), (4, .int (jI v4)), (5, .int (jI v5))] → T_X3_rename_87 M v1 v2 v3 v4 v5 s0 = some E → W p l e rmTX3_rename s m args below meth c H locs 0 0 (vx_MQ below (fun _ _ _ _ => False) (XT g b E M s.heap.size) args s 1 6 (AA b s.heap.size)) (F0 m 87 ls [.int (jI s0)]) := by
  obtain ⟨hx, hb, hr, hlocks, hml, hown, hts, hK⟩ := id C0
  intro v1 v2 v3 v4 v5 s0 hv1 hv2 hv3 hv4 hv5 hs0 H locs hR hS ls hl hF
  rw [T_X3_rename_87] at hF
  refine lv_istore (lv' := [(6, .int (jI s0)), (0, .ref (adr b 0 0)), (1, .int (jI v1)), (2, .int (jI v2)), (3, .int (jI v3)), (4, .int (jI v4)), (5, .int (jI v5))]) hx hb dX3_rename_87 hl (by decide) rfl (fun ls hl => ?_)
  refine lv_iload hx hb dX3_rename_89 (lv_at hl 0 rfl) ?_
  refine x_if_eq (tgt := 98) hx hb hs0 dX3_rename_91 (by decide) (fun ci1 => ?_) (fun ci1 => ?_)
  · rw [if_pos ci1] at hF
    refine lv_aload_n hx hb dX3_rename_98 rfl (lv_at hl 1 rfl) ?_
    refine lv_iload_n hx hb dX3_rename_99 rfl (lv_at hl 2 rfl) ?_
    refine lv_iload hx hb dX3_rename_100 (lv_at hl 6 rfl) ?_
    refine lv_iload_n hx hb dX3_rename_102 rfl (lv_at hl 4 rfl) ?_
    refine lv_iload hx hb dX3_rename_103 (lv_at hl 5 rfl) ?_
    obtain ⟨y3, hc2, hF⟩ := xb1_some hF
    refine x_cVi (C := RX3) (T := TX3) (N := 9) (ci := 3) (As := [.int (jI v1), .int (jI v5), .int (jI v3), .int (jI v4)]) (rest := []) hx hb hml hown hts hK hR hS (c_X3_hindranceToMove hv1 hv5 hv3 hv4 hc2) ok0 rfl rfl wd512 wd514 ws15 wd1 wd515 hyX3_hindranceToMove ⟨rfl, rfl⟩ ⟨Nat.le_of_ble_eq_true rfl, Nat.le_of_ble_eq_true rfl⟩ hl.1 (Nat.le_of_ble_eq_true rfl) dX3_rename_105 ⟨Nat.zero_le _, Nat.zero_le _⟩ rfl (fun hg4 H locs hR hS => ?_)
    exact u_X3_rename_108 C0 hst hTH hnt v1 v2 v3 v4 v5 s0 y3 hv1 hv2 hv3 hv4 hv5 hs0 hg4 H locs hR hS ls (lv_sub hl [1, 2, 3, 4, 5, 6, 0] rfl) hF
  · rw [if_neg ci1] at hF
    refine x_iconst hx hb dX3_rename_94 ?_
    refine lv_goto (tgt := 108) hx hb dX3_rename_95 (by decide) ?_
    exact u_X3_rename_108 C0 hst hTH hnt v1 v2 v3 v4 v5 s0 (0 : Int) hv1 hv2 hv3 hv4 hv5 hs0 (by decide : rg (0 : Int)) H locs hR hS ls (lv_sub hl [1, 2, 3, 4, 5, 6, 0] rfl) hF
def T_X3_rename (M : Mm) (a1 : Int) (a2 : Int) (a3 : Int) (a4 : Int) : Option Nat := (xt (T_X3_needTwoEntries M a1 a2 a3 a4) (xb1 (F_X3_needTwoEntries M a1 a2 a3 a4) fun _ => (xk (M 0 0 0 = 0 ∨ M 0 0 0 = 1) (xb1 (F_X2_at M ((M 0 0 0).toNat) a1) fun y5 => (if (M 2 y5 0) = (2 : Int) then (xk (M 0 0 0 = 0 ∨ M 0 0 0 = 1) (xb1 (F_X2_at M ((M 0 0 0).toNat) a3) fun y13 => (if (M 2 y13 0) = (2 : Int) then (xk (M 0 0 0 = 0 ∨ M 0 0 0 = 1) (xb1 (F_X2_at M ((M 0 0 0).toNat) a1) fun y21 => (xb1 (F_X1_nodeNamed M y21 a2) fun y25 => (if y25 = (-1 : Int) then none else (xk (M 0 0 0 = 0 ∨ M 0 0 0 = 1) (xb1 (F_X2_at M ((M 0 0 0).toNat) a3) fun y31 => (xb1 (F_X1_nodeNamed M y31 a4) fun y35 => (if y35 = y25 then (T_X3_rename_87 M a1 a2 a3 a4 y25 (1 : Int)) else (T_X3_rename_87 M a1 a2 a3 a4 y25 (0 : Int)))))))))) else none))) else none)))))
set_option maxHeartbeats 4000000 in
set_option maxRecDepth 100000 in
theorem t_X3_rename {l : Launch} {g : Gx} {b : Nat} {M : Mm} {a1 : Int} {a2 : Int} {a3 : Int} {a4 : Int} {E : Nat} (hst : l.stackTraces = false) (ha1 : rg a1) (ha2 : rg a2) (ha3 : rg a3) (ha4 : rg a4) (hF : T_X3_rename M a1 a2 a3 a4 = some E) : Tt l yX3_rename cX3_rename 8 (some .int) rmTX3_rename g b [.ref (adr b 0 0), .int (jI a1), .int (jI a2), .int (jI a3), .int (jI a4)] M E := by
  refine tt_of (by decide +kernel) (Nat.le_of_ble_eq_true rfl) ?_
  intro p e s m args below meth c C0 hTH hnt hR ls hl
  obtain ⟨hx, hb, hr, hlocks, hml, hown, hts, hK⟩ := id C0
  have hS : va_S (AA b s.heap.size) s.heap s.heap [] := va_S.rf
  have hl : lv_has ls 8 [(0, .ref (adr b 0 0)), (1, .int (jI a1)), (2, .int (jI a2)), (3, .int (jI a3)), (4, .int (jI a4))] := hl
  obtain ⟨H, hH⟩ : ∃ z, z = s.heap := ⟨_, rfl⟩
  obtain ⟨locs, hlo⟩ : ∃ z : List Loc, z = [] := ⟨_, rfl⟩
  have hR : Rel g b M H := by rw [hH]; exact hR
  have hS : va_S (AA b s.heap.size) s.heap H locs := by rw [hH, hlo]; exact hS
  suffices hW : W p l e rmTX3_rename s m args below meth c H locs 0 0 (vx_MQ below (fun _ _ _ _ => False) (XT g b E M s.heap.size) args s 1 6 (AA b s.heap.size)) (F0 m 0 ls []) by rw [hH, hlo] at hW; exact hW
  rw [T_X3_rename] at hF
  refine lv_aload_n hx hb dX3_rename_0 rfl (lv_at hl 0 rfl) ?_
  refine lv_iload_n hx hb dX3_rename_1 rfl (lv_at hl 1 rfl) ?_
  refine lv_iload_n hx hb dX3_rename_2 rfl (lv_at hl 2 rfl) ?_
  refine lv_iload_n hx hb dX3_rename_3 rfl (lv_at hl 3 rfl) ?_
  refine lv_iload hx hb dX3_rename_4 (lv_at hl 4 rfl) ?_
  rcases xt_some hF with hT | ⟨-, hF⟩
  · exact x_tV (As := [.int (jI a1), .int (jI a2), .int (jI a3), .int (jI a4)]) (rest := []) hx hb hml hown hlocks hts hK hTH hnt hR hS (t_X3_needTwoEntries hst ha1 ha2 ha3 ha4 hT) wd508 wd510 ws14 wd1 wd511 hyX3_needTwoEntries ⟨rfl, rfl⟩ ⟨Nat.le_of_ble_eq_true rfl, Nat.le_of_ble_eq_true rfl⟩ hl.1 (Nat.le_of_ble_eq_true rfl) dX3_rename_6 ⟨Nat.le_of_ble_eq_true rfl, Nat.le_of_ble_eq_true rfl⟩ rfl
  obtain ⟨_, hc1, hF⟩ := xb1_some hF
  refine x_cVv (C := RX3) (T := TX3) (N := 9) (ci := 3) (As := [.int (jI a1), .int (jI a2), .int (jI a3), .int (jI a4)]) (rest := []) hx hb hml hown hts hK hR hS (c_X3_needTwoEntries ha1 ha2 ha3 ha4 hc1) ok0 rfl rfl wd508 wd510 ws14 wd1 wd511 hyX3_needTwoEntries ⟨rfl, rfl⟩ ⟨Nat.le_of_ble_eq_true rfl, Nat.le_of_ble_eq_true rfl⟩ hl.1 (Nat.le_of_ble_eq_true rfl) dX3_rename_6 ⟨Nat.zero_le _, Nat.zero_le _⟩ rfl (fun H locs hR hS => ?_)
  refine lv_aload_n hx hb dX3_rename_9 rfl (lv_at hl 0 rfl) ?_
  refine gf_3_0 hx hb hts hown hK hR wd139 dX3_rename_10 ?_
  obtain ⟨ht2, hF⟩ := xk_some hF
  have hj3 : (M 0 0 0).toNat < 3 := by omega
  refine lv_iload_n hx hb dX3_rename_13 rfl (lv_at hl 1 rfl) ?_
  obtain ⟨y5, hc4, hF⟩ := xb1_some hF
  refine x_cVr (C := RX2) (T := TX2) (N := 8) (ci := 2) (As := [.int (jI a1)]) (rest := []) hx hb hml hown hts hK hR hS (c_X2_at hj3 ha1 hc4) (ok1 hj3) rfl rfl wd265 wd266 wd267 wd2 wd268 hyX2_at ⟨rfl, rfl⟩ ⟨Nat.le_of_ble_eq_true rfl, Nat.le_of_ble_eq_true rfl⟩ hl.1 (Nat.le_of_ble_eq_true rfl) dX3_rename_14 ⟨Nat.zero_le _, Nat.zero_le _⟩ rfl (fun hg6 H locs hR hS => ?_)
  have hj7 : y5 < 99 := lt2 hg6
  refine gf_1_0 hx hb hts hown hK hR hj7 wd37 dX3_rename_17 ?_
  have hg8 : rg (M 2 y5 0) := hR.2 2 y5 0 (by decide)
  refine x_iconst hx hb dX3_rename_20 ?_
  refine x_icmp_ne (tgt := 39) hx hb hg8 (by decide : rg (2 : Int)) dX3_rename_21 (by decide) (fun ci9 => ?_) (fun ci9 => ?_)
  · rw [if_neg ci9] at hF
    refine x_bipush hx hb (by decide +kernel) dX3_rename_39 ?_
    cases hF
  · rw [if_pos ci9] at hF
    refine lv_aload_n hx hb dX3_rename_24 rfl (lv_at hl 0 rfl) ?_
    refine gf_3_0 hx hb hts hown hK hR wd139 dX3_rename_25 ?_
    obtain ⟨ht10, hF⟩ := xk_some hF
    have hj11 : (M 0 0 0).toNat < 3 := by omega
    refine lv_iload_n hx hb dX3_rename_28 rfl (lv_at hl 3 rfl) ?_
    obtain ⟨y13, hc12, hF⟩ := xb1_some hF
    refine x_cVr (C := RX2) (T := TX2) (N := 8) (ci := 2) (As := [.int (jI a3)]) (rest := []) hx hb hml hown hts hK hR hS (c_X2_at hj11 ha3 hc12) (ok1 hj11) rfl rfl wd265 wd266 wd267 wd2 wd268 hyX2_at ⟨rfl, rfl⟩ ⟨Nat.le_of_ble_eq_true rfl, Nat.le_of_ble_eq_true rfl⟩ hl.1 (Nat.le_of_ble_eq_true rfl) dX3_rename_29 ⟨Nat.zero_le _, Nat.zero_le _⟩ rfl (fun hg14 H locs hR hS => ?_)
    have hj15 : y13 < 99 := lt2 hg14
    refine gf_1_0 hx hb hts hown hK hR hj15 wd37 dX3_rename_32 ?_
    have hg16 : rg (M 2 y13 0) := hR.2 2 y13 0 (by decide)
    refine x_iconst hx hb dX3_rename_35 ?_
    refine x_icmp_eq (tgt := 42) hx hb hg16 (by decide : rg (2 : Int)) dX3_rename_36 (by decide) (fun ci17 => ?_) (fun ci17 => ?_)
    · rw [if_pos ci17] at hF
      refine lv_aload_n hx hb dX3_rename_42 rfl (lv_at hl 0 rfl) ?_
      refine gf_3_0 hx hb hts hown hK hR wd139 dX3_rename_43 ?_
      obtain ⟨ht18, hF⟩ := xk_some hF
      have hj19 : (M 0 0 0).toNat < 3 := by omega
      refine lv_iload_n hx hb dX3_rename_46 rfl (lv_at hl 1 rfl) ?_
      obtain ⟨y21, hc20, hF⟩ := xb1_some hF
      refine x_cVr (C := RX2) (T := TX2) (N := 8) (ci := 2) (As := [.int (jI a1)]) (rest := []) hx hb hml hown hts hK hR hS (c_X2_at hj19 ha1 hc20) (ok1 hj19) rfl rfl wd265 wd266 wd267 wd2 wd268 hyX2_at ⟨rfl, rfl⟩ ⟨Nat.le_of_ble_eq_true rfl, Nat.le_of_ble_eq_true rfl⟩ hl.1 (Nat.le_of_ble_eq_true rfl) dX3_rename_47 ⟨Nat.zero_le _, Nat.zero_le _⟩ rfl (fun hg22 H locs hR hS => ?_)
      have hj23 : y21 < 99 := lt2 hg22
      refine lv_iload_n hx hb dX3_rename_50 rfl (lv_at hl 2 rfl) ?_
      obtain ⟨y25, hc24, hF⟩ := xb1_some hF
      refine x_cVi (C := RX1) (T := TX1) (N := 12) (ci := 1) (As := [.int (jI a2)]) (rest := []) hx hb hml hown hts hK hR hS (c_X1_nodeNamed hj23 ha2 hc24) (ok2 hj23) rfl rfl wd313 wd314 wd315 wd3 wd316 hyX1_nodeNamed ⟨rfl, rfl⟩ ⟨Nat.le_of_ble_eq_true rfl, Nat.le_of_ble_eq_true rfl⟩ hl.1 (Nat.le_of_ble_eq_true rfl) dX3_rename_51 ⟨Nat.zero_le _, Nat.zero_le _⟩ rfl (fun hg26 H locs hR hS => ?_)
      refine lv_istore (lv' := [(5, .int (jI y25)), (0, .ref (adr b 0 0)), (1, .int (jI a1)), (2, .int (jI a2)), (3, .int (jI a3)), (4, .int (jI a4))]) hx hb dX3_rename_54 hl (by decide) rfl (fun ls hl => ?_)
      refine lv_iload hx hb dX3_rename_56 (lv_at hl 0 rfl) ?_
      refine x_iconst hx hb dX3_rename_58 ?_
      refine x_icmp_ne (tgt := 64) hx hb hg26 (by decide : rg (-1 : Int)) dX3_rename_59 (by decide) (fun ci27 => ?_) (fun ci27 => ?_)
      · rw [if_neg ci27] at hF
        refine lv_aload_n hx hb dX3_rename_64 rfl (lv_at hl 1 rfl) ?_
        refine gf_3_0 hx hb hts hown hK hR wd139 dX3_rename_65 ?_
        obtain ⟨ht28, hF⟩ := xk_some hF
        have hj29 : (M 0 0 0).toNat < 3 := by omega
        refine lv_iload_n hx hb dX3_rename_68 rfl (lv_at hl 4 rfl) ?_
        obtain ⟨y31, hc30, hF⟩ := xb1_some hF
        refine x_cVr (C := RX2) (T := TX2) (N := 8) (ci := 2) (As := [.int (jI a3)]) (rest := []) hx hb hml hown hts hK hR hS (c_X2_at hj29 ha3 hc30) (ok1 hj29) rfl rfl wd265 wd266 wd267 wd2 wd268 hyX2_at ⟨rfl, rfl⟩ ⟨Nat.le_of_ble_eq_true rfl, Nat.le_of_ble_eq_true rfl⟩ hl.1 (Nat.le_of_ble_eq_true rfl) dX3_rename_69 ⟨Nat.zero_le _, Nat.zero_le _⟩ rfl (fun hg32 H locs hR hS => ?_)
        have hj33 : y31 < 99 := lt2 hg32
        refine lv_iload hx hb dX3_rename_72 (lv_at hl 5 rfl) ?_
        obtain ⟨y35, hc34, hF⟩ := xb1_some hF
        refine x_cVi (C := RX1) (T := TX1) (N := 12) (ci := 1) (As := [.int (jI a4)]) (rest := []) hx hb hml hown hts hK hR hS (c_X1_nodeNamed hj33 ha4 hc34) (ok2 hj33) rfl rfl wd313 wd314 wd315 wd3 wd316 hyX1_nodeNamed ⟨rfl, rfl⟩ ⟨Nat.le_of_ble_eq_true rfl, Nat.le_of_ble_eq_true rfl⟩ hl.1 (Nat.le_of_ble_eq_true rfl) dX3_rename_74 ⟨Nat.zero_le _, Nat.zero_le _⟩ rfl (fun hg36 H locs hR hS => ?_)
        refine lv_iload hx hb dX3_rename_77 (lv_at hl 0 rfl) ?_
        refine x_icmp_ne (tgt := 86) hx hb hg36 hg26 dX3_rename_79 (by decide) (fun ci37 => ?_) (fun ci37 => ?_)
        · rw [if_neg ci37] at hF
          refine x_iconst hx hb dX3_rename_86 ?_
          exact u_X3_rename_87 C0 hst hTH hnt a1 a2 a3 a4 y25 (0 : Int) ha1 ha2 ha3 ha4 hg26 (by decide : rg (0 : Int)) H locs hR hS ls (lv_sub hl [1, 2, 3, 4, 5, 0] rfl) hF
        · rw [if_pos ci37] at hF
          refine x_iconst hx hb dX3_rename_82 ?_
          refine lv_goto (tgt := 87) hx hb dX3_rename_83 (by decide) ?_
          exact u_X3_rename_87 C0 hst hTH hnt a1 a2 a3 a4 y25 (1 : Int) ha1 ha2 ha3 ha4 hg26 (by decide : rg (1 : Int)) H locs hR hS ls (lv_sub hl [1, 2, 3, 4, 5, 0] rfl) hF
      · rw [if_pos ci27] at hF
        refine x_iconst hx hb dX3_rename_62 ?_
        cases hF
    · rw [if_neg ci17] at hF
      refine x_bipush hx hb (by decide +kernel) dX3_rename_39 ?_
      cases hF
abbrev rmTX3_exchange : Room := { frames := 8, cells := 1, slots := 6, locals := 137 }
def T_X3_exchange (M : Mm) (a1 : Int) (a2 : Int) (a3 : Int) (a4 : Int) : Option Nat := (xt (T_X3_needTwoEntries M a1 a2 a3 a4) (xb1 (F_X3_needTwoEntries M a1 a2 a3 a4) fun _ => (xk (M 0 0 0 = 0 ∨ M 0 0 0 = 1) (xb1 (F_X2_at M ((M 0 0 0).toNat) a1) fun y5 => (if (M 2 y5 0) = (2 : Int) then (xk (M 0 0 0 = 0 ∨ M 0 0 0 = 1) (xb1 (F_X2_at M ((M 0 0 0).toNat) a3) fun y13 => (if (M 2 y13 0) = (2 : Int) then (xk (M 0 0 0 = 0 ∨ M 0 0 0 = 1) (xb1 (F_X2_at M ((M 0 0 0).toNat) a1) fun y21 => (xb1 (F_X1_nodeNamed M y21 a2) fun y25 => (xk (M 0 0 0 = 0 ∨ M 0 0 0 = 1) (xb1 (F_X2_at M ((M 0 0 0).toNat) a3) fun y30 => (xb1 (F_X1_nodeNamed M y30 a4) fun y34 => (if y25 = (-1 : Int) then none else (if y34 = (-1 : Int) then none else (xk (M 0 0 0 = 0 ∨ M 0 0 0 = 1) (xb1 (F_X2_isWithin M ((M 0 0 0).toNat) a3 y25) fun y41 => (if y41 = 0 then (xk (M 0 0 0 = 0 ∨ M 0 0 0 = 1) (xb1 (F_X2_isWithin M ((M 0 0 0).toNat) a1 y34) fun y47 => (if y47 = 0 then none else none))) else none))))))))))) else none))) else none)))))
set_option maxHeartbeats 4000000 in
set_option maxRecDepth 100000 in
theorem t_X3_exchange {l : Launch} {g : Gx} {b : Nat} {M : Mm} {a1 : Int} {a2 : Int} {a3 : Int} {a4 : Int} {E : Nat} (hst : l.stackTraces = false) (ha1 : rg a1) (ha2 : rg a2) (ha3 : rg a3) (ha4 : rg a4) (hF : T_X3_exchange M a1 a2 a3 a4 = some E) : Tt l yX3_exchange cX3_exchange 7 (some .int) rmTX3_exchange g b [.ref (adr b 0 0), .int (jI a1), .int (jI a2), .int (jI a3), .int (jI a4)] M E := by
  refine tt_of (by decide +kernel) (Nat.le_of_ble_eq_true rfl) ?_
  intro p e s m args below meth c C0 hTH hnt hR ls hl
  obtain ⟨hx, hb, hr, hlocks, hml, hown, hts, hK⟩ := id C0
  have hS : va_S (AA b s.heap.size) s.heap s.heap [] := va_S.rf
  have hl : lv_has ls 7 [(0, .ref (adr b 0 0)), (1, .int (jI a1)), (2, .int (jI a2)), (3, .int (jI a3)), (4, .int (jI a4))] := hl
  obtain ⟨H, hH⟩ : ∃ z, z = s.heap := ⟨_, rfl⟩
  obtain ⟨locs, hlo⟩ : ∃ z : List Loc, z = [] := ⟨_, rfl⟩
  have hR : Rel g b M H := by rw [hH]; exact hR
  have hS : va_S (AA b s.heap.size) s.heap H locs := by rw [hH, hlo]; exact hS
  suffices hW : W p l e rmTX3_exchange s m args below meth c H locs 0 0 (vx_MQ below (fun _ _ _ _ => False) (XT g b E M s.heap.size) args s 1 6 (AA b s.heap.size)) (F0 m 0 ls []) by rw [hH, hlo] at hW; exact hW
  rw [T_X3_exchange] at hF
  refine lv_aload_n hx hb dX3_exchange_0 rfl (lv_at hl 0 rfl) ?_
  refine lv_iload_n hx hb dX3_exchange_1 rfl (lv_at hl 1 rfl) ?_
  refine lv_iload_n hx hb dX3_exchange_2 rfl (lv_at hl 2 rfl) ?_
  refine lv_iload_n hx hb dX3_exchange_3 rfl (lv_at hl 3 rfl) ?_
  refine lv_iload hx hb dX3_exchange_4 (lv_at hl 4 rfl) ?_
  rcases xt_some hF with hT | ⟨-, hF⟩
  · exact x_tV (As := [.int (jI a1), .int (jI a2), .int (jI a3), .int (jI a4)]) (rest := []) hx hb hml hown hlocks hts hK hTH hnt hR hS (t_X3_needTwoEntries hst ha1 ha2 ha3 ha4 hT) wd508 wd510 ws14 wd1 wd511 hyX3_needTwoEntries ⟨rfl, rfl⟩ ⟨Nat.le_of_ble_eq_true rfl, Nat.le_of_ble_eq_true rfl⟩ hl.1 (Nat.le_of_ble_eq_true rfl) dX3_exchange_6 ⟨Nat.le_of_ble_eq_true rfl, Nat.le_of_ble_eq_true rfl⟩ rfl
  obtain ⟨_, hc1, hF⟩ := xb1_some hF
  refine x_cVv (C := RX3) (T := TX3) (N := 9) (ci := 3) (As := [.int (jI a1), .int (jI a2), .int (jI a3), .int (jI a4)]) (rest := []) hx hb hml hown hts hK hR hS (c_X3_needTwoEntries ha1 ha2 ha3 ha4 hc1) ok0 rfl rfl wd508 wd510 ws14 wd1 wd511 hyX3_needTwoEntries ⟨rfl, rfl⟩ ⟨Nat.le_of_ble_eq_true rfl, Nat.le_of_ble_eq_true rfl⟩ hl.1 (Nat.le_of_ble_eq_true rfl) dX3_exchange_6 ⟨Nat.zero_le _, Nat.zero_le _⟩ rfl (fun H locs hR hS => ?_)
  refine lv_aload_n hx hb dX3_exchange_9 rfl (lv_at hl 0 rfl) ?_
  refine gf_3_0 hx hb hts hown hK hR wd139 dX3_exchange_10 ?_
  obtain ⟨ht2, hF⟩ := xk_some hF
  have hj3 : (M 0 0 0).toNat < 3 := by omega
  refine lv_iload_n hx hb dX3_exchange_13 rfl (lv_at hl 1 rfl) ?_
  obtain ⟨y5, hc4, hF⟩ := xb1_some hF
  refine x_cVr (C := RX2) (T := TX2) (N := 8) (ci := 2) (As := [.int (jI a1)]) (rest := []) hx hb hml hown hts hK hR hS (c_X2_at hj3 ha1 hc4) (ok1 hj3) rfl rfl wd265 wd266 wd267 wd2 wd268 hyX2_at ⟨rfl, rfl⟩ ⟨Nat.le_of_ble_eq_true rfl, Nat.le_of_ble_eq_true rfl⟩ hl.1 (Nat.le_of_ble_eq_true rfl) dX3_exchange_14 ⟨Nat.zero_le _, Nat.zero_le _⟩ rfl (fun hg6 H locs hR hS => ?_)
  have hj7 : y5 < 99 := lt2 hg6
  refine gf_1_0 hx hb hts hown hK hR hj7 wd37 dX3_exchange_17 ?_
  have hg8 : rg (M 2 y5 0) := hR.2 2 y5 0 (by decide)
  refine x_iconst hx hb dX3_exchange_20 ?_
  refine x_icmp_ne (tgt := 39) hx hb hg8 (by decide : rg (2 : Int)) dX3_exchange_21 (by decide) (fun ci9 => ?_) (fun ci9 => ?_)
  · rw [if_neg ci9] at hF
    refine x_bipush hx hb (by decide +kernel) dX3_exchange_39 ?_
    cases hF
  · rw [if_pos ci9] at hF
    refine lv_aload_n hx hb dX3_exchange_24 rfl (lv_at hl 0 rfl) ?_
    refine gf_3_0 hx hb hts hown hK hR wd139 dX3_exchange_25 ?_
    obtain ⟨ht10, hF⟩ := xk_some hF
    have hj11 : (M 0 0 0).toNat < 3 := by omega
    refine lv_iload_n hx hb dX3_exchange_28 rfl (lv_at hl 3 rfl) ?_
    obtain ⟨y13, hc12, hF⟩ := xb1_some hF
    refine x_cVr (C := RX2) (T := TX2) (N := 8) (ci := 2) (As := [.int (jI a3)]) (rest := []) hx hb hml hown hts hK hR hS (c_X2_at hj11 ha3 hc12) (ok1 hj11) rfl rfl wd265 wd266 wd267 wd2 wd268 hyX2_at ⟨rfl, rfl⟩ ⟨Nat.le_of_ble_eq_true rfl, Nat.le_of_ble_eq_true rfl⟩ hl.1 (Nat.le_of_ble_eq_true rfl) dX3_exchange_29 ⟨Nat.zero_le _, Nat.zero_le _⟩ rfl (fun hg14 H locs hR hS => ?_)
    have hj15 : y13 < 99 := lt2 hg14
    refine gf_1_0 hx hb hts hown hK hR hj15 wd37 dX3_exchange_32 ?_
    have hg16 : rg (M 2 y13 0) := hR.2 2 y13 0 (by decide)
    refine x_iconst hx hb dX3_exchange_35 ?_
    refine x_icmp_eq (tgt := 42) hx hb hg16 (by decide : rg (2 : Int)) dX3_exchange_36 (by decide) (fun ci17 => ?_) (fun ci17 => ?_)
    · rw [if_pos ci17] at hF
      refine lv_aload_n hx hb dX3_exchange_42 rfl (lv_at hl 0 rfl) ?_
      refine gf_3_0 hx hb hts hown hK hR wd139 dX3_exchange_43 ?_
      obtain ⟨ht18, hF⟩ := xk_some hF
      have hj19 : (M 0 0 0).toNat < 3 := by omega
      refine lv_iload_n hx hb dX3_exchange_46 rfl (lv_at hl 1 rfl) ?_
      obtain ⟨y21, hc20, hF⟩ := xb1_some hF
      refine x_cVr (C := RX2) (T := TX2) (N := 8) (ci := 2) (As := [.int (jI a1)]) (rest := []) hx hb hml hown hts hK hR hS (c_X2_at hj19 ha1 hc20) (ok1 hj19) rfl rfl wd265 wd266 wd267 wd2 wd268 hyX2_at ⟨rfl, rfl⟩ ⟨Nat.le_of_ble_eq_true rfl, Nat.le_of_ble_eq_true rfl⟩ hl.1 (Nat.le_of_ble_eq_true rfl) dX3_exchange_47 ⟨Nat.zero_le _, Nat.zero_le _⟩ rfl (fun hg22 H locs hR hS => ?_)
      have hj23 : y21 < 99 := lt2 hg22
      refine lv_iload_n hx hb dX3_exchange_50 rfl (lv_at hl 2 rfl) ?_
      obtain ⟨y25, hc24, hF⟩ := xb1_some hF
      refine x_cVi (C := RX1) (T := TX1) (N := 12) (ci := 1) (As := [.int (jI a2)]) (rest := []) hx hb hml hown hts hK hR hS (c_X1_nodeNamed hj23 ha2 hc24) (ok2 hj23) rfl rfl wd313 wd314 wd315 wd3 wd316 hyX1_nodeNamed ⟨rfl, rfl⟩ ⟨Nat.le_of_ble_eq_true rfl, Nat.le_of_ble_eq_true rfl⟩ hl.1 (Nat.le_of_ble_eq_true rfl) dX3_exchange_51 ⟨Nat.zero_le _, Nat.zero_le _⟩ rfl (fun hg26 H locs hR hS => ?_)
      refine lv_istore (lv' := [(5, .int (jI y25)), (0, .ref (adr b 0 0)), (1, .int (jI a1)), (2, .int (jI a2)), (3, .int (jI a3)), (4, .int (jI a4))]) hx hb dX3_exchange_54 hl (by decide) rfl (fun ls hl => ?_)
      refine lv_aload_n hx hb dX3_exchange_56 rfl (lv_at hl 1 rfl) ?_
      refine gf_3_0 hx hb hts hown hK hR wd139 dX3_exchange_57 ?_
      obtain ⟨ht27, hF⟩ := xk_some hF
      have hj28 : (M 0 0 0).toNat < 3 := by omega
      refine lv_iload_n hx hb dX3_exchange_60 rfl (lv_at hl 4 rfl) ?_
      obtain ⟨y30, hc29, hF⟩ := xb1_some hF
      refine x_cVr (C := RX2) (T := TX2) (N := 8) (ci := 2) (As := [.int (jI a3)]) (rest := []) hx hb hml hown hts hK hR hS (c_X2_at hj28 ha3 hc29) (ok1 hj28) rfl rfl wd265 wd266 wd267 wd2 wd268 hyX2_at ⟨rfl, rfl⟩ ⟨Nat.le_of_ble_eq_true rfl, Nat.le_of_ble_eq_true rfl⟩ hl.1 (Nat.le_of_ble_eq_true rfl) dX3_exchange_61 ⟨Nat.zero_le _, Nat.zero_le _⟩ rfl (fun hg31 H locs hR hS => ?_)
      have hj32 : y30 < 99 := lt2 hg31
      refine lv_iload hx hb dX3_exchange_64 (lv_at hl 5 rfl) ?_
      obtain ⟨y34, hc33, hF⟩ := xb1_some hF
      refine x_cVi (C := RX1) (T := TX1) (N := 12) (ci := 1) (As := [.int (jI a4)]) (rest := []) hx hb hml hown hts hK hR hS (c_X1_nodeNamed hj32 ha4 hc33) (ok2 hj32) rfl rfl wd313 wd314 wd315 wd3 wd316 hyX1_nodeNamed ⟨rfl, rfl⟩ ⟨Nat.le_of_ble_eq_true rfl, Nat.le_of_ble_eq_true rfl⟩ hl.1 (Nat.le_of_ble_eq_true rfl) dX3_exchange_66 ⟨Nat.zero_le _, Nat.zero_le _⟩ rfl (fun hg35 H locs hR hS => ?_)
      refine lv_istore (lv' := [(6, .int (jI y34)), (5, .int (jI y25)), (0, .ref (adr b 0 0)), (1, .int (jI a1)), (2, .int (jI a2)), (3, .int (jI a3)), (4, .int (jI a4))]) hx hb dX3_exchange_69 hl (by decide) rfl (fun ls hl => ?_)
      refine lv_iload hx hb dX3_exchange_71 (lv_at hl 1 rfl) ?_
      refine x_iconst hx hb dX3_exchange_73 ?_
      refine x_icmp_eq (tgt := 83) hx hb hg26 (by decide : rg (-1 : Int)) dX3_exchange_74 (by decide) (fun ci36 => ?_) (fun ci36 => ?_)
      · rw [if_pos ci36] at hF
        refine x_iconst hx hb dX3_exchange_83 ?_
        cases hF
      · rw [if_neg ci36] at hF
        refine lv_iload hx hb dX3_exchange_77 (lv_at hl 0 rfl) ?_
        refine x_iconst hx hb dX3_exchange_79 ?_
        refine x_icmp_ne (tgt := 85) hx hb hg35 (by decide : rg (-1 : Int)) dX3_exchange_80 (by decide) (fun ci37 => ?_) (fun ci37 => ?_)
        · rw [if_neg ci37] at hF
          refine lv_aload_n hx hb dX3_exchange_85 rfl (lv_at hl 2 rfl) ?_
          refine gf_3_0 hx hb hts hown hK hR wd139 dX3_exchange_86 ?_
          obtain ⟨ht38, hF⟩ := xk_some hF
          have hj39 : (M 0 0 0).toNat < 3 := by omega
          refine lv_iload_n hx hb dX3_exchange_89 rfl (lv_at hl 5 rfl) ?_
          refine lv_iload hx hb dX3_exchange_90 (lv_at hl 1 rfl) ?_
          obtain ⟨y41, hc40, hF⟩ := xb1_some hF
          refine x_cVi (C := RX2) (T := TX2) (N := 8) (ci := 2) (As := [.int (jI a3), .int (jI y25)]) (rest := []) hx hb hml hown hts hK hR hS (c_X2_isWithin hj39 ha3 hg26 hc40) (ok1 hj39) rfl rfl wd516 wd517 wd518 wd2 wd519 hyX2_isWithin ⟨rfl, rfl⟩ ⟨Nat.le_of_ble_eq_true rfl, Nat.le_of_ble_eq_true rfl⟩ hl.1 (Nat.le_of_ble_eq_true rfl) dX3_exchange_92 ⟨Nat.zero_le _, Nat.zero_le _⟩ rfl (fun hg42 H locs hR hS => ?_)
          refine x_if_ne (tgt := 111) hx hb hg42 dX3_exchange_95 (by decide) (fun ci43 => ?_) (fun ci43 => ?_)
          · rw [if_neg ci43] at hF
            refine x_bipush hx hb (by decide +kernel) dX3_exchange_111 ?_
            cases hF
          · rw [if_pos ci43] at hF
            refine lv_aload_n hx hb dX3_exchange_98 rfl (lv_at hl 2 rfl) ?_
            refine gf_3_0 hx hb hts hown hK hR wd139 dX3_exchange_99 ?_
            obtain ⟨ht44, hF⟩ := xk_some hF
            have hj45 : (M 0 0 0).toNat < 3 := by omega
            refine lv_iload_n hx hb dX3_exchange_102 rfl (lv_at hl 3 rfl) ?_
            refine lv_iload hx hb dX3_exchange_103 (lv_at hl 0 rfl) ?_
            obtain ⟨y47, hc46, hF⟩ := xb1_some hF
            refine x_cVi (C := RX2) (T := TX2) (N := 8) (ci := 2) (As := [.int (jI a1), .int (jI y34)]) (rest := []) hx hb hml hown hts hK hR hS (c_X2_isWithin hj45 ha1 hg35 hc46) (ok1 hj45) rfl rfl wd516 wd517 wd518 wd2 wd519 hyX2_isWithin ⟨rfl, rfl⟩ ⟨Nat.le_of_ble_eq_true rfl, Nat.le_of_ble_eq_true rfl⟩ hl.1 (Nat.le_of_ble_eq_true rfl) dX3_exchange_105 ⟨Nat.zero_le _, Nat.zero_le _⟩ rfl (fun hg48 H locs hR hS => ?_)
            refine x_if_eq (tgt := 114) hx hb hg48 dX3_exchange_108 (by decide) (fun ci49 => ?_) (fun ci49 => ?_)
            · rw [if_pos ci49] at hF
              refine lv_aload_n hx hb dX3_exchange_114 rfl (lv_at hl 2 rfl) ?_
              cases hF
            · rw [if_neg ci49] at hF
              refine x_bipush hx hb (by decide +kernel) dX3_exchange_111 ?_
              cases hF
        · rw [if_pos ci37] at hF
          refine x_iconst hx hb dX3_exchange_83 ?_
          cases hF
    · rw [if_neg ci17] at hF
      refine x_bipush hx hb (by decide +kernel) dX3_exchange_39 ?_
      cases hF
abbrev rmTX3_needOpen : Room := { frames := 6, cells := 1, slots := 6, locals := 90 }
def T_X3_needOpen (M : Mm) (a1 : Int) : Option Nat := (if a1 < 0 then (some 2) else (if (6 : Int) ≤ a1 then (some 2) else (xk (0 ≤ a1 ∧ a1 < 6) (if (M 11 (a1.toNat) 0) = 0 then (some 2) else (xk (0 ≤ a1 ∧ a1 < 6) none)))))
set_option maxHeartbeats 4000000 in
set_option maxRecDepth 100000 in
theorem t_X3_needOpen {l : Launch} {g : Gx} {b : Nat} {M : Mm} {a1 : Int} {E : Nat} (hst : l.stackTraces = false) (ha1 : rg a1) (hF : T_X3_needOpen M a1 = some E) : Tt l yX3_needOpen cX3_needOpen 2 (some (.object "JournalDisk$Handle")) rmTX3_needOpen g b [.ref (adr b 0 0), .int (jI a1)] M E := by
  refine tt_of (by decide +kernel) (Nat.le_of_ble_eq_true rfl) ?_
  intro p e s m args below meth c C0 hTH hnt hR ls hl
  obtain ⟨hx, hb, hr, hlocks, hml, hown, hts, hK⟩ := id C0
  have hS : va_S (AA b s.heap.size) s.heap s.heap [] := va_S.rf
  have hl : lv_has ls 2 [(0, .ref (adr b 0 0)), (1, .int (jI a1))] := hl
  obtain ⟨H, hH⟩ : ∃ z, z = s.heap := ⟨_, rfl⟩
  obtain ⟨locs, hlo⟩ : ∃ z : List Loc, z = [] := ⟨_, rfl⟩
  have hR : Rel g b M H := by rw [hH]; exact hR
  have hS : va_S (AA b s.heap.size) s.heap H locs := by rw [hH, hlo]; exact hS
  suffices hW : W p l e rmTX3_needOpen s m args below meth c H locs 0 0 (vx_MQ below (fun _ _ _ _ => False) (XT g b E M s.heap.size) args s 1 6 (AA b s.heap.size)) (F0 m 0 ls []) by rw [hH, hlo] at hW; exact hW
  rw [T_X3_needOpen] at hF
  refine lv_iload_n hx hb dX3_needOpen_0 rfl (lv_at hl 1 rfl) ?_
  refine x_if_lt (tgt := 25) hx hb ha1 dX3_needOpen_1 (by decide) (fun ci1 => ?_) (fun ci1 => ?_)
  · rw [if_pos ci1] at hF
    cases hF
    exact thr_X3_needOpen_25 hx hb hst hml hl.1 hown hlocks hts hK hTH hnt hR hS (Nat.le_of_ble_eq_true rfl) (Nat.le_of_ble_eq_true rfl) (Nat.le_of_ble_eq_true rfl) (Nat.le_of_ble_eq_true rfl)
  · rw [if_neg ci1] at hF
    refine lv_iload_n hx hb dX3_needOpen_4 rfl (lv_at hl 1 rfl) ?_
    refine lv_aload_n hx hb dX3_needOpen_5 rfl (lv_at hl 0 rfl) ?_
    refine gf_3_3 hx hb hts hown hK hR wd142 dX3_needOpen_6 ?_
    refine x_alenH hx hb hK hR dX3_needOpen_9 ?_
    refine x_icmp_ge (tgt := 25) hx hb ha1 (by decide : rg (6 : Int)) dX3_needOpen_10 (by decide) (fun ci2 => ?_) (fun ci2 => ?_)
    · rw [if_pos ci2] at hF
      cases hF
      exact thr_X3_needOpen_25 hx hb hst hml hl.1 hown hlocks hts hK hTH hnt hR hS (Nat.le_of_ble_eq_true rfl) (Nat.le_of_ble_eq_true rfl) (Nat.le_of_ble_eq_true rfl) (Nat.le_of_ble_eq_true rfl)
    · rw [if_neg ci2] at hF
      refine lv_aload_n hx hb dX3_needOpen_13 rfl (lv_at hl 0 rfl) ?_
      refine gf_3_3 hx hb hts hown hK hR wd142 dX3_needOpen_14 ?_
      refine lv_iload_n hx hb dX3_needOpen_17 rfl (lv_at hl 1 rfl) ?_
      obtain ⟨hi3, hF⟩ := xk_some hF
      refine x_aldH hx hb hK hR ha1 hi3 dX3_needOpen_18 ?_
      have hj4 : a1.toNat < 6 := by omega
      refine gf_0_0 hx hb hts hown hK hR hj4 wd124 dX3_needOpen_19 ?_
      have hg5 : rg (M 11 (a1.toNat) 0) := hR.2 11 (a1.toNat) 0 (by decide)
      refine x_if_ne (tgt := 36) hx hb hg5 dX3_needOpen_22 (by decide) (fun ci6 => ?_) (fun ci6 => ?_)
      · rw [if_neg ci6] at hF
        refine lv_aload_n hx hb dX3_needOpen_36 rfl (lv_at hl 0 rfl) ?_
        refine gf_3_3 hx hb hts hown hK hR wd142 dX3_needOpen_37 ?_
        refine lv_iload_n hx hb dX3_needOpen_40 rfl (lv_at hl 1 rfl) ?_
        obtain ⟨hi7, hF⟩ := xk_some hF
        refine x_aldH hx hb hK hR ha1 hi7 dX3_needOpen_41 ?_
        have hj8 : a1.toNat < 6 := by omega
        cases hF
      · rw [if_pos ci6] at hF
        cases hF
        exact thr_X3_needOpen_25 hx hb hst hml hl.1 hown hlocks hts hK hTH hnt hR hS (Nat.le_of_ble_eq_true rfl) (Nat.le_of_ble_eq_true rfl) (Nat.le_of_ble_eq_true rfl) (Nat.le_of_ble_eq_true rfl)
abbrev rmTX3_write : Room := { frames := 7, cells := 1, slots := 6, locals := 131 }
def T_X3_write (M : Mm) (a1 : Int) (a2 : Int) (a3 : Int) : Option Nat := (xt (T_X3_needPower M ) (xb1 (F_X3_needPower M ) fun _ => (xt (T_X3_needOpen M a1) (xb1 (F_X3_needOpen M a1) fun y3 => (xt (T_X3_needRange M a2 (1 : Int) (64 : Int)) (xb1 (F_X3_needRange M a2 (1 : Int) (64 : Int)) fun _ => (xt (T_X3_needRange M a3 (0 : Int) (255 : Int)) (xb1 (F_X3_needRange M a3 (0 : Int) (255 : Int)) fun _ => (xk (rg ((M 11 y3 2) + a2)) (if ((M 11 y3 2) + a2) ≤ (320 : Int) then none else none))))))))))
set_option maxHeartbeats 4000000 in
set_option maxRecDepth 100000 in
theorem t_X3_write {l : Launch} {g : Gx} {b : Nat} {M : Mm} {a1 : Int} {a2 : Int} {a3 : Int} {E : Nat} (hst : l.stackTraces = false) (ha1 : rg a1) (ha2 : rg a2) (ha3 : rg a3) (hF : T_X3_write M a1 a2 a3 = some E) : Tt l yX3_write cX3_write 8 (some .int) rmTX3_write g b [.ref (adr b 0 0), .int (jI a1), .int (jI a2), .int (jI a3)] M E := by
  refine tt_of (by decide +kernel) (Nat.le_of_ble_eq_true rfl) ?_
  intro p e s m args below meth c C0 hTH hnt hR ls hl
  obtain ⟨hx, hb, hr, hlocks, hml, hown, hts, hK⟩ := id C0
  have hS : va_S (AA b s.heap.size) s.heap s.heap [] := va_S.rf
  have hl : lv_has ls 8 [(0, .ref (adr b 0 0)), (1, .int (jI a1)), (2, .int (jI a2)), (3, .int (jI a3))] := hl
  obtain ⟨H, hH⟩ : ∃ z, z = s.heap := ⟨_, rfl⟩
  obtain ⟨locs, hlo⟩ : ∃ z : List Loc, z = [] := ⟨_, rfl⟩
  have hR : Rel g b M H := by rw [hH]; exact hR
  have hS : va_S (AA b s.heap.size) s.heap H locs := by rw [hH, hlo]; exact hS
  suffices hW : W p l e rmTX3_write s m args below meth c H locs 0 0 (vx_MQ below (fun _ _ _ _ => False) (XT g b E M s.heap.size) args s 1 6 (AA b s.heap.size)) (F0 m 0 ls []) by rw [hH, hlo] at hW; exact hW
  rw [T_X3_write] at hF
  refine lv_aload_n hx hb dX3_write_0 rfl (lv_at hl 0 rfl) ?_
  rcases xt_some hF with hT | ⟨-, hF⟩
  · exact x_tV (As := []) (rest := []) hx hb hml hown hlocks hts hK hTH hnt hR hS (t_X3_needPower hst  hT) wd189 wd191 ws1 wd1 wd192 hyX3_needPower ⟨rfl, rfl⟩ ⟨Nat.le_of_ble_eq_true rfl, Nat.le_of_ble_eq_true rfl⟩ hl.1 (Nat.le_of_ble_eq_true rfl) dX3_write_1 ⟨Nat.le_of_ble_eq_true rfl, Nat.le_of_ble_eq_true rfl⟩ rfl
  obtain ⟨_, hc1, hF⟩ := xb1_some hF
  refine x_cVv (C := RX3) (T := TX3) (N := 9) (ci := 3) (As := []) (rest := []) hx hb hml hown hts hK hR hS (c_X3_needPower  hc1) ok0 rfl rfl wd189 wd191 ws1 wd1 wd192 hyX3_needPower ⟨rfl, rfl⟩ ⟨Nat.le_of_ble_eq_true rfl, Nat.le_of_ble_eq_true rfl⟩ hl.1 (Nat.le_of_ble_eq_true rfl) dX3_write_1 ⟨Nat.zero_le _, Nat.zero_le _⟩ rfl (fun H locs hR hS => ?_)
  refine lv_aload_n hx hb dX3_write_4 rfl (lv_at hl 0 rfl) ?_
  refine lv_iload_n hx hb dX3_write_5 rfl (lv_at hl 1 rfl) ?_
  rcases xt_some hF with hT | ⟨-, hF⟩
  · exact x_tV (As := [.int (jI a1)]) (rest := []) hx hb hml hown hlocks hts hK hTH hnt hR hS (t_X3_needOpen hst ha1 hT) wd542 wd544 ws16 wd1 wd545 hyX3_needOpen ⟨rfl, rfl⟩ ⟨Nat.le_of_ble_eq_true rfl, Nat.le_of_ble_eq_true rfl⟩ hl.1 (Nat.le_of_ble_eq_true rfl) dX3_write_6 ⟨Nat.le_of_ble_eq_true rfl, Nat.le_of_ble_eq_true rfl⟩ rfl
  obtain ⟨y3, hc2, hF⟩ := xb1_some hF
  refine x_cVr (C := RX3) (T := TX3) (N := 9) (ci := 3) (As := [.int (jI a1)]) (rest := []) hx hb hml hown hts hK hR hS (c_X3_needOpen ha1 hc2) ok0 rfl rfl wd542 wd544 ws16 wd1 wd545 hyX3_needOpen ⟨rfl, rfl⟩ ⟨Nat.le_of_ble_eq_true rfl, Nat.le_of_ble_eq_true rfl⟩ hl.1 (Nat.le_of_ble_eq_true rfl) dX3_write_6 ⟨Nat.zero_le _, Nat.zero_le _⟩ rfl (fun hg4 H locs hR hS => ?_)
  have hj5 : y3 < 6 := lt11 hg4
  refine lv_astore (lv' := [(4, .ref (adr b 11 y3)), (0, .ref (adr b 0 0)), (1, .int (jI a1)), (2, .int (jI a2)), (3, .int (jI a3))]) hx hb dX3_write_9 hl (by decide) rfl (fun ls hl => ?_)
  refine lv_aload_n hx hb dX3_write_11 rfl (lv_at hl 1 rfl) ?_
  refine lv_iload_n hx hb dX3_write_12 rfl (lv_at hl 3 rfl) ?_
  refine x_iconst hx hb dX3_write_13 ?_
  refine x_bipush hx hb (by decide +kernel) dX3_write_14 ?_
  rcases xt_some hF with hT | ⟨-, hF⟩
  · exact x_tV (As := [.int (jI a2), .int (jI (1 : Int)), .int (jI (64 : Int))]) (rest := []) hx hb hml hown hlocks hts hK hTH hnt hR hS (t_X3_needRange hst ha2 (by decide : rg (1 : Int)) (by decide : rg (64 : Int)) hT) wd285 wd287 ws4 wd1 wd288 hyX3_needRange ⟨rfl, rfl⟩ ⟨Nat.le_of_ble_eq_true rfl, Nat.le_of_ble_eq_true rfl⟩ hl.1 (Nat.le_of_ble_eq_true rfl) dX3_write_16 ⟨Nat.le_of_ble_eq_true rfl, Nat.le_of_ble_eq_true rfl⟩ rfl
  obtain ⟨_, hc6, hF⟩ := xb1_some hF
  refine x_cVv (C := RX3) (T := TX3) (N := 9) (ci := 3) (As := [.int (jI a2), .int (jI (1 : Int)), .int (jI (64 : Int))]) (rest := []) hx hb hml hown hts hK hR hS (c_X3_needRange ha2 (by decide : rg (1 : Int)) (by decide : rg (64 : Int)) hc6) ok0 rfl rfl wd285 wd287 ws4 wd1 wd288 hyX3_needRange ⟨rfl, rfl⟩ ⟨Nat.le_of_ble_eq_true rfl, Nat.le_of_ble_eq_true rfl⟩ hl.1 (Nat.le_of_ble_eq_true rfl) dX3_write_16 ⟨Nat.zero_le _, Nat.zero_le _⟩ rfl (fun H locs hR hS => ?_)
  refine lv_aload_n hx hb dX3_write_19 rfl (lv_at hl 1 rfl) ?_
  refine lv_iload_n hx hb dX3_write_20 rfl (lv_at hl 4 rfl) ?_
  refine x_iconst hx hb dX3_write_21 ?_
  refine x_sipush hx hb (by decide +kernel) dX3_write_22 ?_
  rcases xt_some hF with hT | ⟨-, hF⟩
  · exact x_tV (As := [.int (jI a3), .int (jI (0 : Int)), .int (jI (255 : Int))]) (rest := []) hx hb hml hown hlocks hts hK hTH hnt hR hS (t_X3_needRange hst ha3 (by decide : rg (0 : Int)) (by decide : rg (255 : Int)) hT) wd285 wd287 ws4 wd1 wd288 hyX3_needRange ⟨rfl, rfl⟩ ⟨Nat.le_of_ble_eq_true rfl, Nat.le_of_ble_eq_true rfl⟩ hl.1 (Nat.le_of_ble_eq_true rfl) dX3_write_25 ⟨Nat.le_of_ble_eq_true rfl, Nat.le_of_ble_eq_true rfl⟩ rfl
  obtain ⟨_, hc7, hF⟩ := xb1_some hF
  refine x_cVv (C := RX3) (T := TX3) (N := 9) (ci := 3) (As := [.int (jI a3), .int (jI (0 : Int)), .int (jI (255 : Int))]) (rest := []) hx hb hml hown hts hK hR hS (c_X3_needRange ha3 (by decide : rg (0 : Int)) (by decide : rg (255 : Int)) hc7) ok0 rfl rfl wd285 wd287 ws4 wd1 wd288 hyX3_needRange ⟨rfl, rfl⟩ ⟨Nat.le_of_ble_eq_true rfl, Nat.le_of_ble_eq_true rfl⟩ hl.1 (Nat.le_of_ble_eq_true rfl) dX3_write_25 ⟨Nat.zero_le _, Nat.zero_le _⟩ rfl (fun H locs hR hS => ?_)
  refine lv_aload hx hb dX3_write_28 (lv_at hl 0 rfl) ?_
  refine gf_0_2 hx hb hts hown hK hR hj5 wd128 dX3_write_30 ?_
  have hg8 : rg (M 11 y3 2) := hR.2 11 y3 2 (by decide)
  refine lv_iload_n hx hb dX3_write_33 rfl (lv_at hl 3 rfl) ?_
  obtain ⟨hq9, hF⟩ := xk_some hF
  refine x_iadd hx hb dX3_write_34 ?_
  refine lv_istore (lv' := [(5, .int (jI ((M 11 y3 2) + a2))), (4, .ref (adr b 11 y3)), (0, .ref (adr b 0 0)), (1, .int (jI a1)), (2, .int (jI a2)), (3, .int (jI a3))]) hx hb dX3_write_35 hl (by decide) rfl (fun ls hl => ?_)
  refine lv_iload hx hb dX3_write_37 (lv_at hl 0 rfl) ?_
  refine x_sipush hx hb (by decide +kernel) dX3_write_39 ?_
  refine x_icmp_le (tgt := 48) hx hb hq9 (by decide : rg (320 : Int)) dX3_write_42 (by decide) (fun ci10 => ?_) (fun ci10 => ?_)
  · rw [if_pos ci10] at hF
    refine lv_aload_n hx hb dX3_write_48 rfl (lv_at hl 2 rfl) ?_
    cases hF
  · rw [if_neg ci10] at hF
    refine x_bipush hx hb (by decide +kernel) dX3_write_45 ?_
    cases hF
abbrev rmTX3_truncate : Room := { frames := 7, cells := 1, slots := 6, locals := 131 }
def T_X3_truncate (M : Mm) (a1 : Int) (a2 : Int) : Option Nat := (xt (T_X3_needPower M ) (xb1 (F_X3_needPower M ) fun _ => (xt (T_X3_needNode M a1) (xb1 (F_X3_needNode M a1) fun _ => (xt (T_X3_needRange M a2 (0 : Int) (320 : Int)) (xb1 (F_X3_needRange M a2 (0 : Int) (320 : Int)) fun _ => (xk (M 0 0 0 = 0 ∨ M 0 0 0 = 1) (xb1 (F_X2_at M ((M 0 0 0).toNat) a1) fun y7 => (if (M 2 y7 0) = (1 : Int) then none else none)))))))))
set_option maxHeartbeats 4000000 in
set_option maxRecDepth 100000 in
theorem t_X3_truncate {l : Launch} {g : Gx} {b : Nat} {M : Mm} {a1 : Int} {a2 : Int} {E : Nat} (hst : l.stackTraces = false) (ha1 : rg a1) (ha2 : rg a2) (hF : T_X3_truncate M a1 a2 = some E) : Tt l yX3_truncate cX3_truncate 3 (some .int) rmTX3_truncate g b [.ref (adr b 0 0), .int (jI a1), .int (jI a2)] M E := by
  refine tt_of (by decide +kernel) (Nat.le_of_ble_eq_true rfl) ?_
  intro p e s m args below meth c C0 hTH hnt hR ls hl
  obtain ⟨hx, hb, hr, hlocks, hml, hown, hts, hK⟩ := id C0
  have hS : va_S (AA b s.heap.size) s.heap s.heap [] := va_S.rf
  have hl : lv_has ls 3 [(0, .ref (adr b 0 0)), (1, .int (jI a1)), (2, .int (jI a2))] := hl
  obtain ⟨H, hH⟩ : ∃ z, z = s.heap := ⟨_, rfl⟩
  obtain ⟨locs, hlo⟩ : ∃ z : List Loc, z = [] := ⟨_, rfl⟩
  have hR : Rel g b M H := by rw [hH]; exact hR
  have hS : va_S (AA b s.heap.size) s.heap H locs := by rw [hH, hlo]; exact hS
  suffices hW : W p l e rmTX3_truncate s m args below meth c H locs 0 0 (vx_MQ below (fun _ _ _ _ => False) (XT g b E M s.heap.size) args s 1 6 (AA b s.heap.size)) (F0 m 0 ls []) by rw [hH, hlo] at hW; exact hW
  rw [T_X3_truncate] at hF
  refine lv_aload_n hx hb dX3_truncate_0 rfl (lv_at hl 0 rfl) ?_
  rcases xt_some hF with hT | ⟨-, hF⟩
  · exact x_tV (As := []) (rest := []) hx hb hml hown hlocks hts hK hTH hnt hR hS (t_X3_needPower hst  hT) wd189 wd191 ws1 wd1 wd192 hyX3_needPower ⟨rfl, rfl⟩ ⟨Nat.le_of_ble_eq_true rfl, Nat.le_of_ble_eq_true rfl⟩ hl.1 (Nat.le_of_ble_eq_true rfl) dX3_truncate_1 ⟨Nat.le_of_ble_eq_true rfl, Nat.le_of_ble_eq_true rfl⟩ rfl
  obtain ⟨_, hc1, hF⟩ := xb1_some hF
  refine x_cVv (C := RX3) (T := TX3) (N := 9) (ci := 3) (As := []) (rest := []) hx hb hml hown hts hK hR hS (c_X3_needPower  hc1) ok0 rfl rfl wd189 wd191 ws1 wd1 wd192 hyX3_needPower ⟨rfl, rfl⟩ ⟨Nat.le_of_ble_eq_true rfl, Nat.le_of_ble_eq_true rfl⟩ hl.1 (Nat.le_of_ble_eq_true rfl) dX3_truncate_1 ⟨Nat.zero_le _, Nat.zero_le _⟩ rfl (fun H locs hR hS => ?_)
  refine lv_aload_n hx hb dX3_truncate_4 rfl (lv_at hl 0 rfl) ?_
  refine lv_iload_n hx hb dX3_truncate_5 rfl (lv_at hl 1 rfl) ?_
  rcases xt_some hF with hT | ⟨-, hF⟩
  · exact x_tV (As := [.int (jI a1)]) (rest := []) hx hb hml hown hlocks hts hK hTH hnt hR hS (t_X3_needNode hst ha1 hT) wd261 wd263 ws3 wd1 wd264 hyX3_needNode ⟨rfl, rfl⟩ ⟨Nat.le_of_ble_eq_true rfl, Nat.le_of_ble_eq_true rfl⟩ hl.1 (Nat.le_of_ble_eq_true rfl) dX3_truncate_6 ⟨Nat.le_of_ble_eq_true rfl, Nat.le_of_ble_eq_true rfl⟩ rfl
  obtain ⟨_, hc2, hF⟩ := xb1_some hF
  refine x_cVv (C := RX3) (T := TX3) (N := 9) (ci := 3) (As := [.int (jI a1)]) (rest := []) hx hb hml hown hts hK hR hS (c_X3_needNode ha1 hc2) ok0 rfl rfl wd261 wd263 ws3 wd1 wd264 hyX3_needNode ⟨rfl, rfl⟩ ⟨Nat.le_of_ble_eq_true rfl, Nat.le_of_ble_eq_true rfl⟩ hl.1 (Nat.le_of_ble_eq_true rfl) dX3_truncate_6 ⟨Nat.zero_le _, Nat.zero_le _⟩ rfl (fun H locs hR hS => ?_)
  refine lv_aload_n hx hb dX3_truncate_9 rfl (lv_at hl 0 rfl) ?_
  refine lv_iload_n hx hb dX3_truncate_10 rfl (lv_at hl 2 rfl) ?_
  refine x_iconst hx hb dX3_truncate_11 ?_
  refine x_sipush hx hb (by decide +kernel) dX3_truncate_12 ?_
  rcases xt_some hF with hT | ⟨-, hF⟩
  · exact x_tV (As := [.int (jI a2), .int (jI (0 : Int)), .int (jI (320 : Int))]) (rest := []) hx hb hml hown hlocks hts hK hTH hnt hR hS (t_X3_needRange hst ha2 (by decide : rg (0 : Int)) (by decide : rg (320 : Int)) hT) wd285 wd287 ws4 wd1 wd288 hyX3_needRange ⟨rfl, rfl⟩ ⟨Nat.le_of_ble_eq_true rfl, Nat.le_of_ble_eq_true rfl⟩ hl.1 (Nat.le_of_ble_eq_true rfl) dX3_truncate_15 ⟨Nat.le_of_ble_eq_true rfl, Nat.le_of_ble_eq_true rfl⟩ rfl
  obtain ⟨_, hc3, hF⟩ := xb1_some hF
  refine x_cVv (C := RX3) (T := TX3) (N := 9) (ci := 3) (As := [.int (jI a2), .int (jI (0 : Int)), .int (jI (320 : Int))]) (rest := []) hx hb hml hown hts hK hR hS (c_X3_needRange ha2 (by decide : rg (0 : Int)) (by decide : rg (320 : Int)) hc3) ok0 rfl rfl wd285 wd287 ws4 wd1 wd288 hyX3_needRange ⟨rfl, rfl⟩ ⟨Nat.le_of_ble_eq_true rfl, Nat.le_of_ble_eq_true rfl⟩ hl.1 (Nat.le_of_ble_eq_true rfl) dX3_truncate_15 ⟨Nat.zero_le _, Nat.zero_le _⟩ rfl (fun H locs hR hS => ?_)
  refine lv_aload_n hx hb dX3_truncate_18 rfl (lv_at hl 0 rfl) ?_
  refine gf_3_0 hx hb hts hown hK hR wd139 dX3_truncate_19 ?_
  obtain ⟨ht4, hF⟩ := xk_some hF
  have hj5 : (M 0 0 0).toNat < 3 := by omega
  refine lv_iload_n hx hb dX3_truncate_22 rfl (lv_at hl 1 rfl) ?_
  obtain ⟨y7, hc6, hF⟩ := xb1_some hF
  refine x_cVr (C := RX2) (T := TX2) (N := 8) (ci := 2) (As := [.int (jI a1)]) (rest := []) hx hb hml hown hts hK hR hS (c_X2_at hj5 ha1 hc6) (ok1 hj5) rfl rfl wd265 wd266 wd267 wd2 wd268 hyX2_at ⟨rfl, rfl⟩ ⟨Nat.le_of_ble_eq_true rfl, Nat.le_of_ble_eq_true rfl⟩ hl.1 (Nat.le_of_ble_eq_true rfl) dX3_truncate_23 ⟨Nat.zero_le _, Nat.zero_le _⟩ rfl (fun hg8 H locs hR hS => ?_)
  have hj9 : y7 < 99 := lt2 hg8
  refine gf_1_0 hx hb hts hown hK hR hj9 wd37 dX3_truncate_26 ?_
  have hg10 : rg (M 2 y7 0) := hR.2 2 y7 0 (by decide)
  refine x_iconst hx hb dX3_truncate_29 ?_
  refine x_icmp_eq (tgt := 36) hx hb hg10 (by decide : rg (1 : Int)) dX3_truncate_30 (by decide) (fun ci11 => ?_) (fun ci11 => ?_)
  · rw [if_pos ci11] at hF
    refine lv_aload_n hx hb dX3_truncate_36 rfl (lv_at hl 0 rfl) ?_
    cases hF
  · rw [if_neg ci11] at hF
    refine x_bipush hx hb (by decide +kernel) dX3_truncate_33 ?_
    cases hF
abbrev rmTX3_punch : Room := { frames := 7, cells := 1, slots := 6, locals := 131 }
def T_X3_punch (M : Mm) (a1 : Int) (a2 : Int) : Option Nat := (xt (T_X3_needPower M ) (xb1 (F_X3_needPower M ) fun _ => (xt (T_X3_needNode M a1) (xb1 (F_X3_needNode M a1) fun _ => (xt (T_X3_needRange M a2 (0 : Int) (19 : Int)) (xb1 (F_X3_needRange M a2 (0 : Int) (19 : Int)) fun _ => (xk (M 0 0 0 = 0 ∨ M 0 0 0 = 1) (xb1 (F_X2_at M ((M 0 0 0).toNat) a1) fun y7 => (if (M 2 y7 0) = (1 : Int) then none else none)))))))))
set_option maxHeartbeats 4000000 in
set_option maxRecDepth 100000 in
theorem t_X3_punch {l : Launch} {g : Gx} {b : Nat} {M : Mm} {a1 : Int} {a2 : Int} {E : Nat} (hst : l.stackTraces = false) (ha1 : rg a1) (ha2 : rg a2) (hF : T_X3_punch M a1 a2 = some E) : Tt l yX3_punch cX3_punch 3 (some .int) rmTX3_punch g b [.ref (adr b 0 0), .int (jI a1), .int (jI a2)] M E := by
  refine tt_of (by decide +kernel) (Nat.le_of_ble_eq_true rfl) ?_
  intro p e s m args below meth c C0 hTH hnt hR ls hl
  obtain ⟨hx, hb, hr, hlocks, hml, hown, hts, hK⟩ := id C0
  have hS : va_S (AA b s.heap.size) s.heap s.heap [] := va_S.rf
  have hl : lv_has ls 3 [(0, .ref (adr b 0 0)), (1, .int (jI a1)), (2, .int (jI a2))] := hl
  obtain ⟨H, hH⟩ : ∃ z, z = s.heap := ⟨_, rfl⟩
  obtain ⟨locs, hlo⟩ : ∃ z : List Loc, z = [] := ⟨_, rfl⟩
  have hR : Rel g b M H := by rw [hH]; exact hR
  have hS : va_S (AA b s.heap.size) s.heap H locs := by rw [hH, hlo]; exact hS
  suffices hW : W p l e rmTX3_punch s m args below meth c H locs 0 0 (vx_MQ below (fun _ _ _ _ => False) (XT g b E M s.heap.size) args s 1 6 (AA b s.heap.size)) (F0 m 0 ls []) by rw [hH, hlo] at hW; exact hW
  rw [T_X3_punch] at hF
  refine lv_aload_n hx hb dX3_punch_0 rfl (lv_at hl 0 rfl) ?_
  rcases xt_some hF with hT | ⟨-, hF⟩
  · exact x_tV (As := []) (rest := []) hx hb hml hown hlocks hts hK hTH hnt hR hS (t_X3_needPower hst  hT) wd189 wd191 ws1 wd1 wd192 hyX3_needPower ⟨rfl, rfl⟩ ⟨Nat.le_of_ble_eq_true rfl, Nat.le_of_ble_eq_true rfl⟩ hl.1 (Nat.le_of_ble_eq_true rfl) dX3_punch_1 ⟨Nat.le_of_ble_eq_true rfl, Nat.le_of_ble_eq_true rfl⟩ rfl
  obtain ⟨_, hc1, hF⟩ := xb1_some hF
  refine x_cVv (C := RX3) (T := TX3) (N := 9) (ci := 3) (As := []) (rest := []) hx hb hml hown hts hK hR hS (c_X3_needPower  hc1) ok0 rfl rfl wd189 wd191 ws1 wd1 wd192 hyX3_needPower ⟨rfl, rfl⟩ ⟨Nat.le_of_ble_eq_true rfl, Nat.le_of_ble_eq_true rfl⟩ hl.1 (Nat.le_of_ble_eq_true rfl) dX3_punch_1 ⟨Nat.zero_le _, Nat.zero_le _⟩ rfl (fun H locs hR hS => ?_)
  refine lv_aload_n hx hb dX3_punch_4 rfl (lv_at hl 0 rfl) ?_
  refine lv_iload_n hx hb dX3_punch_5 rfl (lv_at hl 1 rfl) ?_
  rcases xt_some hF with hT | ⟨-, hF⟩
  · exact x_tV (As := [.int (jI a1)]) (rest := []) hx hb hml hown hlocks hts hK hTH hnt hR hS (t_X3_needNode hst ha1 hT) wd261 wd263 ws3 wd1 wd264 hyX3_needNode ⟨rfl, rfl⟩ ⟨Nat.le_of_ble_eq_true rfl, Nat.le_of_ble_eq_true rfl⟩ hl.1 (Nat.le_of_ble_eq_true rfl) dX3_punch_6 ⟨Nat.le_of_ble_eq_true rfl, Nat.le_of_ble_eq_true rfl⟩ rfl
  obtain ⟨_, hc2, hF⟩ := xb1_some hF
  refine x_cVv (C := RX3) (T := TX3) (N := 9) (ci := 3) (As := [.int (jI a1)]) (rest := []) hx hb hml hown hts hK hR hS (c_X3_needNode ha1 hc2) ok0 rfl rfl wd261 wd263 ws3 wd1 wd264 hyX3_needNode ⟨rfl, rfl⟩ ⟨Nat.le_of_ble_eq_true rfl, Nat.le_of_ble_eq_true rfl⟩ hl.1 (Nat.le_of_ble_eq_true rfl) dX3_punch_6 ⟨Nat.zero_le _, Nat.zero_le _⟩ rfl (fun H locs hR hS => ?_)
  refine lv_aload_n hx hb dX3_punch_9 rfl (lv_at hl 0 rfl) ?_
  refine lv_iload_n hx hb dX3_punch_10 rfl (lv_at hl 2 rfl) ?_
  refine x_iconst hx hb dX3_punch_11 ?_
  refine x_bipush hx hb (by decide +kernel) dX3_punch_12 ?_
  rcases xt_some hF with hT | ⟨-, hF⟩
  · exact x_tV (As := [.int (jI a2), .int (jI (0 : Int)), .int (jI (19 : Int))]) (rest := []) hx hb hml hown hlocks hts hK hTH hnt hR hS (t_X3_needRange hst ha2 (by decide : rg (0 : Int)) (by decide : rg (19 : Int)) hT) wd285 wd287 ws4 wd1 wd288 hyX3_needRange ⟨rfl, rfl⟩ ⟨Nat.le_of_ble_eq_true rfl, Nat.le_of_ble_eq_true rfl⟩ hl.1 (Nat.le_of_ble_eq_true rfl) dX3_punch_14 ⟨Nat.le_of_ble_eq_true rfl, Nat.le_of_ble_eq_true rfl⟩ rfl
  obtain ⟨_, hc3, hF⟩ := xb1_some hF
  refine x_cVv (C := RX3) (T := TX3) (N := 9) (ci := 3) (As := [.int (jI a2), .int (jI (0 : Int)), .int (jI (19 : Int))]) (rest := []) hx hb hml hown hts hK hR hS (c_X3_needRange ha2 (by decide : rg (0 : Int)) (by decide : rg (19 : Int)) hc3) ok0 rfl rfl wd285 wd287 ws4 wd1 wd288 hyX3_needRange ⟨rfl, rfl⟩ ⟨Nat.le_of_ble_eq_true rfl, Nat.le_of_ble_eq_true rfl⟩ hl.1 (Nat.le_of_ble_eq_true rfl) dX3_punch_14 ⟨Nat.zero_le _, Nat.zero_le _⟩ rfl (fun H locs hR hS => ?_)
  refine lv_aload_n hx hb dX3_punch_17 rfl (lv_at hl 0 rfl) ?_
  refine gf_3_0 hx hb hts hown hK hR wd139 dX3_punch_18 ?_
  obtain ⟨ht4, hF⟩ := xk_some hF
  have hj5 : (M 0 0 0).toNat < 3 := by omega
  refine lv_iload_n hx hb dX3_punch_21 rfl (lv_at hl 1 rfl) ?_
  obtain ⟨y7, hc6, hF⟩ := xb1_some hF
  refine x_cVr (C := RX2) (T := TX2) (N := 8) (ci := 2) (As := [.int (jI a1)]) (rest := []) hx hb hml hown hts hK hR hS (c_X2_at hj5 ha1 hc6) (ok1 hj5) rfl rfl wd265 wd266 wd267 wd2 wd268 hyX2_at ⟨rfl, rfl⟩ ⟨Nat.le_of_ble_eq_true rfl, Nat.le_of_ble_eq_true rfl⟩ hl.1 (Nat.le_of_ble_eq_true rfl) dX3_punch_22 ⟨Nat.zero_le _, Nat.zero_le _⟩ rfl (fun hg8 H locs hR hS => ?_)
  have hj9 : y7 < 99 := lt2 hg8
  refine gf_1_0 hx hb hts hown hK hR hj9 wd37 dX3_punch_25 ?_
  have hg10 : rg (M 2 y7 0) := hR.2 2 y7 0 (by decide)
  refine x_iconst hx hb dX3_punch_28 ?_
  refine x_icmp_eq (tgt := 35) hx hb hg10 (by decide : rg (1 : Int)) dX3_punch_29 (by decide) (fun ci11 => ?_) (fun ci11 => ?_)
  · rw [if_pos ci11] at hF
    refine lv_aload_n hx hb dX3_punch_35 rfl (lv_at hl 0 rfl) ?_
    cases hF
  · rw [if_neg ci11] at hF
    refine x_bipush hx hb (by decide +kernel) dX3_punch_32 ?_
    cases hF
abbrev rmTX3_share : Room := { frames := 7, cells := 1, slots := 6, locals := 131 }
def T_X3_share_94 (M : Mm) (v1 : Int) (v2 : Int) (v5 : Nat) (v6 : Int) : Option Nat := (xb1 (F_X1_hasElsewhere M v5 v6 v2) fun y2 => (if y2 = 0 then (xk (rg (v2 + (1 : Int))) (xk (rg ((v2 + (1 : Int)) * (16 : Int))) (if ((v2 + (1 : Int)) * (16 : Int)) ≤ (M 2 v5 3) then none else none))) else none))
set_option maxHeartbeats 4000000 in
set_option maxRecDepth 100000 in
theorem u_X3_share_94 {p : Program} {l : Launch} {e : Env} {s : State} {m : MethodId} {args : Array Value} {below : List Frame} {meth : Method} {c : Code} {g : Gx} {b : Nat} (C0 : XA p s m meth c args RX3 cX3_share 7 (some .int) g) (hst : l.stackTraces = false) (hTH : TH b s) (hnt : ∀ x ∈ c.exceptionTable.toList, False) {E : Nat} {M : Mm} : ∀ (v1 : Int) (v2 : Int) (v5 : Nat) (v6 : Int) (hv1 : rg v1) (hv2 : rg v2) (hv5 : v5 < 99) (hv6 : rg v6) (H : Heap) (locs : List Loc), Rel g b M H → va_S (AA b s.heap.size) s.heap H locs → ∀ ls : Array Slot, lv_has ls 7 [(0, .ref (adr b 0 0)), (1, .int (jI v1)), (2, .int (jI v2)), (5, .ref (adr b 2 v5)), (6, .int (jI v6))] → T_X3_share_94 M v1 v2 v5 v6 = some E → W p l e rmTX3_share s m args below meth c H locs 0 0 (vx_MQ below (fun _ _ _ _ => False) (XT g b E M s.heap.size) args s 1 6 (AA b s.heap.size)) (F0 m 94 ls []) := by
  obtain ⟨hx, hb, hr, hlocks, hml, hown, hts, hK⟩ := id C0
  intro v1 v2 v5 v6 hv1 hv2 hv5 hv6 H locs hR hS ls hl hF
  rw [T_X3_share_94] at hF
  refine lv_aload hx hb dX3_share_94 (lv_at hl 3 rfl) ?_
  refine lv_iload hx hb dX3_share_96 (lv_at hl 4 rfl) ?_
  refine lv_iload_n hx hb dX3_share_98 rfl (lv_at hl 2 rfl) ?_
  obtain ⟨y2, hc1, hF⟩ := xb1_some hF
  refine x_cVi (C := RX1) (T := TX1) (N := 12) (ci := 1) (As := [.int (jI v6), .int (jI v2)]) (rest := []) hx hb hml hown hts hK hR hS (c_X1_hasElsewhere hv5 hv6 hv2 hc1) (ok2 hv5) rfl rfl wd603 wd604 wd605 wd3 wd606 hyX1_hasElsewhere ⟨rfl, rfl⟩ ⟨Nat.le_of_ble_eq_true rfl, Nat.le_of_ble_eq_true rfl⟩ hl.1 (Nat.le_of_ble_eq_true rfl) dX3_share_99 ⟨Nat.zero_le _, Nat.zero_le _⟩ rfl (fun hg3 H locs hR hS => ?_)
  refine x_if_eq (tgt := 108) hx hb hg3 dX3_share_102 (by decide) (fun ci4 => ?_) (fun ci4 => ?_)
  · rw [if_pos ci4] at hF
    refine lv_iload_n hx hb dX3_share_108 rfl (lv_at hl 2 rfl) ?_
    refine x_iconst hx hb dX3_share_109 ?_
    obtain ⟨hq5, hF⟩ := xk_some hF
    refine x_iadd hx hb dX3_share_110 ?_
    refine x_bipush hx hb (by decide +kernel) dX3_share_111 ?_
    obtain ⟨hq6, hF⟩ := xk_some hF
    refine x_imul hx hb dX3_share_113 ?_
    refine lv_aload hx hb dX3_share_114 (lv_at hl 3 rfl) ?_
    refine gf_1_3 hx hb hts hown hK hR hv5 wd45 dX3_share_116 ?_
    have hg7 : rg (M 2 v5 3) := hR.2 2 v5 3 (by decide)
    refine x_icmp_le (tgt := 125) hx hb hq6 hg7 dX3_share_119 (by decide) (fun ci8 => ?_) (fun ci8 => ?_)
    · rw [if_pos ci8] at hF
      refine lv_aload_n hx hb dX3_share_125 rfl (lv_at hl 0 rfl) ?_
      cases hF
    · rw [if_neg ci8] at hF
      refine x_bipush hx hb (by decide +kernel) dX3_share_122 ?_
      cases hF
  · rw [if_neg ci4] at hF
    refine x_bipush hx hb (by decide +kernel) dX3_share_105 ?_
    cases hF
def T_X3_share (M : Mm) (a1 : Int) (a2 : Int) (a3 : Int) (a4 : Int) : Option Nat := (xt (T_X3_needPower M ) (xb1 (F_X3_needPower M ) fun _ => (xt (T_X3_needNode M a1) (xb1 (F_X3_needNode M a1) fun _ => (xt (T_X3_needNode M a3) (xb1 (F_X3_needNode M a3) fun _ => (xt (T_X3_needRange M a2 (0 : Int) (19 : Int)) (xb1 (F_X3_needRange M a2 (0 : Int) (19 : Int)) fun _ => (xt (T_X3_needRange M a4 (0 : Int) (19 : Int)) (xb1 (F_X3_needRange M a4 (0 : Int) (19 : Int)) fun _ => (xk (M 0 0 0 = 0 ∨ M 0 0 0 = 1) (xb1 (F_X2_at M ((M 0 0 0).toNat) a1) fun y9 => (if (M 2 y9 0) = (1 : Int) then (xk (M 0 0 0 = 0 ∨ M 0 0 0 = 1) (xb1 (F_X2_at M ((M 0 0 0).toNat) a3) fun y17 => (if (M 2 y17 0) = (1 : Int) then (xk (M 0 0 0 = 0 ∨ M 0 0 0 = 1) (xb1 (F_X2_at M ((M 0 0 0).toNat) a3) fun y25 => (xb1 (F_X1_blockAt M y25 a4) fun y29 => (if a1 = a3 then (if a2 = a4 then (T_X3_share_94 M a1 a2 y9 y29) else none) else (T_X3_share_94 M a1 a2 y9 y29))))) else none))) else none)))))))))))))
set_option maxHeartbeats 4000000 in
set_option maxRecDepth 100000 in
theorem t_X3_share {l : Launch} {g : Gx} {b : Nat} {M : Mm} {a1 : Int} {a2 : Int} {a3 : Int} {a4 : Int} {E : Nat} (hst : l.stackTraces = false) (ha1 : rg a1) (ha2 : rg a2) (ha3 : rg a3) (ha4 : rg a4) (hF : T_X3_share M a1 a2 a3 a4 = some E) : Tt l yX3_share cX3_share 7 (some .int) rmTX3_share g b [.ref (adr b 0 0), .int (jI a1), .int (jI a2), .int (jI a3), .int (jI a4)] M E := by
  refine tt_of (by decide +kernel) (Nat.le_of_ble_eq_true rfl) ?_
  intro p e s m args below meth c C0 hTH hnt hR ls hl
  obtain ⟨hx, hb, hr, hlocks, hml, hown, hts, hK⟩ := id C0
  have hS : va_S (AA b s.heap.size) s.heap s.heap [] := va_S.rf
  have hl : lv_has ls 7 [(0, .ref (adr b 0 0)), (1, .int (jI a1)), (2, .int (jI a2)), (3, .int (jI a3)), (4, .int (jI a4))] := hl
  obtain ⟨H, hH⟩ : ∃ z, z = s.heap := ⟨_, rfl⟩
  obtain ⟨locs, hlo⟩ : ∃ z : List Loc, z = [] := ⟨_, rfl⟩
  have hR : Rel g b M H := by rw [hH]; exact hR
  have hS : va_S (AA b s.heap.size) s.heap H locs := by rw [hH, hlo]; exact hS
  suffices hW : W p l e rmTX3_share s m args below meth c H locs 0 0 (vx_MQ below (fun _ _ _ _ => False) (XT g b E M s.heap.size) args s 1 6 (AA b s.heap.size)) (F0 m 0 ls []) by rw [hH, hlo] at hW; exact hW
  rw [T_X3_share] at hF
  refine lv_aload_n hx hb dX3_share_0 rfl (lv_at hl 0 rfl) ?_
  rcases xt_some hF with hT | ⟨-, hF⟩
  · exact x_tV (As := []) (rest := []) hx hb hml hown hlocks hts hK hTH hnt hR hS (t_X3_needPower hst  hT) wd189 wd191 ws1 wd1 wd192 hyX3_needPower ⟨rfl, rfl⟩ ⟨Nat.le_of_ble_eq_true rfl, Nat.le_of_ble_eq_true rfl⟩ hl.1 (Nat.le_of_ble_eq_true rfl) dX3_share_1 ⟨Nat.le_of_ble_eq_true rfl, Nat.le_of_ble_eq_true rfl⟩ rfl
  obtain ⟨_, hc1, hF⟩ := xb1_some hF
  refine x_cVv (C := RX3) (T := TX3) (N := 9) (ci := 3) (As := []) (rest := []) hx hb hml hown hts hK hR hS (c_X3_needPower  hc1) ok0 rfl rfl wd189 wd191 ws1 wd1 wd192 hyX3_needPower ⟨rfl, rfl⟩ ⟨Nat.le_of_ble_eq_true rfl, Nat.le_of_ble_eq_true rfl⟩ hl.1 (Nat.le_of_ble_eq_true rfl) dX3_share_1 ⟨Nat.zero_le _, Nat.zero_le _⟩ rfl (fun H locs hR hS => ?_)
  refine lv_aload_n hx hb dX3_share_4 rfl (lv_at hl 0 rfl) ?_
  refine lv_iload_n hx hb dX3_share_5 rfl (lv_at hl 1 rfl) ?_
  rcases xt_some hF with hT | ⟨-, hF⟩
  · exact x_tV (As := [.int (jI a1)]) (rest := []) hx hb hml hown hlocks hts hK hTH hnt hR hS (t_X3_needNode hst ha1 hT) wd261 wd263 ws3 wd1 wd264 hyX3_needNode ⟨rfl, rfl⟩ ⟨Nat.le_of_ble_eq_true rfl, Nat.le_of_ble_eq_true rfl⟩ hl.1 (Nat.le_of_ble_eq_true rfl) dX3_share_6 ⟨Nat.le_of_ble_eq_true rfl, Nat.le_of_ble_eq_true rfl⟩ rfl
  obtain ⟨_, hc2, hF⟩ := xb1_some hF
  refine x_cVv (C := RX3) (T := TX3) (N := 9) (ci := 3) (As := [.int (jI a1)]) (rest := []) hx hb hml hown hts hK hR hS (c_X3_needNode ha1 hc2) ok0 rfl rfl wd261 wd263 ws3 wd1 wd264 hyX3_needNode ⟨rfl, rfl⟩ ⟨Nat.le_of_ble_eq_true rfl, Nat.le_of_ble_eq_true rfl⟩ hl.1 (Nat.le_of_ble_eq_true rfl) dX3_share_6 ⟨Nat.zero_le _, Nat.zero_le _⟩ rfl (fun H locs hR hS => ?_)
  refine lv_aload_n hx hb dX3_share_9 rfl (lv_at hl 0 rfl) ?_
  refine lv_iload_n hx hb dX3_share_10 rfl (lv_at hl 3 rfl) ?_
  rcases xt_some hF with hT | ⟨-, hF⟩
  · exact x_tV (As := [.int (jI a3)]) (rest := []) hx hb hml hown hlocks hts hK hTH hnt hR hS (t_X3_needNode hst ha3 hT) wd261 wd263 ws3 wd1 wd264 hyX3_needNode ⟨rfl, rfl⟩ ⟨Nat.le_of_ble_eq_true rfl, Nat.le_of_ble_eq_true rfl⟩ hl.1 (Nat.le_of_ble_eq_true rfl) dX3_share_11 ⟨Nat.le_of_ble_eq_true rfl, Nat.le_of_ble_eq_true rfl⟩ rfl
  obtain ⟨_, hc3, hF⟩ := xb1_some hF
  refine x_cVv (C := RX3) (T := TX3) (N := 9) (ci := 3) (As := [.int (jI a3)]) (rest := []) hx hb hml hown hts hK hR hS (c_X3_needNode ha3 hc3) ok0 rfl rfl wd261 wd263 ws3 wd1 wd264 hyX3_needNode ⟨rfl, rfl⟩ ⟨Nat.le_of_ble_eq_true rfl, Nat.le_of_ble_eq_true rfl⟩ hl.1 (Nat.le_of_ble_eq_true rfl) dX3_share_11 ⟨Nat.zero_le _, Nat.zero_le _⟩ rfl (fun H locs hR hS => ?_)
  refine lv_aload_n hx hb dX3_share_14 rfl (lv_at hl 0 rfl) ?_
  refine lv_iload_n hx hb dX3_share_15 rfl (lv_at hl 2 rfl) ?_
  refine x_iconst hx hb dX3_share_16 ?_
  refine x_bipush hx hb (by decide +kernel) dX3_share_17 ?_
  rcases xt_some hF with hT | ⟨-, hF⟩
  · exact x_tV (As := [.int (jI a2), .int (jI (0 : Int)), .int (jI (19 : Int))]) (rest := []) hx hb hml hown hlocks hts hK hTH hnt hR hS (t_X3_needRange hst ha2 (by decide : rg (0 : Int)) (by decide : rg (19 : Int)) hT) wd285 wd287 ws4 wd1 wd288 hyX3_needRange ⟨rfl, rfl⟩ ⟨Nat.le_of_ble_eq_true rfl, Nat.le_of_ble_eq_true rfl⟩ hl.1 (Nat.le_of_ble_eq_true rfl) dX3_share_19 ⟨Nat.le_of_ble_eq_true rfl, Nat.le_of_ble_eq_true rfl⟩ rfl
  obtain ⟨_, hc4, hF⟩ := xb1_some hF
  refine x_cVv (C := RX3) (T := TX3) (N := 9) (ci := 3) (As := [.int (jI a2), .int (jI (0 : Int)), .int (jI (19 : Int))]) (rest := []) hx hb hml hown hts hK hR hS (c_X3_needRange ha2 (by decide : rg (0 : Int)) (by decide : rg (19 : Int)) hc4) ok0 rfl rfl wd285 wd287 ws4 wd1 wd288 hyX3_needRange ⟨rfl, rfl⟩ ⟨Nat.le_of_ble_eq_true rfl, Nat.le_of_ble_eq_true rfl⟩ hl.1 (Nat.le_of_ble_eq_true rfl) dX3_share_19 ⟨Nat.zero_le _, Nat.zero_le _⟩ rfl (fun H locs hR hS => ?_)
  refine lv_aload_n hx hb dX3_share_22 rfl (lv_at hl 0 rfl) ?_
  refine lv_iload hx hb dX3_share_23 (lv_at hl 4 rfl) ?_
  refine x_iconst hx hb dX3_share_25 ?_
  refine x_bipush hx hb (by decide +kernel) dX3_share_26 ?_
  rcases xt_some hF with hT | ⟨-, hF⟩
  · exact x_tV (As := [.int (jI a4), .int (jI (0 : Int)), .int (jI (19 : Int))]) (rest := []) hx hb hml hown hlocks hts hK hTH hnt hR hS (t_X3_needRange hst ha4 (by decide : rg (0 : Int)) (by decide : rg (19 : Int)) hT) wd285 wd287 ws4 wd1 wd288 hyX3_needRange ⟨rfl, rfl⟩ ⟨Nat.le_of_ble_eq_true rfl, Nat.le_of_ble_eq_true rfl⟩ hl.1 (Nat.le_of_ble_eq_true rfl) dX3_share_28 ⟨Nat.le_of_ble_eq_true rfl, Nat.le_of_ble_eq_true rfl⟩ rfl
  obtain ⟨_, hc5, hF⟩ := xb1_some hF
  refine x_cVv (C := RX3) (T := TX3) (N := 9) (ci := 3) (As := [.int (jI a4), .int (jI (0 : Int)), .int (jI (19 : Int))]) (rest := []) hx hb hml hown hts hK hR hS (c_X3_needRange ha4 (by decide : rg (0 : Int)) (by decide : rg (19 : Int)) hc5) ok0 rfl rfl wd285 wd287 ws4 wd1 wd288 hyX3_needRange ⟨rfl, rfl⟩ ⟨Nat.le_of_ble_eq_true rfl, Nat.le_of_ble_eq_true rfl⟩ hl.1 (Nat.le_of_ble_eq_true rfl) dX3_share_28 ⟨Nat.zero_le _, Nat.zero_le _⟩ rfl (fun H locs hR hS => ?_)
  refine lv_aload_n hx hb dX3_share_31 rfl (lv_at hl 0 rfl) ?_
  refine gf_3_0 hx hb hts hown hK hR wd139 dX3_share_32 ?_
  obtain ⟨ht6, hF⟩ := xk_some hF
  have hj7 : (M 0 0 0).toNat < 3 := by omega
  refine lv_iload_n hx hb dX3_share_35 rfl (lv_at hl 1 rfl) ?_
  obtain ⟨y9, hc8, hF⟩ := xb1_some hF
  refine x_cVr (C := RX2) (T := TX2) (N := 8) (ci := 2) (As := [.int (jI a1)]) (rest := []) hx hb hml hown hts hK hR hS (c_X2_at hj7 ha1 hc8) (ok1 hj7) rfl rfl wd265 wd266 wd267 wd2 wd268 hyX2_at ⟨rfl, rfl⟩ ⟨Nat.le_of_ble_eq_true rfl, Nat.le_of_ble_eq_true rfl⟩ hl.1 (Nat.le_of_ble_eq_true rfl) dX3_share_36 ⟨Nat.zero_le _, Nat.zero_le _⟩ rfl (fun hg10 H locs hR hS => ?_)
  have hj11 : y9 < 99 := lt2 hg10
  refine lv_astore (lv' := [(5, .ref (adr b 2 y9)), (0, .ref (adr b 0 0)), (1, .int (jI a1)), (2, .int (jI a2)), (3, .int (jI a3)), (4, .int (jI a4))]) hx hb dX3_share_39 hl (by decide) rfl (fun ls hl => ?_)
  refine lv_aload hx hb dX3_share_41 (lv_at hl 0 rfl) ?_
  refine gf_1_0 hx hb hts hown hK hR hj11 wd37 dX3_share_43 ?_
  have hg12 : rg (M 2 y9 0) := hR.2 2 y9 0 (by decide)
  refine x_iconst hx hb dX3_share_46 ?_
  refine x_icmp_ne (tgt := 65) hx hb hg12 (by decide : rg (1 : Int)) dX3_share_47 (by decide) (fun ci13 => ?_) (fun ci13 => ?_)
  · rw [if_neg ci13] at hF
    refine x_bipush hx hb (by decide +kernel) dX3_share_65 ?_
    cases hF
  · rw [if_pos ci13] at hF
    refine lv_aload_n hx hb dX3_share_50 rfl (lv_at hl 1 rfl) ?_
    refine gf_3_0 hx hb hts hown hK hR wd139 dX3_share_51 ?_
    obtain ⟨ht14, hF⟩ := xk_some hF
    have hj15 : (M 0 0 0).toNat < 3 := by omega
    refine lv_iload_n hx hb dX3_share_54 rfl (lv_at hl 4 rfl) ?_
    obtain ⟨y17, hc16, hF⟩ := xb1_some hF
    refine x_cVr (C := RX2) (T := TX2) (N := 8) (ci := 2) (As := [.int (jI a3)]) (rest := []) hx hb hml hown hts hK hR hS (c_X2_at hj15 ha3 hc16) (ok1 hj15) rfl rfl wd265 wd266 wd267 wd2 wd268 hyX2_at ⟨rfl, rfl⟩ ⟨Nat.le_of_ble_eq_true rfl, Nat.le_of_ble_eq_true rfl⟩ hl.1 (Nat.le_of_ble_eq_true rfl) dX3_share_55 ⟨Nat.zero_le _, Nat.zero_le _⟩ rfl (fun hg18 H locs hR hS => ?_)
    have hj19 : y17 < 99 := lt2 hg18
    refine gf_1_0 hx hb hts hown hK hR hj19 wd37 dX3_share_58 ?_
    have hg20 : rg (M 2 y17 0) := hR.2 2 y17 0 (by decide)
    refine x_iconst hx hb dX3_share_61 ?_
    refine x_icmp_eq (tgt := 68) hx hb hg20 (by decide : rg (1 : Int)) dX3_share_62 (by decide) (fun ci21 => ?_) (fun ci21 => ?_)
    · rw [if_pos ci21] at hF
      refine lv_aload_n hx hb dX3_share_68 rfl (lv_at hl 1 rfl) ?_
      refine gf_3_0 hx hb hts hown hK hR wd139 dX3_share_69 ?_
      obtain ⟨ht22, hF⟩ := xk_some hF
      have hj23 : (M 0 0 0).toNat < 3 := by omega
      refine lv_iload_n hx hb dX3_share_72 rfl (lv_at hl 4 rfl) ?_
      obtain ⟨y25, hc24, hF⟩ := xb1_some hF
      refine x_cVr (C := RX2) (T := TX2) (N := 8) (ci := 2) (As := [.int (jI a3)]) (rest := []) hx hb hml hown hts hK hR hS (c_X2_at hj23 ha3 hc24) (ok1 hj23) rfl rfl wd265 wd266 wd267 wd2 wd268 hyX2_at ⟨rfl, rfl⟩ ⟨Nat.le_of_ble_eq_true rfl, Nat.le_of_ble_eq_true rfl⟩ hl.1 (Nat.le_of_ble_eq_true rfl) dX3_share_73 ⟨Nat.zero_le _, Nat.zero_le _⟩ rfl (fun hg26 H locs hR hS => ?_)
      have hj27 : y25 < 99 := lt2 hg26
      refine lv_iload hx hb dX3_share_76 (lv_at hl 5 rfl) ?_
      obtain ⟨y29, hc28, hF⟩ := xb1_some hF
      refine x_cVi (C := RX1) (T := TX1) (N := 12) (ci := 1) (As := [.int (jI a4)]) (rest := []) hx hb hml hown hts hK hR hS (c_X1_blockAt hj27 ha4 hc28) (ok2 hj27) rfl rfl wd595 wd443 wd444 wd3 wd445 hyX1_blockAt ⟨rfl, rfl⟩ ⟨Nat.le_of_ble_eq_true rfl, Nat.le_of_ble_eq_true rfl⟩ hl.1 (Nat.le_of_ble_eq_true rfl) dX3_share_78 ⟨Nat.zero_le _, Nat.zero_le _⟩ rfl (fun hg30 H locs hR hS => ?_)
      refine lv_istore (lv' := [(6, .int (jI y29)), (5, .ref (adr b 2 y9)), (0, .ref (adr b 0 0)), (1, .int (jI a1)), (2, .int (jI a2)), (3, .int (jI a3)), (4, .int (jI a4))]) hx hb dX3_share_81 hl (by decide) rfl (fun ls hl => ?_)
      refine lv_iload_n hx hb dX3_share_83 rfl (lv_at hl 3 rfl) ?_
      refine lv_iload_n hx hb dX3_share_84 rfl (lv_at hl 5 rfl) ?_
      refine x_icmp_ne (tgt := 94) hx hb ha1 ha3 dX3_share_85 (by decide) (fun ci31 => ?_) (fun ci31 => ?_)
      · rw [if_neg ci31] at hF
        exact u_X3_share_94 C0 hst hTH hnt a1 a2 y9 y29 ha1 ha2 hj11 hg30 H locs hR hS ls (lv_sub hl [2, 3, 4, 1, 0] rfl) hF
      · rw [if_pos ci31] at hF
        refine lv_iload_n hx hb dX3_share_88 rfl (lv_at hl 4 rfl) ?_
        refine lv_iload hx hb dX3_share_89 (lv_at hl 6 rfl) ?_
        refine x_icmp_ne (tgt := 105) hx hb ha2 ha4 dX3_share_91 (by decide) (fun ci32 => ?_) (fun ci32 => ?_)
        · rw [if_neg ci32] at hF
          refine x_bipush hx hb (by decide +kernel) dX3_share_105 ?_
          cases hF
        · rw [if_pos ci32] at hF
          exact u_X3_share_94 C0 hst hTH hnt a1 a2 y9 y29 ha1 ha2 hj11 hg30 H locs hR hS ls (lv_sub hl [2, 3, 4, 1, 0] rfl) hF
    · rw [if_neg ci21] at hF
      refine x_bipush hx hb (by decide +kernel) dX3_share_65 ?_
      cases hF
abbrev rmTX3_setOwner : Room := { frames := 7, cells := 1, slots := 6, locals := 131 }
def T_X3_setOwner (M : Mm) (a1 : Int) (a2 : Int) : Option Nat := (xt (T_X3_needPower M ) (xb1 (F_X3_needPower M ) fun _ => (xt (T_X3_needNode M a1) (xb1 (F_X3_needNode M a1) fun _ => (xt (T_X3_needRange M a2 (0 : Int) (3 : Int)) (xb1 (F_X3_needRange M a2 (0 : Int) (3 : Int)) fun _ => none))))))
set_option maxHeartbeats 4000000 in
set_option maxRecDepth 100000 in
theorem t_X3_setOwner {l : Launch} {g : Gx} {b : Nat} {M : Mm} {a1 : Int} {a2 : Int} {E : Nat} (hst : l.stackTraces = false) (ha1 : rg a1) (ha2 : rg a2) (hF : T_X3_setOwner M a1 a2 = some E) : Tt l yX3_setOwner cX3_setOwner 3 (some .int) rmTX3_setOwner g b [.ref (adr b 0 0), .int (jI a1), .int (jI a2)] M E := by
  refine tt_of (by decide +kernel) (Nat.le_of_ble_eq_true rfl) ?_
  intro p e s m args below meth c C0 hTH hnt hR ls hl
  obtain ⟨hx, hb, hr, hlocks, hml, hown, hts, hK⟩ := id C0
  have hS : va_S (AA b s.heap.size) s.heap s.heap [] := va_S.rf
  have hl : lv_has ls 3 [(0, .ref (adr b 0 0)), (1, .int (jI a1)), (2, .int (jI a2))] := hl
  obtain ⟨H, hH⟩ : ∃ z, z = s.heap := ⟨_, rfl⟩
  obtain ⟨locs, hlo⟩ : ∃ z : List Loc, z = [] := ⟨_, rfl⟩
  have hR : Rel g b M H := by rw [hH]; exact hR
  have hS : va_S (AA b s.heap.size) s.heap H locs := by rw [hH, hlo]; exact hS
  suffices hW : W p l e rmTX3_setOwner s m args below meth c H locs 0 0 (vx_MQ below (fun _ _ _ _ => False) (XT g b E M s.heap.size) args s 1 6 (AA b s.heap.size)) (F0 m 0 ls []) by rw [hH, hlo] at hW; exact hW
  rw [T_X3_setOwner] at hF
  refine lv_aload_n hx hb dX3_setOwner_0 rfl (lv_at hl 0 rfl) ?_
  rcases xt_some hF with hT | ⟨-, hF⟩
  · exact x_tV (As := []) (rest := []) hx hb hml hown hlocks hts hK hTH hnt hR hS (t_X3_needPower hst  hT) wd189 wd191 ws1 wd1 wd192 hyX3_needPower ⟨rfl, rfl⟩ ⟨Nat.le_of_ble_eq_true rfl, Nat.le_of_ble_eq_true rfl⟩ hl.1 (Nat.le_of_ble_eq_true rfl) dX3_setOwner_1 ⟨Nat.le_of_ble_eq_true rfl, Nat.le_of_ble_eq_true rfl⟩ rfl
  obtain ⟨_, hc1, hF⟩ := xb1_some hF
  refine x_cVv (C := RX3) (T := TX3) (N := 9) (ci := 3) (As := []) (rest := []) hx hb hml hown hts hK hR hS (c_X3_needPower  hc1) ok0 rfl rfl wd189 wd191 ws1 wd1 wd192 hyX3_needPower ⟨rfl, rfl⟩ ⟨Nat.le_of_ble_eq_true rfl, Nat.le_of_ble_eq_true rfl⟩ hl.1 (Nat.le_of_ble_eq_true rfl) dX3_setOwner_1 ⟨Nat.zero_le _, Nat.zero_le _⟩ rfl (fun H locs hR hS => ?_)
  refine lv_aload_n hx hb dX3_setOwner_4 rfl (lv_at hl 0 rfl) ?_
  refine lv_iload_n hx hb dX3_setOwner_5 rfl (lv_at hl 1 rfl) ?_
  rcases xt_some hF with hT | ⟨-, hF⟩
  · exact x_tV (As := [.int (jI a1)]) (rest := []) hx hb hml hown hlocks hts hK hTH hnt hR hS (t_X3_needNode hst ha1 hT) wd261 wd263 ws3 wd1 wd264 hyX3_needNode ⟨rfl, rfl⟩ ⟨Nat.le_of_ble_eq_true rfl, Nat.le_of_ble_eq_true rfl⟩ hl.1 (Nat.le_of_ble_eq_true rfl) dX3_setOwner_6 ⟨Nat.le_of_ble_eq_true rfl, Nat.le_of_ble_eq_true rfl⟩ rfl
  obtain ⟨_, hc2, hF⟩ := xb1_some hF
  refine x_cVv (C := RX3) (T := TX3) (N := 9) (ci := 3) (As := [.int (jI a1)]) (rest := []) hx hb hml hown hts hK hR hS (c_X3_needNode ha1 hc2) ok0 rfl rfl wd261 wd263 ws3 wd1 wd264 hyX3_needNode ⟨rfl, rfl⟩ ⟨Nat.le_of_ble_eq_true rfl, Nat.le_of_ble_eq_true rfl⟩ hl.1 (Nat.le_of_ble_eq_true rfl) dX3_setOwner_6 ⟨Nat.zero_le _, Nat.zero_le _⟩ rfl (fun H locs hR hS => ?_)
  refine lv_aload_n hx hb dX3_setOwner_9 rfl (lv_at hl 0 rfl) ?_
  refine lv_iload_n hx hb dX3_setOwner_10 rfl (lv_at hl 2 rfl) ?_
  refine x_iconst hx hb dX3_setOwner_11 ?_
  refine x_iconst hx hb dX3_setOwner_12 ?_
  rcases xt_some hF with hT | ⟨-, hF⟩
  · exact x_tV (As := [.int (jI a2), .int (jI (0 : Int)), .int (jI (3 : Int))]) (rest := []) hx hb hml hown hlocks hts hK hTH hnt hR hS (t_X3_needRange hst ha2 (by decide : rg (0 : Int)) (by decide : rg (3 : Int)) hT) wd285 wd287 ws4 wd1 wd288 hyX3_needRange ⟨rfl, rfl⟩ ⟨Nat.le_of_ble_eq_true rfl, Nat.le_of_ble_eq_true rfl⟩ hl.1 (Nat.le_of_ble_eq_true rfl) dX3_setOwner_13 ⟨Nat.le_of_ble_eq_true rfl, Nat.le_of_ble_eq_true rfl⟩ rfl
  obtain ⟨_, hc3, hF⟩ := xb1_some hF
  refine x_cVv (C := RX3) (T := TX3) (N := 9) (ci := 3) (As := [.int (jI a2), .int (jI (0 : Int)), .int (jI (3 : Int))]) (rest := []) hx hb hml hown hts hK hR hS (c_X3_needRange ha2 (by decide : rg (0 : Int)) (by decide : rg (3 : Int)) hc3) ok0 rfl rfl wd285 wd287 ws4 wd1 wd288 hyX3_needRange ⟨rfl, rfl⟩ ⟨Nat.le_of_ble_eq_true rfl, Nat.le_of_ble_eq_true rfl⟩ hl.1 (Nat.le_of_ble_eq_true rfl) dX3_setOwner_13 ⟨Nat.zero_le _, Nat.zero_le _⟩ rfl (fun H locs hR hS => ?_)
  refine lv_aload_n hx hb dX3_setOwner_16 rfl (lv_at hl 0 rfl) ?_
  cases hF
abbrev rmTX3_setQuota : Room := { frames := 7, cells := 1, slots := 6, locals := 131 }
def T_X3_setQuota (M : Mm) (a1 : Int) (a2 : Int) : Option Nat := (xt (T_X3_needPower M ) (xb1 (F_X3_needPower M ) fun _ => (xt (T_X3_needRange M a1 (0 : Int) (3 : Int)) (xb1 (F_X3_needRange M a1 (0 : Int) (3 : Int)) fun _ => (xt (T_X3_needRange M a2 (0 : Int) (120 : Int)) (xb1 (F_X3_needRange M a2 (0 : Int) (120 : Int)) fun _ => none))))))
set_option maxHeartbeats 4000000 in
set_option maxRecDepth 100000 in
theorem t_X3_setQuota {l : Launch} {g : Gx} {b : Nat} {M : Mm} {a1 : Int} {a2 : Int} {E : Nat} (hst : l.stackTraces = false) (ha1 : rg a1) (ha2 : rg a2) (hF : T_X3_setQuota M a1 a2 = some E) : Tt l yX3_setQuota cX3_setQuota 3 (some .int) rmTX3_setQuota g b [.ref (adr b 0 0), .int (jI a1), .int (jI a2)] M E := by
  refine tt_of (by decide +kernel) (Nat.le_of_ble_eq_true rfl) ?_
  intro p e s m args below meth c C0 hTH hnt hR ls hl
  obtain ⟨hx, hb, hr, hlocks, hml, hown, hts, hK⟩ := id C0
  have hS : va_S (AA b s.heap.size) s.heap s.heap [] := va_S.rf
  have hl : lv_has ls 3 [(0, .ref (adr b 0 0)), (1, .int (jI a1)), (2, .int (jI a2))] := hl
  obtain ⟨H, hH⟩ : ∃ z, z = s.heap := ⟨_, rfl⟩
  obtain ⟨locs, hlo⟩ : ∃ z : List Loc, z = [] := ⟨_, rfl⟩
  have hR : Rel g b M H := by rw [hH]; exact hR
  have hS : va_S (AA b s.heap.size) s.heap H locs := by rw [hH, hlo]; exact hS
  suffices hW : W p l e rmTX3_setQuota s m args below meth c H locs 0 0 (vx_MQ below (fun _ _ _ _ => False) (XT g b E M s.heap.size) args s 1 6 (AA b s.heap.size)) (F0 m 0 ls []) by rw [hH, hlo] at hW; exact hW
  rw [T_X3_setQuota] at hF
  refine lv_aload_n hx hb dX3_setQuota_0 rfl (lv_at hl 0 rfl) ?_
  rcases xt_some hF with hT | ⟨-, hF⟩
  · exact x_tV (As := []) (rest := []) hx hb hml hown hlocks hts hK hTH hnt hR hS (t_X3_needPower hst  hT) wd189 wd191 ws1 wd1 wd192 hyX3_needPower ⟨rfl, rfl⟩ ⟨Nat.le_of_ble_eq_true rfl, Nat.le_of_ble_eq_true rfl⟩ hl.1 (Nat.le_of_ble_eq_true rfl) dX3_setQuota_1 ⟨Nat.le_of_ble_eq_true rfl, Nat.le_of_ble_eq_true rfl⟩ rfl
  obtain ⟨_, hc1, hF⟩ := xb1_some hF
  refine x_cVv (C := RX3) (T := TX3) (N := 9) (ci := 3) (As := []) (rest := []) hx hb hml hown hts hK hR hS (c_X3_needPower  hc1) ok0 rfl rfl wd189 wd191 ws1 wd1 wd192 hyX3_needPower ⟨rfl, rfl⟩ ⟨Nat.le_of_ble_eq_true rfl, Nat.le_of_ble_eq_true rfl⟩ hl.1 (Nat.le_of_ble_eq_true rfl) dX3_setQuota_1 ⟨Nat.zero_le _, Nat.zero_le _⟩ rfl (fun H locs hR hS => ?_)
  refine lv_aload_n hx hb dX3_setQuota_4 rfl (lv_at hl 0 rfl) ?_
  refine lv_iload_n hx hb dX3_setQuota_5 rfl (lv_at hl 1 rfl) ?_
  refine x_iconst hx hb dX3_setQuota_6 ?_
  refine x_iconst hx hb dX3_setQuota_7 ?_
  rcases xt_some hF with hT | ⟨-, hF⟩
  · exact x_tV (As := [.int (jI a1), .int (jI (0 : Int)), .int (jI (3 : Int))]) (rest := []) hx hb hml hown hlocks hts hK hTH hnt hR hS (t_X3_needRange hst ha1 (by decide : rg (0 : Int)) (by decide : rg (3 : Int)) hT) wd285 wd287 ws4 wd1 wd288 hyX3_needRange ⟨rfl, rfl⟩ ⟨Nat.le_of_ble_eq_true rfl, Nat.le_of_ble_eq_true rfl⟩ hl.1 (Nat.le_of_ble_eq_true rfl) dX3_setQuota_8 ⟨Nat.le_of_ble_eq_true rfl, Nat.le_of_ble_eq_true rfl⟩ rfl
  obtain ⟨_, hc2, hF⟩ := xb1_some hF
  refine x_cVv (C := RX3) (T := TX3) (N := 9) (ci := 3) (As := [.int (jI a1), .int (jI (0 : Int)), .int (jI (3 : Int))]) (rest := []) hx hb hml hown hts hK hR hS (c_X3_needRange ha1 (by decide : rg (0 : Int)) (by decide : rg (3 : Int)) hc2) ok0 rfl rfl wd285 wd287 ws4 wd1 wd288 hyX3_needRange ⟨rfl, rfl⟩ ⟨Nat.le_of_ble_eq_true rfl, Nat.le_of_ble_eq_true rfl⟩ hl.1 (Nat.le_of_ble_eq_true rfl) dX3_setQuota_8 ⟨Nat.zero_le _, Nat.zero_le _⟩ rfl (fun H locs hR hS => ?_)
  refine lv_aload_n hx hb dX3_setQuota_11 rfl (lv_at hl 0 rfl) ?_
  refine lv_iload_n hx hb dX3_setQuota_12 rfl (lv_at hl 2 rfl) ?_
  refine x_iconst hx hb dX3_setQuota_13 ?_
  refine x_bipush hx hb (by decide +kernel) dX3_setQuota_14 ?_
  rcases xt_some hF with hT | ⟨-, hF⟩
  · exact x_tV (As := [.int (jI a2), .int (jI (0 : Int)), .int (jI (120 : Int))]) (rest := []) hx hb hml hown hlocks hts hK hTH hnt hR hS (t_X3_needRange hst ha2 (by decide : rg (0 : Int)) (by decide : rg (120 : Int)) hT) wd285 wd287 ws4 wd1 wd288 hyX3_needRange ⟨rfl, rfl⟩ ⟨Nat.le_of_ble_eq_true rfl, Nat.le_of_ble_eq_true rfl⟩ hl.1 (Nat.le_of_ble_eq_true rfl) dX3_setQuota_16 ⟨Nat.le_of_ble_eq_true rfl, Nat.le_of_ble_eq_true rfl⟩ rfl
  obtain ⟨_, hc3, hF⟩ := xb1_some hF
  refine x_cVv (C := RX3) (T := TX3) (N := 9) (ci := 3) (As := [.int (jI a2), .int (jI (0 : Int)), .int (jI (120 : Int))]) (rest := []) hx hb hml hown hts hK hR hS (c_X3_needRange ha2 (by decide : rg (0 : Int)) (by decide : rg (120 : Int)) hc3) ok0 rfl rfl wd285 wd287 ws4 wd1 wd288 hyX3_needRange ⟨rfl, rfl⟩ ⟨Nat.le_of_ble_eq_true rfl, Nat.le_of_ble_eq_true rfl⟩ hl.1 (Nat.le_of_ble_eq_true rfl) dX3_setQuota_16 ⟨Nat.zero_le _, Nat.zero_le _⟩ rfl (fun H locs hR hS => ?_)
  refine lv_aload_n hx hb dX3_setQuota_19 rfl (lv_at hl 0 rfl) ?_
  cases hF
abbrev rmTX3_open : Room := { frames := 7, cells := 1, slots := 6, locals := 111 }
def T_X3_open (M : Mm) (a1 : Int) : Option Nat := (xt (T_X3_needPower M ) (xb1 (F_X3_needPower M ) fun _ => (xt (T_X3_needNode M a1) (xb1 (F_X3_needNode M a1) fun _ => (xk (M 0 0 0 = 0 ∨ M 0 0 0 = 1) (xb1 (F_X2_at M ((M 0 0 0).toNat) a1) fun y6 => (if (M 2 y6 0) = (1 : Int) then none else none)))))))
set_option maxHeartbeats 4000000 in
set_option maxRecDepth 100000 in
theorem t_X3_open {l : Launch} {g : Gx} {b : Nat} {M : Mm} {a1 : Int} {E : Nat} (hst : l.stackTraces = false) (ha1 : rg a1) (hF : T_X3_open M a1 = some E) : Tt l yX3_open cX3_open 3 (some .int) rmTX3_open g b [.ref (adr b 0 0), .int (jI a1)] M E := by
  refine tt_of (by decide +kernel) (Nat.le_of_ble_eq_true rfl) ?_
  intro p e s m args below meth c C0 hTH hnt hR ls hl
  obtain ⟨hx, hb, hr, hlocks, hml, hown, hts, hK⟩ := id C0
  have hS : va_S (AA b s.heap.size) s.heap s.heap [] := va_S.rf
  have hl : lv_has ls 3 [(0, .ref (adr b 0 0)), (1, .int (jI a1))] := hl
  obtain ⟨H, hH⟩ : ∃ z, z = s.heap := ⟨_, rfl⟩
  obtain ⟨locs, hlo⟩ : ∃ z : List Loc, z = [] := ⟨_, rfl⟩
  have hR : Rel g b M H := by rw [hH]; exact hR
  have hS : va_S (AA b s.heap.size) s.heap H locs := by rw [hH, hlo]; exact hS
  suffices hW : W p l e rmTX3_open s m args below meth c H locs 0 0 (vx_MQ below (fun _ _ _ _ => False) (XT g b E M s.heap.size) args s 1 6 (AA b s.heap.size)) (F0 m 0 ls []) by rw [hH, hlo] at hW; exact hW
  rw [T_X3_open] at hF
  refine lv_aload_n hx hb dX3_open_0 rfl (lv_at hl 0 rfl) ?_
  rcases xt_some hF with hT | ⟨-, hF⟩
  · exact x_tV (As := []) (rest := []) hx hb hml hown hlocks hts hK hTH hnt hR hS (t_X3_needPower hst  hT) wd189 wd191 ws1 wd1 wd192 hyX3_needPower ⟨rfl, rfl⟩ ⟨Nat.le_of_ble_eq_true rfl, Nat.le_of_ble_eq_true rfl⟩ hl.1 (Nat.le_of_ble_eq_true rfl) dX3_open_1 ⟨Nat.le_of_ble_eq_true rfl, Nat.le_of_ble_eq_true rfl⟩ rfl
  obtain ⟨_, hc1, hF⟩ := xb1_some hF
  refine x_cVv (C := RX3) (T := TX3) (N := 9) (ci := 3) (As := []) (rest := []) hx hb hml hown hts hK hR hS (c_X3_needPower  hc1) ok0 rfl rfl wd189 wd191 ws1 wd1 wd192 hyX3_needPower ⟨rfl, rfl⟩ ⟨Nat.le_of_ble_eq_true rfl, Nat.le_of_ble_eq_true rfl⟩ hl.1 (Nat.le_of_ble_eq_true rfl) dX3_open_1 ⟨Nat.zero_le _, Nat.zero_le _⟩ rfl (fun H locs hR hS => ?_)
  refine lv_aload_n hx hb dX3_open_4 rfl (lv_at hl 0 rfl) ?_
  refine lv_iload_n hx hb dX3_open_5 rfl (lv_at hl 1 rfl) ?_
  rcases xt_some hF with hT | ⟨-, hF⟩
  · exact x_tV (As := [.int (jI a1)]) (rest := []) hx hb hml hown hlocks hts hK hTH hnt hR hS (t_X3_needNode hst ha1 hT) wd261 wd263 ws3 wd1 wd264 hyX3_needNode ⟨rfl, rfl⟩ ⟨Nat.le_of_ble_eq_true rfl, Nat.le_of_ble_eq_true rfl⟩ hl.1 (Nat.le_of_ble_eq_true rfl) dX3_open_6 ⟨Nat.le_of_ble_eq_true rfl, Nat.le_of_ble_eq_true rfl⟩ rfl
  obtain ⟨_, hc2, hF⟩ := xb1_some hF
  refine x_cVv (C := RX3) (T := TX3) (N := 9) (ci := 3) (As := [.int (jI a1)]) (rest := []) hx hb hml hown hts hK hR hS (c_X3_needNode ha1 hc2) ok0 rfl rfl wd261 wd263 ws3 wd1 wd264 hyX3_needNode ⟨rfl, rfl⟩ ⟨Nat.le_of_ble_eq_true rfl, Nat.le_of_ble_eq_true rfl⟩ hl.1 (Nat.le_of_ble_eq_true rfl) dX3_open_6 ⟨Nat.zero_le _, Nat.zero_le _⟩ rfl (fun H locs hR hS => ?_)
  refine lv_aload_n hx hb dX3_open_9 rfl (lv_at hl 0 rfl) ?_
  refine gf_3_0 hx hb hts hown hK hR wd139 dX3_open_10 ?_
  obtain ⟨ht3, hF⟩ := xk_some hF
  have hj4 : (M 0 0 0).toNat < 3 := by omega
  refine lv_iload_n hx hb dX3_open_13 rfl (lv_at hl 1 rfl) ?_
  obtain ⟨y6, hc5, hF⟩ := xb1_some hF
  refine x_cVr (C := RX2) (T := TX2) (N := 8) (ci := 2) (As := [.int (jI a1)]) (rest := []) hx hb hml hown hts hK hR hS (c_X2_at hj4 ha1 hc5) (ok1 hj4) rfl rfl wd265 wd266 wd267 wd2 wd268 hyX2_at ⟨rfl, rfl⟩ ⟨Nat.le_of_ble_eq_true rfl, Nat.le_of_ble_eq_true rfl⟩ hl.1 (Nat.le_of_ble_eq_true rfl) dX3_open_14 ⟨Nat.zero_le _, Nat.zero_le _⟩ rfl (fun hg7 H locs hR hS => ?_)
  have hj8 : y6 < 99 := lt2 hg7
  refine gf_1_0 hx hb hts hown hK hR hj8 wd37 dX3_open_17 ?_
  have hg9 : rg (M 2 y6 0) := hR.2 2 y6 0 (by decide)
  refine x_iconst hx hb dX3_open_20 ?_
  refine x_icmp_eq (tgt := 27) hx hb hg9 (by decide : rg (1 : Int)) dX3_open_21 (by decide) (fun ci10 => ?_) (fun ci10 => ?_)
  · rw [if_pos ci10] at hF
    refine x_iconst hx hb dX3_open_27 ?_
    refine lv_istore_n (lv' := [(2, .int (jI (0 : Int))), (0, .ref (adr b 0 0)), (1, .int (jI a1))]) hx hb dX3_open_28 rfl hl (by decide) rfl (fun ls hl => ?_)
    cases hF
  · rw [if_neg ci10] at hF
    refine x_bipush hx hb (by decide +kernel) dX3_open_24 ?_
    cases hF
abbrev rmTX3_close : Room := { frames := 7, cells := 1, slots := 6, locals := 131 }
def T_X3_close (M : Mm) (a1 : Int) : Option Nat := (xt (T_X3_needPower M ) (xb1 (F_X3_needPower M ) fun _ => (xt (T_X3_needOpen M a1) (xb1 (F_X3_needOpen M a1) fun y3 => none))))
set_option maxHeartbeats 4000000 in
set_option maxRecDepth 100000 in
theorem t_X3_close {l : Launch} {g : Gx} {b : Nat} {M : Mm} {a1 : Int} {E : Nat} (hst : l.stackTraces = false) (ha1 : rg a1) (hF : T_X3_close M a1 = some E) : Tt l yX3_close cX3_close 4 (some .int) rmTX3_close g b [.ref (adr b 0 0), .int (jI a1)] M E := by
  refine tt_of (by decide +kernel) (Nat.le_of_ble_eq_true rfl) ?_
  intro p e s m args below meth c C0 hTH hnt hR ls hl
  obtain ⟨hx, hb, hr, hlocks, hml, hown, hts, hK⟩ := id C0
  have hS : va_S (AA b s.heap.size) s.heap s.heap [] := va_S.rf
  have hl : lv_has ls 4 [(0, .ref (adr b 0 0)), (1, .int (jI a1))] := hl
  obtain ⟨H, hH⟩ : ∃ z, z = s.heap := ⟨_, rfl⟩
  obtain ⟨locs, hlo⟩ : ∃ z : List Loc, z = [] := ⟨_, rfl⟩
  have hR : Rel g b M H := by rw [hH]; exact hR
  have hS : va_S (AA b s.heap.size) s.heap H locs := by rw [hH, hlo]; exact hS
  suffices hW : W p l e rmTX3_close s m args below meth c H locs 0 0 (vx_MQ below (fun _ _ _ _ => False) (XT g b E M s.heap.size) args s 1 6 (AA b s.heap.size)) (F0 m 0 ls []) by rw [hH, hlo] at hW; exact hW
  rw [T_X3_close] at hF
  refine lv_aload_n hx hb dX3_close_0 rfl (lv_at hl 0 rfl) ?_
  rcases xt_some hF with hT | ⟨-, hF⟩
  · exact x_tV (As := []) (rest := []) hx hb hml hown hlocks hts hK hTH hnt hR hS (t_X3_needPower hst  hT) wd189 wd191 ws1 wd1 wd192 hyX3_needPower ⟨rfl, rfl⟩ ⟨Nat.le_of_ble_eq_true rfl, Nat.le_of_ble_eq_true rfl⟩ hl.1 (Nat.le_of_ble_eq_true rfl) dX3_close_1 ⟨Nat.le_of_ble_eq_true rfl, Nat.le_of_ble_eq_true rfl⟩ rfl
  obtain ⟨_, hc1, hF⟩ := xb1_some hF
  refine x_cVv (C := RX3) (T := TX3) (N := 9) (ci := 3) (As := []) (rest := []) hx hb hml hown hts hK hR hS (c_X3_needPower  hc1) ok0 rfl rfl wd189 wd191 ws1 wd1 wd192 hyX3_needPower ⟨rfl, rfl⟩ ⟨Nat.le_of_ble_eq_true rfl, Nat.le_of_ble_eq_true rfl⟩ hl.1 (Nat.le_of_ble_eq_true rfl) dX3_close_1 ⟨Nat.zero_le _, Nat.zero_le _⟩ rfl (fun H locs hR hS => ?_)
  refine lv_aload_n hx hb dX3_close_4 rfl (lv_at hl 0 rfl) ?_
  refine lv_iload_n hx hb dX3_close_5 rfl (lv_at hl 1 rfl) ?_
  rcases xt_some hF with hT | ⟨-, hF⟩
  · exact x_tV (As := [.int (jI a1)]) (rest := []) hx hb hml hown hlocks hts hK hTH hnt hR hS (t_X3_needOpen hst ha1 hT) wd542 wd544 ws16 wd1 wd545 hyX3_needOpen ⟨rfl, rfl⟩ ⟨Nat.le_of_ble_eq_true rfl, Nat.le_of_ble_eq_true rfl⟩ hl.1 (Nat.le_of_ble_eq_true rfl) dX3_close_6 ⟨Nat.le_of_ble_eq_true rfl, Nat.le_of_ble_eq_true rfl⟩ rfl
  obtain ⟨y3, hc2, hF⟩ := xb1_some hF
  refine x_cVr (C := RX3) (T := TX3) (N := 9) (ci := 3) (As := [.int (jI a1)]) (rest := []) hx hb hml hown hts hK hR hS (c_X3_needOpen ha1 hc2) ok0 rfl rfl wd542 wd544 ws16 wd1 wd545 hyX3_needOpen ⟨rfl, rfl⟩ ⟨Nat.le_of_ble_eq_true rfl, Nat.le_of_ble_eq_true rfl⟩ hl.1 (Nat.le_of_ble_eq_true rfl) dX3_close_6 ⟨Nat.zero_le _, Nat.zero_le _⟩ rfl (fun hg4 H locs hR hS => ?_)
  have hj5 : y3 < 6 := lt11 hg4
  refine lv_astore_n (lv' := [(2, .ref (adr b 11 y3)), (0, .ref (adr b 0 0)), (1, .int (jI a1))]) hx hb dX3_close_9 rfl hl (by decide) rfl (fun ls hl => ?_)
  refine lv_aload_n hx hb dX3_close_10 rfl (lv_at hl 0 rfl) ?_
  refine gf_0_1 hx hb hts hown hK hR hj5 wd126 dX3_close_11 ?_
  have hg6 : rg (M 11 y3 1) := hR.2 11 y3 1 (by decide)
  refine lv_istore_n (lv' := [(3, .int (jI (M 11 y3 1))), (2, .ref (adr b 11 y3)), (0, .ref (adr b 0 0)), (1, .int (jI a1))]) hx hb dX3_close_14 rfl hl (by decide) rfl (fun ls hl => ?_)
  refine lv_aload_n hx hb dX3_close_15 rfl (lv_at hl 1 rfl) ?_
  cases hF
abbrev rmTX3_seek : Room := { frames := 7, cells := 1, slots := 6, locals := 113 }
def T_X3_seek (M : Mm) (a1 : Int) (a2 : Int) : Option Nat := (xt (T_X3_needPower M ) (xb1 (F_X3_needPower M ) fun _ => (xt (T_X3_needOpen M a1) (xb1 (F_X3_needOpen M a1) fun y3 => (xt (T_X3_needRange M a2 (0 : Int) (320 : Int)) (xb1 (F_X3_needRange M a2 (0 : Int) (320 : Int)) fun _ => none))))))
set_option maxHeartbeats 4000000 in
set_option maxRecDepth 100000 in
theorem t_X3_seek {l : Launch} {g : Gx} {b : Nat} {M : Mm} {a1 : Int} {a2 : Int} {E : Nat} (hst : l.stackTraces = false) (ha1 : rg a1) (ha2 : rg a2) (hF : T_X3_seek M a1 a2 = some E) : Tt l yX3_seek cX3_seek 5 (some .int) rmTX3_seek g b [.ref (adr b 0 0), .int (jI a1), .int (jI a2)] M E := by
  refine tt_of (by decide +kernel) (Nat.le_of_ble_eq_true rfl) ?_
  intro p e s m args below meth c C0 hTH hnt hR ls hl
  obtain ⟨hx, hb, hr, hlocks, hml, hown, hts, hK⟩ := id C0
  have hS : va_S (AA b s.heap.size) s.heap s.heap [] := va_S.rf
  have hl : lv_has ls 5 [(0, .ref (adr b 0 0)), (1, .int (jI a1)), (2, .int (jI a2))] := hl
  obtain ⟨H, hH⟩ : ∃ z, z = s.heap := ⟨_, rfl⟩
  obtain ⟨locs, hlo⟩ : ∃ z : List Loc, z = [] := ⟨_, rfl⟩
  have hR : Rel g b M H := by rw [hH]; exact hR
  have hS : va_S (AA b s.heap.size) s.heap H locs := by rw [hH, hlo]; exact hS
  suffices hW : W p l e rmTX3_seek s m args below meth c H locs 0 0 (vx_MQ below (fun _ _ _ _ => False) (XT g b E M s.heap.size) args s 1 6 (AA b s.heap.size)) (F0 m 0 ls []) by rw [hH, hlo] at hW; exact hW
  rw [T_X3_seek] at hF
  refine lv_aload_n hx hb dX3_seek_0 rfl (lv_at hl 0 rfl) ?_
  rcases xt_some hF with hT | ⟨-, hF⟩
  · exact x_tV (As := []) (rest := []) hx hb hml hown hlocks hts hK hTH hnt hR hS (t_X3_needPower hst  hT) wd189 wd191 ws1 wd1 wd192 hyX3_needPower ⟨rfl, rfl⟩ ⟨Nat.le_of_ble_eq_true rfl, Nat.le_of_ble_eq_true rfl⟩ hl.1 (Nat.le_of_ble_eq_true rfl) dX3_seek_1 ⟨Nat.le_of_ble_eq_true rfl, Nat.le_of_ble_eq_true rfl⟩ rfl
  obtain ⟨_, hc1, hF⟩ := xb1_some hF
  refine x_cVv (C := RX3) (T := TX3) (N := 9) (ci := 3) (As := []) (rest := []) hx hb hml hown hts hK hR hS (c_X3_needPower  hc1) ok0 rfl rfl wd189 wd191 ws1 wd1 wd192 hyX3_needPower ⟨rfl, rfl⟩ ⟨Nat.le_of_ble_eq_true rfl, Nat.le_of_ble_eq_true rfl⟩ hl.1 (Nat.le_of_ble_eq_true rfl) dX3_seek_1 ⟨Nat.zero_le _, Nat.zero_le _⟩ rfl (fun H locs hR hS => ?_)
  refine lv_aload_n hx hb dX3_seek_4 rfl (lv_at hl 0 rfl) ?_
  refine lv_iload_n hx hb dX3_seek_5 rfl (lv_at hl 1 rfl) ?_
  rcases xt_some hF with hT | ⟨-, hF⟩
  · exact x_tV (As := [.int (jI a1)]) (rest := []) hx hb hml hown hlocks hts hK hTH hnt hR hS (t_X3_needOpen hst ha1 hT) wd542 wd544 ws16 wd1 wd545 hyX3_needOpen ⟨rfl, rfl⟩ ⟨Nat.le_of_ble_eq_true rfl, Nat.le_of_ble_eq_true rfl⟩ hl.1 (Nat.le_of_ble_eq_true rfl) dX3_seek_6 ⟨Nat.le_of_ble_eq_true rfl, Nat.le_of_ble_eq_true rfl⟩ rfl
  obtain ⟨y3, hc2, hF⟩ := xb1_some hF
  refine x_cVr (C := RX3) (T := TX3) (N := 9) (ci := 3) (As := [.int (jI a1)]) (rest := []) hx hb hml hown hts hK hR hS (c_X3_needOpen ha1 hc2) ok0 rfl rfl wd542 wd544 ws16 wd1 wd545 hyX3_needOpen ⟨rfl, rfl⟩ ⟨Nat.le_of_ble_eq_true rfl, Nat.le_of_ble_eq_true rfl⟩ hl.1 (Nat.le_of_ble_eq_true rfl) dX3_seek_6 ⟨Nat.zero_le _, Nat.zero_le _⟩ rfl (fun hg4 H locs hR hS => ?_)
  have hj5 : y3 < 6 := lt11 hg4
  refine lv_astore_n (lv' := [(3, .ref (adr b 11 y3)), (0, .ref (adr b 0 0)), (1, .int (jI a1)), (2, .int (jI a2))]) hx hb dX3_seek_9 rfl hl (by decide) rfl (fun ls hl => ?_)
  refine lv_aload_n hx hb dX3_seek_10 rfl (lv_at hl 1 rfl) ?_
  refine lv_iload_n hx hb dX3_seek_11 rfl (lv_at hl 3 rfl) ?_
  refine x_iconst hx hb dX3_seek_12 ?_
  refine x_sipush hx hb (by decide +kernel) dX3_seek_13 ?_
  rcases xt_some hF with hT | ⟨-, hF⟩
  · exact x_tV (As := [.int (jI a2), .int (jI (0 : Int)), .int (jI (320 : Int))]) (rest := []) hx hb hml hown hlocks hts hK hTH hnt hR hS (t_X3_needRange hst ha2 (by decide : rg (0 : Int)) (by decide : rg (320 : Int)) hT) wd285 wd287 ws4 wd1 wd288 hyX3_needRange ⟨rfl, rfl⟩ ⟨Nat.le_of_ble_eq_true rfl, Nat.le_of_ble_eq_true rfl⟩ hl.1 (Nat.le_of_ble_eq_true rfl) dX3_seek_16 ⟨Nat.le_of_ble_eq_true rfl, Nat.le_of_ble_eq_true rfl⟩ rfl
  obtain ⟨_, hc6, hF⟩ := xb1_some hF
  refine x_cVv (C := RX3) (T := TX3) (N := 9) (ci := 3) (As := [.int (jI a2), .int (jI (0 : Int)), .int (jI (320 : Int))]) (rest := []) hx hb hml hown hts hK hR hS (c_X3_needRange ha2 (by decide : rg (0 : Int)) (by decide : rg (320 : Int)) hc6) ok0 rfl rfl wd285 wd287 ws4 wd1 wd288 hyX3_needRange ⟨rfl, rfl⟩ ⟨Nat.le_of_ble_eq_true rfl, Nat.le_of_ble_eq_true rfl⟩ hl.1 (Nat.le_of_ble_eq_true rfl) dX3_seek_16 ⟨Nat.zero_le _, Nat.zero_le _⟩ rfl (fun H locs hR hS => ?_)
  refine lv_aload_n hx hb dX3_seek_19 rfl (lv_at hl 0 rfl) ?_
  refine gf_0_2 hx hb hts hown hK hR hj5 wd128 dX3_seek_20 ?_
  have hg7 : rg (M 11 y3 2) := hR.2 11 y3 2 (by decide)
  refine lv_istore (lv' := [(4, .int (jI (M 11 y3 2))), (3, .ref (adr b 11 y3)), (0, .ref (adr b 0 0)), (1, .int (jI a1)), (2, .int (jI a2))]) hx hb dX3_seek_23 hl (by decide) rfl (fun ls hl => ?_)
  refine lv_aload_n hx hb dX3_seek_25 rfl (lv_at hl 1 rfl) ?_
  refine lv_iload_n hx hb dX3_seek_26 rfl (lv_at hl 4 rfl) ?_
  cases hF
abbrev rmTX3_read : Room := { frames := 7, cells := 1, slots := 6, locals := 113 }
def T_X3_read (M : Mm) (a1 : Int) (a2 : Int) : Option Nat := (xt (T_X3_needPower M ) (xb1 (F_X3_needPower M ) fun _ => (xt (T_X3_needOpen M a1) (xb1 (F_X3_needOpen M a1) fun y3 => (xt (T_X3_needRange M a2 (1 : Int) (320 : Int)) (xb1 (F_X3_needRange M a2 (1 : Int) (320 : Int)) fun _ => (xk (M 0 0 0 = 0 ∨ M 0 0 0 = 1) (xb1 (F_X2_at M ((M 0 0 0).toNat) (M 11 y3 1)) fun y11 => (xk (rg ((M 11 y3 2) + a2)) none)))))))))
set_option maxHeartbeats 4000000 in
set_option maxRecDepth 100000 in
theorem t_X3_read {l : Launch} {g : Gx} {b : Nat} {M : Mm} {a1 : Int} {a2 : Int} {E : Nat} (hst : l.stackTraces = false) (ha1 : rg a1) (ha2 : rg a2) (hF : T_X3_read M a1 a2 = some E) : Tt l yX3_read cX3_read 9 (some .int) rmTX3_read g b [.ref (adr b 0 0), .int (jI a1), .int (jI a2)] M E := by
  refine tt_of (by decide +kernel) (Nat.le_of_ble_eq_true rfl) ?_
  intro p e s m args below meth c C0 hTH hnt hR ls hl
  obtain ⟨hx, hb, hr, hlocks, hml, hown, hts, hK⟩ := id C0
  have hS : va_S (AA b s.heap.size) s.heap s.heap [] := va_S.rf
  have hl : lv_has ls 9 [(0, .ref (adr b 0 0)), (1, .int (jI a1)), (2, .int (jI a2))] := hl
  obtain ⟨H, hH⟩ : ∃ z, z = s.heap := ⟨_, rfl⟩
  obtain ⟨locs, hlo⟩ : ∃ z : List Loc, z = [] := ⟨_, rfl⟩
  have hR : Rel g b M H := by rw [hH]; exact hR
  have hS : va_S (AA b s.heap.size) s.heap H locs := by rw [hH, hlo]; exact hS
  suffices hW : W p l e rmTX3_read s m args below meth c H locs 0 0 (vx_MQ below (fun _ _ _ _ => False) (XT g b E M s.heap.size) args s 1 6 (AA b s.heap.size)) (F0 m 0 ls []) by rw [hH, hlo] at hW; exact hW
  rw [T_X3_read] at hF
  refine lv_aload_n hx hb dX3_read_0 rfl (lv_at hl 0 rfl) ?_
  rcases xt_some hF with hT | ⟨-, hF⟩
  · exact x_tV (As := []) (rest := []) hx hb hml hown hlocks hts hK hTH hnt hR hS (t_X3_needPower hst  hT) wd189 wd191 ws1 wd1 wd192 hyX3_needPower ⟨rfl, rfl⟩ ⟨Nat.le_of_ble_eq_true rfl, Nat.le_of_ble_eq_true rfl⟩ hl.1 (Nat.le_of_ble_eq_true rfl) dX3_read_1 ⟨Nat.le_of_ble_eq_true rfl, Nat.le_of_ble_eq_true rfl⟩ rfl
  obtain ⟨_, hc1, hF⟩ := xb1_some hF
  refine x_cVv (C := RX3) (T := TX3) (N := 9) (ci := 3) (As := []) (rest := []) hx hb hml hown hts hK hR hS (c_X3_needPower  hc1) ok0 rfl rfl wd189 wd191 ws1 wd1 wd192 hyX3_needPower ⟨rfl, rfl⟩ ⟨Nat.le_of_ble_eq_true rfl, Nat.le_of_ble_eq_true rfl⟩ hl.1 (Nat.le_of_ble_eq_true rfl) dX3_read_1 ⟨Nat.zero_le _, Nat.zero_le _⟩ rfl (fun H locs hR hS => ?_)
  refine lv_aload_n hx hb dX3_read_4 rfl (lv_at hl 0 rfl) ?_
  refine lv_iload_n hx hb dX3_read_5 rfl (lv_at hl 1 rfl) ?_
  rcases xt_some hF with hT | ⟨-, hF⟩
  · exact x_tV (As := [.int (jI a1)]) (rest := []) hx hb hml hown hlocks hts hK hTH hnt hR hS (t_X3_needOpen hst ha1 hT) wd542 wd544 ws16 wd1 wd545 hyX3_needOpen ⟨rfl, rfl⟩ ⟨Nat.le_of_ble_eq_true rfl, Nat.le_of_ble_eq_true rfl⟩ hl.1 (Nat.le_of_ble_eq_true rfl) dX3_read_6 ⟨Nat.le_of_ble_eq_true rfl, Nat.le_of_ble_eq_true rfl⟩ rfl
  obtain ⟨y3, hc2, hF⟩ := xb1_some hF
  refine x_cVr (C := RX3) (T := TX3) (N := 9) (ci := 3) (As := [.int (jI a1)]) (rest := []) hx hb hml hown hts hK hR hS (c_X3_needOpen ha1 hc2) ok0 rfl rfl wd542 wd544 ws16 wd1 wd545 hyX3_needOpen ⟨rfl, rfl⟩ ⟨Nat.le_of_ble_eq_true rfl, Nat.le_of_ble_eq_true rfl⟩ hl.1 (Nat.le_of_ble_eq_true rfl) dX3_read_6 ⟨Nat.zero_le _, Nat.zero_le _⟩ rfl (fun hg4 H locs hR hS => ?_)
  have hj5 : y3 < 6 := lt11 hg4
  refine lv_astore_n (lv' := [(3, .ref (adr b 11 y3)), (0, .ref (adr b 0 0)), (1, .int (jI a1)), (2, .int (jI a2))]) hx hb dX3_read_9 rfl hl (by decide) rfl (fun ls hl => ?_)
  refine lv_aload_n hx hb dX3_read_10 rfl (lv_at hl 1 rfl) ?_
  refine lv_iload_n hx hb dX3_read_11 rfl (lv_at hl 3 rfl) ?_
  refine x_iconst hx hb dX3_read_12 ?_
  refine x_sipush hx hb (by decide +kernel) dX3_read_13 ?_
  rcases xt_some hF with hT | ⟨-, hF⟩
  · exact x_tV (As := [.int (jI a2), .int (jI (1 : Int)), .int (jI (320 : Int))]) (rest := []) hx hb hml hown hlocks hts hK hTH hnt hR hS (t_X3_needRange hst ha2 (by decide : rg (1 : Int)) (by decide : rg (320 : Int)) hT) wd285 wd287 ws4 wd1 wd288 hyX3_needRange ⟨rfl, rfl⟩ ⟨Nat.le_of_ble_eq_true rfl, Nat.le_of_ble_eq_true rfl⟩ hl.1 (Nat.le_of_ble_eq_true rfl) dX3_read_16 ⟨Nat.le_of_ble_eq_true rfl, Nat.le_of_ble_eq_true rfl⟩ rfl
  obtain ⟨_, hc6, hF⟩ := xb1_some hF
  refine x_cVv (C := RX3) (T := TX3) (N := 9) (ci := 3) (As := [.int (jI a2), .int (jI (1 : Int)), .int (jI (320 : Int))]) (rest := []) hx hb hml hown hts hK hR hS (c_X3_needRange ha2 (by decide : rg (1 : Int)) (by decide : rg (320 : Int)) hc6) ok0 rfl rfl wd285 wd287 ws4 wd1 wd288 hyX3_needRange ⟨rfl, rfl⟩ ⟨Nat.le_of_ble_eq_true rfl, Nat.le_of_ble_eq_true rfl⟩ hl.1 (Nat.le_of_ble_eq_true rfl) dX3_read_16 ⟨Nat.zero_le _, Nat.zero_le _⟩ rfl (fun H locs hR hS => ?_)
  refine lv_aload_n hx hb dX3_read_19 rfl (lv_at hl 1 rfl) ?_
  refine gf_3_0 hx hb hts hown hK hR wd139 dX3_read_20 ?_
  obtain ⟨ht7, hF⟩ := xk_some hF
  have hj8 : (M 0 0 0).toNat < 3 := by omega
  refine lv_aload_n hx hb dX3_read_23 rfl (lv_at hl 0 rfl) ?_
  refine gf_0_1 hx hb hts hown hK hR hj5 wd126 dX3_read_24 ?_
  have hg9 : rg (M 11 y3 1) := hR.2 11 y3 1 (by decide)
  obtain ⟨y11, hc10, hF⟩ := xb1_some hF
  refine x_cVr (C := RX2) (T := TX2) (N := 8) (ci := 2) (As := [.int (jI (M 11 y3 1))]) (rest := []) hx hb hml hown hts hK hR hS (c_X2_at hj8 hg9 hc10) (ok1 hj8) rfl rfl wd265 wd266 wd267 wd2 wd268 hyX2_at ⟨rfl, rfl⟩ ⟨Nat.le_of_ble_eq_true rfl, Nat.le_of_ble_eq_true rfl⟩ hl.1 (Nat.le_of_ble_eq_true rfl) dX3_read_27 ⟨Nat.zero_le _, Nat.zero_le _⟩ rfl (fun hg12 H locs hR hS => ?_)
  have hj13 : y11 < 99 := lt2 hg12
  refine lv_astore (lv' := [(4, .ref (adr b 2 y11)), (3, .ref (adr b 11 y3)), (0, .ref (adr b 0 0)), (1, .int (jI a1)), (2, .int (jI a2))]) hx hb dX3_read_30 hl (by decide) rfl (fun ls hl => ?_)
  refine lv_aload_n hx hb dX3_read_32 rfl (lv_at hl 1 rfl) ?_
  refine gf_0_2 hx hb hts hown hK hR hj5 wd128 dX3_read_33 ?_
  have hg14 : rg (M 11 y3 2) := hR.2 11 y3 2 (by decide)
  refine lv_istore (lv' := [(5, .int (jI (M 11 y3 2))), (4, .ref (adr b 2 y11)), (3, .ref (adr b 11 y3)), (0, .ref (adr b 0 0)), (1, .int (jI a1)), (2, .int (jI a2))]) hx hb dX3_read_36 hl (by decide) rfl (fun ls hl => ?_)
  refine lv_iload hx hb dX3_read_38 (lv_at hl 0 rfl) ?_
  refine lv_iload_n hx hb dX3_read_40 rfl (lv_at hl 5 rfl) ?_
  obtain ⟨hq15, hF⟩ := xk_some hF
  refine x_iadd hx hb dX3_read_41 ?_
  refine lv_aload hx hb dX3_read_42 (lv_at hl 1 rfl) ?_
  refine gf_1_3 hx hb hts hown hK hR hj13 wd45 dX3_read_44 ?_
  have hg16 : rg (M 2 y11 3) := hR.2 2 y11 3 (by decide)
  refine x_min hx hb hml hl.1 hts hown wd661 wd662 wd13 wd663 (Nat.le_of_ble_eq_true rfl) (Nat.le_of_ble_eq_true rfl) ⟨Nat.zero_le _, Nat.zero_le _⟩ hq15 hg16 dX3_read_47 ?_
  refine lv_istore (lv' := [(6, .int (jI (minI ((M 11 y3 2) + a2) (M 2 y11 3)))), (5, .int (jI (M 11 y3 2))), (4, .ref (adr b 2 y11)), (3, .ref (adr b 11 y3)), (0, .ref (adr b 0 0)), (1, .int (jI a1)), (2, .int (jI a2))]) hx hb dX3_read_50 hl (by decide) rfl (fun ls hl => ?_)
  refine x_iconst hx hb dX3_read_52 ?_
  refine lv_istore (lv' := [(7, .int (jI (0 : Int))), (6, .int (jI (minI ((M 11 y3 2) + a2) (M 2 y11 3)))), (5, .int (jI (M 11 y3 2))), (4, .ref (adr b 2 y11)), (3, .ref (adr b 11 y3)), (0, .ref (adr b 0 0)), (1, .int (jI a1)), (2, .int (jI a2))]) hx hb dX3_read_53 hl (by decide) rfl (fun ls hl => ?_)
  refine lv_iload hx hb dX3_read_55 (lv_at hl 2 rfl) ?_
  refine lv_istore (lv' := [(8, .int (jI (M 11 y3 2))), (7, .int (jI (0 : Int))), (6, .int (jI (minI ((M 11 y3 2) + a2) (M 2 y11 3)))), (5, .int (jI (M 11 y3 2))), (4, .ref (adr b 2 y11)), (3, .ref (adr b 11 y3)), (0, .ref (adr b 0 0)), (1, .int (jI a1)), (2, .int (jI a2))]) hx hb dX3_read_57 hl (by decide) rfl (fun ls hl => ?_)
  cases hF
abbrev rmTX3_needBytes : Room := { frames := 7, cells := 1, slots := 6, locals := 113 }
def T_X3_needBytes (M : Mm) (a1 : Int) (a2 : Int) : Option Nat := (xt (T_X3_needRange M a1 (0 : Int) (319 : Int)) (xb1 (F_X3_needRange M a1 (0 : Int) (319 : Int)) fun _ => (xk (rg ((320 : Int) - a1)) (xt (T_X3_needRange M a2 (1 : Int) ((320 : Int) - a1)) (xb1 (F_X3_needRange M a2 (1 : Int) ((320 : Int) - a1)) fun _ => none)))))
set_option maxHeartbeats 4000000 in
set_option maxRecDepth 100000 in
theorem t_X3_needBytes {l : Launch} {g : Gx} {b : Nat} {M : Mm} {a1 : Int} {a2 : Int} {E : Nat} (hst : l.stackTraces = false) (ha1 : rg a1) (ha2 : rg a2) (hF : T_X3_needBytes M a1 a2 = some E) : Tt l yX3_needBytes cX3_needBytes 3 none rmTX3_needBytes g b [.ref (adr b 0 0), .int (jI a1), .int (jI a2)] M E := by
  refine tt_of (by decide +kernel) (Nat.le_of_ble_eq_true rfl) ?_
  intro p e s m args below meth c C0 hTH hnt hR ls hl
  obtain ⟨hx, hb, hr, hlocks, hml, hown, hts, hK⟩ := id C0
  have hS : va_S (AA b s.heap.size) s.heap s.heap [] := va_S.rf
  have hl : lv_has ls 3 [(0, .ref (adr b 0 0)), (1, .int (jI a1)), (2, .int (jI a2))] := hl
  obtain ⟨H, hH⟩ : ∃ z, z = s.heap := ⟨_, rfl⟩
  obtain ⟨locs, hlo⟩ : ∃ z : List Loc, z = [] := ⟨_, rfl⟩
  have hR : Rel g b M H := by rw [hH]; exact hR
  have hS : va_S (AA b s.heap.size) s.heap H locs := by rw [hH, hlo]; exact hS
  suffices hW : W p l e rmTX3_needBytes s m args below meth c H locs 0 0 (vx_MQ below (fun _ _ _ _ => False) (XT g b E M s.heap.size) args s 1 6 (AA b s.heap.size)) (F0 m 0 ls []) by rw [hH, hlo] at hW; exact hW
  rw [T_X3_needBytes] at hF
  refine lv_aload_n hx hb dX3_needBytes_0 rfl (lv_at hl 0 rfl) ?_
  refine lv_iload_n hx hb dX3_needBytes_1 rfl (lv_at hl 1 rfl) ?_
  refine x_iconst hx hb dX3_needBytes_2 ?_
  refine x_sipush hx hb (by decide +kernel) dX3_needBytes_3 ?_
  rcases xt_some hF with hT | ⟨-, hF⟩
  · exact x_tV (As := [.int (jI a1), .int (jI (0 : Int)), .int (jI (319 : Int))]) (rest := []) hx hb hml hown hlocks hts hK hTH hnt hR hS (t_X3_needRange hst ha1 (by decide : rg (0 : Int)) (by decide : rg (319 : Int)) hT) wd285 wd287 ws4 wd1 wd288 hyX3_needRange ⟨rfl, rfl⟩ ⟨Nat.le_of_ble_eq_true rfl, Nat.le_of_ble_eq_true rfl⟩ hl.1 (Nat.le_of_ble_eq_true rfl) dX3_needBytes_6 ⟨Nat.le_of_ble_eq_true rfl, Nat.le_of_ble_eq_true rfl⟩ rfl
  obtain ⟨_, hc1, hF⟩ := xb1_some hF
  refine x_cVv (C := RX3) (T := TX3) (N := 9) (ci := 3) (As := [.int (jI a1), .int (jI (0 : Int)), .int (jI (319 : Int))]) (rest := []) hx hb hml hown hts hK hR hS (c_X3_needRange ha1 (by decide : rg (0 : Int)) (by decide : rg (319 : Int)) hc1) ok0 rfl rfl wd285 wd287 ws4 wd1 wd288 hyX3_needRange ⟨rfl, rfl⟩ ⟨Nat.le_of_ble_eq_true rfl, Nat.le_of_ble_eq_true rfl⟩ hl.1 (Nat.le_of_ble_eq_true rfl) dX3_needBytes_6 ⟨Nat.zero_le _, Nat.zero_le _⟩ rfl (fun H locs hR hS => ?_)
  refine lv_aload_n hx hb dX3_needBytes_9 rfl (lv_at hl 0 rfl) ?_
  refine lv_iload_n hx hb dX3_needBytes_10 rfl (lv_at hl 2 rfl) ?_
  refine x_iconst hx hb dX3_needBytes_11 ?_
  refine x_sipush hx hb (by decide +kernel) dX3_needBytes_12 ?_
  refine lv_iload_n hx hb dX3_needBytes_15 rfl (lv_at hl 1 rfl) ?_
  obtain ⟨hq2, hF⟩ := xk_some hF
  refine x_isub hx hb dX3_needBytes_16 ?_
  rcases xt_some hF with hT | ⟨-, hF⟩
  · exact x_tV (As := [.int (jI a2), .int (jI (1 : Int)), .int (jI ((320 : Int) - a1))]) (rest := []) hx hb hml hown hlocks hts hK hTH hnt hR hS (t_X3_needRange hst ha2 (by decide : rg (1 : Int)) hq2 hT) wd285 wd287 ws4 wd1 wd288 hyX3_needRange ⟨rfl, rfl⟩ ⟨Nat.le_of_ble_eq_true rfl, Nat.le_of_ble_eq_true rfl⟩ hl.1 (Nat.le_of_ble_eq_true rfl) dX3_needBytes_17 ⟨Nat.le_of_ble_eq_true rfl, Nat.le_of_ble_eq_true rfl⟩ rfl
  obtain ⟨_, hc3, hF⟩ := xb1_some hF
  refine x_cVv (C := RX3) (T := TX3) (N := 9) (ci := 3) (As := [.int (jI a2), .int (jI (1 : Int)), .int (jI ((320 : Int) - a1))]) (rest := []) hx hb hml hown hts hK hR hS (c_X3_needRange ha2 (by decide : rg (1 : Int)) hq2 hc3) ok0 rfl rfl wd285 wd287 ws4 wd1 wd288 hyX3_needRange ⟨rfl, rfl⟩ ⟨Nat.le_of_ble_eq_true rfl, Nat.le_of_ble_eq_true rfl⟩ hl.1 (Nat.le_of_ble_eq_true rfl) dX3_needBytes_17 ⟨Nat.zero_le _, Nat.zero_le _⟩ rfl (fun H locs hR hS => ?_)
  cases hF
abbrev rmTX3_firstAgainst : Room := { frames := 7, cells := 1, slots := 6, locals := 111 }
def T_X3_firstAgainst (M : Mm) (a1 : Int) (a2 : Int) (a3 : Int) (a4 : Int) : Option Nat := (xt (T_X3_needOpen M a1) (xb1 (F_X3_needOpen M a1) fun y2 => none))
set_option maxHeartbeats 4000000 in
set_option maxRecDepth 100000 in
theorem t_X3_firstAgainst {l : Launch} {g : Gx} {b : Nat} {M : Mm} {a1 : Int} {a2 : Int} {a3 : Int} {a4 : Int} {E : Nat} (hst : l.stackTraces = false) (ha1 : rg a1) (ha2 : rg a2) (ha3 : rg a3) (ha4 : rg a4) (hF : T_X3_firstAgainst M a1 a2 a3 a4 = some E) : Tt l yX3_firstAgainst cX3_firstAgainst 7 (some .int) rmTX3_firstAgainst g b [.ref (adr b 0 0), .int (jI a1), .int (jI a2), .int (jI a3), .int (jI a4)] M E := by
  refine tt_of (by decide +kernel) (Nat.le_of_ble_eq_true rfl) ?_
  intro p e s m args below meth c C0 hTH hnt hR ls hl
  obtain ⟨hx, hb, hr, hlocks, hml, hown, hts, hK⟩ := id C0
  have hS : va_S (AA b s.heap.size) s.heap s.heap [] := va_S.rf
  have hl : lv_has ls 7 [(0, .ref (adr b 0 0)), (1, .int (jI a1)), (2, .int (jI a2)), (3, .int (jI a3)), (4, .int (jI a4))] := hl
  obtain ⟨H, hH⟩ : ∃ z, z = s.heap := ⟨_, rfl⟩
  obtain ⟨locs, hlo⟩ : ∃ z : List Loc, z = [] := ⟨_, rfl⟩
  have hR : Rel g b M H := by rw [hH]; exact hR
  have hS : va_S (AA b s.heap.size) s.heap H locs := by rw [hH, hlo]; exact hS
  suffices hW : W p l e rmTX3_firstAgainst s m args below meth c H locs 0 0 (vx_MQ below (fun _ _ _ _ => False) (XT g b E M s.heap.size) args s 1 6 (AA b s.heap.size)) (F0 m 0 ls []) by rw [hH, hlo] at hW; exact hW
  rw [T_X3_firstAgainst] at hF
  refine lv_aload_n hx hb dX3_firstAgainst_0 rfl (lv_at hl 0 rfl) ?_
  refine lv_iload_n hx hb dX3_firstAgainst_1 rfl (lv_at hl 1 rfl) ?_
  rcases xt_some hF with hT | ⟨-, hF⟩
  · exact x_tV (As := [.int (jI a1)]) (rest := []) hx hb hml hown hlocks hts hK hTH hnt hR hS (t_X3_needOpen hst ha1 hT) wd542 wd544 ws16 wd1 wd545 hyX3_needOpen ⟨rfl, rfl⟩ ⟨Nat.le_of_ble_eq_true rfl, Nat.le_of_ble_eq_true rfl⟩ hl.1 (Nat.le_of_ble_eq_true rfl) dX3_firstAgainst_2 ⟨Nat.le_of_ble_eq_true rfl, Nat.le_of_ble_eq_true rfl⟩ rfl
  obtain ⟨y2, hc1, hF⟩ := xb1_some hF
  refine x_cVr (C := RX3) (T := TX3) (N := 9) (ci := 3) (As := [.int (jI a1)]) (rest := []) hx hb hml hown hts hK hR hS (c_X3_needOpen ha1 hc1) ok0 rfl rfl wd542 wd544 ws16 wd1 wd545 hyX3_needOpen ⟨rfl, rfl⟩ ⟨Nat.le_of_ble_eq_true rfl, Nat.le_of_ble_eq_true rfl⟩ hl.1 (Nat.le_of_ble_eq_true rfl) dX3_firstAgainst_2 ⟨Nat.zero_le _, Nat.zero_le _⟩ rfl (fun hg3 H locs hR hS => ?_)
  have hj4 : y2 < 6 := lt11 hg3
  refine gf_0_1 hx hb hts hown hK hR hj4 wd126 dX3_firstAgainst_5 ?_
  have hg5 : rg (M 11 y2 1) := hR.2 11 y2 1 (by decide)
  refine lv_istore (lv' := [(5, .int (jI (M 11 y2 1))), (0, .ref (adr b 0 0)), (1, .int (jI a1)), (2, .int (jI a2)), (3, .int (jI a3)), (4, .int (jI a4))]) hx hb dX3_firstAgainst_8 hl (by decide) rfl (fun ls hl => ?_)
  refine x_iconst hx hb dX3_firstAgainst_10 ?_
  refine lv_istore (lv' := [(6, .int (jI (0 : Int))), (5, .int (jI (M 11 y2 1))), (0, .ref (adr b 0 0)), (1, .int (jI a1)), (2, .int (jI a2)), (3, .int (jI a3)), (4, .int (jI a4))]) hx hb dX3_firstAgainst_11 hl (by decide) rfl (fun ls hl => ?_)
  cases hF
abbrev rmTX3_lock : Room := { frames := 8, cells := 1, slots := 6, locals := 137 }
def T_X3_lock (M : Mm) (a1 : Int) (a2 : Int) (a3 : Int) (a4 : Int) : Option Nat := (xt (T_X3_needPower M ) (xb1 (F_X3_needPower M ) fun _ => (xt (T_X3_needOpen M a1) (xb1 (F_X3_needOpen M a1) fun y3 => (xt (T_X3_needBytes M a2 a3) (xb1 (F_X3_needBytes M a2 a3) fun _ => (xt (T_X3_firstAgainst M a1 a2 a3 a4) (xb1 (F_X3_firstAgainst M a1 a2 a3 a4) fun y8 => (if y8 = (-1 : Int) then (if a4 = 0 then none else none) else none)))))))))
set_option maxHeartbeats 4000000 in
set_option maxRecDepth 100000 in
theorem t_X3_lock {l : Launch} {g : Gx} {b : Nat} {M : Mm} {a1 : Int} {a2 : Int} {a3 : Int} {a4 : Int} {E : Nat} (hst : l.stackTraces = false) (ha1 : rg a1) (ha2 : rg a2) (ha3 : rg a3) (ha4 : rg a4) (hF : T_X3_lock M a1 a2 a3 a4 = some E) : Tt l yX3_lock cX3_lock 6 (some .boolean) rmTX3_lock g b [.ref (adr b 0 0), .int (jI a1), .int (jI a2), .int (jI a3), .int (jI a4)] M E := by
  refine tt_of (by decide +kernel) (Nat.le_of_ble_eq_true rfl) ?_
  intro p e s m args below meth c C0 hTH hnt hR ls hl
  obtain ⟨hx, hb, hr, hlocks, hml, hown, hts, hK⟩ := id C0
  have hS : va_S (AA b s.heap.size) s.heap s.heap [] := va_S.rf
  have hl : lv_has ls 6 [(0, .ref (adr b 0 0)), (1, .int (jI a1)), (2, .int (jI a2)), (3, .int (jI a3)), (4, .int (jI a4))] := hl
  obtain ⟨H, hH⟩ : ∃ z, z = s.heap := ⟨_, rfl⟩
  obtain ⟨locs, hlo⟩ : ∃ z : List Loc, z = [] := ⟨_, rfl⟩
  have hR : Rel g b M H := by rw [hH]; exact hR
  have hS : va_S (AA b s.heap.size) s.heap H locs := by rw [hH, hlo]; exact hS
  suffices hW : W p l e rmTX3_lock s m args below meth c H locs 0 0 (vx_MQ below (fun _ _ _ _ => False) (XT g b E M s.heap.size) args s 1 6 (AA b s.heap.size)) (F0 m 0 ls []) by rw [hH, hlo] at hW; exact hW
  rw [T_X3_lock] at hF
  refine lv_aload_n hx hb dX3_lock_0 rfl (lv_at hl 0 rfl) ?_
  rcases xt_some hF with hT | ⟨-, hF⟩
  · exact x_tV (As := []) (rest := []) hx hb hml hown hlocks hts hK hTH hnt hR hS (t_X3_needPower hst  hT) wd189 wd191 ws1 wd1 wd192 hyX3_needPower ⟨rfl, rfl⟩ ⟨Nat.le_of_ble_eq_true rfl, Nat.le_of_ble_eq_true rfl⟩ hl.1 (Nat.le_of_ble_eq_true rfl) dX3_lock_1 ⟨Nat.le_of_ble_eq_true rfl, Nat.le_of_ble_eq_true rfl⟩ rfl
  obtain ⟨_, hc1, hF⟩ := xb1_some hF
  refine x_cVv (C := RX3) (T := TX3) (N := 9) (ci := 3) (As := []) (rest := []) hx hb hml hown hts hK hR hS (c_X3_needPower  hc1) ok0 rfl rfl wd189 wd191 ws1 wd1 wd192 hyX3_needPower ⟨rfl, rfl⟩ ⟨Nat.le_of_ble_eq_true rfl, Nat.le_of_ble_eq_true rfl⟩ hl.1 (Nat.le_of_ble_eq_true rfl) dX3_lock_1 ⟨Nat.zero_le _, Nat.zero_le _⟩ rfl (fun H locs hR hS => ?_)
  refine lv_aload_n hx hb dX3_lock_4 rfl (lv_at hl 0 rfl) ?_
  refine lv_iload_n hx hb dX3_lock_5 rfl (lv_at hl 1 rfl) ?_
  rcases xt_some hF with hT | ⟨-, hF⟩
  · exact x_tV (As := [.int (jI a1)]) (rest := []) hx hb hml hown hlocks hts hK hTH hnt hR hS (t_X3_needOpen hst ha1 hT) wd542 wd544 ws16 wd1 wd545 hyX3_needOpen ⟨rfl, rfl⟩ ⟨Nat.le_of_ble_eq_true rfl, Nat.le_of_ble_eq_true rfl⟩ hl.1 (Nat.le_of_ble_eq_true rfl) dX3_lock_6 ⟨Nat.le_of_ble_eq_true rfl, Nat.le_of_ble_eq_true rfl⟩ rfl
  obtain ⟨y3, hc2, hF⟩ := xb1_some hF
  refine x_cVr (C := RX3) (T := TX3) (N := 9) (ci := 3) (As := [.int (jI a1)]) (rest := []) hx hb hml hown hts hK hR hS (c_X3_needOpen ha1 hc2) ok0 rfl rfl wd542 wd544 ws16 wd1 wd545 hyX3_needOpen ⟨rfl, rfl⟩ ⟨Nat.le_of_ble_eq_true rfl, Nat.le_of_ble_eq_true rfl⟩ hl.1 (Nat.le_of_ble_eq_true rfl) dX3_lock_6 ⟨Nat.zero_le _, Nat.zero_le _⟩ rfl (fun hg4 H locs hR hS => ?_)
  have hj5 : y3 < 6 := lt11 hg4
  refine lv_astore (lv' := [(5, .ref (adr b 11 y3)), (0, .ref (adr b 0 0)), (1, .int (jI a1)), (2, .int (jI a2)), (3, .int (jI a3)), (4, .int (jI a4))]) hx hb dX3_lock_9 hl (by decide) rfl (fun ls hl => ?_)
  refine lv_aload_n hx hb dX3_lock_11 rfl (lv_at hl 1 rfl) ?_
  refine lv_iload_n hx hb dX3_lock_12 rfl (lv_at hl 3 rfl) ?_
  refine lv_iload_n hx hb dX3_lock_13 rfl (lv_at hl 4 rfl) ?_
  rcases xt_some hF with hT | ⟨-, hF⟩
  · exact x_tV (As := [.int (jI a2), .int (jI a3)]) (rest := []) hx hb hml hown hlocks hts hK hTH hnt hR hS (t_X3_needBytes hst ha2 ha3 hT) wd677 wd679 ws17 wd1 wd680 hyX3_needBytes ⟨rfl, rfl⟩ ⟨Nat.le_of_ble_eq_true rfl, Nat.le_of_ble_eq_true rfl⟩ hl.1 (Nat.le_of_ble_eq_true rfl) dX3_lock_14 ⟨Nat.le_of_ble_eq_true rfl, Nat.le_of_ble_eq_true rfl⟩ rfl
  obtain ⟨_, hc6, hF⟩ := xb1_some hF
  refine x_cVv (C := RX3) (T := TX3) (N := 9) (ci := 3) (As := [.int (jI a2), .int (jI a3)]) (rest := []) hx hb hml hown hts hK hR hS (c_X3_needBytes ha2 ha3 hc6) ok0 rfl rfl wd677 wd679 ws17 wd1 wd680 hyX3_needBytes ⟨rfl, rfl⟩ ⟨Nat.le_of_ble_eq_true rfl, Nat.le_of_ble_eq_true rfl⟩ hl.1 (Nat.le_of_ble_eq_true rfl) dX3_lock_14 ⟨Nat.zero_le _, Nat.zero_le _⟩ rfl (fun H locs hR hS => ?_)
  refine lv_aload_n hx hb dX3_lock_17 rfl (lv_at hl 1 rfl) ?_
  refine lv_iload_n hx hb dX3_lock_18 rfl (lv_at hl 2 rfl) ?_
  refine lv_iload_n hx hb dX3_lock_19 rfl (lv_at hl 3 rfl) ?_
  refine lv_iload_n hx hb dX3_lock_20 rfl (lv_at hl 4 rfl) ?_
  refine lv_iload hx hb dX3_lock_21 (lv_at hl 5 rfl) ?_
  rcases xt_some hF with hT | ⟨-, hF⟩
  · exact x_tV (As := [.int (jI a1), .int (jI a2), .int (jI a3), .int (jI a4)]) (rest := []) hx hb hml hown hlocks hts hK hTH hnt hR hS (t_X3_firstAgainst hst ha1 ha2 ha3 ha4 hT) wd681 wd683 ws18 wd1 wd684 hyX3_firstAgainst ⟨rfl, rfl⟩ ⟨Nat.le_of_ble_eq_true rfl, Nat.le_of_ble_eq_true rfl⟩ hl.1 (Nat.le_of_ble_eq_true rfl) dX3_lock_23 ⟨Nat.le_of_ble_eq_true rfl, Nat.le_of_ble_eq_true rfl⟩ rfl
  obtain ⟨y8, hc7, hF⟩ := xb1_some hF
  refine x_cVi (C := RX3) (T := TX3) (N := 9) (ci := 3) (As := [.int (jI a1), .int (jI a2), .int (jI a3), .int (jI a4)]) (rest := []) hx hb hml hown hts hK hR hS (c_X3_firstAgainst ha1 ha2 ha3 ha4 hc7) ok0 rfl rfl wd681 wd683 ws18 wd1 wd684 hyX3_firstAgainst ⟨rfl, rfl⟩ ⟨Nat.le_of_ble_eq_true rfl, Nat.le_of_ble_eq_true rfl⟩ hl.1 (Nat.le_of_ble_eq_true rfl) dX3_lock_23 ⟨Nat.zero_le _, Nat.zero_le _⟩ rfl (fun hg9 H locs hR hS => ?_)
  refine x_iconst hx hb dX3_lock_26 ?_
  refine x_icmp_eq (tgt := 32) hx hb hg9 (by decide : rg (-1 : Int)) dX3_lock_27 (by decide) (fun ci10 => ?_) (fun ci10 => ?_)
  · rw [if_pos ci10] at hF
    refine lv_aload hx hb dX3_lock_32 (lv_at hl 0 rfl) ?_
    refine lv_iload_n hx hb dX3_lock_34 rfl (lv_at hl 3 rfl) ?_
    refine lv_iload_n hx hb dX3_lock_35 rfl (lv_at hl 4 rfl) ?_
    refine lv_iload hx hb dX3_lock_36 (lv_at hl 5 rfl) ?_
    refine x_if_eq (tgt := 45) hx hb ha4 dX3_lock_38 (by decide) (fun ci11 => ?_) (fun ci11 => ?_)
    · rw [if_pos ci11] at hF
      refine x_iconst hx hb dX3_lock_45 ?_
      cases hF
    · rw [if_neg ci11] at hF
      refine x_iconst hx hb dX3_lock_41 ?_
      refine lv_goto (tgt := 46) hx hb dX3_lock_42 (by decide) ?_
      cases hF
  · rw [if_neg ci10] at hF
    refine x_iconst hx hb dX3_lock_30 ?_
    cases hF
abbrev rmTX3_unlock : Room := { frames := 8, cells := 1, slots := 6, locals := 135 }
def T_X3_unlock (M : Mm) (a1 : Int) (a2 : Int) (a3 : Int) : Option Nat := (xt (T_X3_needPower M ) (xb1 (F_X3_needPower M ) fun _ => (xt (T_X3_needOpen M a1) (xb1 (F_X3_needOpen M a1) fun y3 => (xt (T_X3_needBytes M a2 a3) (xb1 (F_X3_needBytes M a2 a3) fun _ => none))))))
set_option maxHeartbeats 4000000 in
set_option maxRecDepth 100000 in
theorem t_X3_unlock {l : Launch} {g : Gx} {b : Nat} {M : Mm} {a1 : Int} {a2 : Int} {a3 : Int} {E : Nat} (hst : l.stackTraces = false) (ha1 : rg a1) (ha2 : rg a2) (ha3 : rg a3) (hF : T_X3_unlock M a1 a2 a3 = some E) : Tt l yX3_unlock cX3_unlock 5 (some .int) rmTX3_unlock g b [.ref (adr b 0 0), .int (jI a1), .int (jI a2), .int (jI a3)] M E := by
  refine tt_of (by decide +kernel) (Nat.le_of_ble_eq_true rfl) ?_
  intro p e s m args below meth c C0 hTH hnt hR ls hl
  obtain ⟨hx, hb, hr, hlocks, hml, hown, hts, hK⟩ := id C0
  have hS : va_S (AA b s.heap.size) s.heap s.heap [] := va_S.rf
  have hl : lv_has ls 5 [(0, .ref (adr b 0 0)), (1, .int (jI a1)), (2, .int (jI a2)), (3, .int (jI a3))] := hl
  obtain ⟨H, hH⟩ : ∃ z, z = s.heap := ⟨_, rfl⟩
  obtain ⟨locs, hlo⟩ : ∃ z : List Loc, z = [] := ⟨_, rfl⟩
  have hR : Rel g b M H := by rw [hH]; exact hR
  have hS : va_S (AA b s.heap.size) s.heap H locs := by rw [hH, hlo]; exact hS
  suffices hW : W p l e rmTX3_unlock s m args below meth c H locs 0 0 (vx_MQ below (fun _ _ _ _ => False) (XT g b E M s.heap.size) args s 1 6 (AA b s.heap.size)) (F0 m 0 ls []) by rw [hH, hlo] at hW; exact hW
  rw [T_X3_unlock] at hF
  refine lv_aload_n hx hb dX3_unlock_0 rfl (lv_at hl 0 rfl) ?_
  rcases xt_some hF with hT | ⟨-, hF⟩
  · exact x_tV (As := []) (rest := []) hx hb hml hown hlocks hts hK hTH hnt hR hS (t_X3_needPower hst  hT) wd189 wd191 ws1 wd1 wd192 hyX3_needPower ⟨rfl, rfl⟩ ⟨Nat.le_of_ble_eq_true rfl, Nat.le_of_ble_eq_true rfl⟩ hl.1 (Nat.le_of_ble_eq_true rfl) dX3_unlock_1 ⟨Nat.le_of_ble_eq_true rfl, Nat.le_of_ble_eq_true rfl⟩ rfl
  obtain ⟨_, hc1, hF⟩ := xb1_some hF
  refine x_cVv (C := RX3) (T := TX3) (N := 9) (ci := 3) (As := []) (rest := []) hx hb hml hown hts hK hR hS (c_X3_needPower  hc1) ok0 rfl rfl wd189 wd191 ws1 wd1 wd192 hyX3_needPower ⟨rfl, rfl⟩ ⟨Nat.le_of_ble_eq_true rfl, Nat.le_of_ble_eq_true rfl⟩ hl.1 (Nat.le_of_ble_eq_true rfl) dX3_unlock_1 ⟨Nat.zero_le _, Nat.zero_le _⟩ rfl (fun H locs hR hS => ?_)
  refine lv_aload_n hx hb dX3_unlock_4 rfl (lv_at hl 0 rfl) ?_
  refine lv_iload_n hx hb dX3_unlock_5 rfl (lv_at hl 1 rfl) ?_
  rcases xt_some hF with hT | ⟨-, hF⟩
  · exact x_tV (As := [.int (jI a1)]) (rest := []) hx hb hml hown hlocks hts hK hTH hnt hR hS (t_X3_needOpen hst ha1 hT) wd542 wd544 ws16 wd1 wd545 hyX3_needOpen ⟨rfl, rfl⟩ ⟨Nat.le_of_ble_eq_true rfl, Nat.le_of_ble_eq_true rfl⟩ hl.1 (Nat.le_of_ble_eq_true rfl) dX3_unlock_6 ⟨Nat.le_of_ble_eq_true rfl, Nat.le_of_ble_eq_true rfl⟩ rfl
  obtain ⟨y3, hc2, hF⟩ := xb1_some hF
  refine x_cVr (C := RX3) (T := TX3) (N := 9) (ci := 3) (As := [.int (jI a1)]) (rest := []) hx hb hml hown hts hK hR hS (c_X3_needOpen ha1 hc2) ok0 rfl rfl wd542 wd544 ws16 wd1 wd545 hyX3_needOpen ⟨rfl, rfl⟩ ⟨Nat.le_of_ble_eq_true rfl, Nat.le_of_ble_eq_true rfl⟩ hl.1 (Nat.le_of_ble_eq_true rfl) dX3_unlock_6 ⟨Nat.zero_le _, Nat.zero_le _⟩ rfl (fun hg4 H locs hR hS => ?_)
  have hj5 : y3 < 6 := lt11 hg4
  refine lv_astore (lv' := [(4, .ref (adr b 11 y3)), (0, .ref (adr b 0 0)), (1, .int (jI a1)), (2, .int (jI a2)), (3, .int (jI a3))]) hx hb dX3_unlock_9 hl (by decide) rfl (fun ls hl => ?_)
  refine lv_aload_n hx hb dX3_unlock_11 rfl (lv_at hl 1 rfl) ?_
  refine lv_iload_n hx hb dX3_unlock_12 rfl (lv_at hl 3 rfl) ?_
  refine lv_iload_n hx hb dX3_unlock_13 rfl (lv_at hl 4 rfl) ?_
  rcases xt_some hF with hT | ⟨-, hF⟩
  · exact x_tV (As := [.int (jI a2), .int (jI a3)]) (rest := []) hx hb hml hown hlocks hts hK hTH hnt hR hS (t_X3_needBytes hst ha2 ha3 hT) wd677 wd679 ws17 wd1 wd680 hyX3_needBytes ⟨rfl, rfl⟩ ⟨Nat.le_of_ble_eq_true rfl, Nat.le_of_ble_eq_true rfl⟩ hl.1 (Nat.le_of_ble_eq_true rfl) dX3_unlock_14 ⟨Nat.le_of_ble_eq_true rfl, Nat.le_of_ble_eq_true rfl⟩ rfl
  obtain ⟨_, hc6, hF⟩ := xb1_some hF
  refine x_cVv (C := RX3) (T := TX3) (N := 9) (ci := 3) (As := [.int (jI a2), .int (jI a3)]) (rest := []) hx hb hml hown hts hK hR hS (c_X3_needBytes ha2 ha3 hc6) ok0 rfl rfl wd677 wd679 ws17 wd1 wd680 hyX3_needBytes ⟨rfl, rfl⟩ ⟨Nat.le_of_ble_eq_true rfl, Nat.le_of_ble_eq_true rfl⟩ hl.1 (Nat.le_of_ble_eq_true rfl) dX3_unlock_14 ⟨Nat.zero_le _, Nat.zero_le _⟩ rfl (fun H locs hR hS => ?_)
  refine lv_aload hx hb dX3_unlock_17 (lv_at hl 0 rfl) ?_
  refine lv_iload_n hx hb dX3_unlock_19 rfl (lv_at hl 3 rfl) ?_
  refine lv_iload_n hx hb dX3_unlock_20 rfl (lv_at hl 4 rfl) ?_
  refine x_iconst hx hb dX3_unlock_21 ?_
  cases hF
abbrev rmTX3_whoHinders : Room := { frames := 8, cells := 1, slots := 6, locals := 137 }
def T_X3_whoHinders (M : Mm) (a1 : Int) (a2 : Int) (a3 : Int) (a4 : Int) : Option Nat := (xt (T_X3_needPower M ) (xb1 (F_X3_needPower M ) fun _ => (xt (T_X3_needOpen M a1) (xb1 (F_X3_needOpen M a1) fun y3 => (xt (T_X3_needBytes M a2 a3) (xb1 (F_X3_needBytes M a2 a3) fun _ => (xt (T_X3_firstAgainst M a1 a2 a3 a4) (xb1 (F_X3_firstAgainst M a1 a2 a3 a4) fun y8 => none))))))))
set_option maxHeartbeats 4000000 in
set_option maxRecDepth 100000 in
theorem t_X3_whoHinders {l : Launch} {g : Gx} {b : Nat} {M : Mm} {a1 : Int} {a2 : Int} {a3 : Int} {a4 : Int} {E : Nat} (hst : l.stackTraces = false) (ha1 : rg a1) (ha2 : rg a2) (ha3 : rg a3) (ha4 : rg a4) (hF : T_X3_whoHinders M a1 a2 a3 a4 = some E) : Tt l yX3_whoHinders cX3_whoHinders 5 (some .int) rmTX3_whoHinders g b [.ref (adr b 0 0), .int (jI a1), .int (jI a2), .int (jI a3), .int (jI a4)] M E := by
  refine tt_of (by decide +kernel) (Nat.le_of_ble_eq_true rfl) ?_
  intro p e s m args below meth c C0 hTH hnt hR ls hl
  obtain ⟨hx, hb, hr, hlocks, hml, hown, hts, hK⟩ := id C0
  have hS : va_S (AA b s.heap.size) s.heap s.heap [] := va_S.rf
  have hl : lv_has ls 5 [(0, .ref (adr b 0 0)), (1, .int (jI a1)), (2, .int (jI a2)), (3, .int (jI a3)), (4, .int (jI a4))] := hl
  obtain ⟨H, hH⟩ : ∃ z, z = s.heap := ⟨_, rfl⟩
  obtain ⟨locs, hlo⟩ : ∃ z : List Loc, z = [] := ⟨_, rfl⟩
  have hR : Rel g b M H := by rw [hH]; exact hR
  have hS : va_S (AA b s.heap.size) s.heap H locs := by rw [hH, hlo]; exact hS
  suffices hW : W p l e rmTX3_whoHinders s m args below meth c H locs 0 0 (vx_MQ below (fun _ _ _ _ => False) (XT g b E M s.heap.size) args s 1 6 (AA b s.heap.size)) (F0 m 0 ls []) by rw [hH, hlo] at hW; exact hW
  rw [T_X3_whoHinders] at hF
  refine lv_aload_n hx hb dX3_whoHinders_0 rfl (lv_at hl 0 rfl) ?_
  rcases xt_some hF with hT | ⟨-, hF⟩
  · exact x_tV (As := []) (rest := []) hx hb hml hown hlocks hts hK hTH hnt hR hS (t_X3_needPower hst  hT) wd189 wd191 ws1 wd1 wd192 hyX3_needPower ⟨rfl, rfl⟩ ⟨Nat.le_of_ble_eq_true rfl, Nat.le_of_ble_eq_true rfl⟩ hl.1 (Nat.le_of_ble_eq_true rfl) dX3_whoHinders_1 ⟨Nat.le_of_ble_eq_true rfl, Nat.le_of_ble_eq_true rfl⟩ rfl
  obtain ⟨_, hc1, hF⟩ := xb1_some hF
  refine x_cVv (C := RX3) (T := TX3) (N := 9) (ci := 3) (As := []) (rest := []) hx hb hml hown hts hK hR hS (c_X3_needPower  hc1) ok0 rfl rfl wd189 wd191 ws1 wd1 wd192 hyX3_needPower ⟨rfl, rfl⟩ ⟨Nat.le_of_ble_eq_true rfl, Nat.le_of_ble_eq_true rfl⟩ hl.1 (Nat.le_of_ble_eq_true rfl) dX3_whoHinders_1 ⟨Nat.zero_le _, Nat.zero_le _⟩ rfl (fun H locs hR hS => ?_)
  refine lv_aload_n hx hb dX3_whoHinders_4 rfl (lv_at hl 0 rfl) ?_
  refine lv_iload_n hx hb dX3_whoHinders_5 rfl (lv_at hl 1 rfl) ?_
  rcases xt_some hF with hT | ⟨-, hF⟩
  · exact x_tV (As := [.int (jI a1)]) (rest := []) hx hb hml hown hlocks hts hK hTH hnt hR hS (t_X3_needOpen hst ha1 hT) wd542 wd544 ws16 wd1 wd545 hyX3_needOpen ⟨rfl, rfl⟩ ⟨Nat.le_of_ble_eq_true rfl, Nat.le_of_ble_eq_true rfl⟩ hl.1 (Nat.le_of_ble_eq_true rfl) dX3_whoHinders_6 ⟨Nat.le_of_ble_eq_true rfl, Nat.le_of_ble_eq_true rfl⟩ rfl
  obtain ⟨y3, hc2, hF⟩ := xb1_some hF
  refine x_cVr (C := RX3) (T := TX3) (N := 9) (ci := 3) (As := [.int (jI a1)]) (rest := []) hx hb hml hown hts hK hR hS (c_X3_needOpen ha1 hc2) ok0 rfl rfl wd542 wd544 ws16 wd1 wd545 hyX3_needOpen ⟨rfl, rfl⟩ ⟨Nat.le_of_ble_eq_true rfl, Nat.le_of_ble_eq_true rfl⟩ hl.1 (Nat.le_of_ble_eq_true rfl) dX3_whoHinders_6 ⟨Nat.zero_le _, Nat.zero_le _⟩ rfl (fun hg4 H locs hR hS => ?_)
  have hj5 : y3 < 6 := lt11 hg4
  refine lv_pop hx hb dX3_whoHinders_9 rfl ?_
  refine lv_aload_n hx hb dX3_whoHinders_10 rfl (lv_at hl 0 rfl) ?_
  refine lv_iload_n hx hb dX3_whoHinders_11 rfl (lv_at hl 2 rfl) ?_
  refine lv_iload_n hx hb dX3_whoHinders_12 rfl (lv_at hl 3 rfl) ?_
  rcases xt_some hF with hT | ⟨-, hF⟩
  · exact x_tV (As := [.int (jI a2), .int (jI a3)]) (rest := []) hx hb hml hown hlocks hts hK hTH hnt hR hS (t_X3_needBytes hst ha2 ha3 hT) wd677 wd679 ws17 wd1 wd680 hyX3_needBytes ⟨rfl, rfl⟩ ⟨Nat.le_of_ble_eq_true rfl, Nat.le_of_ble_eq_true rfl⟩ hl.1 (Nat.le_of_ble_eq_true rfl) dX3_whoHinders_13 ⟨Nat.le_of_ble_eq_true rfl, Nat.le_of_ble_eq_true rfl⟩ rfl
  obtain ⟨_, hc6, hF⟩ := xb1_some hF
  refine x_cVv (C := RX3) (T := TX3) (N := 9) (ci := 3) (As := [.int (jI a2), .int (jI a3)]) (rest := []) hx hb hml hown hts hK hR hS (c_X3_needBytes ha2 ha3 hc6) ok0 rfl rfl wd677 wd679 ws17 wd1 wd680 hyX3_needBytes ⟨rfl, rfl⟩ ⟨Nat.le_of_ble_eq_true rfl, Nat.le_of_ble_eq_true rfl⟩ hl.1 (Nat.le_of_ble_eq_true rfl) dX3_whoHinders_13 ⟨Nat.zero_le _, Nat.zero_le _⟩ rfl (fun H locs hR hS => ?_)
  refine lv_aload_n hx hb dX3_whoHinders_16 rfl (lv_at hl 0 rfl) ?_
  refine lv_iload_n hx hb dX3_whoHinders_17 rfl (lv_at hl 1 rfl) ?_
  refine lv_iload_n hx hb dX3_whoHinders_18 rfl (lv_at hl 2 rfl) ?_
  refine lv_iload_n hx hb dX3_whoHinders_19 rfl (lv_at hl 3 rfl) ?_
  refine lv_iload hx hb dX3_whoHinders_20 (lv_at hl 4 rfl) ?_
  rcases xt_some hF with hT | ⟨-, hF⟩
  · exact x_tV (As := [.int (jI a1), .int (jI a2), .int (jI a3), .int (jI a4)]) (rest := []) hx hb hml hown hlocks hts hK hTH hnt hR hS (t_X3_firstAgainst hst ha1 ha2 ha3 ha4 hT) wd681 wd683 ws18 wd1 wd684 hyX3_firstAgainst ⟨rfl, rfl⟩ ⟨Nat.le_of_ble_eq_true rfl, Nat.le_of_ble_eq_true rfl⟩ hl.1 (Nat.le_of_ble_eq_true rfl) dX3_whoHinders_22 ⟨Nat.le_of_ble_eq_true rfl, Nat.le_of_ble_eq_true rfl⟩ rfl
  obtain ⟨y8, hc7, hF⟩ := xb1_some hF
  refine x_cVi (C := RX3) (T := TX3) (N := 9) (ci := 3) (As := [.int (jI a1), .int (jI a2), .int (jI a3), .int (jI a4)]) (rest := []) hx hb hml hown hts hK hR hS (c_X3_firstAgainst ha1 ha2 ha3 ha4 hc7) ok0 rfl rfl wd681 wd683 ws18 wd1 wd684 hyX3_firstAgainst ⟨rfl, rfl⟩ ⟨Nat.le_of_ble_eq_true rfl, Nat.le_of_ble_eq_true rfl⟩ hl.1 (Nat.le_of_ble_eq_true rfl) dX3_whoHinders_22 ⟨Nat.zero_le _, Nat.zero_le _⟩ rfl (fun hg9 H locs hR hS => ?_)
  cases hF
abbrev rmTX3_lockRows : Room := { frames := 7, cells := 1, slots := 6, locals := 111 }
def T_X3_lockRows (M : Mm) (a1 : Int) : Option Nat := (xt (T_X3_needPower M ) (xb1 (F_X3_needPower M ) fun _ => (xt (T_X3_needOpen M a1) (xb1 (F_X3_needOpen M a1) fun y3 => (xb1 (F_X0_rows M y3) fun y7 => none)))))
set_option maxHeartbeats 4000000 in
set_option maxRecDepth 100000 in
theorem t_X3_lockRows {l : Launch} {g : Gx} {b : Nat} {M : Mm} {a1 : Int} {E : Nat} (hst : l.stackTraces = false) (ha1 : rg a1) (hF : T_X3_lockRows M a1 = some E) : Tt l yX3_lockRows cX3_lockRows 2 (some .int) rmTX3_lockRows g b [.ref (adr b 0 0), .int (jI a1)] M E := by
  refine tt_of (by decide +kernel) (Nat.le_of_ble_eq_true rfl) ?_
  intro p e s m args below meth c C0 hTH hnt hR ls hl
  obtain ⟨hx, hb, hr, hlocks, hml, hown, hts, hK⟩ := id C0
  have hS : va_S (AA b s.heap.size) s.heap s.heap [] := va_S.rf
  have hl : lv_has ls 2 [(0, .ref (adr b 0 0)), (1, .int (jI a1))] := hl
  obtain ⟨H, hH⟩ : ∃ z, z = s.heap := ⟨_, rfl⟩
  obtain ⟨locs, hlo⟩ : ∃ z : List Loc, z = [] := ⟨_, rfl⟩
  have hR : Rel g b M H := by rw [hH]; exact hR
  have hS : va_S (AA b s.heap.size) s.heap H locs := by rw [hH, hlo]; exact hS
  suffices hW : W p l e rmTX3_lockRows s m args below meth c H locs 0 0 (vx_MQ below (fun _ _ _ _ => False) (XT g b E M s.heap.size) args s 1 6 (AA b s.heap.size)) (F0 m 0 ls []) by rw [hH, hlo] at hW; exact hW
  rw [T_X3_lockRows] at hF
  refine lv_aload_n hx hb dX3_lockRows_0 rfl (lv_at hl 0 rfl) ?_
  rcases xt_some hF with hT | ⟨-, hF⟩
  · exact x_tV (As := []) (rest := []) hx hb hml hown hlocks hts hK hTH hnt hR hS (t_X3_needPower hst  hT) wd189 wd191 ws1 wd1 wd192 hyX3_needPower ⟨rfl, rfl⟩ ⟨Nat.le_of_ble_eq_true rfl, Nat.le_of_ble_eq_true rfl⟩ hl.1 (Nat.le_of_ble_eq_true rfl) dX3_lockRows_1 ⟨Nat.le_of_ble_eq_true rfl, Nat.le_of_ble_eq_true rfl⟩ rfl
  obtain ⟨_, hc1, hF⟩ := xb1_some hF
  refine x_cVv (C := RX3) (T := TX3) (N := 9) (ci := 3) (As := []) (rest := []) hx hb hml hown hts hK hR hS (c_X3_needPower  hc1) ok0 rfl rfl wd189 wd191 ws1 wd1 wd192 hyX3_needPower ⟨rfl, rfl⟩ ⟨Nat.le_of_ble_eq_true rfl, Nat.le_of_ble_eq_true rfl⟩ hl.1 (Nat.le_of_ble_eq_true rfl) dX3_lockRows_1 ⟨Nat.zero_le _, Nat.zero_le _⟩ rfl (fun H locs hR hS => ?_)
  refine lv_aload_n hx hb dX3_lockRows_4 rfl (lv_at hl 0 rfl) ?_
  refine lv_iload_n hx hb dX3_lockRows_5 rfl (lv_at hl 1 rfl) ?_
  rcases xt_some hF with hT | ⟨-, hF⟩
  · exact x_tV (As := [.int (jI a1)]) (rest := []) hx hb hml hown hlocks hts hK hTH hnt hR hS (t_X3_needOpen hst ha1 hT) wd542 wd544 ws16 wd1 wd545 hyX3_needOpen ⟨rfl, rfl⟩ ⟨Nat.le_of_ble_eq_true rfl, Nat.le_of_ble_eq_true rfl⟩ hl.1 (Nat.le_of_ble_eq_true rfl) dX3_lockRows_6 ⟨Nat.le_of_ble_eq_true rfl, Nat.le_of_ble_eq_true rfl⟩ rfl
  obtain ⟨y3, hc2, hF⟩ := xb1_some hF
  refine x_cVr (C := RX3) (T := TX3) (N := 9) (ci := 3) (As := [.int (jI a1)]) (rest := []) hx hb hml hown hts hK hR hS (c_X3_needOpen ha1 hc2) ok0 rfl rfl wd542 wd544 ws16 wd1 wd545 hyX3_needOpen ⟨rfl, rfl⟩ ⟨Nat.le_of_ble_eq_true rfl, Nat.le_of_ble_eq_true rfl⟩ hl.1 (Nat.le_of_ble_eq_true rfl) dX3_lockRows_6 ⟨Nat.zero_le _, Nat.zero_le _⟩ rfl (fun hg4 H locs hR hS => ?_)
  have hj5 : y3 < 6 := lt11 hg4
  obtain ⟨y7, hc6, hF⟩ := xb1_some hF
  refine x_cVi (C := RX0) (T := TX0) (N := 4) (ci := 0) (As := []) (rest := []) hx hb hml hown hts hK hR hS (c_X0_rows hj5 hc6) (ok11 hj5) rfl rfl wd715 wd716 wd717 wd4 wd718 hyX0_rows ⟨rfl, rfl⟩ ⟨Nat.le_of_ble_eq_true rfl, Nat.le_of_ble_eq_true rfl⟩ hl.1 (Nat.le_of_ble_eq_true rfl) dX3_lockRows_9 ⟨Nat.zero_le _, Nat.zero_le _⟩ rfl (fun hg8 H locs hR hS => ?_)
  cases hF
abbrev rmTX3_lockAt : Room := { frames := 7, cells := 1, slots := 6, locals := 113 }
def T_X3_lockAt (M : Mm) (a1 : Int) (a2 : Int) : Option Nat := (xt (T_X3_needPower M ) (xb1 (F_X3_needPower M ) fun _ => (xt (T_X3_needNode M a1) (xb1 (F_X3_needNode M a1) fun _ => (xt (T_X3_needRange M a2 (0 : Int) (319 : Int)) (xb1 (F_X3_needRange M a2 (0 : Int) (319 : Int)) fun _ => none))))))
set_option maxHeartbeats 4000000 in
set_option maxRecDepth 100000 in
theorem t_X3_lockAt {l : Launch} {g : Gx} {b : Nat} {M : Mm} {a1 : Int} {a2 : Int} {E : Nat} (hst : l.stackTraces = false) (ha1 : rg a1) (ha2 : rg a2) (hF : T_X3_lockAt M a1 a2 = some E) : Tt l yX3_lockAt cX3_lockAt 5 (some .int) rmTX3_lockAt g b [.ref (adr b 0 0), .int (jI a1), .int (jI a2)] M E := by
  refine tt_of (by decide +kernel) (Nat.le_of_ble_eq_true rfl) ?_
  intro p e s m args below meth c C0 hTH hnt hR ls hl
  obtain ⟨hx, hb, hr, hlocks, hml, hown, hts, hK⟩ := id C0
  have hS : va_S (AA b s.heap.size) s.heap s.heap [] := va_S.rf
  have hl : lv_has ls 5 [(0, .ref (adr b 0 0)), (1, .int (jI a1)), (2, .int (jI a2))] := hl
  obtain ⟨H, hH⟩ : ∃ z, z = s.heap := ⟨_, rfl⟩
  obtain ⟨locs, hlo⟩ : ∃ z : List Loc, z = [] := ⟨_, rfl⟩
  have hR : Rel g b M H := by rw [hH]; exact hR
  have hS : va_S (AA b s.heap.size) s.heap H locs := by rw [hH, hlo]; exact hS
  suffices hW : W p l e rmTX3_lockAt s m args below meth c H locs 0 0 (vx_MQ below (fun _ _ _ _ => False) (XT g b E M s.heap.size) args s 1 6 (AA b s.heap.size)) (F0 m 0 ls []) by rw [hH, hlo] at hW; exact hW
  rw [T_X3_lockAt] at hF
  refine lv_aload_n hx hb dX3_lockAt_0 rfl (lv_at hl 0 rfl) ?_
  rcases xt_some hF with hT | ⟨-, hF⟩
  · exact x_tV (As := []) (rest := []) hx hb hml hown hlocks hts hK hTH hnt hR hS (t_X3_needPower hst  hT) wd189 wd191 ws1 wd1 wd192 hyX3_needPower ⟨rfl, rfl⟩ ⟨Nat.le_of_ble_eq_true rfl, Nat.le_of_ble_eq_true rfl⟩ hl.1 (Nat.le_of_ble_eq_true rfl) dX3_lockAt_1 ⟨Nat.le_of_ble_eq_true rfl, Nat.le_of_ble_eq_true rfl⟩ rfl
  obtain ⟨_, hc1, hF⟩ := xb1_some hF
  refine x_cVv (C := RX3) (T := TX3) (N := 9) (ci := 3) (As := []) (rest := []) hx hb hml hown hts hK hR hS (c_X3_needPower  hc1) ok0 rfl rfl wd189 wd191 ws1 wd1 wd192 hyX3_needPower ⟨rfl, rfl⟩ ⟨Nat.le_of_ble_eq_true rfl, Nat.le_of_ble_eq_true rfl⟩ hl.1 (Nat.le_of_ble_eq_true rfl) dX3_lockAt_1 ⟨Nat.zero_le _, Nat.zero_le _⟩ rfl (fun H locs hR hS => ?_)
  refine lv_aload_n hx hb dX3_lockAt_4 rfl (lv_at hl 0 rfl) ?_
  refine lv_iload_n hx hb dX3_lockAt_5 rfl (lv_at hl 1 rfl) ?_
  rcases xt_some hF with hT | ⟨-, hF⟩
  · exact x_tV (As := [.int (jI a1)]) (rest := []) hx hb hml hown hlocks hts hK hTH hnt hR hS (t_X3_needNode hst ha1 hT) wd261 wd263 ws3 wd1 wd264 hyX3_needNode ⟨rfl, rfl⟩ ⟨Nat.le_of_ble_eq_true rfl, Nat.le_of_ble_eq_true rfl⟩ hl.1 (Nat.le_of_ble_eq_true rfl) dX3_lockAt_6 ⟨Nat.le_of_ble_eq_true rfl, Nat.le_of_ble_eq_true rfl⟩ rfl
  obtain ⟨_, hc2, hF⟩ := xb1_some hF
  refine x_cVv (C := RX3) (T := TX3) (N := 9) (ci := 3) (As := [.int (jI a1)]) (rest := []) hx hb hml hown hts hK hR hS (c_X3_needNode ha1 hc2) ok0 rfl rfl wd261 wd263 ws3 wd1 wd264 hyX3_needNode ⟨rfl, rfl⟩ ⟨Nat.le_of_ble_eq_true rfl, Nat.le_of_ble_eq_true rfl⟩ hl.1 (Nat.le_of_ble_eq_true rfl) dX3_lockAt_6 ⟨Nat.zero_le _, Nat.zero_le _⟩ rfl (fun H locs hR hS => ?_)
  refine lv_aload_n hx hb dX3_lockAt_9 rfl (lv_at hl 0 rfl) ?_
  refine lv_iload_n hx hb dX3_lockAt_10 rfl (lv_at hl 2 rfl) ?_
  refine x_iconst hx hb dX3_lockAt_11 ?_
  refine x_sipush hx hb (by decide +kernel) dX3_lockAt_12 ?_
  rcases xt_some hF with hT | ⟨-, hF⟩
  · exact x_tV (As := [.int (jI a2), .int (jI (0 : Int)), .int (jI (319 : Int))]) (rest := []) hx hb hml hown hlocks hts hK hTH hnt hR hS (t_X3_needRange hst ha2 (by decide : rg (0 : Int)) (by decide : rg (319 : Int)) hT) wd285 wd287 ws4 wd1 wd288 hyX3_needRange ⟨rfl, rfl⟩ ⟨Nat.le_of_ble_eq_true rfl, Nat.le_of_ble_eq_true rfl⟩ hl.1 (Nat.le_of_ble_eq_true rfl) dX3_lockAt_15 ⟨Nat.le_of_ble_eq_true rfl, Nat.le_of_ble_eq_true rfl⟩ rfl
  obtain ⟨_, hc3, hF⟩ := xb1_some hF
  refine x_cVv (C := RX3) (T := TX3) (N := 9) (ci := 3) (As := [.int (jI a2), .int (jI (0 : Int)), .int (jI (319 : Int))]) (rest := []) hx hb hml hown hts hK hR hS (c_X3_needRange ha2 (by decide : rg (0 : Int)) (by decide : rg (319 : Int)) hc3) ok0 rfl rfl wd285 wd287 ws4 wd1 wd288 hyX3_needRange ⟨rfl, rfl⟩ ⟨Nat.le_of_ble_eq_true rfl, Nat.le_of_ble_eq_true rfl⟩ hl.1 (Nat.le_of_ble_eq_true rfl) dX3_lockAt_15 ⟨Nat.zero_le _, Nat.zero_le _⟩ rfl (fun H locs hR hS => ?_)
  refine x_iconst hx hb dX3_lockAt_18 ?_
  refine lv_istore_n (lv' := [(3, .int (jI (0 : Int))), (0, .ref (adr b 0 0)), (1, .int (jI a1)), (2, .int (jI a2))]) hx hb dX3_lockAt_19 rfl hl (by decide) rfl (fun ls hl => ?_)
  refine x_iconst hx hb dX3_lockAt_20 ?_
  refine lv_istore (lv' := [(4, .int (jI (0 : Int))), (3, .int (jI (0 : Int))), (0, .ref (adr b 0 0)), (1, .int (jI a1)), (2, .int (jI a2))]) hx hb dX3_lockAt_21 hl (by decide) rfl (fun ls hl => ?_)
  cases hF
abbrev rmTX3_nodeOf : Room := { frames := 7, cells := 1, slots := 6, locals := 111 }
def T_X3_nodeOf (M : Mm) (a1 : Int) : Option Nat := (xt (T_X3_needPower M ) (xb1 (F_X3_needPower M ) fun _ => (xt (T_X3_needOpen M a1) (xb1 (F_X3_needOpen M a1) fun y3 => none))))
set_option maxHeartbeats 4000000 in
set_option maxRecDepth 100000 in
theorem t_X3_nodeOf {l : Launch} {g : Gx} {b : Nat} {M : Mm} {a1 : Int} {E : Nat} (hst : l.stackTraces = false) (ha1 : rg a1) (hF : T_X3_nodeOf M a1 = some E) : Tt l yX3_nodeOf cX3_nodeOf 2 (some .int) rmTX3_nodeOf g b [.ref (adr b 0 0), .int (jI a1)] M E := by
  refine tt_of (by decide +kernel) (Nat.le_of_ble_eq_true rfl) ?_
  intro p e s m args below meth c C0 hTH hnt hR ls hl
  obtain ⟨hx, hb, hr, hlocks, hml, hown, hts, hK⟩ := id C0
  have hS : va_S (AA b s.heap.size) s.heap s.heap [] := va_S.rf
  have hl : lv_has ls 2 [(0, .ref (adr b 0 0)), (1, .int (jI a1))] := hl
  obtain ⟨H, hH⟩ : ∃ z, z = s.heap := ⟨_, rfl⟩
  obtain ⟨locs, hlo⟩ : ∃ z : List Loc, z = [] := ⟨_, rfl⟩
  have hR : Rel g b M H := by rw [hH]; exact hR
  have hS : va_S (AA b s.heap.size) s.heap H locs := by rw [hH, hlo]; exact hS
  suffices hW : W p l e rmTX3_nodeOf s m args below meth c H locs 0 0 (vx_MQ below (fun _ _ _ _ => False) (XT g b E M s.heap.size) args s 1 6 (AA b s.heap.size)) (F0 m 0 ls []) by rw [hH, hlo] at hW; exact hW
  rw [T_X3_nodeOf] at hF
  refine lv_aload_n hx hb dX3_nodeOf_0 rfl (lv_at hl 0 rfl) ?_
  rcases xt_some hF with hT | ⟨-, hF⟩
  · exact x_tV (As := []) (rest := []) hx hb hml hown hlocks hts hK hTH hnt hR hS (t_X3_needPower hst  hT) wd189 wd191 ws1 wd1 wd192 hyX3_needPower ⟨rfl, rfl⟩ ⟨Nat.le_of_ble_eq_true rfl, Nat.le_of_ble_eq_true rfl⟩ hl.1 (Nat.le_of_ble_eq_true rfl) dX3_nodeOf_1 ⟨Nat.le_of_ble_eq_true rfl, Nat.le_of_ble_eq_true rfl⟩ rfl
  obtain ⟨_, hc1, hF⟩ := xb1_some hF
  refine x_cVv (C := RX3) (T := TX3) (N := 9) (ci := 3) (As := []) (rest := []) hx hb hml hown hts hK hR hS (c_X3_needPower  hc1) ok0 rfl rfl wd189 wd191 ws1 wd1 wd192 hyX3_needPower ⟨rfl, rfl⟩ ⟨Nat.le_of_ble_eq_true rfl, Nat.le_of_ble_eq_true rfl⟩ hl.1 (Nat.le_of_ble_eq_true rfl) dX3_nodeOf_1 ⟨Nat.zero_le _, Nat.zero_le _⟩ rfl (fun H locs hR hS => ?_)
  refine lv_aload_n hx hb dX3_nodeOf_4 rfl (lv_at hl 0 rfl) ?_
  refine lv_iload_n hx hb dX3_nodeOf_5 rfl (lv_at hl 1 rfl) ?_
  rcases xt_some hF with hT | ⟨-, hF⟩
  · exact x_tV (As := [.int (jI a1)]) (rest := []) hx hb hml hown hlocks hts hK hTH hnt hR hS (t_X3_needOpen hst ha1 hT) wd542 wd544 ws16 wd1 wd545 hyX3_needOpen ⟨rfl, rfl⟩ ⟨Nat.le_of_ble_eq_true rfl, Nat.le_of_ble_eq_true rfl⟩ hl.1 (Nat.le_of_ble_eq_true rfl) dX3_nodeOf_6 ⟨Nat.le_of_ble_eq_true rfl, Nat.le_of_ble_eq_true rfl⟩ rfl
  obtain ⟨y3, hc2, hF⟩ := xb1_some hF
  refine x_cVr (C := RX3) (T := TX3) (N := 9) (ci := 3) (As := [.int (jI a1)]) (rest := []) hx hb hml hown hts hK hR hS (c_X3_needOpen ha1 hc2) ok0 rfl rfl wd542 wd544 ws16 wd1 wd545 hyX3_needOpen ⟨rfl, rfl⟩ ⟨Nat.le_of_ble_eq_true rfl, Nat.le_of_ble_eq_true rfl⟩ hl.1 (Nat.le_of_ble_eq_true rfl) dX3_nodeOf_6 ⟨Nat.zero_le _, Nat.zero_le _⟩ rfl (fun hg4 H locs hR hS => ?_)
  have hj5 : y3 < 6 := lt11 hg4
  refine gf_0_1 hx hb hts hown hK hR hj5 wd126 dX3_nodeOf_9 ?_
  have hg6 : rg (M 11 y3 1) := hR.2 11 y3 1 (by decide)
  cases hF
abbrev rmTX3_positionOf : Room := { frames := 7, cells := 1, slots := 6, locals := 111 }
def T_X3_positionOf (M : Mm) (a1 : Int) : Option Nat := (xt (T_X3_needPower M ) (xb1 (F_X3_needPower M ) fun _ => (xt (T_X3_needOpen M a1) (xb1 (F_X3_needOpen M a1) fun y3 => none))))
set_option maxHeartbeats 4000000 in
set_option maxRecDepth 100000 in
theorem t_X3_positionOf {l : Launch} {g : Gx} {b : Nat} {M : Mm} {a1 : Int} {E : Nat} (hst : l.stackTraces = false) (ha1 : rg a1) (hF : T_X3_positionOf M a1 = some E) : Tt l yX3_positionOf cX3_positionOf 2 (some .int) rmTX3_positionOf g b [.ref (adr b 0 0), .int (jI a1)] M E := by
  refine tt_of (by decide +kernel) (Nat.le_of_ble_eq_true rfl) ?_
  intro p e s m args below meth c C0 hTH hnt hR ls hl
  obtain ⟨hx, hb, hr, hlocks, hml, hown, hts, hK⟩ := id C0
  have hS : va_S (AA b s.heap.size) s.heap s.heap [] := va_S.rf
  have hl : lv_has ls 2 [(0, .ref (adr b 0 0)), (1, .int (jI a1))] := hl
  obtain ⟨H, hH⟩ : ∃ z, z = s.heap := ⟨_, rfl⟩
  obtain ⟨locs, hlo⟩ : ∃ z : List Loc, z = [] := ⟨_, rfl⟩
  have hR : Rel g b M H := by rw [hH]; exact hR
  have hS : va_S (AA b s.heap.size) s.heap H locs := by rw [hH, hlo]; exact hS
  suffices hW : W p l e rmTX3_positionOf s m args below meth c H locs 0 0 (vx_MQ below (fun _ _ _ _ => False) (XT g b E M s.heap.size) args s 1 6 (AA b s.heap.size)) (F0 m 0 ls []) by rw [hH, hlo] at hW; exact hW
  rw [T_X3_positionOf] at hF
  refine lv_aload_n hx hb dX3_positionOf_0 rfl (lv_at hl 0 rfl) ?_
  rcases xt_some hF with hT | ⟨-, hF⟩
  · exact x_tV (As := []) (rest := []) hx hb hml hown hlocks hts hK hTH hnt hR hS (t_X3_needPower hst  hT) wd189 wd191 ws1 wd1 wd192 hyX3_needPower ⟨rfl, rfl⟩ ⟨Nat.le_of_ble_eq_true rfl, Nat.le_of_ble_eq_true rfl⟩ hl.1 (Nat.le_of_ble_eq_true rfl) dX3_positionOf_1 ⟨Nat.le_of_ble_eq_true rfl, Nat.le_of_ble_eq_true rfl⟩ rfl
  obtain ⟨_, hc1, hF⟩ := xb1_some hF
  refine x_cVv (C := RX3) (T := TX3) (N := 9) (ci := 3) (As := []) (rest := []) hx hb hml hown hts hK hR hS (c_X3_needPower  hc1) ok0 rfl rfl wd189 wd191 ws1 wd1 wd192 hyX3_needPower ⟨rfl, rfl⟩ ⟨Nat.le_of_ble_eq_true rfl, Nat.le_of_ble_eq_true rfl⟩ hl.1 (Nat.le_of_ble_eq_true rfl) dX3_positionOf_1 ⟨Nat.zero_le _, Nat.zero_le _⟩ rfl (fun H locs hR hS => ?_)
  refine lv_aload_n hx hb dX3_positionOf_4 rfl (lv_at hl 0 rfl) ?_
  refine lv_iload_n hx hb dX3_positionOf_5 rfl (lv_at hl 1 rfl) ?_
  rcases xt_some hF with hT | ⟨-, hF⟩
  · exact x_tV (As := [.int (jI a1)]) (rest := []) hx hb hml hown hlocks hts hK hTH hnt hR hS (t_X3_needOpen hst ha1 hT) wd542 wd544 ws16 wd1 wd545 hyX3_needOpen ⟨rfl, rfl⟩ ⟨Nat.le_of_ble_eq_true rfl, Nat.le_of_ble_eq_true rfl⟩ hl.1 (Nat.le_of_ble_eq_true rfl) dX3_positionOf_6 ⟨Nat.le_of_ble_eq_true rfl, Nat.le_of_ble_eq_true rfl⟩ rfl
  obtain ⟨y3, hc2, hF⟩ := xb1_some hF
  refine x_cVr (C := RX3) (T := TX3) (N := 9) (ci := 3) (As := [.int (jI a1)]) (rest := []) hx hb hml hown hts hK hR hS (c_X3_needOpen ha1 hc2) ok0 rfl rfl wd542 wd544 ws16 wd1 wd545 hyX3_needOpen ⟨rfl, rfl⟩ ⟨Nat.le_of_ble_eq_true rfl, Nat.le_of_ble_eq_true rfl⟩ hl.1 (Nat.le_of_ble_eq_true rfl) dX3_positionOf_6 ⟨Nat.zero_le _, Nat.zero_le _⟩ rfl (fun hg4 H locs hR hS => ?_)
  have hj5 : y3 < 6 := lt11 hg4
  refine gf_0_2 hx hb hts hown hK hR hj5 wd128 dX3_positionOf_9 ?_
  have hg6 : rg (M 11 y3 2) := hR.2 11 y3 2 (by decide)
  cases hF
abbrev rmTX3_handles : Room := { frames := 7, cells := 1, slots := 6, locals := 110 }
def T_X3_handles (M : Mm) : Option Nat := (xt (T_X3_needPower M ) (xb1 (F_X3_needPower M ) fun _ => none))
set_option maxHeartbeats 4000000 in
set_option maxRecDepth 100000 in
theorem t_X3_handles {l : Launch} {g : Gx} {b : Nat} {M : Mm} {E : Nat} (hst : l.stackTraces = false) (hF : T_X3_handles M  = some E) : Tt l yX3_handles cX3_handles 3 (some .int) rmTX3_handles g b [.ref (adr b 0 0)] M E := by
  refine tt_of (by decide +kernel) (Nat.le_of_ble_eq_true rfl) ?_
  intro p e s m args below meth c C0 hTH hnt hR ls hl
  obtain ⟨hx, hb, hr, hlocks, hml, hown, hts, hK⟩ := id C0
  have hS : va_S (AA b s.heap.size) s.heap s.heap [] := va_S.rf
  have hl : lv_has ls 3 [(0, .ref (adr b 0 0))] := hl
  obtain ⟨H, hH⟩ : ∃ z, z = s.heap := ⟨_, rfl⟩
  obtain ⟨locs, hlo⟩ : ∃ z : List Loc, z = [] := ⟨_, rfl⟩
  have hR : Rel g b M H := by rw [hH]; exact hR
  have hS : va_S (AA b s.heap.size) s.heap H locs := by rw [hH, hlo]; exact hS
  suffices hW : W p l e rmTX3_handles s m args below meth c H locs 0 0 (vx_MQ below (fun _ _ _ _ => False) (XT g b E M s.heap.size) args s 1 6 (AA b s.heap.size)) (F0 m 0 ls []) by rw [hH, hlo] at hW; exact hW
  rw [T_X3_handles] at hF
  refine lv_aload_n hx hb dX3_handles_0 rfl (lv_at hl 0 rfl) ?_
  rcases xt_some hF with hT | ⟨-, hF⟩
  · exact x_tV (As := []) (rest := []) hx hb hml hown hlocks hts hK hTH hnt hR hS (t_X3_needPower hst  hT) wd189 wd191 ws1 wd1 wd192 hyX3_needPower ⟨rfl, rfl⟩ ⟨Nat.le_of_ble_eq_true rfl, Nat.le_of_ble_eq_true rfl⟩ hl.1 (Nat.le_of_ble_eq_true rfl) dX3_handles_1 ⟨Nat.le_of_ble_eq_true rfl, Nat.le_of_ble_eq_true rfl⟩ rfl
  obtain ⟨_, hc1, hF⟩ := xb1_some hF
  refine x_cVv (C := RX3) (T := TX3) (N := 9) (ci := 3) (As := []) (rest := []) hx hb hml hown hts hK hR hS (c_X3_needPower  hc1) ok0 rfl rfl wd189 wd191 ws1 wd1 wd192 hyX3_needPower ⟨rfl, rfl⟩ ⟨Nat.le_of_ble_eq_true rfl, Nat.le_of_ble_eq_true rfl⟩ hl.1 (Nat.le_of_ble_eq_true rfl) dX3_handles_1 ⟨Nat.zero_le _, Nat.zero_le _⟩ rfl (fun H locs hR hS => ?_)
  refine x_iconst hx hb dX3_handles_4 ?_
  refine lv_istore_n (lv' := [(1, .int (jI (0 : Int))), (0, .ref (adr b 0 0))]) hx hb dX3_handles_5 rfl hl (by decide) rfl (fun ls hl => ?_)
  refine x_iconst hx hb dX3_handles_6 ?_
  refine lv_istore_n (lv' := [(2, .int (jI (0 : Int))), (1, .int (jI (0 : Int))), (0, .ref (adr b 0 0))]) hx hb dX3_handles_7 rfl hl (by decide) rfl (fun ls hl => ?_)
  cases hF
abbrev rmTX3_sync : Room := { frames := 7, cells := 1, slots := 6, locals := 110 }
def T_X3_sync (M : Mm) : Option Nat := (xt (T_X3_needPower M ) (xb1 (F_X3_needPower M ) fun _ => (if (M 0 0 4) = 0 then none else none)))
set_option maxHeartbeats 4000000 in
set_option maxRecDepth 100000 in
theorem t_X3_sync {l : Launch} {g : Gx} {b : Nat} {M : Mm} {E : Nat} (hst : l.stackTraces = false) (hF : T_X3_sync M  = some E) : Tt l yX3_sync cX3_sync 1 (some .boolean) rmTX3_sync g b [.ref (adr b 0 0)] M E := by
  refine tt_of (by decide +kernel) (Nat.le_of_ble_eq_true rfl) ?_
  intro p e s m args below meth c C0 hTH hnt hR ls hl
  obtain ⟨hx, hb, hr, hlocks, hml, hown, hts, hK⟩ := id C0
  have hS : va_S (AA b s.heap.size) s.heap s.heap [] := va_S.rf
  have hl : lv_has ls 1 [(0, .ref (adr b 0 0))] := hl
  obtain ⟨H, hH⟩ : ∃ z, z = s.heap := ⟨_, rfl⟩
  obtain ⟨locs, hlo⟩ : ∃ z : List Loc, z = [] := ⟨_, rfl⟩
  have hR : Rel g b M H := by rw [hH]; exact hR
  have hS : va_S (AA b s.heap.size) s.heap H locs := by rw [hH, hlo]; exact hS
  suffices hW : W p l e rmTX3_sync s m args below meth c H locs 0 0 (vx_MQ below (fun _ _ _ _ => False) (XT g b E M s.heap.size) args s 1 6 (AA b s.heap.size)) (F0 m 0 ls []) by rw [hH, hlo] at hW; exact hW
  rw [T_X3_sync] at hF
  refine lv_aload_n hx hb dX3_sync_0 rfl (lv_at hl 0 rfl) ?_
  rcases xt_some hF with hT | ⟨-, hF⟩
  · exact x_tV (As := []) (rest := []) hx hb hml hown hlocks hts hK hTH hnt hR hS (t_X3_needPower hst  hT) wd189 wd191 ws1 wd1 wd192 hyX3_needPower ⟨rfl, rfl⟩ ⟨Nat.le_of_ble_eq_true rfl, Nat.le_of_ble_eq_true rfl⟩ hl.1 (Nat.le_of_ble_eq_true rfl) dX3_sync_1 ⟨Nat.le_of_ble_eq_true rfl, Nat.le_of_ble_eq_true rfl⟩ rfl
  obtain ⟨_, hc1, hF⟩ := xb1_some hF
  refine x_cVv (C := RX3) (T := TX3) (N := 9) (ci := 3) (As := []) (rest := []) hx hb hml hown hts hK hR hS (c_X3_needPower  hc1) ok0 rfl rfl wd189 wd191 ws1 wd1 wd192 hyX3_needPower ⟨rfl, rfl⟩ ⟨Nat.le_of_ble_eq_true rfl, Nat.le_of_ble_eq_true rfl⟩ hl.1 (Nat.le_of_ble_eq_true rfl) dX3_sync_1 ⟨Nat.zero_le _, Nat.zero_le _⟩ rfl (fun H locs hR hS => ?_)
  refine lv_aload_n hx hb dX3_sync_4 rfl (lv_at hl 0 rfl) ?_
  refine gf_3_4 hx hb hts hown hK hR wd143 dX3_sync_5 ?_
  have hg2 : rg (M 0 0 4) := hR.2 0 0 4 (by decide)
  refine x_if_eq (tgt := 18) hx hb hg2 dX3_sync_8 (by decide) (fun ci3 => ?_) (fun ci3 => ?_)
  · rw [if_pos ci3] at hF
    refine x_iconst hx hb dX3_sync_18 ?_
    refine lv_goto (tgt := 23) hx hb dX3_sync_19 (by decide) ?_
    cases hF
  · rw [if_neg ci3] at hF
    refine lv_aload_n hx hb dX3_sync_11 rfl (lv_at hl 0 rfl) ?_
    cases hF
abbrev rmTX3_flush : Room := { frames := 7, cells := 1, slots := 6, locals := 110 }
def T_X3_flush_20 (M : Mm) : Option Nat := (if (M 0 0 7) = (2 : Int) then none else none)
set_option maxHeartbeats 4000000 in
set_option maxRecDepth 100000 in
theorem u_X3_flush_20 {p : Program} {l : Launch} {e : Env} {s : State} {m : MethodId} {args : Array Value} {below : List Frame} {meth : Method} {c : Code} {g : Gx} {b : Nat} (C0 : XA p s m meth c args RX3 cX3_flush 1 (some .boolean) g) (hst : l.stackTraces = false) (hTH : TH b s) (hnt : ∀ x ∈ c.exceptionTable.toList, False) {E : Nat} {M : Mm} : ∀   (H : Heap) (locs : List Loc), Rel g b M H → va_S (AA b s.heap.size) s.heap H locs → ∀ ls : Array Slot, lv_has ls 1 [(0, .ref (adr b 0 0))] → T_X3_flush_20 M  = some E → W p l e rmTX3_flush s m args below meth c H locs 0 0 (vx_MQ below (fun _ _ _ _ => False) (XT g b E M s.heap.size) args s 1 6 (AA b s.heap.size)) (F0 m 20 ls []) := by
  obtain ⟨hx, hb, hr, hlocks, hml, hown, hts, hK⟩ := id C0
  intro H locs hR hS ls hl hF
  rw [T_X3_flush_20] at hF
  refine lv_aload_n hx hb dX3_flush_20 rfl (lv_at hl 0 rfl) ?_
  refine gf_3_7 hx hb hts hown hK hR wd146 dX3_flush_21 ?_
  have hg1 : rg (M 0 0 7) := hR.2 0 0 7 (by decide)
  refine x_iconst hx hb dX3_flush_24 ?_
  refine x_icmp_ne (tgt := 39) hx hb hg1 (by decide : rg (2 : Int)) dX3_flush_25 (by decide) (fun ci2 => ?_) (fun ci2 => ?_)
  · rw [if_neg ci2] at hF
    refine x_iconst hx hb dX3_flush_39 ?_
    cases hF
  · rw [if_pos ci2] at hF
    refine lv_aload_n hx hb dX3_flush_28 rfl (lv_at hl 0 rfl) ?_
    refine x_iconst hx hb dX3_flush_29 ?_
    cases hF
def T_X3_flush (M : Mm) : Option Nat := (xt (T_X3_needPower M ) (xb1 (F_X3_needPower M ) fun _ => (if (M 0 0 4) ≤ 0 then (T_X3_flush_20 M ) else none)))
set_option maxHeartbeats 4000000 in
set_option maxRecDepth 100000 in
theorem t_X3_flush {l : Launch} {g : Gx} {b : Nat} {M : Mm} {E : Nat} (hst : l.stackTraces = false) (hF : T_X3_flush M  = some E) : Tt l yX3_flush cX3_flush 1 (some .boolean) rmTX3_flush g b [.ref (adr b 0 0)] M E := by
  refine tt_of (by decide +kernel) (Nat.le_of_ble_eq_true rfl) ?_
  intro p e s m args below meth c C0 hTH hnt hR ls hl
  obtain ⟨hx, hb, hr, hlocks, hml, hown, hts, hK⟩ := id C0
  have hS : va_S (AA b s.heap.size) s.heap s.heap [] := va_S.rf
  have hl : lv_has ls 1 [(0, .ref (adr b 0 0))] := hl
  obtain ⟨H, hH⟩ : ∃ z, z = s.heap := ⟨_, rfl⟩
  obtain ⟨locs, hlo⟩ : ∃ z : List Loc, z = [] := ⟨_, rfl⟩
  have hR : Rel g b M H := by rw [hH]; exact hR
  have hS : va_S (AA b s.heap.size) s.heap H locs := by rw [hH, hlo]; exact hS
  suffices hW : W p l e rmTX3_flush s m args below meth c H locs 0 0 (vx_MQ below (fun _ _ _ _ => False) (XT g b E M s.heap.size) args s 1 6 (AA b s.heap.size)) (F0 m 0 ls []) by rw [hH, hlo] at hW; exact hW
  rw [T_X3_flush] at hF
  refine lv_aload_n hx hb dX3_flush_0 rfl (lv_at hl 0 rfl) ?_
  rcases xt_some hF with hT | ⟨-, hF⟩
  · exact x_tV (As := []) (rest := []) hx hb hml hown hlocks hts hK hTH hnt hR hS (t_X3_needPower hst  hT) wd189 wd191 ws1 wd1 wd192 hyX3_needPower ⟨rfl, rfl⟩ ⟨Nat.le_of_ble_eq_true rfl, Nat.le_of_ble_eq_true rfl⟩ hl.1 (Nat.le_of_ble_eq_true rfl) dX3_flush_1 ⟨Nat.le_of_ble_eq_true rfl, Nat.le_of_ble_eq_true rfl⟩ rfl
  obtain ⟨_, hc1, hF⟩ := xb1_some hF
  refine x_cVv (C := RX3) (T := TX3) (N := 9) (ci := 3) (As := []) (rest := []) hx hb hml hown hts hK hR hS (c_X3_needPower  hc1) ok0 rfl rfl wd189 wd191 ws1 wd1 wd192 hyX3_needPower ⟨rfl, rfl⟩ ⟨Nat.le_of_ble_eq_true rfl, Nat.le_of_ble_eq_true rfl⟩ hl.1 (Nat.le_of_ble_eq_true rfl) dX3_flush_1 ⟨Nat.zero_le _, Nat.zero_le _⟩ rfl (fun H locs hR hS => ?_)
  refine lv_aload_n hx hb dX3_flush_4 rfl (lv_at hl 0 rfl) ?_
  refine gf_3_4 hx hb hts hown hK hR wd143 dX3_flush_5 ?_
  have hg2 : rg (M 0 0 4) := hR.2 0 0 4 (by decide)
  refine x_if_le (tgt := 20) hx hb hg2 dX3_flush_8 (by decide) (fun ci3 => ?_) (fun ci3 => ?_)
  · rw [if_pos ci3] at hF
    exact u_X3_flush_20 C0 hst hTH hnt  H locs hR hS ls (lv_sub hl [0] rfl) hF
  · rw [if_neg ci3] at hF
    refine lv_aload_n hx hb dX3_flush_11 rfl (lv_at hl 0 rfl) ?_
    cases hF
abbrev rmTX3_writeBack : Room := { frames := 7, cells := 1, slots := 6, locals := 113 }
def T_X3_writeBack (M : Mm) (a1 : Int) (a2 : Int) : Option Nat := (xt (T_X3_needPower M ) (xb1 (F_X3_needPower M ) fun _ => (xt (T_X3_needRange M a2 (0 : Int) (50 : Int)) (xb1 (F_X3_needRange M a2 (0 : Int) (50 : Int)) fun _ => none))))
set_option maxHeartbeats 4000000 in
set_option maxRecDepth 100000 in
theorem t_X3_writeBack {l : Launch} {g : Gx} {b : Nat} {M : Mm} {a1 : Int} {a2 : Int} {E : Nat} (hst : l.stackTraces = false) (ha1 : rg a1) (ha2 : rg a2) (hF : T_X3_writeBack M a1 a2 = some E) : Tt l yX3_writeBack cX3_writeBack 3 none rmTX3_writeBack g b [.ref (adr b 0 0), .int (jI a1), .int (jI a2)] M E := by
  refine tt_of (by decide +kernel) (Nat.le_of_ble_eq_true rfl) ?_
  intro p e s m args below meth c C0 hTH hnt hR ls hl
  obtain ⟨hx, hb, hr, hlocks, hml, hown, hts, hK⟩ := id C0
  have hS : va_S (AA b s.heap.size) s.heap s.heap [] := va_S.rf
  have hl : lv_has ls 3 [(0, .ref (adr b 0 0)), (1, .int (jI a1)), (2, .int (jI a2))] := hl
  obtain ⟨H, hH⟩ : ∃ z, z = s.heap := ⟨_, rfl⟩
  obtain ⟨locs, hlo⟩ : ∃ z : List Loc, z = [] := ⟨_, rfl⟩
  have hR : Rel g b M H := by rw [hH]; exact hR
  have hS : va_S (AA b s.heap.size) s.heap H locs := by rw [hH, hlo]; exact hS
  suffices hW : W p l e rmTX3_writeBack s m args below meth c H locs 0 0 (vx_MQ below (fun _ _ _ _ => False) (XT g b E M s.heap.size) args s 1 6 (AA b s.heap.size)) (F0 m 0 ls []) by rw [hH, hlo] at hW; exact hW
  rw [T_X3_writeBack] at hF
  refine lv_aload_n hx hb dX3_writeBack_0 rfl (lv_at hl 0 rfl) ?_
  rcases xt_some hF with hT | ⟨-, hF⟩
  · exact x_tV (As := []) (rest := []) hx hb hml hown hlocks hts hK hTH hnt hR hS (t_X3_needPower hst  hT) wd189 wd191 ws1 wd1 wd192 hyX3_needPower ⟨rfl, rfl⟩ ⟨Nat.le_of_ble_eq_true rfl, Nat.le_of_ble_eq_true rfl⟩ hl.1 (Nat.le_of_ble_eq_true rfl) dX3_writeBack_1 ⟨Nat.le_of_ble_eq_true rfl, Nat.le_of_ble_eq_true rfl⟩ rfl
  obtain ⟨_, hc1, hF⟩ := xb1_some hF
  refine x_cVv (C := RX3) (T := TX3) (N := 9) (ci := 3) (As := []) (rest := []) hx hb hml hown hts hK hR hS (c_X3_needPower  hc1) ok0 rfl rfl wd189 wd191 ws1 wd1 wd192 hyX3_needPower ⟨rfl, rfl⟩ ⟨Nat.le_of_ble_eq_true rfl, Nat.le_of_ble_eq_true rfl⟩ hl.1 (Nat.le_of_ble_eq_true rfl) dX3_writeBack_1 ⟨Nat.zero_le _, Nat.zero_le _⟩ rfl (fun H locs hR hS => ?_)
  refine lv_aload_n hx hb dX3_writeBack_4 rfl (lv_at hl 0 rfl) ?_
  refine lv_iload_n hx hb dX3_writeBack_5 rfl (lv_at hl 2 rfl) ?_
  refine x_iconst hx hb dX3_writeBack_6 ?_
  refine x_bipush hx hb (by decide +kernel) dX3_writeBack_7 ?_
  rcases xt_some hF with hT | ⟨-, hF⟩
  · exact x_tV (As := [.int (jI a2), .int (jI (0 : Int)), .int (jI (50 : Int))]) (rest := []) hx hb hml hown hlocks hts hK hTH hnt hR hS (t_X3_needRange hst ha2 (by decide : rg (0 : Int)) (by decide : rg (50 : Int)) hT) wd285 wd287 ws4 wd1 wd288 hyX3_needRange ⟨rfl, rfl⟩ ⟨Nat.le_of_ble_eq_true rfl, Nat.le_of_ble_eq_true rfl⟩ hl.1 (Nat.le_of_ble_eq_true rfl) dX3_writeBack_9 ⟨Nat.le_of_ble_eq_true rfl, Nat.le_of_ble_eq_true rfl⟩ rfl
  obtain ⟨_, hc2, hF⟩ := xb1_some hF
  refine x_cVv (C := RX3) (T := TX3) (N := 9) (ci := 3) (As := [.int (jI a2), .int (jI (0 : Int)), .int (jI (50 : Int))]) (rest := []) hx hb hml hown hts hK hR hS (c_X3_needRange ha2 (by decide : rg (0 : Int)) (by decide : rg (50 : Int)) hc2) ok0 rfl rfl wd285 wd287 ws4 wd1 wd288 hyX3_needRange ⟨rfl, rfl⟩ ⟨Nat.le_of_ble_eq_true rfl, Nat.le_of_ble_eq_true rfl⟩ hl.1 (Nat.le_of_ble_eq_true rfl) dX3_writeBack_9 ⟨Nat.zero_le _, Nat.zero_le _⟩ rfl (fun H locs hR hS => ?_)
  cases hF
abbrev rmTX3_cut : Room := { frames := 7, cells := 1, slots := 6, locals := 110 }
def T_X3_cut (M : Mm) : Option Nat := (xt (T_X3_needPower M ) (xb1 (F_X3_needPower M ) fun _ => none))
set_option maxHeartbeats 4000000 in
set_option maxRecDepth 100000 in
theorem t_X3_cut {l : Launch} {g : Gx} {b : Nat} {M : Mm} {E : Nat} (hst : l.stackTraces = false) (hF : T_X3_cut M  = some E) : Tt l yX3_cut cX3_cut 1 none rmTX3_cut g b [.ref (adr b 0 0)] M E := by
  refine tt_of (by decide +kernel) (Nat.le_of_ble_eq_true rfl) ?_
  intro p e s m args below meth c C0 hTH hnt hR ls hl
  obtain ⟨hx, hb, hr, hlocks, hml, hown, hts, hK⟩ := id C0
  have hS : va_S (AA b s.heap.size) s.heap s.heap [] := va_S.rf
  have hl : lv_has ls 1 [(0, .ref (adr b 0 0))] := hl
  obtain ⟨H, hH⟩ : ∃ z, z = s.heap := ⟨_, rfl⟩
  obtain ⟨locs, hlo⟩ : ∃ z : List Loc, z = [] := ⟨_, rfl⟩
  have hR : Rel g b M H := by rw [hH]; exact hR
  have hS : va_S (AA b s.heap.size) s.heap H locs := by rw [hH, hlo]; exact hS
  suffices hW : W p l e rmTX3_cut s m args below meth c H locs 0 0 (vx_MQ below (fun _ _ _ _ => False) (XT g b E M s.heap.size) args s 1 6 (AA b s.heap.size)) (F0 m 0 ls []) by rw [hH, hlo] at hW; exact hW
  rw [T_X3_cut] at hF
  refine lv_aload_n hx hb dX3_cut_0 rfl (lv_at hl 0 rfl) ?_
  rcases xt_some hF with hT | ⟨-, hF⟩
  · exact x_tV (As := []) (rest := []) hx hb hml hown hlocks hts hK hTH hnt hR hS (t_X3_needPower hst  hT) wd189 wd191 ws1 wd1 wd192 hyX3_needPower ⟨rfl, rfl⟩ ⟨Nat.le_of_ble_eq_true rfl, Nat.le_of_ble_eq_true rfl⟩ hl.1 (Nat.le_of_ble_eq_true rfl) dX3_cut_1 ⟨Nat.le_of_ble_eq_true rfl, Nat.le_of_ble_eq_true rfl⟩ rfl
  obtain ⟨_, hc1, hF⟩ := xb1_some hF
  refine x_cVv (C := RX3) (T := TX3) (N := 9) (ci := 3) (As := []) (rest := []) hx hb hml hown hts hK hR hS (c_X3_needPower  hc1) ok0 rfl rfl wd189 wd191 ws1 wd1 wd192 hyX3_needPower ⟨rfl, rfl⟩ ⟨Nat.le_of_ble_eq_true rfl, Nat.le_of_ble_eq_true rfl⟩ hl.1 (Nat.le_of_ble_eq_true rfl) dX3_cut_1 ⟨Nat.zero_le _, Nat.zero_le _⟩ rfl (fun H locs hR hS => ?_)
  refine lv_aload_n hx hb dX3_cut_4 rfl (lv_at hl 0 rfl) ?_
  cases hF
abbrev rmTX3_fail : Room := { frames := 7, cells := 1, slots := 6, locals := 113 }
def T_X3_fail (M : Mm) (a1 : Int) (a2 : Int) (a3 : Int) : Option Nat := (xt (T_X3_needRange M a1 (0 : Int) (3 : Int)) (xb1 (F_X3_needRange M a1 (0 : Int) (3 : Int)) fun _ => (xt (T_X3_needRange M a2 (1 : Int) (40 : Int)) (xb1 (F_X3_needRange M a2 (1 : Int) (40 : Int)) fun _ => (xt (T_X3_needRange M a3 (0 : Int) (40 : Int)) (xb1 (F_X3_needRange M a3 (0 : Int) (40 : Int)) fun _ => none))))))
set_option maxHeartbeats 4000000 in
set_option maxRecDepth 100000 in
theorem t_X3_fail {l : Launch} {g : Gx} {b : Nat} {M : Mm} {a1 : Int} {a2 : Int} {a3 : Int} {E : Nat} (hst : l.stackTraces = false) (ha1 : rg a1) (ha2 : rg a2) (ha3 : rg a3) (hF : T_X3_fail M a1 a2 a3 = some E) : Tt l yX3_fail cX3_fail 4 none rmTX3_fail g b [.ref (adr b 0 0), .int (jI a1), .int (jI a2), .int (jI a3)] M E := by
  refine tt_of (by decide +kernel) (Nat.le_of_ble_eq_true rfl) ?_
  intro p e s m args below meth c C0 hTH hnt hR ls hl
  obtain ⟨hx, hb, hr, hlocks, hml, hown, hts, hK⟩ := id C0
  have hS : va_S (AA b s.heap.size) s.heap s.heap [] := va_S.rf
  have hl : lv_has ls 4 [(0, .ref (adr b 0 0)), (1, .int (jI a1)), (2, .int (jI a2)), (3, .int (jI a3))] := hl
  obtain ⟨H, hH⟩ : ∃ z, z = s.heap := ⟨_, rfl⟩
  obtain ⟨locs, hlo⟩ : ∃ z : List Loc, z = [] := ⟨_, rfl⟩
  have hR : Rel g b M H := by rw [hH]; exact hR
  have hS : va_S (AA b s.heap.size) s.heap H locs := by rw [hH, hlo]; exact hS
  suffices hW : W p l e rmTX3_fail s m args below meth c H locs 0 0 (vx_MQ below (fun _ _ _ _ => False) (XT g b E M s.heap.size) args s 1 6 (AA b s.heap.size)) (F0 m 0 ls []) by rw [hH, hlo] at hW; exact hW
  rw [T_X3_fail] at hF
  refine lv_aload_n hx hb dX3_fail_0 rfl (lv_at hl 0 rfl) ?_
  refine lv_iload_n hx hb dX3_fail_1 rfl (lv_at hl 1 rfl) ?_
  refine x_iconst hx hb dX3_fail_2 ?_
  refine x_iconst hx hb dX3_fail_3 ?_
  rcases xt_some hF with hT | ⟨-, hF⟩
  · exact x_tV (As := [.int (jI a1), .int (jI (0 : Int)), .int (jI (3 : Int))]) (rest := []) hx hb hml hown hlocks hts hK hTH hnt hR hS (t_X3_needRange hst ha1 (by decide : rg (0 : Int)) (by decide : rg (3 : Int)) hT) wd285 wd287 ws4 wd1 wd288 hyX3_needRange ⟨rfl, rfl⟩ ⟨Nat.le_of_ble_eq_true rfl, Nat.le_of_ble_eq_true rfl⟩ hl.1 (Nat.le_of_ble_eq_true rfl) dX3_fail_4 ⟨Nat.le_of_ble_eq_true rfl, Nat.le_of_ble_eq_true rfl⟩ rfl
  obtain ⟨_, hc1, hF⟩ := xb1_some hF
  refine x_cVv (C := RX3) (T := TX3) (N := 9) (ci := 3) (As := [.int (jI a1), .int (jI (0 : Int)), .int (jI (3 : Int))]) (rest := []) hx hb hml hown hts hK hR hS (c_X3_needRange ha1 (by decide : rg (0 : Int)) (by decide : rg (3 : Int)) hc1) ok0 rfl rfl wd285 wd287 ws4 wd1 wd288 hyX3_needRange ⟨rfl, rfl⟩ ⟨Nat.le_of_ble_eq_true rfl, Nat.le_of_ble_eq_true rfl⟩ hl.1 (Nat.le_of_ble_eq_true rfl) dX3_fail_4 ⟨Nat.zero_le _, Nat.zero_le _⟩ rfl (fun H locs hR hS => ?_)
  refine lv_aload_n hx hb dX3_fail_7 rfl (lv_at hl 0 rfl) ?_
  refine lv_iload_n hx hb dX3_fail_8 rfl (lv_at hl 2 rfl) ?_
  refine x_iconst hx hb dX3_fail_9 ?_
  refine x_bipush hx hb (by decide +kernel) dX3_fail_10 ?_
  rcases xt_some hF with hT | ⟨-, hF⟩
  · exact x_tV (As := [.int (jI a2), .int (jI (1 : Int)), .int (jI (40 : Int))]) (rest := []) hx hb hml hown hlocks hts hK hTH hnt hR hS (t_X3_needRange hst ha2 (by decide : rg (1 : Int)) (by decide : rg (40 : Int)) hT) wd285 wd287 ws4 wd1 wd288 hyX3_needRange ⟨rfl, rfl⟩ ⟨Nat.le_of_ble_eq_true rfl, Nat.le_of_ble_eq_true rfl⟩ hl.1 (Nat.le_of_ble_eq_true rfl) dX3_fail_12 ⟨Nat.le_of_ble_eq_true rfl, Nat.le_of_ble_eq_true rfl⟩ rfl
  obtain ⟨_, hc2, hF⟩ := xb1_some hF
  refine x_cVv (C := RX3) (T := TX3) (N := 9) (ci := 3) (As := [.int (jI a2), .int (jI (1 : Int)), .int (jI (40 : Int))]) (rest := []) hx hb hml hown hts hK hR hS (c_X3_needRange ha2 (by decide : rg (1 : Int)) (by decide : rg (40 : Int)) hc2) ok0 rfl rfl wd285 wd287 ws4 wd1 wd288 hyX3_needRange ⟨rfl, rfl⟩ ⟨Nat.le_of_ble_eq_true rfl, Nat.le_of_ble_eq_true rfl⟩ hl.1 (Nat.le_of_ble_eq_true rfl) dX3_fail_12 ⟨Nat.zero_le _, Nat.zero_le _⟩ rfl (fun H locs hR hS => ?_)
  refine lv_aload_n hx hb dX3_fail_15 rfl (lv_at hl 0 rfl) ?_
  refine lv_iload_n hx hb dX3_fail_16 rfl (lv_at hl 3 rfl) ?_
  refine x_iconst hx hb dX3_fail_17 ?_
  refine x_bipush hx hb (by decide +kernel) dX3_fail_18 ?_
  rcases xt_some hF with hT | ⟨-, hF⟩
  · exact x_tV (As := [.int (jI a3), .int (jI (0 : Int)), .int (jI (40 : Int))]) (rest := []) hx hb hml hown hlocks hts hK hTH hnt hR hS (t_X3_needRange hst ha3 (by decide : rg (0 : Int)) (by decide : rg (40 : Int)) hT) wd285 wd287 ws4 wd1 wd288 hyX3_needRange ⟨rfl, rfl⟩ ⟨Nat.le_of_ble_eq_true rfl, Nat.le_of_ble_eq_true rfl⟩ hl.1 (Nat.le_of_ble_eq_true rfl) dX3_fail_20 ⟨Nat.le_of_ble_eq_true rfl, Nat.le_of_ble_eq_true rfl⟩ rfl
  obtain ⟨_, hc3, hF⟩ := xb1_some hF
  refine x_cVv (C := RX3) (T := TX3) (N := 9) (ci := 3) (As := [.int (jI a3), .int (jI (0 : Int)), .int (jI (40 : Int))]) (rest := []) hx hb hml hown hts hK hR hS (c_X3_needRange ha3 (by decide : rg (0 : Int)) (by decide : rg (40 : Int)) hc3) ok0 rfl rfl wd285 wd287 ws4 wd1 wd288 hyX3_needRange ⟨rfl, rfl⟩ ⟨Nat.le_of_ble_eq_true rfl, Nat.le_of_ble_eq_true rfl⟩ hl.1 (Nat.le_of_ble_eq_true rfl) dX3_fail_20 ⟨Nat.zero_le _, Nat.zero_le _⟩ rfl (fun H locs hR hS => ?_)
  refine lv_aload_n hx hb dX3_fail_23 rfl (lv_at hl 0 rfl) ?_
  refine lv_iload_n hx hb dX3_fail_24 rfl (lv_at hl 1 rfl) ?_
  cases hF
abbrev rmTX3_mount : Room := { frames := 6, cells := 1, slots := 6, locals := 91 }
def T_X3_mount (M : Mm) : Option Nat := (if (M 0 0 5) = 0 then (some 1) else (if (M 0 0 7) = (3 : Int) then none else none))
set_option maxHeartbeats 4000000 in
set_option maxRecDepth 100000 in
theorem t_X3_mount {l : Launch} {g : Gx} {b : Nat} {M : Mm} {E : Nat} (hst : l.stackTraces = false) (hF : T_X3_mount M  = some E) : Tt l yX3_mount cX3_mount 2 (some .int) rmTX3_mount g b [.ref (adr b 0 0)] M E := by
  refine tt_of (by decide +kernel) (Nat.le_of_ble_eq_true rfl) ?_
  intro p e s m args below meth c C0 hTH hnt hR ls hl
  obtain ⟨hx, hb, hr, hlocks, hml, hown, hts, hK⟩ := id C0
  have hS : va_S (AA b s.heap.size) s.heap s.heap [] := va_S.rf
  have hl : lv_has ls 2 [(0, .ref (adr b 0 0))] := hl
  obtain ⟨H, hH⟩ : ∃ z, z = s.heap := ⟨_, rfl⟩
  obtain ⟨locs, hlo⟩ : ∃ z : List Loc, z = [] := ⟨_, rfl⟩
  have hR : Rel g b M H := by rw [hH]; exact hR
  have hS : va_S (AA b s.heap.size) s.heap H locs := by rw [hH, hlo]; exact hS
  suffices hW : W p l e rmTX3_mount s m args below meth c H locs 0 0 (vx_MQ below (fun _ _ _ _ => False) (XT g b E M s.heap.size) args s 1 6 (AA b s.heap.size)) (F0 m 0 ls []) by rw [hH, hlo] at hW; exact hW
  rw [T_X3_mount] at hF
  refine lv_aload_n hx hb dX3_mount_0 rfl (lv_at hl 0 rfl) ?_
  refine gf_3_5 hx hb hts hown hK hR wd144 dX3_mount_1 ?_
  have hg1 : rg (M 0 0 5) := hR.2 0 0 5 (by decide)
  refine x_if_ne (tgt := 17) hx hb hg1 dX3_mount_4 (by decide) (fun ci2 => ?_) (fun ci2 => ?_)
  · rw [if_neg ci2] at hF
    refine lv_aload_n hx hb dX3_mount_17 rfl (lv_at hl 0 rfl) ?_
    refine gf_3_7 hx hb hts hown hK hR wd146 dX3_mount_18 ?_
    have hg3 : rg (M 0 0 7) := hR.2 0 0 7 (by decide)
    refine x_iconst hx hb dX3_mount_21 ?_
    refine x_icmp_ne (tgt := 33) hx hb hg3 (by decide : rg (3 : Int)) dX3_mount_22 (by decide) (fun ci4 => ?_) (fun ci4 => ?_)
    · rw [if_neg ci4] at hF
      refine lv_aload_n hx hb dX3_mount_33 rfl (lv_at hl 0 rfl) ?_
      refine gf_3_2 hx hb hts hown hK hR wd141 dX3_mount_34 ?_
      cases hF
    · rw [if_pos ci4] at hF
      refine lv_aload_n hx hb dX3_mount_25 rfl (lv_at hl 0 rfl) ?_
      refine x_iconst hx hb dX3_mount_26 ?_
      cases hF
  · rw [if_pos ci2] at hF
    cases hF
    exact thr_X3_mount_7 hx hb hst hml hl.1 hown hlocks hts hK hTH hnt hR hS (Nat.le_of_ble_eq_true rfl) (Nat.le_of_ble_eq_true rfl) (Nat.le_of_ble_eq_true rfl) (Nat.le_of_ble_eq_true rfl)
abbrev rmTX3_waiting : Room := { frames := 7, cells := 1, slots := 6, locals := 110 }
def T_X3_waiting (M : Mm) : Option Nat := (xt (T_X3_needPower M ) (xb1 (F_X3_needPower M ) fun _ => none))
set_option maxHeartbeats 4000000 in
set_option maxRecDepth 100000 in
theorem t_X3_waiting {l : Launch} {g : Gx} {b : Nat} {M : Mm} {E : Nat} (hst : l.stackTraces = false) (hF : T_X3_waiting M  = some E) : Tt l yX3_waiting cX3_waiting 1 (some .int) rmTX3_waiting g b [.ref (adr b 0 0)] M E := by
  refine tt_of (by decide +kernel) (Nat.le_of_ble_eq_true rfl) ?_
  intro p e s m args below meth c C0 hTH hnt hR ls hl
  obtain ⟨hx, hb, hr, hlocks, hml, hown, hts, hK⟩ := id C0
  have hS : va_S (AA b s.heap.size) s.heap s.heap [] := va_S.rf
  have hl : lv_has ls 1 [(0, .ref (adr b 0 0))] := hl
  obtain ⟨H, hH⟩ : ∃ z, z = s.heap := ⟨_, rfl⟩
  obtain ⟨locs, hlo⟩ : ∃ z : List Loc, z = [] := ⟨_, rfl⟩
  have hR : Rel g b M H := by rw [hH]; exact hR
  have hS : va_S (AA b s.heap.size) s.heap H locs := by rw [hH, hlo]; exact hS
  suffices hW : W p l e rmTX3_waiting s m args below meth c H locs 0 0 (vx_MQ below (fun _ _ _ _ => False) (XT g b E M s.heap.size) args s 1 6 (AA b s.heap.size)) (F0 m 0 ls []) by rw [hH, hlo] at hW; exact hW
  rw [T_X3_waiting] at hF
  refine lv_aload_n hx hb dX3_waiting_0 rfl (lv_at hl 0 rfl) ?_
  rcases xt_some hF with hT | ⟨-, hF⟩
  · exact x_tV (As := []) (rest := []) hx hb hml hown hlocks hts hK hTH hnt hR hS (t_X3_needPower hst  hT) wd189 wd191 ws1 wd1 wd192 hyX3_needPower ⟨rfl, rfl⟩ ⟨Nat.le_of_ble_eq_true rfl, Nat.le_of_ble_eq_true rfl⟩ hl.1 (Nat.le_of_ble_eq_true rfl) dX3_waiting_1 ⟨Nat.le_of_ble_eq_true rfl, Nat.le_of_ble_eq_true rfl⟩ rfl
  obtain ⟨_, hc1, hF⟩ := xb1_some hF
  refine x_cVv (C := RX3) (T := TX3) (N := 9) (ci := 3) (As := []) (rest := []) hx hb hml hown hts hK hR hS (c_X3_needPower  hc1) ok0 rfl rfl wd189 wd191 ws1 wd1 wd192 hyX3_needPower ⟨rfl, rfl⟩ ⟨Nat.le_of_ble_eq_true rfl, Nat.le_of_ble_eq_true rfl⟩ hl.1 (Nat.le_of_ble_eq_true rfl) dX3_waiting_1 ⟨Nat.zero_le _, Nat.zero_le _⟩ rfl (fun H locs hR hS => ?_)
  refine lv_aload_n hx hb dX3_waiting_4 rfl (lv_at hl 0 rfl) ?_
  refine gf_3_4 hx hb hts hown hK hR wd143 dX3_waiting_5 ?_
  have hg2 : rg (M 0 0 4) := hR.2 0 0 4 (by decide)
  cases hF
abbrev rmTX3_changes : Room := { frames := 7, cells := 1, slots := 6, locals := 110 }
def T_X3_changes (M : Mm) : Option Nat := (xt (T_X3_needPower M ) (xb1 (F_X3_needPower M ) fun _ => (xk (M 0 0 0 = 0 ∨ M 0 0 0 = 1) none)))
set_option maxHeartbeats 4000000 in
set_option maxRecDepth 100000 in
theorem t_X3_changes {l : Launch} {g : Gx} {b : Nat} {M : Mm} {E : Nat} (hst : l.stackTraces = false) (hF : T_X3_changes M  = some E) : Tt l yX3_changes cX3_changes 1 (some .int) rmTX3_changes g b [.ref (adr b 0 0)] M E := by
  refine tt_of (by decide +kernel) (Nat.le_of_ble_eq_true rfl) ?_
  intro p e s m args below meth c C0 hTH hnt hR ls hl
  obtain ⟨hx, hb, hr, hlocks, hml, hown, hts, hK⟩ := id C0
  have hS : va_S (AA b s.heap.size) s.heap s.heap [] := va_S.rf
  have hl : lv_has ls 1 [(0, .ref (adr b 0 0))] := hl
  obtain ⟨H, hH⟩ : ∃ z, z = s.heap := ⟨_, rfl⟩
  obtain ⟨locs, hlo⟩ : ∃ z : List Loc, z = [] := ⟨_, rfl⟩
  have hR : Rel g b M H := by rw [hH]; exact hR
  have hS : va_S (AA b s.heap.size) s.heap H locs := by rw [hH, hlo]; exact hS
  suffices hW : W p l e rmTX3_changes s m args below meth c H locs 0 0 (vx_MQ below (fun _ _ _ _ => False) (XT g b E M s.heap.size) args s 1 6 (AA b s.heap.size)) (F0 m 0 ls []) by rw [hH, hlo] at hW; exact hW
  rw [T_X3_changes] at hF
  refine lv_aload_n hx hb dX3_changes_0 rfl (lv_at hl 0 rfl) ?_
  rcases xt_some hF with hT | ⟨-, hF⟩
  · exact x_tV (As := []) (rest := []) hx hb hml hown hlocks hts hK hTH hnt hR hS (t_X3_needPower hst  hT) wd189 wd191 ws1 wd1 wd192 hyX3_needPower ⟨rfl, rfl⟩ ⟨Nat.le_of_ble_eq_true rfl, Nat.le_of_ble_eq_true rfl⟩ hl.1 (Nat.le_of_ble_eq_true rfl) dX3_changes_1 ⟨Nat.le_of_ble_eq_true rfl, Nat.le_of_ble_eq_true rfl⟩ rfl
  obtain ⟨_, hc1, hF⟩ := xb1_some hF
  refine x_cVv (C := RX3) (T := TX3) (N := 9) (ci := 3) (As := []) (rest := []) hx hb hml hown hts hK hR hS (c_X3_needPower  hc1) ok0 rfl rfl wd189 wd191 ws1 wd1 wd192 hyX3_needPower ⟨rfl, rfl⟩ ⟨Nat.le_of_ble_eq_true rfl, Nat.le_of_ble_eq_true rfl⟩ hl.1 (Nat.le_of_ble_eq_true rfl) dX3_changes_1 ⟨Nat.zero_le _, Nat.zero_le _⟩ rfl (fun H locs hR hS => ?_)
  refine lv_aload_n hx hb dX3_changes_4 rfl (lv_at hl 0 rfl) ?_
  refine gf_3_0 hx hb hts hown hK hR wd139 dX3_changes_5 ?_
  obtain ⟨ht2, hF⟩ := xk_some hF
  have hj3 : (M 0 0 0).toNat < 3 := by omega
  refine gf_2_5 hx hb hts hown hK hR hj3 wd95 dX3_changes_8 ?_
  have hg4 : rg (M 1 ((M 0 0 0).toNat) 5) := hR.2 1 ((M 0 0 0).toNat) 5 (by decide)
  cases hF
abbrev rmTX3_nodes : Room := { frames := 7, cells := 1, slots := 6, locals := 110 }
def T_X3_nodes (M : Mm) : Option Nat := (xt (T_X3_needPower M ) (xb1 (F_X3_needPower M ) fun _ => (xk (M 0 0 0 = 0 ∨ M 0 0 0 = 1) (xb1 (F_X2_count M ((M 0 0 0).toNat)) fun y5 => none))))
set_option maxHeartbeats 4000000 in
set_option maxRecDepth 100000 in
theorem t_X3_nodes {l : Launch} {g : Gx} {b : Nat} {M : Mm} {E : Nat} (hst : l.stackTraces = false) (hF : T_X3_nodes M  = some E) : Tt l yX3_nodes cX3_nodes 1 (some .int) rmTX3_nodes g b [.ref (adr b 0 0)] M E := by
  refine tt_of (by decide +kernel) (Nat.le_of_ble_eq_true rfl) ?_
  intro p e s m args below meth c C0 hTH hnt hR ls hl
  obtain ⟨hx, hb, hr, hlocks, hml, hown, hts, hK⟩ := id C0
  have hS : va_S (AA b s.heap.size) s.heap s.heap [] := va_S.rf
  have hl : lv_has ls 1 [(0, .ref (adr b 0 0))] := hl
  obtain ⟨H, hH⟩ : ∃ z, z = s.heap := ⟨_, rfl⟩
  obtain ⟨locs, hlo⟩ : ∃ z : List Loc, z = [] := ⟨_, rfl⟩
  have hR : Rel g b M H := by rw [hH]; exact hR
  have hS : va_S (AA b s.heap.size) s.heap H locs := by rw [hH, hlo]; exact hS
  suffices hW : W p l e rmTX3_nodes s m args below meth c H locs 0 0 (vx_MQ below (fun _ _ _ _ => False) (XT g b E M s.heap.size) args s 1 6 (AA b s.heap.size)) (F0 m 0 ls []) by rw [hH, hlo] at hW; exact hW
  rw [T_X3_nodes] at hF
  refine lv_aload_n hx hb dX3_nodes_0 rfl (lv_at hl 0 rfl) ?_
  rcases xt_some hF with hT | ⟨-, hF⟩
  · exact x_tV (As := []) (rest := []) hx hb hml hown hlocks hts hK hTH hnt hR hS (t_X3_needPower hst  hT) wd189 wd191 ws1 wd1 wd192 hyX3_needPower ⟨rfl, rfl⟩ ⟨Nat.le_of_ble_eq_true rfl, Nat.le_of_ble_eq_true rfl⟩ hl.1 (Nat.le_of_ble_eq_true rfl) dX3_nodes_1 ⟨Nat.le_of_ble_eq_true rfl, Nat.le_of_ble_eq_true rfl⟩ rfl
  obtain ⟨_, hc1, hF⟩ := xb1_some hF
  refine x_cVv (C := RX3) (T := TX3) (N := 9) (ci := 3) (As := []) (rest := []) hx hb hml hown hts hK hR hS (c_X3_needPower  hc1) ok0 rfl rfl wd189 wd191 ws1 wd1 wd192 hyX3_needPower ⟨rfl, rfl⟩ ⟨Nat.le_of_ble_eq_true rfl, Nat.le_of_ble_eq_true rfl⟩ hl.1 (Nat.le_of_ble_eq_true rfl) dX3_nodes_1 ⟨Nat.zero_le _, Nat.zero_le _⟩ rfl (fun H locs hR hS => ?_)
  refine lv_aload_n hx hb dX3_nodes_4 rfl (lv_at hl 0 rfl) ?_
  refine gf_3_0 hx hb hts hown hK hR wd139 dX3_nodes_5 ?_
  obtain ⟨ht2, hF⟩ := xk_some hF
  have hj3 : (M 0 0 0).toNat < 3 := by omega
  obtain ⟨y5, hc4, hF⟩ := xb1_some hF
  refine x_cVi (C := RX2) (T := TX2) (N := 8) (ci := 2) (As := []) (rest := []) hx hb hml hown hts hK hR hS (c_X2_count hj3 hc4) (ok1 hj3) rfl rfl wd325 wd326 wd327 wd2 wd328 hyX2_count ⟨rfl, rfl⟩ ⟨Nat.le_of_ble_eq_true rfl, Nat.le_of_ble_eq_true rfl⟩ hl.1 (Nat.le_of_ble_eq_true rfl) dX3_nodes_8 ⟨Nat.zero_le _, Nat.zero_le _⟩ rfl (fun hg6 H locs hR hS => ?_)
  cases hF
abbrev rmTX3_typeOf : Room := { frames := 7, cells := 1, slots := 6, locals := 110 }
def T_X3_typeOf (M : Mm) (a1 : Int) : Option Nat := (xt (T_X3_needPower M ) (xb1 (F_X3_needPower M ) fun _ => (xk (M 0 0 0 = 0 ∨ M 0 0 0 = 1) (xb1 (F_X2_at M ((M 0 0 0).toNat) a1) fun y5 => none))))
set_option maxHeartbeats 4000000 in
set_option maxRecDepth 100000 in
theorem t_X3_typeOf {l : Launch} {g : Gx} {b : Nat} {M : Mm} {a1 : Int} {E : Nat} (hst : l.stackTraces = false) (ha1 : rg a1) (hF : T_X3_typeOf M a1 = some E) : Tt l yX3_typeOf cX3_typeOf 2 (some .int) rmTX3_typeOf g b [.ref (adr b 0 0), .int (jI a1)] M E := by
  refine tt_of (by decide +kernel) (Nat.le_of_ble_eq_true rfl) ?_
  intro p e s m args below meth c C0 hTH hnt hR ls hl
  obtain ⟨hx, hb, hr, hlocks, hml, hown, hts, hK⟩ := id C0
  have hS : va_S (AA b s.heap.size) s.heap s.heap [] := va_S.rf
  have hl : lv_has ls 2 [(0, .ref (adr b 0 0)), (1, .int (jI a1))] := hl
  obtain ⟨H, hH⟩ : ∃ z, z = s.heap := ⟨_, rfl⟩
  obtain ⟨locs, hlo⟩ : ∃ z : List Loc, z = [] := ⟨_, rfl⟩
  have hR : Rel g b M H := by rw [hH]; exact hR
  have hS : va_S (AA b s.heap.size) s.heap H locs := by rw [hH, hlo]; exact hS
  suffices hW : W p l e rmTX3_typeOf s m args below meth c H locs 0 0 (vx_MQ below (fun _ _ _ _ => False) (XT g b E M s.heap.size) args s 1 6 (AA b s.heap.size)) (F0 m 0 ls []) by rw [hH, hlo] at hW; exact hW
  rw [T_X3_typeOf] at hF
  refine lv_aload_n hx hb dX3_typeOf_0 rfl (lv_at hl 0 rfl) ?_
  rcases xt_some hF with hT | ⟨-, hF⟩
  · exact x_tV (As := []) (rest := []) hx hb hml hown hlocks hts hK hTH hnt hR hS (t_X3_needPower hst  hT) wd189 wd191 ws1 wd1 wd192 hyX3_needPower ⟨rfl, rfl⟩ ⟨Nat.le_of_ble_eq_true rfl, Nat.le_of_ble_eq_true rfl⟩ hl.1 (Nat.le_of_ble_eq_true rfl) dX3_typeOf_1 ⟨Nat.le_of_ble_eq_true rfl, Nat.le_of_ble_eq_true rfl⟩ rfl
  obtain ⟨_, hc1, hF⟩ := xb1_some hF
  refine x_cVv (C := RX3) (T := TX3) (N := 9) (ci := 3) (As := []) (rest := []) hx hb hml hown hts hK hR hS (c_X3_needPower  hc1) ok0 rfl rfl wd189 wd191 ws1 wd1 wd192 hyX3_needPower ⟨rfl, rfl⟩ ⟨Nat.le_of_ble_eq_true rfl, Nat.le_of_ble_eq_true rfl⟩ hl.1 (Nat.le_of_ble_eq_true rfl) dX3_typeOf_1 ⟨Nat.zero_le _, Nat.zero_le _⟩ rfl (fun H locs hR hS => ?_)
  refine lv_aload_n hx hb dX3_typeOf_4 rfl (lv_at hl 0 rfl) ?_
  refine gf_3_0 hx hb hts hown hK hR wd139 dX3_typeOf_5 ?_
  obtain ⟨ht2, hF⟩ := xk_some hF
  have hj3 : (M 0 0 0).toNat < 3 := by omega
  refine lv_iload_n hx hb dX3_typeOf_8 rfl (lv_at hl 1 rfl) ?_
  obtain ⟨y5, hc4, hF⟩ := xb1_some hF
  refine x_cVr (C := RX2) (T := TX2) (N := 8) (ci := 2) (As := [.int (jI a1)]) (rest := []) hx hb hml hown hts hK hR hS (c_X2_at hj3 ha1 hc4) (ok1 hj3) rfl rfl wd265 wd266 wd267 wd2 wd268 hyX2_at ⟨rfl, rfl⟩ ⟨Nat.le_of_ble_eq_true rfl, Nat.le_of_ble_eq_true rfl⟩ hl.1 (Nat.le_of_ble_eq_true rfl) dX3_typeOf_9 ⟨Nat.zero_le _, Nat.zero_le _⟩ rfl (fun hg6 H locs hR hS => ?_)
  have hj7 : y5 < 99 := lt2 hg6
  refine gf_1_0 hx hb hts hown hK hR hj7 wd37 dX3_typeOf_12 ?_
  have hg8 : rg (M 2 y5 0) := hR.2 2 y5 0 (by decide)
  cases hF
abbrev rmTX3_needLive : Room := { frames := 7, cells := 1, slots := 6, locals := 111 }
def T_X3_needLive (M : Mm) (a1 : Int) : Option Nat := (xt (T_X3_needPower M ) (xb1 (F_X3_needPower M ) fun _ => (xt (T_X3_needNode M a1) (xb1 (F_X3_needNode M a1) fun _ => (xk (M 0 0 0 = 0 ∨ M 0 0 0 = 1) (xb1 (F_X2_at M ((M 0 0 0).toNat) a1) fun y6 => none))))))
set_option maxHeartbeats 4000000 in
set_option maxRecDepth 100000 in
theorem t_X3_needLive {l : Launch} {g : Gx} {b : Nat} {M : Mm} {a1 : Int} {E : Nat} (hst : l.stackTraces = false) (ha1 : rg a1) (hF : T_X3_needLive M a1 = some E) : Tt l yX3_needLive cX3_needLive 2 (some (.object "JournalDisk$Node")) rmTX3_needLive g b [.ref (adr b 0 0), .int (jI a1)] M E := by
  refine tt_of (by decide +kernel) (Nat.le_of_ble_eq_true rfl) ?_
  intro p e s m args below meth c C0 hTH hnt hR ls hl
  obtain ⟨hx, hb, hr, hlocks, hml, hown, hts, hK⟩ := id C0
  have hS : va_S (AA b s.heap.size) s.heap s.heap [] := va_S.rf
  have hl : lv_has ls 2 [(0, .ref (adr b 0 0)), (1, .int (jI a1))] := hl
  obtain ⟨H, hH⟩ : ∃ z, z = s.heap := ⟨_, rfl⟩
  obtain ⟨locs, hlo⟩ : ∃ z : List Loc, z = [] := ⟨_, rfl⟩
  have hR : Rel g b M H := by rw [hH]; exact hR
  have hS : va_S (AA b s.heap.size) s.heap H locs := by rw [hH, hlo]; exact hS
  suffices hW : W p l e rmTX3_needLive s m args below meth c H locs 0 0 (vx_MQ below (fun _ _ _ _ => False) (XT g b E M s.heap.size) args s 1 6 (AA b s.heap.size)) (F0 m 0 ls []) by rw [hH, hlo] at hW; exact hW
  rw [T_X3_needLive] at hF
  refine lv_aload_n hx hb dX3_needLive_0 rfl (lv_at hl 0 rfl) ?_
  rcases xt_some hF with hT | ⟨-, hF⟩
  · exact x_tV (As := []) (rest := []) hx hb hml hown hlocks hts hK hTH hnt hR hS (t_X3_needPower hst  hT) wd189 wd191 ws1 wd1 wd192 hyX3_needPower ⟨rfl, rfl⟩ ⟨Nat.le_of_ble_eq_true rfl, Nat.le_of_ble_eq_true rfl⟩ hl.1 (Nat.le_of_ble_eq_true rfl) dX3_needLive_1 ⟨Nat.le_of_ble_eq_true rfl, Nat.le_of_ble_eq_true rfl⟩ rfl
  obtain ⟨_, hc1, hF⟩ := xb1_some hF
  refine x_cVv (C := RX3) (T := TX3) (N := 9) (ci := 3) (As := []) (rest := []) hx hb hml hown hts hK hR hS (c_X3_needPower  hc1) ok0 rfl rfl wd189 wd191 ws1 wd1 wd192 hyX3_needPower ⟨rfl, rfl⟩ ⟨Nat.le_of_ble_eq_true rfl, Nat.le_of_ble_eq_true rfl⟩ hl.1 (Nat.le_of_ble_eq_true rfl) dX3_needLive_1 ⟨Nat.zero_le _, Nat.zero_le _⟩ rfl (fun H locs hR hS => ?_)
  refine lv_aload_n hx hb dX3_needLive_4 rfl (lv_at hl 0 rfl) ?_
  refine lv_iload_n hx hb dX3_needLive_5 rfl (lv_at hl 1 rfl) ?_
  rcases xt_some hF with hT | ⟨-, hF⟩
  · exact x_tV (As := [.int (jI a1)]) (rest := []) hx hb hml hown hlocks hts hK hTH hnt hR hS (t_X3_needNode hst ha1 hT) wd261 wd263 ws3 wd1 wd264 hyX3_needNode ⟨rfl, rfl⟩ ⟨Nat.le_of_ble_eq_true rfl, Nat.le_of_ble_eq_true rfl⟩ hl.1 (Nat.le_of_ble_eq_true rfl) dX3_needLive_6 ⟨Nat.le_of_ble_eq_true rfl, Nat.le_of_ble_eq_true rfl⟩ rfl
  obtain ⟨_, hc2, hF⟩ := xb1_some hF
  refine x_cVv (C := RX3) (T := TX3) (N := 9) (ci := 3) (As := [.int (jI a1)]) (rest := []) hx hb hml hown hts hK hR hS (c_X3_needNode ha1 hc2) ok0 rfl rfl wd261 wd263 ws3 wd1 wd264 hyX3_needNode ⟨rfl, rfl⟩ ⟨Nat.le_of_ble_eq_true rfl, Nat.le_of_ble_eq_true rfl⟩ hl.1 (Nat.le_of_ble_eq_true rfl) dX3_needLive_6 ⟨Nat.zero_le _, Nat.zero_le _⟩ rfl (fun H locs hR hS => ?_)
  refine lv_aload_n hx hb dX3_needLive_9 rfl (lv_at hl 0 rfl) ?_
  refine gf_3_0 hx hb hts hown hK hR wd139 dX3_needLive_10 ?_
  obtain ⟨ht3, hF⟩ := xk_some hF
  have hj4 : (M 0 0 0).toNat < 3 := by omega
  refine lv_iload_n hx hb dX3_needLive_13 rfl (lv_at hl 1 rfl) ?_
  obtain ⟨y6, hc5, hF⟩ := xb1_some hF
  refine x_cVr (C := RX2) (T := TX2) (N := 8) (ci := 2) (As := [.int (jI a1)]) (rest := []) hx hb hml hown hts hK hR hS (c_X2_at hj4 ha1 hc5) (ok1 hj4) rfl rfl wd265 wd266 wd267 wd2 wd268 hyX2_at ⟨rfl, rfl⟩ ⟨Nat.le_of_ble_eq_true rfl, Nat.le_of_ble_eq_true rfl⟩ hl.1 (Nat.le_of_ble_eq_true rfl) dX3_needLive_14 ⟨Nat.zero_le _, Nat.zero_le _⟩ rfl (fun hg7 H locs hR hS => ?_)
  have hj8 : y6 < 99 := lt2 hg7
  cases hF
abbrev rmTX3_linksOf : Room := { frames := 8, cells := 1, slots := 6, locals := 132 }
def T_X3_linksOf (M : Mm) (a1 : Int) : Option Nat := (xt (T_X3_needLive M a1) (xb1 (F_X3_needLive M a1) fun y2 => none))
set_option maxHeartbeats 4000000 in
set_option maxRecDepth 100000 in
theorem t_X3_linksOf {l : Launch} {g : Gx} {b : Nat} {M : Mm} {a1 : Int} {E : Nat} (hst : l.stackTraces = false) (ha1 : rg a1) (hF : T_X3_linksOf M a1 = some E) : Tt l yX3_linksOf cX3_linksOf 2 (some .int) rmTX3_linksOf g b [.ref (adr b 0 0), .int (jI a1)] M E := by
  refine tt_of (by decide +kernel) (Nat.le_of_ble_eq_true rfl) ?_
  intro p e s m args below meth c C0 hTH hnt hR ls hl
  obtain ⟨hx, hb, hr, hlocks, hml, hown, hts, hK⟩ := id C0
  have hS : va_S (AA b s.heap.size) s.heap s.heap [] := va_S.rf
  have hl : lv_has ls 2 [(0, .ref (adr b 0 0)), (1, .int (jI a1))] := hl
  obtain ⟨H, hH⟩ : ∃ z, z = s.heap := ⟨_, rfl⟩
  obtain ⟨locs, hlo⟩ : ∃ z : List Loc, z = [] := ⟨_, rfl⟩
  have hR : Rel g b M H := by rw [hH]; exact hR
  have hS : va_S (AA b s.heap.size) s.heap H locs := by rw [hH, hlo]; exact hS
  suffices hW : W p l e rmTX3_linksOf s m args below meth c H locs 0 0 (vx_MQ below (fun _ _ _ _ => False) (XT g b E M s.heap.size) args s 1 6 (AA b s.heap.size)) (F0 m 0 ls []) by rw [hH, hlo] at hW; exact hW
  rw [T_X3_linksOf] at hF
  refine lv_aload_n hx hb dX3_linksOf_0 rfl (lv_at hl 0 rfl) ?_
  refine lv_iload_n hx hb dX3_linksOf_1 rfl (lv_at hl 1 rfl) ?_
  rcases xt_some hF with hT | ⟨-, hF⟩
  · exact x_tV (As := [.int (jI a1)]) (rest := []) hx hb hml hown hlocks hts hK hTH hnt hR hS (t_X3_needLive hst ha1 hT) wd832 wd834 ws19 wd1 wd835 hyX3_needLive ⟨rfl, rfl⟩ ⟨Nat.le_of_ble_eq_true rfl, Nat.le_of_ble_eq_true rfl⟩ hl.1 (Nat.le_of_ble_eq_true rfl) dX3_linksOf_2 ⟨Nat.le_of_ble_eq_true rfl, Nat.le_of_ble_eq_true rfl⟩ rfl
  obtain ⟨y2, hc1, hF⟩ := xb1_some hF
  refine x_cVr (C := RX3) (T := TX3) (N := 9) (ci := 3) (As := [.int (jI a1)]) (rest := []) hx hb hml hown hts hK hR hS (c_X3_needLive ha1 hc1) ok0 rfl rfl wd832 wd834 ws19 wd1 wd835 hyX3_needLive ⟨rfl, rfl⟩ ⟨Nat.le_of_ble_eq_true rfl, Nat.le_of_ble_eq_true rfl⟩ hl.1 (Nat.le_of_ble_eq_true rfl) dX3_linksOf_2 ⟨Nat.zero_le _, Nat.zero_le _⟩ rfl (fun hg3 H locs hR hS => ?_)
  have hj4 : y2 < 99 := lt2 hg3
  refine gf_1_2 hx hb hts hown hK hR hj4 wd42 dX3_linksOf_5 ?_
  have hg5 : rg (M 2 y2 2) := hR.2 2 y2 2 (by decide)
  cases hF
abbrev rmTX3_ownerOf : Room := { frames := 8, cells := 1, slots := 6, locals := 132 }
def T_X3_ownerOf (M : Mm) (a1 : Int) : Option Nat := (xt (T_X3_needLive M a1) (xb1 (F_X3_needLive M a1) fun y2 => none))
set_option maxHeartbeats 4000000 in
set_option maxRecDepth 100000 in
theorem t_X3_ownerOf {l : Launch} {g : Gx} {b : Nat} {M : Mm} {a1 : Int} {E : Nat} (hst : l.stackTraces = false) (ha1 : rg a1) (hF : T_X3_ownerOf M a1 = some E) : Tt l yX3_ownerOf cX3_ownerOf 2 (some .int) rmTX3_ownerOf g b [.ref (adr b 0 0), .int (jI a1)] M E := by
  refine tt_of (by decide +kernel) (Nat.le_of_ble_eq_true rfl) ?_
  intro p e s m args below meth c C0 hTH hnt hR ls hl
  obtain ⟨hx, hb, hr, hlocks, hml, hown, hts, hK⟩ := id C0
  have hS : va_S (AA b s.heap.size) s.heap s.heap [] := va_S.rf
  have hl : lv_has ls 2 [(0, .ref (adr b 0 0)), (1, .int (jI a1))] := hl
  obtain ⟨H, hH⟩ : ∃ z, z = s.heap := ⟨_, rfl⟩
  obtain ⟨locs, hlo⟩ : ∃ z : List Loc, z = [] := ⟨_, rfl⟩
  have hR : Rel g b M H := by rw [hH]; exact hR
  have hS : va_S (AA b s.heap.size) s.heap H locs := by rw [hH, hlo]; exact hS
  suffices hW : W p l e rmTX3_ownerOf s m args below meth c H locs 0 0 (vx_MQ below (fun _ _ _ _ => False) (XT g b E M s.heap.size) args s 1 6 (AA b s.heap.size)) (F0 m 0 ls []) by rw [hH, hlo] at hW; exact hW
  rw [T_X3_ownerOf] at hF
  refine lv_aload_n hx hb dX3_ownerOf_0 rfl (lv_at hl 0 rfl) ?_
  refine lv_iload_n hx hb dX3_ownerOf_1 rfl (lv_at hl 1 rfl) ?_
  rcases xt_some hF with hT | ⟨-, hF⟩
  · exact x_tV (As := [.int (jI a1)]) (rest := []) hx hb hml hown hlocks hts hK hTH hnt hR hS (t_X3_needLive hst ha1 hT) wd832 wd834 ws19 wd1 wd835 hyX3_needLive ⟨rfl, rfl⟩ ⟨Nat.le_of_ble_eq_true rfl, Nat.le_of_ble_eq_true rfl⟩ hl.1 (Nat.le_of_ble_eq_true rfl) dX3_ownerOf_2 ⟨Nat.le_of_ble_eq_true rfl, Nat.le_of_ble_eq_true rfl⟩ rfl
  obtain ⟨y2, hc1, hF⟩ := xb1_some hF
  refine x_cVr (C := RX3) (T := TX3) (N := 9) (ci := 3) (As := [.int (jI a1)]) (rest := []) hx hb hml hown hts hK hR hS (c_X3_needLive ha1 hc1) ok0 rfl rfl wd832 wd834 ws19 wd1 wd835 hyX3_needLive ⟨rfl, rfl⟩ ⟨Nat.le_of_ble_eq_true rfl, Nat.le_of_ble_eq_true rfl⟩ hl.1 (Nat.le_of_ble_eq_true rfl) dX3_ownerOf_2 ⟨Nat.zero_le _, Nat.zero_le _⟩ rfl (fun hg3 H locs hR hS => ?_)
  have hj4 : y2 < 99 := lt2 hg3
  refine gf_1_1 hx hb hts hown hK hR hj4 wd40 dX3_ownerOf_5 ?_
  have hg5 : rg (M 2 y2 1) := hR.2 2 y2 1 (by decide)
  cases hF
abbrev rmTX3_sizeOf : Room := { frames := 8, cells := 1, slots := 6, locals := 132 }
def T_X3_sizeOf (M : Mm) (a1 : Int) : Option Nat := (xt (T_X3_needLive M a1) (xb1 (F_X3_needLive M a1) fun y2 => (xb1 (F_X1_extent M y2) fun y6 => none)))
set_option maxHeartbeats 4000000 in
set_option maxRecDepth 100000 in
theorem t_X3_sizeOf {l : Launch} {g : Gx} {b : Nat} {M : Mm} {a1 : Int} {E : Nat} (hst : l.stackTraces = false) (ha1 : rg a1) (hF : T_X3_sizeOf M a1 = some E) : Tt l yX3_sizeOf cX3_sizeOf 2 (some .int) rmTX3_sizeOf g b [.ref (adr b 0 0), .int (jI a1)] M E := by
  refine tt_of (by decide +kernel) (Nat.le_of_ble_eq_true rfl) ?_
  intro p e s m args below meth c C0 hTH hnt hR ls hl
  obtain ⟨hx, hb, hr, hlocks, hml, hown, hts, hK⟩ := id C0
  have hS : va_S (AA b s.heap.size) s.heap s.heap [] := va_S.rf
  have hl : lv_has ls 2 [(0, .ref (adr b 0 0)), (1, .int (jI a1))] := hl
  obtain ⟨H, hH⟩ : ∃ z, z = s.heap := ⟨_, rfl⟩
  obtain ⟨locs, hlo⟩ : ∃ z : List Loc, z = [] := ⟨_, rfl⟩
  have hR : Rel g b M H := by rw [hH]; exact hR
  have hS : va_S (AA b s.heap.size) s.heap H locs := by rw [hH, hlo]; exact hS
  suffices hW : W p l e rmTX3_sizeOf s m args below meth c H locs 0 0 (vx_MQ below (fun _ _ _ _ => False) (XT g b E M s.heap.size) args s 1 6 (AA b s.heap.size)) (F0 m 0 ls []) by rw [hH, hlo] at hW; exact hW
  rw [T_X3_sizeOf] at hF
  refine lv_aload_n hx hb dX3_sizeOf_0 rfl (lv_at hl 0 rfl) ?_
  refine lv_iload_n hx hb dX3_sizeOf_1 rfl (lv_at hl 1 rfl) ?_
  rcases xt_some hF with hT | ⟨-, hF⟩
  · exact x_tV (As := [.int (jI a1)]) (rest := []) hx hb hml hown hlocks hts hK hTH hnt hR hS (t_X3_needLive hst ha1 hT) wd832 wd834 ws19 wd1 wd835 hyX3_needLive ⟨rfl, rfl⟩ ⟨Nat.le_of_ble_eq_true rfl, Nat.le_of_ble_eq_true rfl⟩ hl.1 (Nat.le_of_ble_eq_true rfl) dX3_sizeOf_2 ⟨Nat.le_of_ble_eq_true rfl, Nat.le_of_ble_eq_true rfl⟩ rfl
  obtain ⟨y2, hc1, hF⟩ := xb1_some hF
  refine x_cVr (C := RX3) (T := TX3) (N := 9) (ci := 3) (As := [.int (jI a1)]) (rest := []) hx hb hml hown hts hK hR hS (c_X3_needLive ha1 hc1) ok0 rfl rfl wd832 wd834 ws19 wd1 wd835 hyX3_needLive ⟨rfl, rfl⟩ ⟨Nat.le_of_ble_eq_true rfl, Nat.le_of_ble_eq_true rfl⟩ hl.1 (Nat.le_of_ble_eq_true rfl) dX3_sizeOf_2 ⟨Nat.zero_le _, Nat.zero_le _⟩ rfl (fun hg3 H locs hR hS => ?_)
  have hj4 : y2 < 99 := lt2 hg3
  obtain ⟨y6, hc5, hF⟩ := xb1_some hF
  refine x_cVi (C := RX1) (T := TX1) (N := 12) (ci := 1) (As := []) (rest := []) hx hb hml hown hts hK hR hS (c_X1_extent hj4 hc5) (ok2 hj4) rfl rfl wd850 wd851 wd852 wd3 wd853 hyX1_extent ⟨rfl, rfl⟩ ⟨Nat.le_of_ble_eq_true rfl, Nat.le_of_ble_eq_true rfl⟩ hl.1 (Nat.le_of_ble_eq_true rfl) dX3_sizeOf_5 ⟨Nat.zero_le _, Nat.zero_le _⟩ rfl (fun hg7 H locs hR hS => ?_)
  cases hF
abbrev rmTX3_blocksOf : Room := { frames := 8, cells := 1, slots := 6, locals := 132 }
def T_X3_blocksOf (M : Mm) (a1 : Int) : Option Nat := (xt (T_X3_needLive M a1) (xb1 (F_X3_needLive M a1) fun y2 => (xb1 (F_X1_ownBlocks M y2) fun y6 => none)))
set_option maxHeartbeats 4000000 in
set_option maxRecDepth 100000 in
theorem t_X3_blocksOf {l : Launch} {g : Gx} {b : Nat} {M : Mm} {a1 : Int} {E : Nat} (hst : l.stackTraces = false) (ha1 : rg a1) (hF : T_X3_blocksOf M a1 = some E) : Tt l yX3_blocksOf cX3_blocksOf 2 (some .int) rmTX3_blocksOf g b [.ref (adr b 0 0), .int (jI a1)] M E := by
  refine tt_of (by decide +kernel) (Nat.le_of_ble_eq_true rfl) ?_
  intro p e s m args below meth c C0 hTH hnt hR ls hl
  obtain ⟨hx, hb, hr, hlocks, hml, hown, hts, hK⟩ := id C0
  have hS : va_S (AA b s.heap.size) s.heap s.heap [] := va_S.rf
  have hl : lv_has ls 2 [(0, .ref (adr b 0 0)), (1, .int (jI a1))] := hl
  obtain ⟨H, hH⟩ : ∃ z, z = s.heap := ⟨_, rfl⟩
  obtain ⟨locs, hlo⟩ : ∃ z : List Loc, z = [] := ⟨_, rfl⟩
  have hR : Rel g b M H := by rw [hH]; exact hR
  have hS : va_S (AA b s.heap.size) s.heap H locs := by rw [hH, hlo]; exact hS
  suffices hW : W p l e rmTX3_blocksOf s m args below meth c H locs 0 0 (vx_MQ below (fun _ _ _ _ => False) (XT g b E M s.heap.size) args s 1 6 (AA b s.heap.size)) (F0 m 0 ls []) by rw [hH, hlo] at hW; exact hW
  rw [T_X3_blocksOf] at hF
  refine lv_aload_n hx hb dX3_blocksOf_0 rfl (lv_at hl 0 rfl) ?_
  refine lv_iload_n hx hb dX3_blocksOf_1 rfl (lv_at hl 1 rfl) ?_
  rcases xt_some hF with hT | ⟨-, hF⟩
  · exact x_tV (As := [.int (jI a1)]) (rest := []) hx hb hml hown hlocks hts hK hTH hnt hR hS (t_X3_needLive hst ha1 hT) wd832 wd834 ws19 wd1 wd835 hyX3_needLive ⟨rfl, rfl⟩ ⟨Nat.le_of_ble_eq_true rfl, Nat.le_of_ble_eq_true rfl⟩ hl.1 (Nat.le_of_ble_eq_true rfl) dX3_blocksOf_2 ⟨Nat.le_of_ble_eq_true rfl, Nat.le_of_ble_eq_true rfl⟩ rfl
  obtain ⟨y2, hc1, hF⟩ := xb1_some hF
  refine x_cVr (C := RX3) (T := TX3) (N := 9) (ci := 3) (As := [.int (jI a1)]) (rest := []) hx hb hml hown hts hK hR hS (c_X3_needLive ha1 hc1) ok0 rfl rfl wd832 wd834 ws19 wd1 wd835 hyX3_needLive ⟨rfl, rfl⟩ ⟨Nat.le_of_ble_eq_true rfl, Nat.le_of_ble_eq_true rfl⟩ hl.1 (Nat.le_of_ble_eq_true rfl) dX3_blocksOf_2 ⟨Nat.zero_le _, Nat.zero_le _⟩ rfl (fun hg3 H locs hR hS => ?_)
  have hj4 : y2 < 99 := lt2 hg3
  obtain ⟨y6, hc5, hF⟩ := xb1_some hF
  refine x_cVi (C := RX1) (T := TX1) (N := 12) (ci := 1) (As := []) (rest := []) hx hb hml hown hts hK hR hS (c_X1_ownBlocks hj4 hc5) (ok2 hj4) rfl rfl wd861 wd383 wd384 wd3 wd385 hyX1_ownBlocks ⟨rfl, rfl⟩ ⟨Nat.le_of_ble_eq_true rfl, Nat.le_of_ble_eq_true rfl⟩ hl.1 (Nat.le_of_ble_eq_true rfl) dX3_blocksOf_5 ⟨Nat.zero_le _, Nat.zero_le _⟩ rfl (fun hg7 H locs hR hS => ?_)
  cases hF
abbrev rmTX3_sharedOf : Room := { frames := 8, cells := 1, slots := 6, locals := 132 }
def T_X3_sharedOf (M : Mm) (a1 : Int) : Option Nat := (xk (M 0 0 0 = 0 ∨ M 0 0 0 = 1) (xt (T_X3_needLive M a1) (xb1 (F_X3_needLive M a1) fun y4 => (xb1 (F_X2_sharedPlaces M ((M 0 0 0).toNat) y4) fun y8 => none))))
set_option maxHeartbeats 4000000 in
set_option maxRecDepth 100000 in
theorem t_X3_sharedOf {l : Launch} {g : Gx} {b : Nat} {M : Mm} {a1 : Int} {E : Nat} (hst : l.stackTraces = false) (ha1 : rg a1) (hF : T_X3_sharedOf M a1 = some E) : Tt l yX3_sharedOf cX3_sharedOf 2 (some .int) rmTX3_sharedOf g b [.ref (adr b 0 0), .int (jI a1)] M E := by
  refine tt_of (by decide +kernel) (Nat.le_of_ble_eq_true rfl) ?_
  intro p e s m args below meth c C0 hTH hnt hR ls hl
  obtain ⟨hx, hb, hr, hlocks, hml, hown, hts, hK⟩ := id C0
  have hS : va_S (AA b s.heap.size) s.heap s.heap [] := va_S.rf
  have hl : lv_has ls 2 [(0, .ref (adr b 0 0)), (1, .int (jI a1))] := hl
  obtain ⟨H, hH⟩ : ∃ z, z = s.heap := ⟨_, rfl⟩
  obtain ⟨locs, hlo⟩ : ∃ z : List Loc, z = [] := ⟨_, rfl⟩
  have hR : Rel g b M H := by rw [hH]; exact hR
  have hS : va_S (AA b s.heap.size) s.heap H locs := by rw [hH, hlo]; exact hS
  suffices hW : W p l e rmTX3_sharedOf s m args below meth c H locs 0 0 (vx_MQ below (fun _ _ _ _ => False) (XT g b E M s.heap.size) args s 1 6 (AA b s.heap.size)) (F0 m 0 ls []) by rw [hH, hlo] at hW; exact hW
  rw [T_X3_sharedOf] at hF
  refine lv_aload_n hx hb dX3_sharedOf_0 rfl (lv_at hl 0 rfl) ?_
  refine gf_3_0 hx hb hts hown hK hR wd139 dX3_sharedOf_1 ?_
  obtain ⟨ht1, hF⟩ := xk_some hF
  have hj2 : (M 0 0 0).toNat < 3 := by omega
  refine lv_aload_n hx hb dX3_sharedOf_4 rfl (lv_at hl 0 rfl) ?_
  refine lv_iload_n hx hb dX3_sharedOf_5 rfl (lv_at hl 1 rfl) ?_
  rcases xt_some hF with hT | ⟨-, hF⟩
  · exact x_tV (As := [.int (jI a1)]) (rest := [.ref (adr b 1 ((M 0 0 0).toNat))]) hx hb hml hown hlocks hts hK hTH hnt hR hS (t_X3_needLive hst ha1 hT) wd832 wd834 ws19 wd1 wd835 hyX3_needLive ⟨rfl, rfl⟩ ⟨Nat.le_of_ble_eq_true rfl, Nat.le_of_ble_eq_true rfl⟩ hl.1 (Nat.le_of_ble_eq_true rfl) dX3_sharedOf_6 ⟨Nat.le_of_ble_eq_true rfl, Nat.le_of_ble_eq_true rfl⟩ rfl
  obtain ⟨y4, hc3, hF⟩ := xb1_some hF
  refine x_cVr (C := RX3) (T := TX3) (N := 9) (ci := 3) (As := [.int (jI a1)]) (rest := [.ref (adr b 1 ((M 0 0 0).toNat))]) hx hb hml hown hts hK hR hS (c_X3_needLive ha1 hc3) ok0 rfl rfl wd832 wd834 ws19 wd1 wd835 hyX3_needLive ⟨rfl, rfl⟩ ⟨Nat.le_of_ble_eq_true rfl, Nat.le_of_ble_eq_true rfl⟩ hl.1 (Nat.le_of_ble_eq_true rfl) dX3_sharedOf_6 ⟨Nat.zero_le _, Nat.zero_le _⟩ rfl (fun hg5 H locs hR hS => ?_)
  have hj6 : y4 < 99 := lt2 hg5
  obtain ⟨y8, hc7, hF⟩ := xb1_some hF
  refine x_cVi (C := RX2) (T := TX2) (N := 8) (ci := 2) (As := [.ref (adr b 2 y4)]) (rest := []) hx hb hml hown hts hK hR hS (c_X2_sharedPlaces hj2 hj6 hc7) (ok1 hj2) rfl rfl wd869 wd870 wd871 wd2 wd872 hyX2_sharedPlaces ⟨rfl, rfl⟩ ⟨Nat.le_of_ble_eq_true rfl, Nat.le_of_ble_eq_true rfl⟩ hl.1 (Nat.le_of_ble_eq_true rfl) dX3_sharedOf_9 ⟨Nat.zero_le _, Nat.zero_le _⟩ rfl (fun hg9 H locs hR hS => ?_)
  cases hF
abbrev rmTX3_byteAt : Room := { frames := 8, cells := 1, slots := 6, locals := 132 }
def T_X3_byteAt (M : Mm) (a1 : Int) (a2 : Int) : Option Nat := (xt (T_X3_needLive M a1) (xb1 (F_X3_needLive M a1) fun y2 => (xt (T_X3_needRange M a2 (0 : Int) (319 : Int)) (xb1 (F_X3_needRange M a2 (0 : Int) (319 : Int)) fun _ => (xk (M 0 0 0 = 0 ∨ M 0 0 0 = 1) (xb1 (F_X2_byteOf M ((M 0 0 0).toNat) y2 a2) fun y9 => none))))))
set_option maxHeartbeats 4000000 in
set_option maxRecDepth 100000 in
theorem t_X3_byteAt {l : Launch} {g : Gx} {b : Nat} {M : Mm} {a1 : Int} {a2 : Int} {E : Nat} (hst : l.stackTraces = false) (ha1 : rg a1) (ha2 : rg a2) (hF : T_X3_byteAt M a1 a2 = some E) : Tt l yX3_byteAt cX3_byteAt 4 (some .int) rmTX3_byteAt g b [.ref (adr b 0 0), .int (jI a1), .int (jI a2)] M E := by
  refine tt_of (by decide +kernel) (Nat.le_of_ble_eq_true rfl) ?_
  intro p e s m args below meth c C0 hTH hnt hR ls hl
  obtain ⟨hx, hb, hr, hlocks, hml, hown, hts, hK⟩ := id C0
  have hS : va_S (AA b s.heap.size) s.heap s.heap [] := va_S.rf
  have hl : lv_has ls 4 [(0, .ref (adr b 0 0)), (1, .int (jI a1)), (2, .int (jI a2))] := hl
  obtain ⟨H, hH⟩ : ∃ z, z = s.heap := ⟨_, rfl⟩
  obtain ⟨locs, hlo⟩ : ∃ z : List Loc, z = [] := ⟨_, rfl⟩
  have hR : Rel g b M H := by rw [hH]; exact hR
  have hS : va_S (AA b s.heap.size) s.heap H locs := by rw [hH, hlo]; exact hS
  suffices hW : W p l e rmTX3_byteAt s m args below meth c H locs 0 0 (vx_MQ below (fun _ _ _ _ => False) (XT g b E M s.heap.size) args s 1 6 (AA b s.heap.size)) (F0 m 0 ls []) by rw [hH, hlo] at hW; exact hW
  rw [T_X3_byteAt] at hF
  refine lv_aload_n hx hb dX3_byteAt_0 rfl (lv_at hl 0 rfl) ?_
  refine lv_iload_n hx hb dX3_byteAt_1 rfl (lv_at hl 1 rfl) ?_
  rcases xt_some hF with hT | ⟨-, hF⟩
  · exact x_tV (As := [.int (jI a1)]) (rest := []) hx hb hml hown hlocks hts hK hTH hnt hR hS (t_X3_needLive hst ha1 hT) wd832 wd834 ws19 wd1 wd835 hyX3_needLive ⟨rfl, rfl⟩ ⟨Nat.le_of_ble_eq_true rfl, Nat.le_of_ble_eq_true rfl⟩ hl.1 (Nat.le_of_ble_eq_true rfl) dX3_byteAt_2 ⟨Nat.le_of_ble_eq_true rfl, Nat.le_of_ble_eq_true rfl⟩ rfl
  obtain ⟨y2, hc1, hF⟩ := xb1_some hF
  refine x_cVr (C := RX3) (T := TX3) (N := 9) (ci := 3) (As := [.int (jI a1)]) (rest := []) hx hb hml hown hts hK hR hS (c_X3_needLive ha1 hc1) ok0 rfl rfl wd832 wd834 ws19 wd1 wd835 hyX3_needLive ⟨rfl, rfl⟩ ⟨Nat.le_of_ble_eq_true rfl, Nat.le_of_ble_eq_true rfl⟩ hl.1 (Nat.le_of_ble_eq_true rfl) dX3_byteAt_2 ⟨Nat.zero_le _, Nat.zero_le _⟩ rfl (fun hg3 H locs hR hS => ?_)
  have hj4 : y2 < 99 := lt2 hg3
  refine lv_astore_n (lv' := [(3, .ref (adr b 2 y2)), (0, .ref (adr b 0 0)), (1, .int (jI a1)), (2, .int (jI a2))]) hx hb dX3_byteAt_5 rfl hl (by decide) rfl (fun ls hl => ?_)
  refine lv_aload_n hx hb dX3_byteAt_6 rfl (lv_at hl 1 rfl) ?_
  refine lv_iload_n hx hb dX3_byteAt_7 rfl (lv_at hl 3 rfl) ?_
  refine x_iconst hx hb dX3_byteAt_8 ?_
  refine x_sipush hx hb (by decide +kernel) dX3_byteAt_9 ?_
  rcases xt_some hF with hT | ⟨-, hF⟩
  · exact x_tV (As := [.int (jI a2), .int (jI (0 : Int)), .int (jI (319 : Int))]) (rest := []) hx hb hml hown hlocks hts hK hTH hnt hR hS (t_X3_needRange hst ha2 (by decide : rg (0 : Int)) (by decide : rg (319 : Int)) hT) wd285 wd287 ws4 wd1 wd288 hyX3_needRange ⟨rfl, rfl⟩ ⟨Nat.le_of_ble_eq_true rfl, Nat.le_of_ble_eq_true rfl⟩ hl.1 (Nat.le_of_ble_eq_true rfl) dX3_byteAt_12 ⟨Nat.le_of_ble_eq_true rfl, Nat.le_of_ble_eq_true rfl⟩ rfl
  obtain ⟨_, hc5, hF⟩ := xb1_some hF
  refine x_cVv (C := RX3) (T := TX3) (N := 9) (ci := 3) (As := [.int (jI a2), .int (jI (0 : Int)), .int (jI (319 : Int))]) (rest := []) hx hb hml hown hts hK hR hS (c_X3_needRange ha2 (by decide : rg (0 : Int)) (by decide : rg (319 : Int)) hc5) ok0 rfl rfl wd285 wd287 ws4 wd1 wd288 hyX3_needRange ⟨rfl, rfl⟩ ⟨Nat.le_of_ble_eq_true rfl, Nat.le_of_ble_eq_true rfl⟩ hl.1 (Nat.le_of_ble_eq_true rfl) dX3_byteAt_12 ⟨Nat.zero_le _, Nat.zero_le _⟩ rfl (fun H locs hR hS => ?_)
  refine lv_aload_n hx hb dX3_byteAt_15 rfl (lv_at hl 1 rfl) ?_
  refine gf_3_0 hx hb hts hown hK hR wd139 dX3_byteAt_16 ?_
  obtain ⟨ht6, hF⟩ := xk_some hF
  have hj7 : (M 0 0 0).toNat < 3 := by omega
  refine lv_aload_n hx hb dX3_byteAt_19 rfl (lv_at hl 0 rfl) ?_
  refine lv_iload_n hx hb dX3_byteAt_20 rfl (lv_at hl 3 rfl) ?_
  obtain ⟨y9, hc8, hF⟩ := xb1_some hF
  refine x_cVi (C := RX2) (T := TX2) (N := 8) (ci := 2) (As := [.ref (adr b 2 y2), .int (jI a2)]) (rest := []) hx hb hml hown hts hK hR hS (c_X2_byteOf hj7 hj4 ha2 hc8) (ok1 hj7) rfl rfl wd664 wd665 wd666 wd2 wd667 hyX2_byteOf ⟨rfl, rfl⟩ ⟨Nat.le_of_ble_eq_true rfl, Nat.le_of_ble_eq_true rfl⟩ hl.1 (Nat.le_of_ble_eq_true rfl) dX3_byteAt_21 ⟨Nat.zero_le _, Nat.zero_le _⟩ rfl (fun hg10 H locs hR hS => ?_)
  cases hF
abbrev rmTX3_isHole : Room := { frames := 8, cells := 1, slots := 6, locals := 132 }
def T_X3_isHole (M : Mm) (a1 : Int) (a2 : Int) : Option Nat := (xt (T_X3_needLive M a1) (xb1 (F_X3_needLive M a1) fun y2 => (xt (T_X3_needRange M a2 (0 : Int) (19 : Int)) (xb1 (F_X3_needRange M a2 (0 : Int) (19 : Int)) fun _ => (if (M 2 y2 0) = (1 : Int) then (xb1 (F_X1_blockAt M y2 a2) fun y9 => (if y9 = 0 then none else none)) else none)))))
set_option maxHeartbeats 4000000 in
set_option maxRecDepth 100000 in
theorem t_X3_isHole {l : Launch} {g : Gx} {b : Nat} {M : Mm} {a1 : Int} {a2 : Int} {E : Nat} (hst : l.stackTraces = false) (ha1 : rg a1) (ha2 : rg a2) (hF : T_X3_isHole M a1 a2 = some E) : Tt l yX3_isHole cX3_isHole 4 (some .boolean) rmTX3_isHole g b [.ref (adr b 0 0), .int (jI a1), .int (jI a2)] M E := by
  refine tt_of (by decide +kernel) (Nat.le_of_ble_eq_true rfl) ?_
  intro p e s m args below meth c C0 hTH hnt hR ls hl
  obtain ⟨hx, hb, hr, hlocks, hml, hown, hts, hK⟩ := id C0
  have hS : va_S (AA b s.heap.size) s.heap s.heap [] := va_S.rf
  have hl : lv_has ls 4 [(0, .ref (adr b 0 0)), (1, .int (jI a1)), (2, .int (jI a2))] := hl
  obtain ⟨H, hH⟩ : ∃ z, z = s.heap := ⟨_, rfl⟩
  obtain ⟨locs, hlo⟩ : ∃ z : List Loc, z = [] := ⟨_, rfl⟩
  have hR : Rel g b M H := by rw [hH]; exact hR
  have hS : va_S (AA b s.heap.size) s.heap H locs := by rw [hH, hlo]; exact hS
  suffices hW : W p l e rmTX3_isHole s m args below meth c H locs 0 0 (vx_MQ below (fun _ _ _ _ => False) (XT g b E M s.heap.size) args s 1 6 (AA b s.heap.size)) (F0 m 0 ls []) by rw [hH, hlo] at hW; exact hW
  rw [T_X3_isHole] at hF
  refine lv_aload_n hx hb dX3_isHole_0 rfl (lv_at hl 0 rfl) ?_
  refine lv_iload_n hx hb dX3_isHole_1 rfl (lv_at hl 1 rfl) ?_
  rcases xt_some hF with hT | ⟨-, hF⟩
  · exact x_tV (As := [.int (jI a1)]) (rest := []) hx hb hml hown hlocks hts hK hTH hnt hR hS (t_X3_needLive hst ha1 hT) wd832 wd834 ws19 wd1 wd835 hyX3_needLive ⟨rfl, rfl⟩ ⟨Nat.le_of_ble_eq_true rfl, Nat.le_of_ble_eq_true rfl⟩ hl.1 (Nat.le_of_ble_eq_true rfl) dX3_isHole_2 ⟨Nat.le_of_ble_eq_true rfl, Nat.le_of_ble_eq_true rfl⟩ rfl
  obtain ⟨y2, hc1, hF⟩ := xb1_some hF
  refine x_cVr (C := RX3) (T := TX3) (N := 9) (ci := 3) (As := [.int (jI a1)]) (rest := []) hx hb hml hown hts hK hR hS (c_X3_needLive ha1 hc1) ok0 rfl rfl wd832 wd834 ws19 wd1 wd835 hyX3_needLive ⟨rfl, rfl⟩ ⟨Nat.le_of_ble_eq_true rfl, Nat.le_of_ble_eq_true rfl⟩ hl.1 (Nat.le_of_ble_eq_true rfl) dX3_isHole_2 ⟨Nat.zero_le _, Nat.zero_le _⟩ rfl (fun hg3 H locs hR hS => ?_)
  have hj4 : y2 < 99 := lt2 hg3
  refine lv_astore_n (lv' := [(3, .ref (adr b 2 y2)), (0, .ref (adr b 0 0)), (1, .int (jI a1)), (2, .int (jI a2))]) hx hb dX3_isHole_5 rfl hl (by decide) rfl (fun ls hl => ?_)
  refine lv_aload_n hx hb dX3_isHole_6 rfl (lv_at hl 1 rfl) ?_
  refine lv_iload_n hx hb dX3_isHole_7 rfl (lv_at hl 3 rfl) ?_
  refine x_iconst hx hb dX3_isHole_8 ?_
  refine x_bipush hx hb (by decide +kernel) dX3_isHole_9 ?_
  rcases xt_some hF with hT | ⟨-, hF⟩
  · exact x_tV (As := [.int (jI a2), .int (jI (0 : Int)), .int (jI (19 : Int))]) (rest := []) hx hb hml hown hlocks hts hK hTH hnt hR hS (t_X3_needRange hst ha2 (by decide : rg (0 : Int)) (by decide : rg (19 : Int)) hT) wd285 wd287 ws4 wd1 wd288 hyX3_needRange ⟨rfl, rfl⟩ ⟨Nat.le_of_ble_eq_true rfl, Nat.le_of_ble_eq_true rfl⟩ hl.1 (Nat.le_of_ble_eq_true rfl) dX3_isHole_11 ⟨Nat.le_of_ble_eq_true rfl, Nat.le_of_ble_eq_true rfl⟩ rfl
  obtain ⟨_, hc5, hF⟩ := xb1_some hF
  refine x_cVv (C := RX3) (T := TX3) (N := 9) (ci := 3) (As := [.int (jI a2), .int (jI (0 : Int)), .int (jI (19 : Int))]) (rest := []) hx hb hml hown hts hK hR hS (c_X3_needRange ha2 (by decide : rg (0 : Int)) (by decide : rg (19 : Int)) hc5) ok0 rfl rfl wd285 wd287 ws4 wd1 wd288 hyX3_needRange ⟨rfl, rfl⟩ ⟨Nat.le_of_ble_eq_true rfl, Nat.le_of_ble_eq_true rfl⟩ hl.1 (Nat.le_of_ble_eq_true rfl) dX3_isHole_11 ⟨Nat.zero_le _, Nat.zero_le _⟩ rfl (fun H locs hR hS => ?_)
  refine lv_aload_n hx hb dX3_isHole_14 rfl (lv_at hl 0 rfl) ?_
  refine gf_1_0 hx hb hts hown hK hR hj4 wd37 dX3_isHole_15 ?_
  have hg6 : rg (M 2 y2 0) := hR.2 2 y2 0 (by decide)
  refine x_iconst hx hb dX3_isHole_18 ?_
  refine x_icmp_ne (tgt := 34) hx hb hg6 (by decide : rg (1 : Int)) dX3_isHole_19 (by decide) (fun ci7 => ?_) (fun ci7 => ?_)
  · rw [if_neg ci7] at hF
    refine x_iconst hx hb dX3_isHole_34 ?_
    cases hF
  · rw [if_pos ci7] at hF
    refine lv_aload_n hx hb dX3_isHole_22 rfl (lv_at hl 0 rfl) ?_
    refine lv_iload_n hx hb dX3_isHole_23 rfl (lv_at hl 3 rfl) ?_
    obtain ⟨y9, hc8, hF⟩ := xb1_some hF
    refine x_cVi (C := RX1) (T := TX1) (N := 12) (ci := 1) (As := [.int (jI a2)]) (rest := []) hx hb hml hown hts hK hR hS (c_X1_blockAt hj4 ha2 hc8) (ok2 hj4) rfl rfl wd595 wd443 wd444 wd3 wd445 hyX1_blockAt ⟨rfl, rfl⟩ ⟨Nat.le_of_ble_eq_true rfl, Nat.le_of_ble_eq_true rfl⟩ hl.1 (Nat.le_of_ble_eq_true rfl) dX3_isHole_24 ⟨Nat.zero_le _, Nat.zero_le _⟩ rfl (fun hg10 H locs hR hS => ?_)
    refine x_if_ne (tgt := 34) hx hb hg10 dX3_isHole_27 (by decide) (fun ci11 => ?_) (fun ci11 => ?_)
    · rw [if_neg ci11] at hF
      refine x_iconst hx hb dX3_isHole_34 ?_
      cases hF
    · rw [if_pos ci11] at hF
      refine x_iconst hx hb dX3_isHole_30 ?_
      refine lv_goto (tgt := 35) hx hb dX3_isHole_31 (by decide) ?_
      cases hF
abbrev rmTX3_nextData : Room := { frames := 8, cells := 1, slots := 6, locals := 132 }
def T_X3_nextData (M : Mm) (a1 : Int) (a2 : Int) : Option Nat := (xt (T_X3_needLive M a1) (xb1 (F_X3_needLive M a1) fun y2 => (xt (T_X3_needRange M a2 (0 : Int) (320 : Int)) (xb1 (F_X3_needRange M a2 (0 : Int) (320 : Int)) fun _ => (xb1 (F_X1_firstByte M y2 a2 (1 : Int)) fun y7 => none)))))
set_option maxHeartbeats 4000000 in
set_option maxRecDepth 100000 in
theorem t_X3_nextData {l : Launch} {g : Gx} {b : Nat} {M : Mm} {a1 : Int} {a2 : Int} {E : Nat} (hst : l.stackTraces = false) (ha1 : rg a1) (ha2 : rg a2) (hF : T_X3_nextData M a1 a2 = some E) : Tt l yX3_nextData cX3_nextData 4 (some .int) rmTX3_nextData g b [.ref (adr b 0 0), .int (jI a1), .int (jI a2)] M E := by
  refine tt_of (by decide +kernel) (Nat.le_of_ble_eq_true rfl) ?_
  intro p e s m args below meth c C0 hTH hnt hR ls hl
  obtain ⟨hx, hb, hr, hlocks, hml, hown, hts, hK⟩ := id C0
  have hS : va_S (AA b s.heap.size) s.heap s.heap [] := va_S.rf
  have hl : lv_has ls 4 [(0, .ref (adr b 0 0)), (1, .int (jI a1)), (2, .int (jI a2))] := hl
  obtain ⟨H, hH⟩ : ∃ z, z = s.heap := ⟨_, rfl⟩
  obtain ⟨locs, hlo⟩ : ∃ z : List Loc, z = [] := ⟨_, rfl⟩
  have hR : Rel g b M H := by rw [hH]; exact hR
  have hS : va_S (AA b s.heap.size) s.heap H locs := by rw [hH, hlo]; exact hS
  suffices hW : W p l e rmTX3_nextData s m args below meth c H locs 0 0 (vx_MQ below (fun _ _ _ _ => False) (XT g b E M s.heap.size) args s 1 6 (AA b s.heap.size)) (F0 m 0 ls []) by rw [hH, hlo] at hW; exact hW
  rw [T_X3_nextData] at hF
  refine lv_aload_n hx hb dX3_nextData_0 rfl (lv_at hl 0 rfl) ?_
  refine lv_iload_n hx hb dX3_nextData_1 rfl (lv_at hl 1 rfl) ?_
  rcases xt_some hF with hT | ⟨-, hF⟩
  · exact x_tV (As := [.int (jI a1)]) (rest := []) hx hb hml hown hlocks hts hK hTH hnt hR hS (t_X3_needLive hst ha1 hT) wd832 wd834 ws19 wd1 wd835 hyX3_needLive ⟨rfl, rfl⟩ ⟨Nat.le_of_ble_eq_true rfl, Nat.le_of_ble_eq_true rfl⟩ hl.1 (Nat.le_of_ble_eq_true rfl) dX3_nextData_2 ⟨Nat.le_of_ble_eq_true rfl, Nat.le_of_ble_eq_true rfl⟩ rfl
  obtain ⟨y2, hc1, hF⟩ := xb1_some hF
  refine x_cVr (C := RX3) (T := TX3) (N := 9) (ci := 3) (As := [.int (jI a1)]) (rest := []) hx hb hml hown hts hK hR hS (c_X3_needLive ha1 hc1) ok0 rfl rfl wd832 wd834 ws19 wd1 wd835 hyX3_needLive ⟨rfl, rfl⟩ ⟨Nat.le_of_ble_eq_true rfl, Nat.le_of_ble_eq_true rfl⟩ hl.1 (Nat.le_of_ble_eq_true rfl) dX3_nextData_2 ⟨Nat.zero_le _, Nat.zero_le _⟩ rfl (fun hg3 H locs hR hS => ?_)
  have hj4 : y2 < 99 := lt2 hg3
  refine lv_astore_n (lv' := [(3, .ref (adr b 2 y2)), (0, .ref (adr b 0 0)), (1, .int (jI a1)), (2, .int (jI a2))]) hx hb dX3_nextData_5 rfl hl (by decide) rfl (fun ls hl => ?_)
  refine lv_aload_n hx hb dX3_nextData_6 rfl (lv_at hl 1 rfl) ?_
  refine lv_iload_n hx hb dX3_nextData_7 rfl (lv_at hl 3 rfl) ?_
  refine x_iconst hx hb dX3_nextData_8 ?_
  refine x_sipush hx hb (by decide +kernel) dX3_nextData_9 ?_
  rcases xt_some hF with hT | ⟨-, hF⟩
  · exact x_tV (As := [.int (jI a2), .int (jI (0 : Int)), .int (jI (320 : Int))]) (rest := []) hx hb hml hown hlocks hts hK hTH hnt hR hS (t_X3_needRange hst ha2 (by decide : rg (0 : Int)) (by decide : rg (320 : Int)) hT) wd285 wd287 ws4 wd1 wd288 hyX3_needRange ⟨rfl, rfl⟩ ⟨Nat.le_of_ble_eq_true rfl, Nat.le_of_ble_eq_true rfl⟩ hl.1 (Nat.le_of_ble_eq_true rfl) dX3_nextData_12 ⟨Nat.le_of_ble_eq_true rfl, Nat.le_of_ble_eq_true rfl⟩ rfl
  obtain ⟨_, hc5, hF⟩ := xb1_some hF
  refine x_cVv (C := RX3) (T := TX3) (N := 9) (ci := 3) (As := [.int (jI a2), .int (jI (0 : Int)), .int (jI (320 : Int))]) (rest := []) hx hb hml hown hts hK hR hS (c_X3_needRange ha2 (by decide : rg (0 : Int)) (by decide : rg (320 : Int)) hc5) ok0 rfl rfl wd285 wd287 ws4 wd1 wd288 hyX3_needRange ⟨rfl, rfl⟩ ⟨Nat.le_of_ble_eq_true rfl, Nat.le_of_ble_eq_true rfl⟩ hl.1 (Nat.le_of_ble_eq_true rfl) dX3_nextData_12 ⟨Nat.zero_le _, Nat.zero_le _⟩ rfl (fun H locs hR hS => ?_)
  refine lv_aload_n hx hb dX3_nextData_15 rfl (lv_at hl 0 rfl) ?_
  refine lv_iload_n hx hb dX3_nextData_16 rfl (lv_at hl 3 rfl) ?_
  refine x_iconst hx hb dX3_nextData_17 ?_
  obtain ⟨y7, hc6, hF⟩ := xb1_some hF
  refine x_cVi (C := RX1) (T := TX1) (N := 12) (ci := 1) (As := [.int (jI a2), .int (jI (1 : Int))]) (rest := []) hx hb hml hown hts hK hR hS (c_X1_firstByte hj4 ha2 (by decide : rg (1 : Int)) hc6) (ok2 hj4) rfl rfl wd894 wd895 wd896 wd3 wd897 hyX1_firstByte ⟨rfl, rfl⟩ ⟨Nat.le_of_ble_eq_true rfl, Nat.le_of_ble_eq_true rfl⟩ hl.1 (Nat.le_of_ble_eq_true rfl) dX3_nextData_18 ⟨Nat.zero_le _, Nat.zero_le _⟩ rfl (fun hg8 H locs hR hS => ?_)
  cases hF
abbrev rmTX3_nextHole : Room := { frames := 8, cells := 1, slots := 6, locals := 132 }
def T_X3_nextHole (M : Mm) (a1 : Int) (a2 : Int) : Option Nat := (xt (T_X3_needLive M a1) (xb1 (F_X3_needLive M a1) fun y2 => (xt (T_X3_needRange M a2 (0 : Int) (320 : Int)) (xb1 (F_X3_needRange M a2 (0 : Int) (320 : Int)) fun _ => (xb1 (F_X1_firstByte M y2 a2 (0 : Int)) fun y7 => (if y7 = (-1 : Int) then (if (M 2 y2 3) ≤ a2 then none else none) else none))))))
set_option maxHeartbeats 4000000 in
set_option maxRecDepth 100000 in
theorem t_X3_nextHole {l : Launch} {g : Gx} {b : Nat} {M : Mm} {a1 : Int} {a2 : Int} {E : Nat} (hst : l.stackTraces = false) (ha1 : rg a1) (ha2 : rg a2) (hF : T_X3_nextHole M a1 a2 = some E) : Tt l yX3_nextHole cX3_nextHole 5 (some .int) rmTX3_nextHole g b [.ref (adr b 0 0), .int (jI a1), .int (jI a2)] M E := by
  refine tt_of (by decide +kernel) (Nat.le_of_ble_eq_true rfl) ?_
  intro p e s m args below meth c C0 hTH hnt hR ls hl
  obtain ⟨hx, hb, hr, hlocks, hml, hown, hts, hK⟩ := id C0
  have hS : va_S (AA b s.heap.size) s.heap s.heap [] := va_S.rf
  have hl : lv_has ls 5 [(0, .ref (adr b 0 0)), (1, .int (jI a1)), (2, .int (jI a2))] := hl
  obtain ⟨H, hH⟩ : ∃ z, z = s.heap := ⟨_, rfl⟩
  obtain ⟨locs, hlo⟩ : ∃ z : List Loc, z = [] := ⟨_, rfl⟩
  have hR : Rel g b M H := by rw [hH]; exact hR
  have hS : va_S (AA b s.heap.size) s.heap H locs := by rw [hH, hlo]; exact hS
  suffices hW : W p l e rmTX3_nextHole s m args below meth c H locs 0 0 (vx_MQ below (fun _ _ _ _ => False) (XT g b E M s.heap.size) args s 1 6 (AA b s.heap.size)) (F0 m 0 ls []) by rw [hH, hlo] at hW; exact hW
  rw [T_X3_nextHole] at hF
  refine lv_aload_n hx hb dX3_nextHole_0 rfl (lv_at hl 0 rfl) ?_
  refine lv_iload_n hx hb dX3_nextHole_1 rfl (lv_at hl 1 rfl) ?_
  rcases xt_some hF with hT | ⟨-, hF⟩
  · exact x_tV (As := [.int (jI a1)]) (rest := []) hx hb hml hown hlocks hts hK hTH hnt hR hS (t_X3_needLive hst ha1 hT) wd832 wd834 ws19 wd1 wd835 hyX3_needLive ⟨rfl, rfl⟩ ⟨Nat.le_of_ble_eq_true rfl, Nat.le_of_ble_eq_true rfl⟩ hl.1 (Nat.le_of_ble_eq_true rfl) dX3_nextHole_2 ⟨Nat.le_of_ble_eq_true rfl, Nat.le_of_ble_eq_true rfl⟩ rfl
  obtain ⟨y2, hc1, hF⟩ := xb1_some hF
  refine x_cVr (C := RX3) (T := TX3) (N := 9) (ci := 3) (As := [.int (jI a1)]) (rest := []) hx hb hml hown hts hK hR hS (c_X3_needLive ha1 hc1) ok0 rfl rfl wd832 wd834 ws19 wd1 wd835 hyX3_needLive ⟨rfl, rfl⟩ ⟨Nat.le_of_ble_eq_true rfl, Nat.le_of_ble_eq_true rfl⟩ hl.1 (Nat.le_of_ble_eq_true rfl) dX3_nextHole_2 ⟨Nat.zero_le _, Nat.zero_le _⟩ rfl (fun hg3 H locs hR hS => ?_)
  have hj4 : y2 < 99 := lt2 hg3
  refine lv_astore_n (lv' := [(3, .ref (adr b 2 y2)), (0, .ref (adr b 0 0)), (1, .int (jI a1)), (2, .int (jI a2))]) hx hb dX3_nextHole_5 rfl hl (by decide) rfl (fun ls hl => ?_)
  refine lv_aload_n hx hb dX3_nextHole_6 rfl (lv_at hl 1 rfl) ?_
  refine lv_iload_n hx hb dX3_nextHole_7 rfl (lv_at hl 3 rfl) ?_
  refine x_iconst hx hb dX3_nextHole_8 ?_
  refine x_sipush hx hb (by decide +kernel) dX3_nextHole_9 ?_
  rcases xt_some hF with hT | ⟨-, hF⟩
  · exact x_tV (As := [.int (jI a2), .int (jI (0 : Int)), .int (jI (320 : Int))]) (rest := []) hx hb hml hown hlocks hts hK hTH hnt hR hS (t_X3_needRange hst ha2 (by decide : rg (0 : Int)) (by decide : rg (320 : Int)) hT) wd285 wd287 ws4 wd1 wd288 hyX3_needRange ⟨rfl, rfl⟩ ⟨Nat.le_of_ble_eq_true rfl, Nat.le_of_ble_eq_true rfl⟩ hl.1 (Nat.le_of_ble_eq_true rfl) dX3_nextHole_12 ⟨Nat.le_of_ble_eq_true rfl, Nat.le_of_ble_eq_true rfl⟩ rfl
  obtain ⟨_, hc5, hF⟩ := xb1_some hF
  refine x_cVv (C := RX3) (T := TX3) (N := 9) (ci := 3) (As := [.int (jI a2), .int (jI (0 : Int)), .int (jI (320 : Int))]) (rest := []) hx hb hml hown hts hK hR hS (c_X3_needRange ha2 (by decide : rg (0 : Int)) (by decide : rg (320 : Int)) hc5) ok0 rfl rfl wd285 wd287 ws4 wd1 wd288 hyX3_needRange ⟨rfl, rfl⟩ ⟨Nat.le_of_ble_eq_true rfl, Nat.le_of_ble_eq_true rfl⟩ hl.1 (Nat.le_of_ble_eq_true rfl) dX3_nextHole_12 ⟨Nat.zero_le _, Nat.zero_le _⟩ rfl (fun H locs hR hS => ?_)
  refine lv_aload_n hx hb dX3_nextHole_15 rfl (lv_at hl 0 rfl) ?_
  refine lv_iload_n hx hb dX3_nextHole_16 rfl (lv_at hl 3 rfl) ?_
  refine x_iconst hx hb dX3_nextHole_17 ?_
  obtain ⟨y7, hc6, hF⟩ := xb1_some hF
  refine x_cVi (C := RX1) (T := TX1) (N := 12) (ci := 1) (As := [.int (jI a2), .int (jI (0 : Int))]) (rest := []) hx hb hml hown hts hK hR hS (c_X1_firstByte hj4 ha2 (by decide : rg (0 : Int)) hc6) (ok2 hj4) rfl rfl wd894 wd895 wd896 wd3 wd897 hyX1_firstByte ⟨rfl, rfl⟩ ⟨Nat.le_of_ble_eq_true rfl, Nat.le_of_ble_eq_true rfl⟩ hl.1 (Nat.le_of_ble_eq_true rfl) dX3_nextHole_18 ⟨Nat.zero_le _, Nat.zero_le _⟩ rfl (fun hg8 H locs hR hS => ?_)
  refine lv_istore (lv' := [(4, .int (jI y7)), (3, .ref (adr b 2 y2)), (0, .ref (adr b 0 0)), (1, .int (jI a1)), (2, .int (jI a2))]) hx hb dX3_nextHole_21 hl (by decide) rfl (fun ls hl => ?_)
  refine lv_iload hx hb dX3_nextHole_23 (lv_at hl 0 rfl) ?_
  refine x_iconst hx hb dX3_nextHole_25 ?_
  refine x_icmp_ne (tgt := 44) hx hb hg8 (by decide : rg (-1 : Int)) dX3_nextHole_26 (by decide) (fun ci9 => ?_) (fun ci9 => ?_)
  · rw [if_neg ci9] at hF
    refine lv_iload hx hb dX3_nextHole_44 (lv_at hl 0 rfl) ?_
    cases hF
  · rw [if_pos ci9] at hF
    refine lv_iload_n hx hb dX3_nextHole_29 rfl (lv_at hl 4 rfl) ?_
    refine lv_aload_n hx hb dX3_nextHole_30 rfl (lv_at hl 1 rfl) ?_
    refine gf_1_3 hx hb hts hown hK hR hj4 wd45 dX3_nextHole_31 ?_
    have hg10 : rg (M 2 y2 3) := hR.2 2 y2 3 (by decide)
    refine x_icmp_ge (tgt := 44) hx hb ha2 hg10 dX3_nextHole_34 (by decide) (fun ci11 => ?_) (fun ci11 => ?_)
    · rw [if_pos ci11] at hF
      refine lv_iload hx hb dX3_nextHole_44 (lv_at hl 0 rfl) ?_
      cases hF
    · rw [if_neg ci11] at hF
      refine lv_aload_n hx hb dX3_nextHole_37 rfl (lv_at hl 1 rfl) ?_
      refine gf_1_3 hx hb hts hown hK hR hj4 wd45 dX3_nextHole_38 ?_
      have hg12 : rg (M 2 y2 3) := hR.2 2 y2 3 (by decide)
      refine lv_goto (tgt := 46) hx hb dX3_nextHole_41 (by decide) ?_
      cases hF
abbrev rmTX3_sameBytes : Room := { frames := 8, cells := 1, slots := 6, locals := 132 }
def T_X3_sameBytes (M : Mm) (a1 : Int) (a2 : Int) : Option Nat := (xk (M 0 0 0 = 0 ∨ M 0 0 0 = 1) (xt (T_X3_needLive M a1) (xb1 (F_X3_needLive M a1) fun y4 => (xt (T_X3_needLive M a2) (xb1 (F_X3_needLive M a2) fun y8 => (xb1 (F_X2_isSame M ((M 0 0 0).toNat) y4 y8) fun y12 => none))))))
set_option maxHeartbeats 4000000 in
set_option maxRecDepth 100000 in
theorem t_X3_sameBytes {l : Launch} {g : Gx} {b : Nat} {M : Mm} {a1 : Int} {a2 : Int} {E : Nat} (hst : l.stackTraces = false) (ha1 : rg a1) (ha2 : rg a2) (hF : T_X3_sameBytes M a1 a2 = some E) : Tt l yX3_sameBytes cX3_sameBytes 3 (some .boolean) rmTX3_sameBytes g b [.ref (adr b 0 0), .int (jI a1), .int (jI a2)] M E := by
  refine tt_of (by decide +kernel) (Nat.le_of_ble_eq_true rfl) ?_
  intro p e s m args below meth c C0 hTH hnt hR ls hl
  obtain ⟨hx, hb, hr, hlocks, hml, hown, hts, hK⟩ := id C0
  have hS : va_S (AA b s.heap.size) s.heap s.heap [] := va_S.rf
  have hl : lv_has ls 3 [(0, .ref (adr b 0 0)), (1, .int (jI a1)), (2, .int (jI a2))] := hl
  obtain ⟨H, hH⟩ : ∃ z, z = s.heap := ⟨_, rfl⟩
  obtain ⟨locs, hlo⟩ : ∃ z : List Loc, z = [] := ⟨_, rfl⟩
  have hR : Rel g b M H := by rw [hH]; exact hR
  have hS : va_S (AA b s.heap.size) s.heap H locs := by rw [hH, hlo]; exact hS
  suffices hW : W p l e rmTX3_sameBytes s m args below meth c H locs 0 0 (vx_MQ below (fun _ _ _ _ => False) (XT g b E M s.heap.size) args s 1 6 (AA b s.heap.size)) (F0 m 0 ls []) by rw [hH, hlo] at hW; exact hW
  rw [T_X3_sameBytes] at hF
  refine lv_aload_n hx hb dX3_sameBytes_0 rfl (lv_at hl 0 rfl) ?_
  refine gf_3_0 hx hb hts hown hK hR wd139 dX3_sameBytes_1 ?_
  obtain ⟨ht1, hF⟩ := xk_some hF
  have hj2 : (M 0 0 0).toNat < 3 := by omega
  refine lv_aload_n hx hb dX3_sameBytes_4 rfl (lv_at hl 0 rfl) ?_
  refine lv_iload_n hx hb dX3_sameBytes_5 rfl (lv_at hl 1 rfl) ?_
  rcases xt_some hF with hT | ⟨-, hF⟩
  · exact x_tV (As := [.int (jI a1)]) (rest := [.ref (adr b 1 ((M 0 0 0).toNat))]) hx hb hml hown hlocks hts hK hTH hnt hR hS (t_X3_needLive hst ha1 hT) wd832 wd834 ws19 wd1 wd835 hyX3_needLive ⟨rfl, rfl⟩ ⟨Nat.le_of_ble_eq_true rfl, Nat.le_of_ble_eq_true rfl⟩ hl.1 (Nat.le_of_ble_eq_true rfl) dX3_sameBytes_6 ⟨Nat.le_of_ble_eq_true rfl, Nat.le_of_ble_eq_true rfl⟩ rfl
  obtain ⟨y4, hc3, hF⟩ := xb1_some hF
  refine x_cVr (C := RX3) (T := TX3) (N := 9) (ci := 3) (As := [.int (jI a1)]) (rest := [.ref (adr b 1 ((M 0 0 0).toNat))]) hx hb hml hown hts hK hR hS (c_X3_needLive ha1 hc3) ok0 rfl rfl wd832 wd834 ws19 wd1 wd835 hyX3_needLive ⟨rfl, rfl⟩ ⟨Nat.le_of_ble_eq_true rfl, Nat.le_of_ble_eq_true rfl⟩ hl.1 (Nat.le_of_ble_eq_true rfl) dX3_sameBytes_6 ⟨Nat.zero_le _, Nat.zero_le _⟩ rfl (fun hg5 H locs hR hS => ?_)
  have hj6 : y4 < 99 := lt2 hg5
  refine lv_aload_n hx hb dX3_sameBytes_9 rfl (lv_at hl 0 rfl) ?_
  refine lv_iload_n hx hb dX3_sameBytes_10 rfl (lv_at hl 2 rfl) ?_
  rcases xt_some hF with hT | ⟨-, hF⟩
  · exact x_tV (As := [.int (jI a2)]) (rest := [.ref (adr b 2 y4), .ref (adr b 1 ((M 0 0 0).toNat))]) hx hb hml hown hlocks hts hK hTH hnt hR hS (t_X3_needLive hst ha2 hT) wd832 wd834 ws19 wd1 wd835 hyX3_needLive ⟨rfl, rfl⟩ ⟨Nat.le_of_ble_eq_true rfl, Nat.le_of_ble_eq_true rfl⟩ hl.1 (Nat.le_of_ble_eq_true rfl) dX3_sameBytes_11 ⟨Nat.le_of_ble_eq_true rfl, Nat.le_of_ble_eq_true rfl⟩ rfl
  obtain ⟨y8, hc7, hF⟩ := xb1_some hF
  refine x_cVr (C := RX3) (T := TX3) (N := 9) (ci := 3) (As := [.int (jI a2)]) (rest := [.ref (adr b 2 y4), .ref (adr b 1 ((M 0 0 0).toNat))]) hx hb hml hown hts hK hR hS (c_X3_needLive ha2 hc7) ok0 rfl rfl wd832 wd834 ws19 wd1 wd835 hyX3_needLive ⟨rfl, rfl⟩ ⟨Nat.le_of_ble_eq_true rfl, Nat.le_of_ble_eq_true rfl⟩ hl.1 (Nat.le_of_ble_eq_true rfl) dX3_sameBytes_11 ⟨Nat.zero_le _, Nat.zero_le _⟩ rfl (fun hg9 H locs hR hS => ?_)
  have hj10 : y8 < 99 := lt2 hg9
  obtain ⟨y12, hc11, hF⟩ := xb1_some hF
  refine x_cVi (C := RX2) (T := TX2) (N := 8) (ci := 2) (As := [.ref (adr b 2 y4), .ref (adr b 2 y8)]) (rest := []) hx hb hml hown hts hK hR hS (c_X2_isSame hj2 hj6 hj10 hc11) (ok1 hj2) rfl rfl wd913 wd914 wd915 wd2 wd916 hyX2_isSame ⟨rfl, rfl⟩ ⟨Nat.le_of_ble_eq_true rfl, Nat.le_of_ble_eq_true rfl⟩ hl.1 (Nat.le_of_ble_eq_true rfl) dX3_sameBytes_14 ⟨Nat.zero_le _, Nat.zero_le _⟩ rfl (fun hg13 H locs hR hS => ?_)
  cases hF
abbrev rmTX3_lookup : Room := { frames := 8, cells := 1, slots := 6, locals := 135 }
def T_X3_lookup (M : Mm) (a1 : Int) (a2 : Int) : Option Nat := (xt (T_X3_needEntry M a1 a2) (xb1 (F_X3_needEntry M a1 a2) fun _ => (xk (M 0 0 0 = 0 ∨ M 0 0 0 = 1) (xb1 (F_X2_at M ((M 0 0 0).toNat) a1) fun y5 => (if (M 2 y5 0) = (2 : Int) then (xb1 (F_X1_nodeNamed M y5 a2) fun y11 => none) else none)))))
set_option maxHeartbeats 4000000 in
set_option maxRecDepth 100000 in
theorem t_X3_lookup {l : Launch} {g : Gx} {b : Nat} {M : Mm} {a1 : Int} {a2 : Int} {E : Nat} (hst : l.stackTraces = false) (ha1 : rg a1) (ha2 : rg a2) (hF : T_X3_lookup M a1 a2 = some E) : Tt l yX3_lookup cX3_lookup 4 (some .int) rmTX3_lookup g b [.ref (adr b 0 0), .int (jI a1), .int (jI a2)] M E := by
  refine tt_of (by decide +kernel) (Nat.le_of_ble_eq_true rfl) ?_
  intro p e s m args below meth c C0 hTH hnt hR ls hl
  obtain ⟨hx, hb, hr, hlocks, hml, hown, hts, hK⟩ := id C0
  have hS : va_S (AA b s.heap.size) s.heap s.heap [] := va_S.rf
  have hl : lv_has ls 4 [(0, .ref (adr b 0 0)), (1, .int (jI a1)), (2, .int (jI a2))] := hl
  obtain ⟨H, hH⟩ : ∃ z, z = s.heap := ⟨_, rfl⟩
  obtain ⟨locs, hlo⟩ : ∃ z : List Loc, z = [] := ⟨_, rfl⟩
  have hR : Rel g b M H := by rw [hH]; exact hR
  have hS : va_S (AA b s.heap.size) s.heap H locs := by rw [hH, hlo]; exact hS
  suffices hW : W p l e rmTX3_lookup s m args below meth c H locs 0 0 (vx_MQ below (fun _ _ _ _ => False) (XT g b E M s.heap.size) args s 1 6 (AA b s.heap.size)) (F0 m 0 ls []) by rw [hH, hlo] at hW; exact hW
  rw [T_X3_lookup] at hF
  refine lv_aload_n hx hb dX3_lookup_0 rfl (lv_at hl 0 rfl) ?_
  refine lv_iload_n hx hb dX3_lookup_1 rfl (lv_at hl 1 rfl) ?_
  refine lv_iload_n hx hb dX3_lookup_2 rfl (lv_at hl 2 rfl) ?_
  rcases xt_some hF with hT | ⟨-, hF⟩
  · exact x_tV (As := [.int (jI a1), .int (jI a2)]) (rest := []) hx hb hml hown hlocks hts hK hTH hnt hR hS (t_X3_needEntry hst ha1 ha2 hT) wd185 wd187 ws0 wd1 wd188 hyX3_needEntry ⟨rfl, rfl⟩ ⟨Nat.le_of_ble_eq_true rfl, Nat.le_of_ble_eq_true rfl⟩ hl.1 (Nat.le_of_ble_eq_true rfl) dX3_lookup_3 ⟨Nat.le_of_ble_eq_true rfl, Nat.le_of_ble_eq_true rfl⟩ rfl
  obtain ⟨_, hc1, hF⟩ := xb1_some hF
  refine x_cVv (C := RX3) (T := TX3) (N := 9) (ci := 3) (As := [.int (jI a1), .int (jI a2)]) (rest := []) hx hb hml hown hts hK hR hS (c_X3_needEntry ha1 ha2 hc1) ok0 rfl rfl wd185 wd187 ws0 wd1 wd188 hyX3_needEntry ⟨rfl, rfl⟩ ⟨Nat.le_of_ble_eq_true rfl, Nat.le_of_ble_eq_true rfl⟩ hl.1 (Nat.le_of_ble_eq_true rfl) dX3_lookup_3 ⟨Nat.zero_le _, Nat.zero_le _⟩ rfl (fun H locs hR hS => ?_)
  refine lv_aload_n hx hb dX3_lookup_6 rfl (lv_at hl 0 rfl) ?_
  refine gf_3_0 hx hb hts hown hK hR wd139 dX3_lookup_7 ?_
  obtain ⟨ht2, hF⟩ := xk_some hF
  have hj3 : (M 0 0 0).toNat < 3 := by omega
  refine lv_iload_n hx hb dX3_lookup_10 rfl (lv_at hl 1 rfl) ?_
  obtain ⟨y5, hc4, hF⟩ := xb1_some hF
  refine x_cVr (C := RX2) (T := TX2) (N := 8) (ci := 2) (As := [.int (jI a1)]) (rest := []) hx hb hml hown hts hK hR hS (c_X2_at hj3 ha1 hc4) (ok1 hj3) rfl rfl wd265 wd266 wd267 wd2 wd268 hyX2_at ⟨rfl, rfl⟩ ⟨Nat.le_of_ble_eq_true rfl, Nat.le_of_ble_eq_true rfl⟩ hl.1 (Nat.le_of_ble_eq_true rfl) dX3_lookup_11 ⟨Nat.zero_le _, Nat.zero_le _⟩ rfl (fun hg6 H locs hR hS => ?_)
  have hj7 : y5 < 99 := lt2 hg6
  refine lv_astore_n (lv' := [(3, .ref (adr b 2 y5)), (0, .ref (adr b 0 0)), (1, .int (jI a1)), (2, .int (jI a2))]) hx hb dX3_lookup_14 rfl hl (by decide) rfl (fun ls hl => ?_)
  refine lv_aload_n hx hb dX3_lookup_15 rfl (lv_at hl 0 rfl) ?_
  refine gf_1_0 hx hb hts hown hK hR hj7 wd37 dX3_lookup_16 ?_
  have hg8 : rg (M 2 y5 0) := hR.2 2 y5 0 (by decide)
  refine x_iconst hx hb dX3_lookup_19 ?_
  refine x_icmp_ne (tgt := 31) hx hb hg8 (by decide : rg (2 : Int)) dX3_lookup_20 (by decide) (fun ci9 => ?_) (fun ci9 => ?_)
  · rw [if_neg ci9] at hF
    refine x_bipush hx hb (by decide +kernel) dX3_lookup_31 ?_
    cases hF
  · rw [if_pos ci9] at hF
    refine lv_aload_n hx hb dX3_lookup_23 rfl (lv_at hl 0 rfl) ?_
    refine lv_iload_n hx hb dX3_lookup_24 rfl (lv_at hl 3 rfl) ?_
    obtain ⟨y11, hc10, hF⟩ := xb1_some hF
    refine x_cVi (C := RX1) (T := TX1) (N := 12) (ci := 1) (As := [.int (jI a2)]) (rest := []) hx hb hml hown hts hK hR hS (c_X1_nodeNamed hj7 ha2 hc10) (ok2 hj7) rfl rfl wd313 wd314 wd315 wd3 wd316 hyX1_nodeNamed ⟨rfl, rfl⟩ ⟨Nat.le_of_ble_eq_true rfl, Nat.le_of_ble_eq_true rfl⟩ hl.1 (Nat.le_of_ble_eq_true rfl) dX3_lookup_25 ⟨Nat.zero_le _, Nat.zero_le _⟩ rfl (fun hg12 H locs hR hS => ?_)
    refine lv_goto (tgt := 33) hx hb dX3_lookup_28 (by decide) ?_
    cases hF
abbrev rmTX3_follow : Room := { frames := 8, cells := 1, slots := 6, locals := 135 }
def T_X3_follow (M : Mm) (a1 : Int) (a2 : Int) : Option Nat := (xt (T_X3_needEntry M a1 a2) (xb1 (F_X3_needEntry M a1 a2) fun _ => (xk (M 0 0 0 = 0 ∨ M 0 0 0 = 1) none)))
set_option maxHeartbeats 4000000 in
set_option maxRecDepth 100000 in
theorem t_X3_follow {l : Launch} {g : Gx} {b : Nat} {M : Mm} {a1 : Int} {a2 : Int} {E : Nat} (hst : l.stackTraces = false) (ha1 : rg a1) (ha2 : rg a2) (hF : T_X3_follow M a1 a2 = some E) : Tt l yX3_follow cX3_follow 3 (some .int) rmTX3_follow g b [.ref (adr b 0 0), .int (jI a1), .int (jI a2)] M E := by
  refine tt_of (by decide +kernel) (Nat.le_of_ble_eq_true rfl) ?_
  intro p e s m args below meth c C0 hTH hnt hR ls hl
  obtain ⟨hx, hb, hr, hlocks, hml, hown, hts, hK⟩ := id C0
  have hS : va_S (AA b s.heap.size) s.heap s.heap [] := va_S.rf
  have hl : lv_has ls 3 [(0, .ref (adr b 0 0)), (1, .int (jI a1)), (2, .int (jI a2))] := hl
  obtain ⟨H, hH⟩ : ∃ z, z = s.heap := ⟨_, rfl⟩
  obtain ⟨locs, hlo⟩ : ∃ z : List Loc, z = [] := ⟨_, rfl⟩
  have hR : Rel g b M H := by rw [hH]; exact hR
  have hS : va_S (AA b s.heap.size) s.heap H locs := by rw [hH, hlo]; exact hS
  suffices hW : W p l e rmTX3_follow s m args below meth c H locs 0 0 (vx_MQ below (fun _ _ _ _ => False) (XT g b E M s.heap.size) args s 1 6 (AA b s.heap.size)) (F0 m 0 ls []) by rw [hH, hlo] at hW; exact hW
  rw [T_X3_follow] at hF
  refine lv_aload_n hx hb dX3_follow_0 rfl (lv_at hl 0 rfl) ?_
  refine lv_iload_n hx hb dX3_follow_1 rfl (lv_at hl 1 rfl) ?_
  refine lv_iload_n hx hb dX3_follow_2 rfl (lv_at hl 2 rfl) ?_
  rcases xt_some hF with hT | ⟨-, hF⟩
  · exact x_tV (As := [.int (jI a1), .int (jI a2)]) (rest := []) hx hb hml hown hlocks hts hK hTH hnt hR hS (t_X3_needEntry hst ha1 ha2 hT) wd185 wd187 ws0 wd1 wd188 hyX3_needEntry ⟨rfl, rfl⟩ ⟨Nat.le_of_ble_eq_true rfl, Nat.le_of_ble_eq_true rfl⟩ hl.1 (Nat.le_of_ble_eq_true rfl) dX3_follow_3 ⟨Nat.le_of_ble_eq_true rfl, Nat.le_of_ble_eq_true rfl⟩ rfl
  obtain ⟨_, hc1, hF⟩ := xb1_some hF
  refine x_cVv (C := RX3) (T := TX3) (N := 9) (ci := 3) (As := [.int (jI a1), .int (jI a2)]) (rest := []) hx hb hml hown hts hK hR hS (c_X3_needEntry ha1 ha2 hc1) ok0 rfl rfl wd185 wd187 ws0 wd1 wd188 hyX3_needEntry ⟨rfl, rfl⟩ ⟨Nat.le_of_ble_eq_true rfl, Nat.le_of_ble_eq_true rfl⟩ hl.1 (Nat.le_of_ble_eq_true rfl) dX3_follow_3 ⟨Nat.zero_le _, Nat.zero_le _⟩ rfl (fun H locs hR hS => ?_)
  refine lv_aload_n hx hb dX3_follow_6 rfl (lv_at hl 0 rfl) ?_
  refine gf_3_0 hx hb hts hown hK hR wd139 dX3_follow_7 ?_
  obtain ⟨ht2, hF⟩ := xk_some hF
  have hj3 : (M 0 0 0).toNat < 3 := by omega
  refine lv_iload_n hx hb dX3_follow_10 rfl (lv_at hl 1 rfl) ?_
  refine lv_iload_n hx hb dX3_follow_11 rfl (lv_at hl 2 rfl) ?_
  cases hF
abbrev rmTX3_nameAt : Room := { frames := 8, cells := 1, slots := 6, locals := 132 }
def T_X3_nameAt (M : Mm) (a1 : Int) (a2 : Int) : Option Nat := (xt (T_X3_needLive M a1) (xb1 (F_X3_needLive M a1) fun y2 => (xb1 (F_X1_nameOf M y2 a2) fun y6 => none)))
set_option maxHeartbeats 4000000 in
set_option maxRecDepth 100000 in
theorem t_X3_nameAt {l : Launch} {g : Gx} {b : Nat} {M : Mm} {a1 : Int} {a2 : Int} {E : Nat} (hst : l.stackTraces = false) (ha1 : rg a1) (ha2 : rg a2) (hF : T_X3_nameAt M a1 a2 = some E) : Tt l yX3_nameAt cX3_nameAt 3 (some .int) rmTX3_nameAt g b [.ref (adr b 0 0), .int (jI a1), .int (jI a2)] M E := by
  refine tt_of (by decide +kernel) (Nat.le_of_ble_eq_true rfl) ?_
  intro p e s m args below meth c C0 hTH hnt hR ls hl
  obtain ⟨hx, hb, hr, hlocks, hml, hown, hts, hK⟩ := id C0
  have hS : va_S (AA b s.heap.size) s.heap s.heap [] := va_S.rf
  have hl : lv_has ls 3 [(0, .ref (adr b 0 0)), (1, .int (jI a1)), (2, .int (jI a2))] := hl
  obtain ⟨H, hH⟩ : ∃ z, z = s.heap := ⟨_, rfl⟩
  obtain ⟨locs, hlo⟩ : ∃ z : List Loc, z = [] := ⟨_, rfl⟩
  have hR : Rel g b M H := by rw [hH]; exact hR
  have hS : va_S (AA b s.heap.size) s.heap H locs := by rw [hH, hlo]; exact hS
  suffices hW : W p l e rmTX3_nameAt s m args below meth c H locs 0 0 (vx_MQ below (fun _ _ _ _ => False) (XT g b E M s.heap.size) args s 1 6 (AA b s.heap.size)) (F0 m 0 ls []) by rw [hH, hlo] at hW; exact hW
  rw [T_X3_nameAt] at hF
  refine lv_aload_n hx hb dX3_nameAt_0 rfl (lv_at hl 0 rfl) ?_
  refine lv_iload_n hx hb dX3_nameAt_1 rfl (lv_at hl 1 rfl) ?_
  rcases xt_some hF with hT | ⟨-, hF⟩
  · exact x_tV (As := [.int (jI a1)]) (rest := []) hx hb hml hown hlocks hts hK hTH hnt hR hS (t_X3_needLive hst ha1 hT) wd832 wd834 ws19 wd1 wd835 hyX3_needLive ⟨rfl, rfl⟩ ⟨Nat.le_of_ble_eq_true rfl, Nat.le_of_ble_eq_true rfl⟩ hl.1 (Nat.le_of_ble_eq_true rfl) dX3_nameAt_2 ⟨Nat.le_of_ble_eq_true rfl, Nat.le_of_ble_eq_true rfl⟩ rfl
  obtain ⟨y2, hc1, hF⟩ := xb1_some hF
  refine x_cVr (C := RX3) (T := TX3) (N := 9) (ci := 3) (As := [.int (jI a1)]) (rest := []) hx hb hml hown hts hK hR hS (c_X3_needLive ha1 hc1) ok0 rfl rfl wd832 wd834 ws19 wd1 wd835 hyX3_needLive ⟨rfl, rfl⟩ ⟨Nat.le_of_ble_eq_true rfl, Nat.le_of_ble_eq_true rfl⟩ hl.1 (Nat.le_of_ble_eq_true rfl) dX3_nameAt_2 ⟨Nat.zero_le _, Nat.zero_le _⟩ rfl (fun hg3 H locs hR hS => ?_)
  have hj4 : y2 < 99 := lt2 hg3
  refine lv_iload_n hx hb dX3_nameAt_5 rfl (lv_at hl 2 rfl) ?_
  obtain ⟨y6, hc5, hF⟩ := xb1_some hF
  refine x_cVi (C := RX1) (T := TX1) (N := 12) (ci := 1) (As := [.int (jI a2)]) (rest := []) hx hb hml hown hts hK hR hS (c_X1_nameOf hj4 ha2 hc5) (ok2 hj4) rfl rfl wd948 wd949 wd950 wd3 wd951 hyX1_nameOf ⟨rfl, rfl⟩ ⟨Nat.le_of_ble_eq_true rfl, Nat.le_of_ble_eq_true rfl⟩ hl.1 (Nat.le_of_ble_eq_true rfl) dX3_nameAt_6 ⟨Nat.zero_le _, Nat.zero_le _⟩ rfl (fun hg7 H locs hR hS => ?_)
  cases hF
abbrev rmTX3_parentOf : Room := { frames := 8, cells := 1, slots := 6, locals := 132 }
def T_X3_parentOf (M : Mm) (a1 : Int) : Option Nat := (xt (T_X3_needLive M a1) (xb1 (F_X3_needLive M a1) fun y2 => (if (M 2 y2 0) = (2 : Int) then (xk (M 0 0 0 = 0 ∨ M 0 0 0 = 1) (xb1 (F_X2_at M ((M 0 0 0).toNat) a1) fun y10 => none)) else none)))
set_option maxHeartbeats 4000000 in
set_option maxRecDepth 100000 in
theorem t_X3_parentOf {l : Launch} {g : Gx} {b : Nat} {M : Mm} {a1 : Int} {E : Nat} (hst : l.stackTraces = false) (ha1 : rg a1) (hF : T_X3_parentOf M a1 = some E) : Tt l yX3_parentOf cX3_parentOf 2 (some .int) rmTX3_parentOf g b [.ref (adr b 0 0), .int (jI a1)] M E := by
  refine tt_of (by decide +kernel) (Nat.le_of_ble_eq_true rfl) ?_
  intro p e s m args below meth c C0 hTH hnt hR ls hl
  obtain ⟨hx, hb, hr, hlocks, hml, hown, hts, hK⟩ := id C0
  have hS : va_S (AA b s.heap.size) s.heap s.heap [] := va_S.rf
  have hl : lv_has ls 2 [(0, .ref (adr b 0 0)), (1, .int (jI a1))] := hl
  obtain ⟨H, hH⟩ : ∃ z, z = s.heap := ⟨_, rfl⟩
  obtain ⟨locs, hlo⟩ : ∃ z : List Loc, z = [] := ⟨_, rfl⟩
  have hR : Rel g b M H := by rw [hH]; exact hR
  have hS : va_S (AA b s.heap.size) s.heap H locs := by rw [hH, hlo]; exact hS
  suffices hW : W p l e rmTX3_parentOf s m args below meth c H locs 0 0 (vx_MQ below (fun _ _ _ _ => False) (XT g b E M s.heap.size) args s 1 6 (AA b s.heap.size)) (F0 m 0 ls []) by rw [hH, hlo] at hW; exact hW
  rw [T_X3_parentOf] at hF
  refine lv_aload_n hx hb dX3_parentOf_0 rfl (lv_at hl 0 rfl) ?_
  refine lv_iload_n hx hb dX3_parentOf_1 rfl (lv_at hl 1 rfl) ?_
  rcases xt_some hF with hT | ⟨-, hF⟩
  · exact x_tV (As := [.int (jI a1)]) (rest := []) hx hb hml hown hlocks hts hK hTH hnt hR hS (t_X3_needLive hst ha1 hT) wd832 wd834 ws19 wd1 wd835 hyX3_needLive ⟨rfl, rfl⟩ ⟨Nat.le_of_ble_eq_true rfl, Nat.le_of_ble_eq_true rfl⟩ hl.1 (Nat.le_of_ble_eq_true rfl) dX3_parentOf_2 ⟨Nat.le_of_ble_eq_true rfl, Nat.le_of_ble_eq_true rfl⟩ rfl
  obtain ⟨y2, hc1, hF⟩ := xb1_some hF
  refine x_cVr (C := RX3) (T := TX3) (N := 9) (ci := 3) (As := [.int (jI a1)]) (rest := []) hx hb hml hown hts hK hR hS (c_X3_needLive ha1 hc1) ok0 rfl rfl wd832 wd834 ws19 wd1 wd835 hyX3_needLive ⟨rfl, rfl⟩ ⟨Nat.le_of_ble_eq_true rfl, Nat.le_of_ble_eq_true rfl⟩ hl.1 (Nat.le_of_ble_eq_true rfl) dX3_parentOf_2 ⟨Nat.zero_le _, Nat.zero_le _⟩ rfl (fun hg3 H locs hR hS => ?_)
  have hj4 : y2 < 99 := lt2 hg3
  refine gf_1_0 hx hb hts hown hK hR hj4 wd37 dX3_parentOf_5 ?_
  have hg5 : rg (M 2 y2 0) := hR.2 2 y2 0 (by decide)
  refine x_iconst hx hb dX3_parentOf_8 ?_
  refine x_icmp_ne (tgt := 26) hx hb hg5 (by decide : rg (2 : Int)) dX3_parentOf_9 (by decide) (fun ci6 => ?_) (fun ci6 => ?_)
  · rw [if_neg ci6] at hF
    refine x_iconst hx hb dX3_parentOf_26 ?_
    cases hF
  · rw [if_pos ci6] at hF
    refine lv_aload_n hx hb dX3_parentOf_12 rfl (lv_at hl 0 rfl) ?_
    refine gf_3_0 hx hb hts hown hK hR wd139 dX3_parentOf_13 ?_
    obtain ⟨ht7, hF⟩ := xk_some hF
    have hj8 : (M 0 0 0).toNat < 3 := by omega
    refine lv_iload_n hx hb dX3_parentOf_16 rfl (lv_at hl 1 rfl) ?_
    obtain ⟨y10, hc9, hF⟩ := xb1_some hF
    refine x_cVr (C := RX2) (T := TX2) (N := 8) (ci := 2) (As := [.int (jI a1)]) (rest := []) hx hb hml hown hts hK hR hS (c_X2_at hj8 ha1 hc9) (ok1 hj8) rfl rfl wd265 wd266 wd267 wd2 wd268 hyX2_at ⟨rfl, rfl⟩ ⟨Nat.le_of_ble_eq_true rfl, Nat.le_of_ble_eq_true rfl⟩ hl.1 (Nat.le_of_ble_eq_true rfl) dX3_parentOf_17 ⟨Nat.zero_le _, Nat.zero_le _⟩ rfl (fun hg11 H locs hR hS => ?_)
    have hj12 : y10 < 99 := lt2 hg11
    refine gf_1_4 hx hb hts hown hK hR hj12 wd49 dX3_parentOf_20 ?_
    have hg13 : rg (M 2 y10 4) := hR.2 2 y10 4 (by decide)
    refine lv_goto (tgt := 27) hx hb dX3_parentOf_23 (by decide) ?_
    cases hF
abbrev rmTX3_depthOf : Room := { frames := 8, cells := 1, slots := 6, locals := 132 }
def T_X3_depthOf (M : Mm) (a1 : Int) : Option Nat := (xt (T_X3_needLive M a1) (xb1 (F_X3_needLive M a1) fun y2 => (if (M 2 y2 0) = (2 : Int) then (xk (M 0 0 0 = 0 ∨ M 0 0 0 = 1) (xb1 (F_X2_depth M ((M 0 0 0).toNat) a1) fun y10 => none)) else none)))
set_option maxHeartbeats 4000000 in
set_option maxRecDepth 100000 in
theorem t_X3_depthOf {l : Launch} {g : Gx} {b : Nat} {M : Mm} {a1 : Int} {E : Nat} (hst : l.stackTraces = false) (ha1 : rg a1) (hF : T_X3_depthOf M a1 = some E) : Tt l yX3_depthOf cX3_depthOf 2 (some .int) rmTX3_depthOf g b [.ref (adr b 0 0), .int (jI a1)] M E := by
  refine tt_of (by decide +kernel) (Nat.le_of_ble_eq_true rfl) ?_
  intro p e s m args below meth c C0 hTH hnt hR ls hl
  obtain ⟨hx, hb, hr, hlocks, hml, hown, hts, hK⟩ := id C0
  have hS : va_S (AA b s.heap.size) s.heap s.heap [] := va_S.rf
  have hl : lv_has ls 2 [(0, .ref (adr b 0 0)), (1, .int (jI a1))] := hl
  obtain ⟨H, hH⟩ : ∃ z, z = s.heap := ⟨_, rfl⟩
  obtain ⟨locs, hlo⟩ : ∃ z : List Loc, z = [] := ⟨_, rfl⟩
  have hR : Rel g b M H := by rw [hH]; exact hR
  have hS : va_S (AA b s.heap.size) s.heap H locs := by rw [hH, hlo]; exact hS
  suffices hW : W p l e rmTX3_depthOf s m args below meth c H locs 0 0 (vx_MQ below (fun _ _ _ _ => False) (XT g b E M s.heap.size) args s 1 6 (AA b s.heap.size)) (F0 m 0 ls []) by rw [hH, hlo] at hW; exact hW
  rw [T_X3_depthOf] at hF
  refine lv_aload_n hx hb dX3_depthOf_0 rfl (lv_at hl 0 rfl) ?_
  refine lv_iload_n hx hb dX3_depthOf_1 rfl (lv_at hl 1 rfl) ?_
  rcases xt_some hF with hT | ⟨-, hF⟩
  · exact x_tV (As := [.int (jI a1)]) (rest := []) hx hb hml hown hlocks hts hK hTH hnt hR hS (t_X3_needLive hst ha1 hT) wd832 wd834 ws19 wd1 wd835 hyX3_needLive ⟨rfl, rfl⟩ ⟨Nat.le_of_ble_eq_true rfl, Nat.le_of_ble_eq_true rfl⟩ hl.1 (Nat.le_of_ble_eq_true rfl) dX3_depthOf_2 ⟨Nat.le_of_ble_eq_true rfl, Nat.le_of_ble_eq_true rfl⟩ rfl
  obtain ⟨y2, hc1, hF⟩ := xb1_some hF
  refine x_cVr (C := RX3) (T := TX3) (N := 9) (ci := 3) (As := [.int (jI a1)]) (rest := []) hx hb hml hown hts hK hR hS (c_X3_needLive ha1 hc1) ok0 rfl rfl wd832 wd834 ws19 wd1 wd835 hyX3_needLive ⟨rfl, rfl⟩ ⟨Nat.le_of_ble_eq_true rfl, Nat.le_of_ble_eq_true rfl⟩ hl.1 (Nat.le_of_ble_eq_true rfl) dX3_depthOf_2 ⟨Nat.zero_le _, Nat.zero_le _⟩ rfl (fun hg3 H locs hR hS => ?_)
  have hj4 : y2 < 99 := lt2 hg3
  refine gf_1_0 hx hb hts hown hK hR hj4 wd37 dX3_depthOf_5 ?_
  have hg5 : rg (M 2 y2 0) := hR.2 2 y2 0 (by decide)
  refine x_iconst hx hb dX3_depthOf_8 ?_
  refine x_icmp_ne (tgt := 23) hx hb hg5 (by decide : rg (2 : Int)) dX3_depthOf_9 (by decide) (fun ci6 => ?_) (fun ci6 => ?_)
  · rw [if_neg ci6] at hF
    refine x_iconst hx hb dX3_depthOf_23 ?_
    cases hF
  · rw [if_pos ci6] at hF
    refine lv_aload_n hx hb dX3_depthOf_12 rfl (lv_at hl 0 rfl) ?_
    refine gf_3_0 hx hb hts hown hK hR wd139 dX3_depthOf_13 ?_
    obtain ⟨ht7, hF⟩ := xk_some hF
    have hj8 : (M 0 0 0).toNat < 3 := by omega
    refine lv_iload_n hx hb dX3_depthOf_16 rfl (lv_at hl 1 rfl) ?_
    obtain ⟨y10, hc9, hF⟩ := xb1_some hF
    refine x_cVi (C := RX2) (T := TX2) (N := 8) (ci := 2) (As := [.int (jI a1)]) (rest := []) hx hb hml hown hts hK hR hS (c_X2_depth hj8 ha1 hc9) (ok1 hj8) rfl rfl wd966 wd967 wd968 wd2 wd969 hyX2_depth ⟨rfl, rfl⟩ ⟨Nat.le_of_ble_eq_true rfl, Nat.le_of_ble_eq_true rfl⟩ hl.1 (Nat.le_of_ble_eq_true rfl) dX3_depthOf_17 ⟨Nat.zero_le _, Nat.zero_le _⟩ rfl (fun hg11 H locs hR hS => ?_)
    refine lv_goto (tgt := 24) hx hb dX3_depthOf_20 (by decide) ?_
    cases hF
abbrev rmTX3_isOrphan : Room := { frames := 8, cells := 1, slots := 6, locals := 132 }
def T_X3_isOrphan (M : Mm) (a1 : Int) : Option Nat := (xt (T_X3_needLive M a1) (xb1 (F_X3_needLive M a1) fun y2 => (xb1 (F_X1_isForsaken M y2) fun y6 => none)))
set_option maxHeartbeats 4000000 in
set_option maxRecDepth 100000 in
theorem t_X3_isOrphan {l : Launch} {g : Gx} {b : Nat} {M : Mm} {a1 : Int} {E : Nat} (hst : l.stackTraces = false) (ha1 : rg a1) (hF : T_X3_isOrphan M a1 = some E) : Tt l yX3_isOrphan cX3_isOrphan 2 (some .boolean) rmTX3_isOrphan g b [.ref (adr b 0 0), .int (jI a1)] M E := by
  refine tt_of (by decide +kernel) (Nat.le_of_ble_eq_true rfl) ?_
  intro p e s m args below meth c C0 hTH hnt hR ls hl
  obtain ⟨hx, hb, hr, hlocks, hml, hown, hts, hK⟩ := id C0
  have hS : va_S (AA b s.heap.size) s.heap s.heap [] := va_S.rf
  have hl : lv_has ls 2 [(0, .ref (adr b 0 0)), (1, .int (jI a1))] := hl
  obtain ⟨H, hH⟩ : ∃ z, z = s.heap := ⟨_, rfl⟩
  obtain ⟨locs, hlo⟩ : ∃ z : List Loc, z = [] := ⟨_, rfl⟩
  have hR : Rel g b M H := by rw [hH]; exact hR
  have hS : va_S (AA b s.heap.size) s.heap H locs := by rw [hH, hlo]; exact hS
  suffices hW : W p l e rmTX3_isOrphan s m args below meth c H locs 0 0 (vx_MQ below (fun _ _ _ _ => False) (XT g b E M s.heap.size) args s 1 6 (AA b s.heap.size)) (F0 m 0 ls []) by rw [hH, hlo] at hW; exact hW
  rw [T_X3_isOrphan] at hF
  refine lv_aload_n hx hb dX3_isOrphan_0 rfl (lv_at hl 0 rfl) ?_
  refine lv_iload_n hx hb dX3_isOrphan_1 rfl (lv_at hl 1 rfl) ?_
  rcases xt_some hF with hT | ⟨-, hF⟩
  · exact x_tV (As := [.int (jI a1)]) (rest := []) hx hb hml hown hlocks hts hK hTH hnt hR hS (t_X3_needLive hst ha1 hT) wd832 wd834 ws19 wd1 wd835 hyX3_needLive ⟨rfl, rfl⟩ ⟨Nat.le_of_ble_eq_true rfl, Nat.le_of_ble_eq_true rfl⟩ hl.1 (Nat.le_of_ble_eq_true rfl) dX3_isOrphan_2 ⟨Nat.le_of_ble_eq_true rfl, Nat.le_of_ble_eq_true rfl⟩ rfl
  obtain ⟨y2, hc1, hF⟩ := xb1_some hF
  refine x_cVr (C := RX3) (T := TX3) (N := 9) (ci := 3) (As := [.int (jI a1)]) (rest := []) hx hb hml hown hts hK hR hS (c_X3_needLive ha1 hc1) ok0 rfl rfl wd832 wd834 ws19 wd1 wd835 hyX3_needLive ⟨rfl, rfl⟩ ⟨Nat.le_of_ble_eq_true rfl, Nat.le_of_ble_eq_true rfl⟩ hl.1 (Nat.le_of_ble_eq_true rfl) dX3_isOrphan_2 ⟨Nat.zero_le _, Nat.zero_le _⟩ rfl (fun hg3 H locs hR hS => ?_)
  have hj4 : y2 < 99 := lt2 hg3
  obtain ⟨y6, hc5, hF⟩ := xb1_some hF
  refine x_cVi (C := RX1) (T := TX1) (N := 12) (ci := 1) (As := []) (rest := []) hx hb hml hown hts hK hR hS (c_X1_isForsaken hj4 hc5) (ok2 hj4) rfl rfl wd643 wd644 wd645 wd3 wd646 hyX1_isForsaken ⟨rfl, rfl⟩ ⟨Nat.le_of_ble_eq_true rfl, Nat.le_of_ble_eq_true rfl⟩ hl.1 (Nat.le_of_ble_eq_true rfl) dX3_isOrphan_5 ⟨Nat.zero_le _, Nat.zero_le _⟩ rfl (fun hg7 H locs hR hS => ?_)
  cases hF
abbrev rmTX3_blocksUnder : Room := { frames := 7, cells := 1, slots := 6, locals := 111 }
def T_X3_blocksUnder (M : Mm) (a1 : Int) : Option Nat := (xt (T_X3_needPower M ) (xb1 (F_X3_needPower M ) fun _ => (xt (T_X3_needNode M a1) (xb1 (F_X3_needNode M a1) fun _ => (xk (M 0 0 0 = 0 ∨ M 0 0 0 = 1) none)))))
set_option maxHeartbeats 4000000 in
set_option maxRecDepth 100000 in
theorem t_X3_blocksUnder {l : Launch} {g : Gx} {b : Nat} {M : Mm} {a1 : Int} {E : Nat} (hst : l.stackTraces = false) (ha1 : rg a1) (hF : T_X3_blocksUnder M a1 = some E) : Tt l yX3_blocksUnder cX3_blocksUnder 2 (some .int) rmTX3_blocksUnder g b [.ref (adr b 0 0), .int (jI a1)] M E := by
  refine tt_of (by decide +kernel) (Nat.le_of_ble_eq_true rfl) ?_
  intro p e s m args below meth c C0 hTH hnt hR ls hl
  obtain ⟨hx, hb, hr, hlocks, hml, hown, hts, hK⟩ := id C0
  have hS : va_S (AA b s.heap.size) s.heap s.heap [] := va_S.rf
  have hl : lv_has ls 2 [(0, .ref (adr b 0 0)), (1, .int (jI a1))] := hl
  obtain ⟨H, hH⟩ : ∃ z, z = s.heap := ⟨_, rfl⟩
  obtain ⟨locs, hlo⟩ : ∃ z : List Loc, z = [] := ⟨_, rfl⟩
  have hR : Rel g b M H := by rw [hH]; exact hR
  have hS : va_S (AA b s.heap.size) s.heap H locs := by rw [hH, hlo]; exact hS
  suffices hW : W p l e rmTX3_blocksUnder s m args below meth c H locs 0 0 (vx_MQ below (fun _ _ _ _ => False) (XT g b E M s.heap.size) args s 1 6 (AA b s.heap.size)) (F0 m 0 ls []) by rw [hH, hlo] at hW; exact hW
  rw [T_X3_blocksUnder] at hF
  refine lv_aload_n hx hb dX3_blocksUnder_0 rfl (lv_at hl 0 rfl) ?_
  rcases xt_some hF with hT | ⟨-, hF⟩
  · exact x_tV (As := []) (rest := []) hx hb hml hown hlocks hts hK hTH hnt hR hS (t_X3_needPower hst  hT) wd189 wd191 ws1 wd1 wd192 hyX3_needPower ⟨rfl, rfl⟩ ⟨Nat.le_of_ble_eq_true rfl, Nat.le_of_ble_eq_true rfl⟩ hl.1 (Nat.le_of_ble_eq_true rfl) dX3_blocksUnder_1 ⟨Nat.le_of_ble_eq_true rfl, Nat.le_of_ble_eq_true rfl⟩ rfl
  obtain ⟨_, hc1, hF⟩ := xb1_some hF
  refine x_cVv (C := RX3) (T := TX3) (N := 9) (ci := 3) (As := []) (rest := []) hx hb hml hown hts hK hR hS (c_X3_needPower  hc1) ok0 rfl rfl wd189 wd191 ws1 wd1 wd192 hyX3_needPower ⟨rfl, rfl⟩ ⟨Nat.le_of_ble_eq_true rfl, Nat.le_of_ble_eq_true rfl⟩ hl.1 (Nat.le_of_ble_eq_true rfl) dX3_blocksUnder_1 ⟨Nat.zero_le _, Nat.zero_le _⟩ rfl (fun H locs hR hS => ?_)
  refine lv_aload_n hx hb dX3_blocksUnder_4 rfl (lv_at hl 0 rfl) ?_
  refine lv_iload_n hx hb dX3_blocksUnder_5 rfl (lv_at hl 1 rfl) ?_
  rcases xt_some hF with hT | ⟨-, hF⟩
  · exact x_tV (As := [.int (jI a1)]) (rest := []) hx hb hml hown hlocks hts hK hTH hnt hR hS (t_X3_needNode hst ha1 hT) wd261 wd263 ws3 wd1 wd264 hyX3_needNode ⟨rfl, rfl⟩ ⟨Nat.le_of_ble_eq_true rfl, Nat.le_of_ble_eq_true rfl⟩ hl.1 (Nat.le_of_ble_eq_true rfl) dX3_blocksUnder_6 ⟨Nat.le_of_ble_eq_true rfl, Nat.le_of_ble_eq_true rfl⟩ rfl
  obtain ⟨_, hc2, hF⟩ := xb1_some hF
  refine x_cVv (C := RX3) (T := TX3) (N := 9) (ci := 3) (As := [.int (jI a1)]) (rest := []) hx hb hml hown hts hK hR hS (c_X3_needNode ha1 hc2) ok0 rfl rfl wd261 wd263 ws3 wd1 wd264 hyX3_needNode ⟨rfl, rfl⟩ ⟨Nat.le_of_ble_eq_true rfl, Nat.le_of_ble_eq_true rfl⟩ hl.1 (Nat.le_of_ble_eq_true rfl) dX3_blocksUnder_6 ⟨Nat.zero_le _, Nat.zero_le _⟩ rfl (fun H locs hR hS => ?_)
  refine lv_aload_n hx hb dX3_blocksUnder_9 rfl (lv_at hl 0 rfl) ?_
  refine gf_3_0 hx hb hts hown hK hR wd139 dX3_blocksUnder_10 ?_
  obtain ⟨ht3, hF⟩ := xk_some hF
  have hj4 : (M 0 0 0).toNat < 3 := by omega
  refine lv_iload_n hx hb dX3_blocksUnder_13 rfl (lv_at hl 1 rfl) ?_
  cases hF
abbrev rmTX3_wouldFree : Room := { frames := 7, cells := 1, slots := 6, locals := 111 }
def T_X3_wouldFree (M : Mm) (a1 : Int) : Option Nat := (xt (T_X3_needPower M ) (xb1 (F_X3_needPower M ) fun _ => (xt (T_X3_needNode M a1) (xb1 (F_X3_needNode M a1) fun _ => (xk (M 0 0 0 = 0 ∨ M 0 0 0 = 1) none)))))
set_option maxHeartbeats 4000000 in
set_option maxRecDepth 100000 in
theorem t_X3_wouldFree {l : Launch} {g : Gx} {b : Nat} {M : Mm} {a1 : Int} {E : Nat} (hst : l.stackTraces = false) (ha1 : rg a1) (hF : T_X3_wouldFree M a1 = some E) : Tt l yX3_wouldFree cX3_wouldFree 2 (some .int) rmTX3_wouldFree g b [.ref (adr b 0 0), .int (jI a1)] M E := by
  refine tt_of (by decide +kernel) (Nat.le_of_ble_eq_true rfl) ?_
  intro p e s m args below meth c C0 hTH hnt hR ls hl
  obtain ⟨hx, hb, hr, hlocks, hml, hown, hts, hK⟩ := id C0
  have hS : va_S (AA b s.heap.size) s.heap s.heap [] := va_S.rf
  have hl : lv_has ls 2 [(0, .ref (adr b 0 0)), (1, .int (jI a1))] := hl
  obtain ⟨H, hH⟩ : ∃ z, z = s.heap := ⟨_, rfl⟩
  obtain ⟨locs, hlo⟩ : ∃ z : List Loc, z = [] := ⟨_, rfl⟩
  have hR : Rel g b M H := by rw [hH]; exact hR
  have hS : va_S (AA b s.heap.size) s.heap H locs := by rw [hH, hlo]; exact hS
  suffices hW : W p l e rmTX3_wouldFree s m args below meth c H locs 0 0 (vx_MQ below (fun _ _ _ _ => False) (XT g b E M s.heap.size) args s 1 6 (AA b s.heap.size)) (F0 m 0 ls []) by rw [hH, hlo] at hW; exact hW
  rw [T_X3_wouldFree] at hF
  refine lv_aload_n hx hb dX3_wouldFree_0 rfl (lv_at hl 0 rfl) ?_
  rcases xt_some hF with hT | ⟨-, hF⟩
  · exact x_tV (As := []) (rest := []) hx hb hml hown hlocks hts hK hTH hnt hR hS (t_X3_needPower hst  hT) wd189 wd191 ws1 wd1 wd192 hyX3_needPower ⟨rfl, rfl⟩ ⟨Nat.le_of_ble_eq_true rfl, Nat.le_of_ble_eq_true rfl⟩ hl.1 (Nat.le_of_ble_eq_true rfl) dX3_wouldFree_1 ⟨Nat.le_of_ble_eq_true rfl, Nat.le_of_ble_eq_true rfl⟩ rfl
  obtain ⟨_, hc1, hF⟩ := xb1_some hF
  refine x_cVv (C := RX3) (T := TX3) (N := 9) (ci := 3) (As := []) (rest := []) hx hb hml hown hts hK hR hS (c_X3_needPower  hc1) ok0 rfl rfl wd189 wd191 ws1 wd1 wd192 hyX3_needPower ⟨rfl, rfl⟩ ⟨Nat.le_of_ble_eq_true rfl, Nat.le_of_ble_eq_true rfl⟩ hl.1 (Nat.le_of_ble_eq_true rfl) dX3_wouldFree_1 ⟨Nat.zero_le _, Nat.zero_le _⟩ rfl (fun H locs hR hS => ?_)
  refine lv_aload_n hx hb dX3_wouldFree_4 rfl (lv_at hl 0 rfl) ?_
  refine lv_iload_n hx hb dX3_wouldFree_5 rfl (lv_at hl 1 rfl) ?_
  rcases xt_some hF with hT | ⟨-, hF⟩
  · exact x_tV (As := [.int (jI a1)]) (rest := []) hx hb hml hown hlocks hts hK hTH hnt hR hS (t_X3_needNode hst ha1 hT) wd261 wd263 ws3 wd1 wd264 hyX3_needNode ⟨rfl, rfl⟩ ⟨Nat.le_of_ble_eq_true rfl, Nat.le_of_ble_eq_true rfl⟩ hl.1 (Nat.le_of_ble_eq_true rfl) dX3_wouldFree_6 ⟨Nat.le_of_ble_eq_true rfl, Nat.le_of_ble_eq_true rfl⟩ rfl
  obtain ⟨_, hc2, hF⟩ := xb1_some hF
  refine x_cVv (C := RX3) (T := TX3) (N := 9) (ci := 3) (As := [.int (jI a1)]) (rest := []) hx hb hml hown hts hK hR hS (c_X3_needNode ha1 hc2) ok0 rfl rfl wd261 wd263 ws3 wd1 wd264 hyX3_needNode ⟨rfl, rfl⟩ ⟨Nat.le_of_ble_eq_true rfl, Nat.le_of_ble_eq_true rfl⟩ hl.1 (Nat.le_of_ble_eq_true rfl) dX3_wouldFree_6 ⟨Nat.zero_le _, Nat.zero_le _⟩ rfl (fun H locs hR hS => ?_)
  refine lv_aload_n hx hb dX3_wouldFree_9 rfl (lv_at hl 0 rfl) ?_
  refine gf_3_0 hx hb hts hown hK hR wd139 dX3_wouldFree_10 ?_
  obtain ⟨ht3, hF⟩ := xk_some hF
  have hj4 : (M 0 0 0).toNat < 3 := by omega
  refine lv_iload_n hx hb dX3_wouldFree_13 rfl (lv_at hl 1 rfl) ?_
  cases hF
abbrev rmTX3_used : Room := { frames := 7, cells := 1, slots := 6, locals := 110 }
def T_X3_used (M : Mm) : Option Nat := (xt (T_X3_needPower M ) (xb1 (F_X3_needPower M ) fun _ => (xk (M 0 0 0 = 0 ∨ M 0 0 0 = 1) (xb1 (F_X2_blocksTaken M ((M 0 0 0).toNat)) fun y5 => none))))
set_option maxHeartbeats 4000000 in
set_option maxRecDepth 100000 in
theorem t_X3_used {l : Launch} {g : Gx} {b : Nat} {M : Mm} {E : Nat} (hst : l.stackTraces = false) (hF : T_X3_used M  = some E) : Tt l yX3_used cX3_used 1 (some .int) rmTX3_used g b [.ref (adr b 0 0)] M E := by
  refine tt_of (by decide +kernel) (Nat.le_of_ble_eq_true rfl) ?_
  intro p e s m args below meth c C0 hTH hnt hR ls hl
  obtain ⟨hx, hb, hr, hlocks, hml, hown, hts, hK⟩ := id C0
  have hS : va_S (AA b s.heap.size) s.heap s.heap [] := va_S.rf
  have hl : lv_has ls 1 [(0, .ref (adr b 0 0))] := hl
  obtain ⟨H, hH⟩ : ∃ z, z = s.heap := ⟨_, rfl⟩
  obtain ⟨locs, hlo⟩ : ∃ z : List Loc, z = [] := ⟨_, rfl⟩
  have hR : Rel g b M H := by rw [hH]; exact hR
  have hS : va_S (AA b s.heap.size) s.heap H locs := by rw [hH, hlo]; exact hS
  suffices hW : W p l e rmTX3_used s m args below meth c H locs 0 0 (vx_MQ below (fun _ _ _ _ => False) (XT g b E M s.heap.size) args s 1 6 (AA b s.heap.size)) (F0 m 0 ls []) by rw [hH, hlo] at hW; exact hW
  rw [T_X3_used] at hF
  refine lv_aload_n hx hb dX3_used_0 rfl (lv_at hl 0 rfl) ?_
  rcases xt_some hF with hT | ⟨-, hF⟩
  · exact x_tV (As := []) (rest := []) hx hb hml hown hlocks hts hK hTH hnt hR hS (t_X3_needPower hst  hT) wd189 wd191 ws1 wd1 wd192 hyX3_needPower ⟨rfl, rfl⟩ ⟨Nat.le_of_ble_eq_true rfl, Nat.le_of_ble_eq_true rfl⟩ hl.1 (Nat.le_of_ble_eq_true rfl) dX3_used_1 ⟨Nat.le_of_ble_eq_true rfl, Nat.le_of_ble_eq_true rfl⟩ rfl
  obtain ⟨_, hc1, hF⟩ := xb1_some hF
  refine x_cVv (C := RX3) (T := TX3) (N := 9) (ci := 3) (As := []) (rest := []) hx hb hml hown hts hK hR hS (c_X3_needPower  hc1) ok0 rfl rfl wd189 wd191 ws1 wd1 wd192 hyX3_needPower ⟨rfl, rfl⟩ ⟨Nat.le_of_ble_eq_true rfl, Nat.le_of_ble_eq_true rfl⟩ hl.1 (Nat.le_of_ble_eq_true rfl) dX3_used_1 ⟨Nat.zero_le _, Nat.zero_le _⟩ rfl (fun H locs hR hS => ?_)
  refine lv_aload_n hx hb dX3_used_4 rfl (lv_at hl 0 rfl) ?_
  refine gf_3_0 hx hb hts hown hK hR wd139 dX3_used_5 ?_
  obtain ⟨ht2, hF⟩ := xk_some hF
  have hj3 : (M 0 0 0).toNat < 3 := by omega
  obtain ⟨y5, hc4, hF⟩ := xb1_some hF
  refine x_cVi (C := RX2) (T := TX2) (N := 8) (ci := 2) (As := []) (rest := []) hx hb hml hown hts hK hR hS (c_X2_blocksTaken hj3 hc4) (ok1 hj3) rfl rfl wd378 wd379 wd380 wd2 wd381 hyX2_blocksTaken ⟨rfl, rfl⟩ ⟨Nat.le_of_ble_eq_true rfl, Nat.le_of_ble_eq_true rfl⟩ hl.1 (Nat.le_of_ble_eq_true rfl) dX3_used_8 ⟨Nat.zero_le _, Nat.zero_le _⟩ rfl (fun hg6 H locs hR hS => ?_)
  cases hF
abbrev rmTX3_usedBy : Room := { frames := 7, cells := 1, slots := 6, locals := 113 }
def T_X3_usedBy (M : Mm) (a1 : Int) : Option Nat := (xt (T_X3_needPower M ) (xb1 (F_X3_needPower M ) fun _ => (xt (T_X3_needRange M a1 (0 : Int) (3 : Int)) (xb1 (F_X3_needRange M a1 (0 : Int) (3 : Int)) fun _ => (xk (M 0 0 0 = 0 ∨ M 0 0 0 = 1) (xb1 (F_X2_takenBy M ((M 0 0 0).toNat) a1) fun y6 => none))))))
set_option maxHeartbeats 4000000 in
set_option maxRecDepth 100000 in
theorem t_X3_usedBy {l : Launch} {g : Gx} {b : Nat} {M : Mm} {a1 : Int} {E : Nat} (hst : l.stackTraces = false) (ha1 : rg a1) (hF : T_X3_usedBy M a1 = some E) : Tt l yX3_usedBy cX3_usedBy 2 (some .int) rmTX3_usedBy g b [.ref (adr b 0 0), .int (jI a1)] M E := by
  refine tt_of (by decide +kernel) (Nat.le_of_ble_eq_true rfl) ?_
  intro p e s m args below meth c C0 hTH hnt hR ls hl
  obtain ⟨hx, hb, hr, hlocks, hml, hown, hts, hK⟩ := id C0
  have hS : va_S (AA b s.heap.size) s.heap s.heap [] := va_S.rf
  have hl : lv_has ls 2 [(0, .ref (adr b 0 0)), (1, .int (jI a1))] := hl
  obtain ⟨H, hH⟩ : ∃ z, z = s.heap := ⟨_, rfl⟩
  obtain ⟨locs, hlo⟩ : ∃ z : List Loc, z = [] := ⟨_, rfl⟩
  have hR : Rel g b M H := by rw [hH]; exact hR
  have hS : va_S (AA b s.heap.size) s.heap H locs := by rw [hH, hlo]; exact hS
  suffices hW : W p l e rmTX3_usedBy s m args below meth c H locs 0 0 (vx_MQ below (fun _ _ _ _ => False) (XT g b E M s.heap.size) args s 1 6 (AA b s.heap.size)) (F0 m 0 ls []) by rw [hH, hlo] at hW; exact hW
  rw [T_X3_usedBy] at hF
  refine lv_aload_n hx hb dX3_usedBy_0 rfl (lv_at hl 0 rfl) ?_
  rcases xt_some hF with hT | ⟨-, hF⟩
  · exact x_tV (As := []) (rest := []) hx hb hml hown hlocks hts hK hTH hnt hR hS (t_X3_needPower hst  hT) wd189 wd191 ws1 wd1 wd192 hyX3_needPower ⟨rfl, rfl⟩ ⟨Nat.le_of_ble_eq_true rfl, Nat.le_of_ble_eq_true rfl⟩ hl.1 (Nat.le_of_ble_eq_true rfl) dX3_usedBy_1 ⟨Nat.le_of_ble_eq_true rfl, Nat.le_of_ble_eq_true rfl⟩ rfl
  obtain ⟨_, hc1, hF⟩ := xb1_some hF
  refine x_cVv (C := RX3) (T := TX3) (N := 9) (ci := 3) (As := []) (rest := []) hx hb hml hown hts hK hR hS (c_X3_needPower  hc1) ok0 rfl rfl wd189 wd191 ws1 wd1 wd192 hyX3_needPower ⟨rfl, rfl⟩ ⟨Nat.le_of_ble_eq_true rfl, Nat.le_of_ble_eq_true rfl⟩ hl.1 (Nat.le_of_ble_eq_true rfl) dX3_usedBy_1 ⟨Nat.zero_le _, Nat.zero_le _⟩ rfl (fun H locs hR hS => ?_)
  refine lv_aload_n hx hb dX3_usedBy_4 rfl (lv_at hl 0 rfl) ?_
  refine lv_iload_n hx hb dX3_usedBy_5 rfl (lv_at hl 1 rfl) ?_
  refine x_iconst hx hb dX3_usedBy_6 ?_
  refine x_iconst hx hb dX3_usedBy_7 ?_
  rcases xt_some hF with hT | ⟨-, hF⟩
  · exact x_tV (As := [.int (jI a1), .int (jI (0 : Int)), .int (jI (3 : Int))]) (rest := []) hx hb hml hown hlocks hts hK hTH hnt hR hS (t_X3_needRange hst ha1 (by decide : rg (0 : Int)) (by decide : rg (3 : Int)) hT) wd285 wd287 ws4 wd1 wd288 hyX3_needRange ⟨rfl, rfl⟩ ⟨Nat.le_of_ble_eq_true rfl, Nat.le_of_ble_eq_true rfl⟩ hl.1 (Nat.le_of_ble_eq_true rfl) dX3_usedBy_8 ⟨Nat.le_of_ble_eq_true rfl, Nat.le_of_ble_eq_true rfl⟩ rfl
  obtain ⟨_, hc2, hF⟩ := xb1_some hF
  refine x_cVv (C := RX3) (T := TX3) (N := 9) (ci := 3) (As := [.int (jI a1), .int (jI (0 : Int)), .int (jI (3 : Int))]) (rest := []) hx hb hml hown hts hK hR hS (c_X3_needRange ha1 (by decide : rg (0 : Int)) (by decide : rg (3 : Int)) hc2) ok0 rfl rfl wd285 wd287 ws4 wd1 wd288 hyX3_needRange ⟨rfl, rfl⟩ ⟨Nat.le_of_ble_eq_true rfl, Nat.le_of_ble_eq_true rfl⟩ hl.1 (Nat.le_of_ble_eq_true rfl) dX3_usedBy_8 ⟨Nat.zero_le _, Nat.zero_le _⟩ rfl (fun H locs hR hS => ?_)
  refine lv_aload_n hx hb dX3_usedBy_11 rfl (lv_at hl 0 rfl) ?_
  refine gf_3_0 hx hb hts hown hK hR wd139 dX3_usedBy_12 ?_
  obtain ⟨ht3, hF⟩ := xk_some hF
  have hj4 : (M 0 0 0).toNat < 3 := by omega
  refine lv_iload_n hx hb dX3_usedBy_15 rfl (lv_at hl 1 rfl) ?_
  obtain ⟨y6, hc5, hF⟩ := xb1_some hF
  refine x_cVi (C := RX2) (T := TX2) (N := 8) (ci := 2) (As := [.int (jI a1)]) (rest := []) hx hb hml hown hts hK hR hS (c_X2_takenBy hj4 ha1 hc5) (ok1 hj4) rfl rfl wd389 wd390 wd391 wd2 wd392 hyX2_takenBy ⟨rfl, rfl⟩ ⟨Nat.le_of_ble_eq_true rfl, Nat.le_of_ble_eq_true rfl⟩ hl.1 (Nat.le_of_ble_eq_true rfl) dX3_usedBy_16 ⟨Nat.zero_le _, Nat.zero_le _⟩ rfl (fun hg7 H locs hR hS => ?_)
  cases hF
abbrev rmTX3_quotaOf : Room := { frames := 7, cells := 1, slots := 6, locals := 113 }
def T_X3_quotaOf (M : Mm) (a1 : Int) : Option Nat := (xt (T_X3_needPower M ) (xb1 (F_X3_needPower M ) fun _ => (xt (T_X3_needRange M a1 (0 : Int) (3 : Int)) (xb1 (F_X3_needRange M a1 (0 : Int) (3 : Int)) fun _ => (xk (M 0 0 0 = 0 ∨ M 0 0 0 = 1) (xb1 (F_X2_limitOf M ((M 0 0 0).toNat) a1) fun y6 => none))))))
set_option maxHeartbeats 4000000 in
set_option maxRecDepth 100000 in
theorem t_X3_quotaOf {l : Launch} {g : Gx} {b : Nat} {M : Mm} {a1 : Int} {E : Nat} (hst : l.stackTraces = false) (ha1 : rg a1) (hF : T_X3_quotaOf M a1 = some E) : Tt l yX3_quotaOf cX3_quotaOf 2 (some .int) rmTX3_quotaOf g b [.ref (adr b 0 0), .int (jI a1)] M E := by
  refine tt_of (by decide +kernel) (Nat.le_of_ble_eq_true rfl) ?_
  intro p e s m args below meth c C0 hTH hnt hR ls hl
  obtain ⟨hx, hb, hr, hlocks, hml, hown, hts, hK⟩ := id C0
  have hS : va_S (AA b s.heap.size) s.heap s.heap [] := va_S.rf
  have hl : lv_has ls 2 [(0, .ref (adr b 0 0)), (1, .int (jI a1))] := hl
  obtain ⟨H, hH⟩ : ∃ z, z = s.heap := ⟨_, rfl⟩
  obtain ⟨locs, hlo⟩ : ∃ z : List Loc, z = [] := ⟨_, rfl⟩
  have hR : Rel g b M H := by rw [hH]; exact hR
  have hS : va_S (AA b s.heap.size) s.heap H locs := by rw [hH, hlo]; exact hS
  suffices hW : W p l e rmTX3_quotaOf s m args below meth c H locs 0 0 (vx_MQ below (fun _ _ _ _ => False) (XT g b E M s.heap.size) args s 1 6 (AA b s.heap.size)) (F0 m 0 ls []) by rw [hH, hlo] at hW; exact hW
  rw [T_X3_quotaOf] at hF
  refine lv_aload_n hx hb dX3_quotaOf_0 rfl (lv_at hl 0 rfl) ?_
  rcases xt_some hF with hT | ⟨-, hF⟩
  · exact x_tV (As := []) (rest := []) hx hb hml hown hlocks hts hK hTH hnt hR hS (t_X3_needPower hst  hT) wd189 wd191 ws1 wd1 wd192 hyX3_needPower ⟨rfl, rfl⟩ ⟨Nat.le_of_ble_eq_true rfl, Nat.le_of_ble_eq_true rfl⟩ hl.1 (Nat.le_of_ble_eq_true rfl) dX3_quotaOf_1 ⟨Nat.le_of_ble_eq_true rfl, Nat.le_of_ble_eq_true rfl⟩ rfl
  obtain ⟨_, hc1, hF⟩ := xb1_some hF
  refine x_cVv (C := RX3) (T := TX3) (N := 9) (ci := 3) (As := []) (rest := []) hx hb hml hown hts hK hR hS (c_X3_needPower  hc1) ok0 rfl rfl wd189 wd191 ws1 wd1 wd192 hyX3_needPower ⟨rfl, rfl⟩ ⟨Nat.le_of_ble_eq_true rfl, Nat.le_of_ble_eq_true rfl⟩ hl.1 (Nat.le_of_ble_eq_true rfl) dX3_quotaOf_1 ⟨Nat.zero_le _, Nat.zero_le _⟩ rfl (fun H locs hR hS => ?_)
  refine lv_aload_n hx hb dX3_quotaOf_4 rfl (lv_at hl 0 rfl) ?_
  refine lv_iload_n hx hb dX3_quotaOf_5 rfl (lv_at hl 1 rfl) ?_
  refine x_iconst hx hb dX3_quotaOf_6 ?_
  refine x_iconst hx hb dX3_quotaOf_7 ?_
  rcases xt_some hF with hT | ⟨-, hF⟩
  · exact x_tV (As := [.int (jI a1), .int (jI (0 : Int)), .int (jI (3 : Int))]) (rest := []) hx hb hml hown hlocks hts hK hTH hnt hR hS (t_X3_needRange hst ha1 (by decide : rg (0 : Int)) (by decide : rg (3 : Int)) hT) wd285 wd287 ws4 wd1 wd288 hyX3_needRange ⟨rfl, rfl⟩ ⟨Nat.le_of_ble_eq_true rfl, Nat.le_of_ble_eq_true rfl⟩ hl.1 (Nat.le_of_ble_eq_true rfl) dX3_quotaOf_8 ⟨Nat.le_of_ble_eq_true rfl, Nat.le_of_ble_eq_true rfl⟩ rfl
  obtain ⟨_, hc2, hF⟩ := xb1_some hF
  refine x_cVv (C := RX3) (T := TX3) (N := 9) (ci := 3) (As := [.int (jI a1), .int (jI (0 : Int)), .int (jI (3 : Int))]) (rest := []) hx hb hml hown hts hK hR hS (c_X3_needRange ha1 (by decide : rg (0 : Int)) (by decide : rg (3 : Int)) hc2) ok0 rfl rfl wd285 wd287 ws4 wd1 wd288 hyX3_needRange ⟨rfl, rfl⟩ ⟨Nat.le_of_ble_eq_true rfl, Nat.le_of_ble_eq_true rfl⟩ hl.1 (Nat.le_of_ble_eq_true rfl) dX3_quotaOf_8 ⟨Nat.zero_le _, Nat.zero_le _⟩ rfl (fun H locs hR hS => ?_)
  refine lv_aload_n hx hb dX3_quotaOf_11 rfl (lv_at hl 0 rfl) ?_
  refine gf_3_0 hx hb hts hown hK hR wd139 dX3_quotaOf_12 ?_
  obtain ⟨ht3, hF⟩ := xk_some hF
  have hj4 : (M 0 0 0).toNat < 3 := by omega
  refine lv_iload_n hx hb dX3_quotaOf_15 rfl (lv_at hl 1 rfl) ?_
  obtain ⟨y6, hc5, hF⟩ := xb1_some hF
  refine x_cVi (C := RX2) (T := TX2) (N := 8) (ci := 2) (As := [.int (jI a1)]) (rest := []) hx hb hml hown hts hK hR hS (c_X2_limitOf hj4 ha1 hc5) (ok1 hj4) rfl rfl wd393 wd394 wd395 wd2 wd396 hyX2_limitOf ⟨rfl, rfl⟩ ⟨Nat.le_of_ble_eq_true rfl, Nat.le_of_ble_eq_true rfl⟩ hl.1 (Nat.le_of_ble_eq_true rfl) dX3_quotaOf_16 ⟨Nat.zero_le _, Nat.zero_le _⟩ rfl (fun hg7 H locs hR hS => ?_)
  cases hF
abbrev rmTX3_greatestFile : Room := { frames := 7, cells := 1, slots := 6, locals := 110 }
def T_X3_greatestFile (M : Mm) : Option Nat := (xt (T_X3_needPower M ) (xb1 (F_X3_needPower M ) fun _ => (xk (M 0 0 0 = 0 ∨ M 0 0 0 = 1) (xb1 (F_X2_greatest M ((M 0 0 0).toNat)) fun y5 => none))))
set_option maxHeartbeats 4000000 in
set_option maxRecDepth 100000 in
theorem t_X3_greatestFile {l : Launch} {g : Gx} {b : Nat} {M : Mm} {E : Nat} (hst : l.stackTraces = false) (hF : T_X3_greatestFile M  = some E) : Tt l yX3_greatestFile cX3_greatestFile 1 (some .int) rmTX3_greatestFile g b [.ref (adr b 0 0)] M E := by
  refine tt_of (by decide +kernel) (Nat.le_of_ble_eq_true rfl) ?_
  intro p e s m args below meth c C0 hTH hnt hR ls hl
  obtain ⟨hx, hb, hr, hlocks, hml, hown, hts, hK⟩ := id C0
  have hS : va_S (AA b s.heap.size) s.heap s.heap [] := va_S.rf
  have hl : lv_has ls 1 [(0, .ref (adr b 0 0))] := hl
  obtain ⟨H, hH⟩ : ∃ z, z = s.heap := ⟨_, rfl⟩
  obtain ⟨locs, hlo⟩ : ∃ z : List Loc, z = [] := ⟨_, rfl⟩
  have hR : Rel g b M H := by rw [hH]; exact hR
  have hS : va_S (AA b s.heap.size) s.heap H locs := by rw [hH, hlo]; exact hS
  suffices hW : W p l e rmTX3_greatestFile s m args below meth c H locs 0 0 (vx_MQ below (fun _ _ _ _ => False) (XT g b E M s.heap.size) args s 1 6 (AA b s.heap.size)) (F0 m 0 ls []) by rw [hH, hlo] at hW; exact hW
  rw [T_X3_greatestFile] at hF
  refine lv_aload_n hx hb dX3_greatestFile_0 rfl (lv_at hl 0 rfl) ?_
  rcases xt_some hF with hT | ⟨-, hF⟩
  · exact x_tV (As := []) (rest := []) hx hb hml hown hlocks hts hK hTH hnt hR hS (t_X3_needPower hst  hT) wd189 wd191 ws1 wd1 wd192 hyX3_needPower ⟨rfl, rfl⟩ ⟨Nat.le_of_ble_eq_true rfl, Nat.le_of_ble_eq_true rfl⟩ hl.1 (Nat.le_of_ble_eq_true rfl) dX3_greatestFile_1 ⟨Nat.le_of_ble_eq_true rfl, Nat.le_of_ble_eq_true rfl⟩ rfl
  obtain ⟨_, hc1, hF⟩ := xb1_some hF
  refine x_cVv (C := RX3) (T := TX3) (N := 9) (ci := 3) (As := []) (rest := []) hx hb hml hown hts hK hR hS (c_X3_needPower  hc1) ok0 rfl rfl wd189 wd191 ws1 wd1 wd192 hyX3_needPower ⟨rfl, rfl⟩ ⟨Nat.le_of_ble_eq_true rfl, Nat.le_of_ble_eq_true rfl⟩ hl.1 (Nat.le_of_ble_eq_true rfl) dX3_greatestFile_1 ⟨Nat.zero_le _, Nat.zero_le _⟩ rfl (fun H locs hR hS => ?_)
  refine lv_aload_n hx hb dX3_greatestFile_4 rfl (lv_at hl 0 rfl) ?_
  refine gf_3_0 hx hb hts hown hK hR wd139 dX3_greatestFile_5 ?_
  obtain ⟨ht2, hF⟩ := xk_some hF
  have hj3 : (M 0 0 0).toNat < 3 := by omega
  obtain ⟨y5, hc4, hF⟩ := xb1_some hF
  refine x_cVi (C := RX2) (T := TX2) (N := 8) (ci := 2) (As := []) (rest := []) hx hb hml hown hts hK hR hS (c_X2_greatest hj3 hc4) (ok1 hj3) rfl rfl wd1045 wd1046 wd1047 wd2 wd1048 hyX2_greatest ⟨rfl, rfl⟩ ⟨Nat.le_of_ble_eq_true rfl, Nat.le_of_ble_eq_true rfl⟩ hl.1 (Nat.le_of_ble_eq_true rfl) dX3_greatestFile_8 ⟨Nat.zero_le _, Nat.zero_le _⟩ rfl (fun hg6 H locs hR hS => ?_)
  cases hF
abbrev rmTX3_meanSize : Room := { frames := 7, cells := 1, slots := 6, locals := 110 }
def T_X3_meanSize (M : Mm) : Option Nat := (xt (T_X3_needPower M ) (xb1 (F_X3_needPower M ) fun _ => none))
set_option maxHeartbeats 4000000 in
set_option maxRecDepth 100000 in
theorem t_X3_meanSize {l : Launch} {g : Gx} {b : Nat} {M : Mm} {E : Nat} (hst : l.stackTraces = false) (hF : T_X3_meanSize M  = some E) : Tt l yX3_meanSize cX3_meanSize 4 (some .double) rmTX3_meanSize g b [.ref (adr b 0 0)] M E := by
  refine tt_of (by decide +kernel) (Nat.le_of_ble_eq_true rfl) ?_
  intro p e s m args below meth c C0 hTH hnt hR ls hl
  obtain ⟨hx, hb, hr, hlocks, hml, hown, hts, hK⟩ := id C0
  have hS : va_S (AA b s.heap.size) s.heap s.heap [] := va_S.rf
  have hl : lv_has ls 4 [(0, .ref (adr b 0 0))] := hl
  obtain ⟨H, hH⟩ : ∃ z, z = s.heap := ⟨_, rfl⟩
  obtain ⟨locs, hlo⟩ : ∃ z : List Loc, z = [] := ⟨_, rfl⟩
  have hR : Rel g b M H := by rw [hH]; exact hR
  have hS : va_S (AA b s.heap.size) s.heap H locs := by rw [hH, hlo]; exact hS
  suffices hW : W p l e rmTX3_meanSize s m args below meth c H locs 0 0 (vx_MQ below (fun _ _ _ _ => False) (XT g b E M s.heap.size) args s 1 6 (AA b s.heap.size)) (F0 m 0 ls []) by rw [hH, hlo] at hW; exact hW
  rw [T_X3_meanSize] at hF
  refine lv_aload_n hx hb dX3_meanSize_0 rfl (lv_at hl 0 rfl) ?_
  rcases xt_some hF with hT | ⟨-, hF⟩
  · exact x_tV (As := []) (rest := []) hx hb hml hown hlocks hts hK hTH hnt hR hS (t_X3_needPower hst  hT) wd189 wd191 ws1 wd1 wd192 hyX3_needPower ⟨rfl, rfl⟩ ⟨Nat.le_of_ble_eq_true rfl, Nat.le_of_ble_eq_true rfl⟩ hl.1 (Nat.le_of_ble_eq_true rfl) dX3_meanSize_1 ⟨Nat.le_of_ble_eq_true rfl, Nat.le_of_ble_eq_true rfl⟩ rfl
  obtain ⟨_, hc1, hF⟩ := xb1_some hF
  refine x_cVv (C := RX3) (T := TX3) (N := 9) (ci := 3) (As := []) (rest := []) hx hb hml hown hts hK hR hS (c_X3_needPower  hc1) ok0 rfl rfl wd189 wd191 ws1 wd1 wd192 hyX3_needPower ⟨rfl, rfl⟩ ⟨Nat.le_of_ble_eq_true rfl, Nat.le_of_ble_eq_true rfl⟩ hl.1 (Nat.le_of_ble_eq_true rfl) dX3_meanSize_1 ⟨Nat.zero_le _, Nat.zero_le _⟩ rfl (fun H locs hR hS => ?_)
  refine x_iconst hx hb dX3_meanSize_4 ?_
  refine lv_istore_n (lv' := [(1, .int (jI (0 : Int))), (0, .ref (adr b 0 0))]) hx hb dX3_meanSize_5 rfl hl (by decide) rfl (fun ls hl => ?_)
  refine x_iconst hx hb dX3_meanSize_6 ?_
  refine lv_istore_n (lv' := [(2, .int (jI (0 : Int))), (1, .int (jI (0 : Int))), (0, .ref (adr b 0 0))]) hx hb dX3_meanSize_7 rfl hl (by decide) rfl (fun ls hl => ?_)
  refine x_iconst hx hb dX3_meanSize_8 ?_
  refine lv_istore_n (lv' := [(3, .int (jI (0 : Int))), (2, .int (jI (0 : Int))), (1, .int (jI (0 : Int))), (0, .ref (adr b 0 0))]) hx hb dX3_meanSize_9 rfl hl (by decide) rfl (fun ls hl => ?_)
  cases hF
abbrev rmTX3_flaws : Room := { frames := 7, cells := 1, slots := 6, locals := 110 }
def T_X3_flaws (M : Mm) : Option Nat := (xt (T_X3_needPower M ) (xb1 (F_X3_needPower M ) fun _ => none))
set_option maxHeartbeats 4000000 in
set_option maxRecDepth 100000 in
theorem t_X3_flaws {l : Launch} {g : Gx} {b : Nat} {M : Mm} {E : Nat} (hst : l.stackTraces = false) (hF : T_X3_flaws M  = some E) : Tt l yX3_flaws cX3_flaws 1 (some .int) rmTX3_flaws g b [.ref (adr b 0 0)] M E := by
  refine tt_of (by decide +kernel) (Nat.le_of_ble_eq_true rfl) ?_
  intro p e s m args below meth c C0 hTH hnt hR ls hl
  obtain ⟨hx, hb, hr, hlocks, hml, hown, hts, hK⟩ := id C0
  have hS : va_S (AA b s.heap.size) s.heap s.heap [] := va_S.rf
  have hl : lv_has ls 1 [(0, .ref (adr b 0 0))] := hl
  obtain ⟨H, hH⟩ : ∃ z, z = s.heap := ⟨_, rfl⟩
  obtain ⟨locs, hlo⟩ : ∃ z : List Loc, z = [] := ⟨_, rfl⟩
  have hR : Rel g b M H := by rw [hH]; exact hR
  have hS : va_S (AA b s.heap.size) s.heap H locs := by rw [hH, hlo]; exact hS
  suffices hW : W p l e rmTX3_flaws s m args below meth c H locs 0 0 (vx_MQ below (fun _ _ _ _ => False) (XT g b E M s.heap.size) args s 1 6 (AA b s.heap.size)) (F0 m 0 ls []) by rw [hH, hlo] at hW; exact hW
  rw [T_X3_flaws] at hF
  refine lv_aload_n hx hb dX3_flaws_0 rfl (lv_at hl 0 rfl) ?_
  rcases xt_some hF with hT | ⟨-, hF⟩
  · exact x_tV (As := []) (rest := []) hx hb hml hown hlocks hts hK hTH hnt hR hS (t_X3_needPower hst  hT) wd189 wd191 ws1 wd1 wd192 hyX3_needPower ⟨rfl, rfl⟩ ⟨Nat.le_of_ble_eq_true rfl, Nat.le_of_ble_eq_true rfl⟩ hl.1 (Nat.le_of_ble_eq_true rfl) dX3_flaws_1 ⟨Nat.le_of_ble_eq_true rfl, Nat.le_of_ble_eq_true rfl⟩ rfl
  obtain ⟨_, hc1, hF⟩ := xb1_some hF
  refine x_cVv (C := RX3) (T := TX3) (N := 9) (ci := 3) (As := []) (rest := []) hx hb hml hown hts hK hR hS (c_X3_needPower  hc1) ok0 rfl rfl wd189 wd191 ws1 wd1 wd192 hyX3_needPower ⟨rfl, rfl⟩ ⟨Nat.le_of_ble_eq_true rfl, Nat.le_of_ble_eq_true rfl⟩ hl.1 (Nat.le_of_ble_eq_true rfl) dX3_flaws_1 ⟨Nat.zero_le _, Nat.zero_le _⟩ rfl (fun H locs hR hS => ?_)
  refine x_iconst hx hb dX3_flaws_4 ?_
  cases hF
abbrev rmTX3_digestNode : Room := { frames := 9, cells := 1, slots := 6, locals := 153 }
def T_X3_digestNode (M : Mm) (a1 : Int64) (a2 : Int) : Option Nat := (xt (T_X3_typeOf M a2) (xb1 (F_X3_typeOf M a2) fun y2 => (xt (T_X3_linksOf M a2) (xb1 (F_X3_linksOf M a2) fun y5 => (xt (T_X3_ownerOf M a2) (xb1 (F_X3_ownerOf M a2) fun y8 => (xt (T_X3_sizeOf M a2) (xb1 (F_X3_sizeOf M a2) fun y11 => (xt (T_X3_blocksOf M a2) (xb1 (F_X3_blocksOf M a2) fun y14 => (xt (T_X3_sharedOf M a2) (xb1 (F_X3_sharedOf M a2) fun y17 => (xt (T_X3_parentOf M a2) (xb1 (F_X3_parentOf M a2) fun y20 => (xt (T_X3_depthOf M a2) (xb1 (F_X3_depthOf M a2) fun y23 => (xt (T_X3_blocksUnder M a2) none)))))))))))))))))
set_option maxHeartbeats 4000000 in
set_option maxRecDepth 100000 in
theorem t_X3_digestNode {l : Launch} {g : Gx} {b : Nat} {M : Mm} {a1 : Int64} {a2 : Int} {E : Nat} (hst : l.stackTraces = false) (ha2 : rg a2) (hF : T_X3_digestNode M a1 a2 = some E) : Tt l yX3_digestNode cX3_digestNode 6 (some .long) rmTX3_digestNode g b [.ref (adr b 0 0), .long a1, .int (jI a2)] M E := by
  refine tt_of (by decide +kernel) (Nat.le_of_ble_eq_true rfl) ?_
  intro p e s m args below meth c C0 hTH hnt hR ls hl
  obtain ⟨hx, hb, hr, hlocks, hml, hown, hts, hK⟩ := id C0
  have hS : va_S (AA b s.heap.size) s.heap s.heap [] := va_S.rf
  have hl : lv_has ls 6 [(0, .ref (adr b 0 0)), (1, .long a1), (3, .int (jI a2))] := hl
  obtain ⟨H, hH⟩ : ∃ z, z = s.heap := ⟨_, rfl⟩
  obtain ⟨locs, hlo⟩ : ∃ z : List Loc, z = [] := ⟨_, rfl⟩
  have hR : Rel g b M H := by rw [hH]; exact hR
  have hS : va_S (AA b s.heap.size) s.heap H locs := by rw [hH, hlo]; exact hS
  suffices hW : W p l e rmTX3_digestNode s m args below meth c H locs 0 0 (vx_MQ below (fun _ _ _ _ => False) (XT g b E M s.heap.size) args s 1 6 (AA b s.heap.size)) (F0 m 0 ls []) by rw [hH, hlo] at hW; exact hW
  rw [T_X3_digestNode] at hF
  refine lv_lload_n hx hb dX3_digestNode_0 rfl (lv_at hl 1 rfl) ?_
  refine lv_ldc2 (v := (31 : Int64)) hx hb hown (hts _ wd1071) dX3_digestNode_1 ?_
  refine lv_lmul hx hb dX3_digestNode_4 ?_
  refine lv_iload_n hx hb dX3_digestNode_5 rfl (lv_at hl 2 rfl) ?_
  refine lv_i2l (v := ((jI a2).toInt64)) hx hb dX3_digestNode_6 rfl ?_
  refine lv_ladd hx hb dX3_digestNode_7 ?_
  refine lv_lstore (lv' := [(4, .long ((a1 * (31 : Int64)) + ((jI a2).toInt64))), (0, .ref (adr b 0 0)), (1, .long a1), (3, .int (jI a2))]) hx hb dX3_digestNode_8 hl (by decide) rfl (fun ls hl => ?_)
  refine lv_lload hx hb dX3_digestNode_10 (lv_at hl 0 rfl) ?_
  refine lv_ldc2 (v := (31 : Int64)) hx hb hown (hts _ wd1071) dX3_digestNode_12 ?_
  refine lv_lmul hx hb dX3_digestNode_15 ?_
  refine lv_aload_n hx hb dX3_digestNode_16 rfl (lv_at hl 1 rfl) ?_
  refine lv_iload_n hx hb dX3_digestNode_17 rfl (lv_at hl 3 rfl) ?_
  rcases xt_some hF with hT | ⟨-, hF⟩
  · exact x_tV (As := [.int (jI a2)]) (rest := [.long (((a1 * (31 : Int64)) + ((jI a2).toInt64)) * (31 : Int64))]) hx hb hml hown hlocks hts hK hTH hnt hR hS (t_X3_typeOf hst ha2 hT) wd1085 wd822 wd823 wd1 wd824 hyX3_typeOf ⟨rfl, rfl⟩ ⟨Nat.le_of_ble_eq_true rfl, Nat.le_of_ble_eq_true rfl⟩ hl.1 (Nat.le_of_ble_eq_true rfl) dX3_digestNode_18 ⟨Nat.le_of_ble_eq_true rfl, Nat.le_of_ble_eq_true rfl⟩ rfl
  obtain ⟨y2, hc1, hF⟩ := xb1_some hF
  refine x_cVi (C := RX3) (T := TX3) (N := 9) (ci := 3) (As := [.int (jI a2)]) (rest := [.long (((a1 * (31 : Int64)) + ((jI a2).toInt64)) * (31 : Int64))]) hx hb hml hown hts hK hR hS (c_X3_typeOf ha2 hc1) ok0 rfl rfl wd1085 wd822 wd823 wd1 wd824 hyX3_typeOf ⟨rfl, rfl⟩ ⟨Nat.le_of_ble_eq_true rfl, Nat.le_of_ble_eq_true rfl⟩ hl.1 (Nat.le_of_ble_eq_true rfl) dX3_digestNode_18 ⟨Nat.zero_le _, Nat.zero_le _⟩ rfl (fun hg3 H locs hR hS => ?_)
  refine lv_i2l (v := ((jI y2).toInt64)) hx hb dX3_digestNode_21 rfl ?_
  refine lv_ladd hx hb dX3_digestNode_22 ?_
  refine lv_lstore (lv' := [(4, .long ((((a1 * (31 : Int64)) + ((jI a2).toInt64)) * (31 : Int64)) + ((jI y2).toInt64))), (0, .ref (adr b 0 0)), (1, .long a1), (3, .int (jI a2))]) hx hb dX3_digestNode_23 hl (by decide) rfl (fun ls hl => ?_)
  refine lv_lload hx hb dX3_digestNode_25 (lv_at hl 0 rfl) ?_
  refine lv_ldc2 (v := (31 : Int64)) hx hb hown (hts _ wd1071) dX3_digestNode_27 ?_
  refine lv_lmul hx hb dX3_digestNode_30 ?_
  refine lv_aload_n hx hb dX3_digestNode_31 rfl (lv_at hl 1 rfl) ?_
  refine lv_iload_n hx hb dX3_digestNode_32 rfl (lv_at hl 3 rfl) ?_
  rcases xt_some hF with hT | ⟨-, hF⟩
  · exact x_tV (As := [.int (jI a2)]) (rest := [.long (((((a1 * (31 : Int64)) + ((jI a2).toInt64)) * (31 : Int64)) + ((jI y2).toInt64)) * (31 : Int64))]) hx hb hml hown hlocks hts hK hTH hnt hR hS (t_X3_linksOf hst ha2 hT) wd1086 wd829 wd830 wd1 wd831 hyX3_linksOf ⟨rfl, rfl⟩ ⟨Nat.le_of_ble_eq_true rfl, Nat.le_of_ble_eq_true rfl⟩ hl.1 (Nat.le_of_ble_eq_true rfl) dX3_digestNode_33 ⟨Nat.le_of_ble_eq_true rfl, Nat.le_of_ble_eq_true rfl⟩ rfl
  obtain ⟨y5, hc4, hF⟩ := xb1_some hF
  refine x_cVi (C := RX3) (T := TX3) (N := 9) (ci := 3) (As := [.int (jI a2)]) (rest := [.long (((((a1 * (31 : Int64)) + ((jI a2).toInt64)) * (31 : Int64)) + ((jI y2).toInt64)) * (31 : Int64))]) hx hb hml hown hts hK hR hS (c_X3_linksOf ha2 hc4) ok0 rfl rfl wd1086 wd829 wd830 wd1 wd831 hyX3_linksOf ⟨rfl, rfl⟩ ⟨Nat.le_of_ble_eq_true rfl, Nat.le_of_ble_eq_true rfl⟩ hl.1 (Nat.le_of_ble_eq_true rfl) dX3_digestNode_33 ⟨Nat.zero_le _, Nat.zero_le _⟩ rfl (fun hg6 H locs hR hS => ?_)
  refine lv_i2l (v := ((jI y5).toInt64)) hx hb dX3_digestNode_36 rfl ?_
  refine lv_ladd hx hb dX3_digestNode_37 ?_
  refine lv_lstore (lv' := [(4, .long ((((((a1 * (31 : Int64)) + ((jI a2).toInt64)) * (31 : Int64)) + ((jI y2).toInt64)) * (31 : Int64)) + ((jI y5).toInt64))), (0, .ref (adr b 0 0)), (1, .long a1), (3, .int (jI a2))]) hx hb dX3_digestNode_38 hl (by decide) rfl (fun ls hl => ?_)
  refine lv_lload hx hb dX3_digestNode_40 (lv_at hl 0 rfl) ?_
  refine lv_ldc2 (v := (31 : Int64)) hx hb hown (hts _ wd1071) dX3_digestNode_42 ?_
  refine lv_lmul hx hb dX3_digestNode_45 ?_
  refine lv_aload_n hx hb dX3_digestNode_46 rfl (lv_at hl 1 rfl) ?_
  refine lv_iload_n hx hb dX3_digestNode_47 rfl (lv_at hl 3 rfl) ?_
  rcases xt_some hF with hT | ⟨-, hF⟩
  · exact x_tV (As := [.int (jI a2)]) (rest := [.long (((((((a1 * (31 : Int64)) + ((jI a2).toInt64)) * (31 : Int64)) + ((jI y2).toInt64)) * (31 : Int64)) + ((jI y5).toInt64)) * (31 : Int64))]) hx hb hml hown hlocks hts hK hTH hnt hR hS (t_X3_ownerOf hst ha2 hT) wd1087 wd840 wd841 wd1 wd842 hyX3_ownerOf ⟨rfl, rfl⟩ ⟨Nat.le_of_ble_eq_true rfl, Nat.le_of_ble_eq_true rfl⟩ hl.1 (Nat.le_of_ble_eq_true rfl) dX3_digestNode_48 ⟨Nat.le_of_ble_eq_true rfl, Nat.le_of_ble_eq_true rfl⟩ rfl
  obtain ⟨y8, hc7, hF⟩ := xb1_some hF
  refine x_cVi (C := RX3) (T := TX3) (N := 9) (ci := 3) (As := [.int (jI a2)]) (rest := [.long (((((((a1 * (31 : Int64)) + ((jI a2).toInt64)) * (31 : Int64)) + ((jI y2).toInt64)) * (31 : Int64)) + ((jI y5).toInt64)) * (31 : Int64))]) hx hb hml hown hts hK hR hS (c_X3_ownerOf ha2 hc7) ok0 rfl rfl wd1087 wd840 wd841 wd1 wd842 hyX3_ownerOf ⟨rfl, rfl⟩ ⟨Nat.le_of_ble_eq_true rfl, Nat.le_of_ble_eq_true rfl⟩ hl.1 (Nat.le_of_ble_eq_true rfl) dX3_digestNode_48 ⟨Nat.zero_le _, Nat.zero_le _⟩ rfl (fun hg9 H locs hR hS => ?_)
  refine lv_i2l (v := ((jI y8).toInt64)) hx hb dX3_digestNode_51 rfl ?_
  refine lv_ladd hx hb dX3_digestNode_52 ?_
  refine lv_lstore (lv' := [(4, .long ((((((((a1 * (31 : Int64)) + ((jI a2).toInt64)) * (31 : Int64)) + ((jI y2).toInt64)) * (31 : Int64)) + ((jI y5).toInt64)) * (31 : Int64)) + ((jI y8).toInt64))), (0, .ref (adr b 0 0)), (1, .long a1), (3, .int (jI a2))]) hx hb dX3_digestNode_53 hl (by decide) rfl (fun ls hl => ?_)
  refine lv_lload hx hb dX3_digestNode_55 (lv_at hl 0 rfl) ?_
  refine lv_ldc2 (v := (31 : Int64)) hx hb hown (hts _ wd1071) dX3_digestNode_57 ?_
  refine lv_lmul hx hb dX3_digestNode_60 ?_
  refine lv_aload_n hx hb dX3_digestNode_61 rfl (lv_at hl 1 rfl) ?_
  refine lv_iload_n hx hb dX3_digestNode_62 rfl (lv_at hl 3 rfl) ?_
  rcases xt_some hF with hT | ⟨-, hF⟩
  · exact x_tV (As := [.int (jI a2)]) (rest := [.long (((((((((a1 * (31 : Int64)) + ((jI a2).toInt64)) * (31 : Int64)) + ((jI y2).toInt64)) * (31 : Int64)) + ((jI y5).toInt64)) * (31 : Int64)) + ((jI y8).toInt64)) * (31 : Int64))]) hx hb hml hown hlocks hts hK hTH hnt hR hS (t_X3_sizeOf hst ha2 hT) wd1088 wd847 wd848 wd1 wd849 hyX3_sizeOf ⟨rfl, rfl⟩ ⟨Nat.le_of_ble_eq_true rfl, Nat.le_of_ble_eq_true rfl⟩ hl.1 (Nat.le_of_ble_eq_true rfl) dX3_digestNode_63 ⟨Nat.le_of_ble_eq_true rfl, Nat.le_of_ble_eq_true rfl⟩ rfl
  obtain ⟨y11, hc10, hF⟩ := xb1_some hF
  refine x_cVi (C := RX3) (T := TX3) (N := 9) (ci := 3) (As := [.int (jI a2)]) (rest := [.long (((((((((a1 * (31 : Int64)) + ((jI a2).toInt64)) * (31 : Int64)) + ((jI y2).toInt64)) * (31 : Int64)) + ((jI y5).toInt64)) * (31 : Int64)) + ((jI y8).toInt64)) * (31 : Int64))]) hx hb hml hown hts hK hR hS (c_X3_sizeOf ha2 hc10) ok0 rfl rfl wd1088 wd847 wd848 wd1 wd849 hyX3_sizeOf ⟨rfl, rfl⟩ ⟨Nat.le_of_ble_eq_true rfl, Nat.le_of_ble_eq_true rfl⟩ hl.1 (Nat.le_of_ble_eq_true rfl) dX3_digestNode_63 ⟨Nat.zero_le _, Nat.zero_le _⟩ rfl (fun hg12 H locs hR hS => ?_)
  refine lv_i2l (v := ((jI y11).toInt64)) hx hb dX3_digestNode_66 rfl ?_
  refine lv_ladd hx hb dX3_digestNode_67 ?_
  refine lv_lstore (lv' := [(4, .long ((((((((((a1 * (31 : Int64)) + ((jI a2).toInt64)) * (31 : Int64)) + ((jI y2).toInt64)) * (31 : Int64)) + ((jI y5).toInt64)) * (31 : Int64)) + ((jI y8).toInt64)) * (31 : Int64)) + ((jI y11).toInt64))), (0, .ref (adr b 0 0)), (1, .long a1), (3, .int (jI a2))]) hx hb dX3_digestNode_68 hl (by decide) rfl (fun ls hl => ?_)
  refine lv_lload hx hb dX3_digestNode_70 (lv_at hl 0 rfl) ?_
  refine lv_ldc2 (v := (31 : Int64)) hx hb hown (hts _ wd1071) dX3_digestNode_72 ?_
  refine lv_lmul hx hb dX3_digestNode_75 ?_
  refine lv_aload_n hx hb dX3_digestNode_76 rfl (lv_at hl 1 rfl) ?_
  refine lv_iload_n hx hb dX3_digestNode_77 rfl (lv_at hl 3 rfl) ?_
  rcases xt_some hF with hT | ⟨-, hF⟩
  · exact x_tV (As := [.int (jI a2)]) (rest := [.long (((((((((((a1 * (31 : Int64)) + ((jI a2).toInt64)) * (31 : Int64)) + ((jI y2).toInt64)) * (31 : Int64)) + ((jI y5).toInt64)) * (31 : Int64)) + ((jI y8).toInt64)) * (31 : Int64)) + ((jI y11).toInt64)) * (31 : Int64))]) hx hb hml hown hlocks hts hK hTH hnt hR hS (t_X3_blocksOf hst ha2 hT) wd1089 wd858 wd859 wd1 wd860 hyX3_blocksOf ⟨rfl, rfl⟩ ⟨Nat.le_of_ble_eq_true rfl, Nat.le_of_ble_eq_true rfl⟩ hl.1 (Nat.le_of_ble_eq_true rfl) dX3_digestNode_78 ⟨Nat.le_of_ble_eq_true rfl, Nat.le_of_ble_eq_true rfl⟩ rfl
  obtain ⟨y14, hc13, hF⟩ := xb1_some hF
  refine x_cVi (C := RX3) (T := TX3) (N := 9) (ci := 3) (As := [.int (jI a2)]) (rest := [.long (((((((((((a1 * (31 : Int64)) + ((jI a2).toInt64)) * (31 : Int64)) + ((jI y2).toInt64)) * (31 : Int64)) + ((jI y5).toInt64)) * (31 : Int64)) + ((jI y8).toInt64)) * (31 : Int64)) + ((jI y11).toInt64)) * (31 : Int64))]) hx hb hml hown hts hK hR hS (c_X3_blocksOf ha2 hc13) ok0 rfl rfl wd1089 wd858 wd859 wd1 wd860 hyX3_blocksOf ⟨rfl, rfl⟩ ⟨Nat.le_of_ble_eq_true rfl, Nat.le_of_ble_eq_true rfl⟩ hl.1 (Nat.le_of_ble_eq_true rfl) dX3_digestNode_78 ⟨Nat.zero_le _, Nat.zero_le _⟩ rfl (fun hg15 H locs hR hS => ?_)
  refine lv_i2l (v := ((jI y14).toInt64)) hx hb dX3_digestNode_81 rfl ?_
  refine lv_ladd hx hb dX3_digestNode_82 ?_
  refine lv_lstore (lv' := [(4, .long ((((((((((((a1 * (31 : Int64)) + ((jI a2).toInt64)) * (31 : Int64)) + ((jI y2).toInt64)) * (31 : Int64)) + ((jI y5).toInt64)) * (31 : Int64)) + ((jI y8).toInt64)) * (31 : Int64)) + ((jI y11).toInt64)) * (31 : Int64)) + ((jI y14).toInt64))), (0, .ref (adr b 0 0)), (1, .long a1), (3, .int (jI a2))]) hx hb dX3_digestNode_83 hl (by decide) rfl (fun ls hl => ?_)
  refine lv_lload hx hb dX3_digestNode_85 (lv_at hl 0 rfl) ?_
  refine lv_ldc2 (v := (31 : Int64)) hx hb hown (hts _ wd1071) dX3_digestNode_87 ?_
  refine lv_lmul hx hb dX3_digestNode_90 ?_
  refine lv_aload_n hx hb dX3_digestNode_91 rfl (lv_at hl 1 rfl) ?_
  refine lv_iload_n hx hb dX3_digestNode_92 rfl (lv_at hl 3 rfl) ?_
  rcases xt_some hF with hT | ⟨-, hF⟩
  · exact x_tV (As := [.int (jI a2)]) (rest := [.long (((((((((((((a1 * (31 : Int64)) + ((jI a2).toInt64)) * (31 : Int64)) + ((jI y2).toInt64)) * (31 : Int64)) + ((jI y5).toInt64)) * (31 : Int64)) + ((jI y8).toInt64)) * (31 : Int64)) + ((jI y11).toInt64)) * (31 : Int64)) + ((jI y14).toInt64)) * (31 : Int64))]) hx hb hml hown hlocks hts hK hTH hnt hR hS (t_X3_sharedOf hst ha2 hT) wd1090 wd866 wd867 wd1 wd868 hyX3_sharedOf ⟨rfl, rfl⟩ ⟨Nat.le_of_ble_eq_true rfl, Nat.le_of_ble_eq_true rfl⟩ hl.1 (Nat.le_of_ble_eq_true rfl) dX3_digestNode_93 ⟨Nat.le_of_ble_eq_true rfl, Nat.le_of_ble_eq_true rfl⟩ rfl
  obtain ⟨y17, hc16, hF⟩ := xb1_some hF
  refine x_cVi (C := RX3) (T := TX3) (N := 9) (ci := 3) (As := [.int (jI a2)]) (rest := [.long (((((((((((((a1 * (31 : Int64)) + ((jI a2).toInt64)) * (31 : Int64)) + ((jI y2).toInt64)) * (31 : Int64)) + ((jI y5).toInt64)) * (31 : Int64)) + ((jI y8).toInt64)) * (31 : Int64)) + ((jI y11).toInt64)) * (31 : Int64)) + ((jI y14).toInt64)) * (31 : Int64))]) hx hb hml hown hts hK hR hS (c_X3_sharedOf ha2 hc16) ok0 rfl rfl wd1090 wd866 wd867 wd1 wd868 hyX3_sharedOf ⟨rfl, rfl⟩ ⟨Nat.le_of_ble_eq_true rfl, Nat.le_of_ble_eq_true rfl⟩ hl.1 (Nat.le_of_ble_eq_true rfl) dX3_digestNode_93 ⟨Nat.zero_le _, Nat.zero_le _⟩ rfl (fun hg18 H locs hR hS => ?_)
  refine lv_i2l (v := ((jI y17).toInt64)) hx hb dX3_digestNode_96 rfl ?_
  refine lv_ladd hx hb dX3_digestNode_97 ?_
  refine lv_lstore (lv' := [(4, .long ((((((((((((((a1 * (31 : Int64)) + ((jI a2).toInt64)) * (31 : Int64)) + ((jI y2).toInt64)) * (31 : Int64)) + ((jI y5).toInt64)) * (31 : Int64)) + ((jI y8).toInt64)) * (31 : Int64)) + ((jI y11).toInt64)) * (31 : Int64)) + ((jI y14).toInt64)) * (31 : Int64)) + ((jI y17).toInt64))), (0, .ref (adr b 0 0)), (1, .long a1), (3, .int (jI a2))]) hx hb dX3_digestNode_98 hl (by decide) rfl (fun ls hl => ?_)
  refine lv_lload hx hb dX3_digestNode_100 (lv_at hl 0 rfl) ?_
  refine lv_ldc2 (v := (31 : Int64)) hx hb hown (hts _ wd1071) dX3_digestNode_102 ?_
  refine lv_lmul hx hb dX3_digestNode_105 ?_
  refine lv_aload_n hx hb dX3_digestNode_106 rfl (lv_at hl 1 rfl) ?_
  refine lv_iload_n hx hb dX3_digestNode_107 rfl (lv_at hl 3 rfl) ?_
  rcases xt_some hF with hT | ⟨-, hF⟩
  · exact x_tV (As := [.int (jI a2)]) (rest := [.long (((((((((((((((a1 * (31 : Int64)) + ((jI a2).toInt64)) * (31 : Int64)) + ((jI y2).toInt64)) * (31 : Int64)) + ((jI y5).toInt64)) * (31 : Int64)) + ((jI y8).toInt64)) * (31 : Int64)) + ((jI y11).toInt64)) * (31 : Int64)) + ((jI y14).toInt64)) * (31 : Int64)) + ((jI y17).toInt64)) * (31 : Int64))]) hx hb hml hown hlocks hts hK hTH hnt hR hS (t_X3_parentOf hst ha2 hT) wd1091 wd956 wd957 wd1 wd958 hyX3_parentOf ⟨rfl, rfl⟩ ⟨Nat.le_of_ble_eq_true rfl, Nat.le_of_ble_eq_true rfl⟩ hl.1 (Nat.le_of_ble_eq_true rfl) dX3_digestNode_108 ⟨Nat.le_of_ble_eq_true rfl, Nat.le_of_ble_eq_true rfl⟩ rfl
  obtain ⟨y20, hc19, hF⟩ := xb1_some hF
  refine x_cVi (C := RX3) (T := TX3) (N := 9) (ci := 3) (As := [.int (jI a2)]) (rest := [.long (((((((((((((((a1 * (31 : Int64)) + ((jI a2).toInt64)) * (31 : Int64)) + ((jI y2).toInt64)) * (31 : Int64)) + ((jI y5).toInt64)) * (31 : Int64)) + ((jI y8).toInt64)) * (31 : Int64)) + ((jI y11).toInt64)) * (31 : Int64)) + ((jI y14).toInt64)) * (31 : Int64)) + ((jI y17).toInt64)) * (31 : Int64))]) hx hb hml hown hts hK hR hS (c_X3_parentOf ha2 hc19) ok0 rfl rfl wd1091 wd956 wd957 wd1 wd958 hyX3_parentOf ⟨rfl, rfl⟩ ⟨Nat.le_of_ble_eq_true rfl, Nat.le_of_ble_eq_true rfl⟩ hl.1 (Nat.le_of_ble_eq_true rfl) dX3_digestNode_108 ⟨Nat.zero_le _, Nat.zero_le _⟩ rfl (fun hg21 H locs hR hS => ?_)
  refine lv_i2l (v := ((jI y20).toInt64)) hx hb dX3_digestNode_111 rfl ?_
  refine lv_ladd hx hb dX3_digestNode_112 ?_
  refine lv_lstore (lv' := [(4, .long ((((((((((((((((a1 * (31 : Int64)) + ((jI a2).toInt64)) * (31 : Int64)) + ((jI y2).toInt64)) * (31 : Int64)) + ((jI y5).toInt64)) * (31 : Int64)) + ((jI y8).toInt64)) * (31 : Int64)) + ((jI y11).toInt64)) * (31 : Int64)) + ((jI y14).toInt64)) * (31 : Int64)) + ((jI y17).toInt64)) * (31 : Int64)) + ((jI y20).toInt64))), (0, .ref (adr b 0 0)), (1, .long a1), (3, .int (jI a2))]) hx hb dX3_digestNode_113 hl (by decide) rfl (fun ls hl => ?_)
  refine lv_lload hx hb dX3_digestNode_115 (lv_at hl 0 rfl) ?_
  refine lv_ldc2 (v := (31 : Int64)) hx hb hown (hts _ wd1071) dX3_digestNode_117 ?_
  refine lv_lmul hx hb dX3_digestNode_120 ?_
  refine lv_aload_n hx hb dX3_digestNode_121 rfl (lv_at hl 1 rfl) ?_
  refine lv_iload_n hx hb dX3_digestNode_122 rfl (lv_at hl 3 rfl) ?_
  rcases xt_some hF with hT | ⟨-, hF⟩
  · exact x_tV (As := [.int (jI a2)]) (rest := [.long (((((((((((((((((a1 * (31 : Int64)) + ((jI a2).toInt64)) * (31 : Int64)) + ((jI y2).toInt64)) * (31 : Int64)) + ((jI y5).toInt64)) * (31 : Int64)) + ((jI y8).toInt64)) * (31 : Int64)) + ((jI y11).toInt64)) * (31 : Int64)) + ((jI y14).toInt64)) * (31 : Int64)) + ((jI y17).toInt64)) * (31 : Int64)) + ((jI y20).toInt64)) * (31 : Int64))]) hx hb hml hown hlocks hts hK hTH hnt hR hS (t_X3_depthOf hst ha2 hT) wd1092 wd963 wd964 wd1 wd965 hyX3_depthOf ⟨rfl, rfl⟩ ⟨Nat.le_of_ble_eq_true rfl, Nat.le_of_ble_eq_true rfl⟩ hl.1 (Nat.le_of_ble_eq_true rfl) dX3_digestNode_123 ⟨Nat.le_of_ble_eq_true rfl, Nat.le_of_ble_eq_true rfl⟩ rfl
  obtain ⟨y23, hc22, hF⟩ := xb1_some hF
  refine x_cVi (C := RX3) (T := TX3) (N := 9) (ci := 3) (As := [.int (jI a2)]) (rest := [.long (((((((((((((((((a1 * (31 : Int64)) + ((jI a2).toInt64)) * (31 : Int64)) + ((jI y2).toInt64)) * (31 : Int64)) + ((jI y5).toInt64)) * (31 : Int64)) + ((jI y8).toInt64)) * (31 : Int64)) + ((jI y11).toInt64)) * (31 : Int64)) + ((jI y14).toInt64)) * (31 : Int64)) + ((jI y17).toInt64)) * (31 : Int64)) + ((jI y20).toInt64)) * (31 : Int64))]) hx hb hml hown hts hK hR hS (c_X3_depthOf ha2 hc22) ok0 rfl rfl wd1092 wd963 wd964 wd1 wd965 hyX3_depthOf ⟨rfl, rfl⟩ ⟨Nat.le_of_ble_eq_true rfl, Nat.le_of_ble_eq_true rfl⟩ hl.1 (Nat.le_of_ble_eq_true rfl) dX3_digestNode_123 ⟨Nat.zero_le _, Nat.zero_le _⟩ rfl (fun hg24 H locs hR hS => ?_)
  refine lv_i2l (v := ((jI y23).toInt64)) hx hb dX3_digestNode_126 rfl ?_
  refine lv_ladd hx hb dX3_digestNode_127 ?_
  refine lv_lstore (lv' := [(4, .long ((((((((((((((((((a1 * (31 : Int64)) + ((jI a2).toInt64)) * (31 : Int64)) + ((jI y2).toInt64)) * (31 : Int64)) + ((jI y5).toInt64)) * (31 : Int64)) + ((jI y8).toInt64)) * (31 : Int64)) + ((jI y11).toInt64)) * (31 : Int64)) + ((jI y14).toInt64)) * (31 : Int64)) + ((jI y17).toInt64)) * (31 : Int64)) + ((jI y20).toInt64)) * (31 : Int64)) + ((jI y23).toInt64))), (0, .ref (adr b 0 0)), (1, .long a1), (3, .int (jI a2))]) hx hb dX3_digestNode_128 hl (by decide) rfl (fun ls hl => ?_)
  refine lv_lload hx hb dX3_digestNode_130 (lv_at hl 0 rfl) ?_
  refine lv_ldc2 (v := (31 : Int64)) hx hb hown (hts _ wd1071) dX3_digestNode_132 ?_
  refine lv_lmul hx hb dX3_digestNode_135 ?_
  refine lv_aload_n hx hb dX3_digestNode_136 rfl (lv_at hl 1 rfl) ?_
  refine lv_iload_n hx hb dX3_digestNode_137 rfl (lv_at hl 3 rfl) ?_
  rcases xt_some hF with hT | ⟨-, hF⟩
  · exact x_tV (As := [.int (jI a2)]) (rest := [.long (((((((((((((((((((a1 * (31 : Int64)) + ((jI a2).toInt64)) * (31 : Int64)) + ((jI y2).toInt64)) * (31 : Int64)) + ((jI y5).toInt64)) * (31 : Int64)) + ((jI y8).toInt64)) * (31 : Int64)) + ((jI y11).toInt64)) * (31 : Int64)) + ((jI y14).toInt64)) * (31 : Int64)) + ((jI y17).toInt64)) * (31 : Int64)) + ((jI y20).toInt64)) * (31 : Int64)) + ((jI y23).toInt64)) * (31 : Int64))]) hx hb hml hown hlocks hts hK hTH hnt hR hS (t_X3_blocksUnder hst ha2 hT) wd1093 wd981 wd982 wd1 wd983 hyX3_blocksUnder ⟨rfl, rfl⟩ ⟨Nat.le_of_ble_eq_true rfl, Nat.le_of_ble_eq_true rfl⟩ hl.1 (Nat.le_of_ble_eq_true rfl) dX3_digestNode_138 ⟨Nat.le_of_ble_eq_true rfl, Nat.le_of_ble_eq_true rfl⟩ rfl
  cases hF
abbrev rmTX3_digestHandle : Room := { frames := 8, cells := 1, slots := 6, locals := 132 }
def T_X3_digestHandle (M : Mm) (a1 : Int64) (a2 : Int) : Option Nat := (xt (T_X3_nodeOf M a2) (xb1 (F_X3_nodeOf M a2) fun y2 => (xt (T_X3_positionOf M a2) (xb1 (F_X3_positionOf M a2) fun y5 => (xt (T_X3_lockRows M a2) (xb1 (F_X3_lockRows M a2) fun y8 => none))))))
set_option maxHeartbeats 4000000 in
set_option maxRecDepth 100000 in
theorem t_X3_digestHandle {l : Launch} {g : Gx} {b : Nat} {M : Mm} {a1 : Int64} {a2 : Int} {E : Nat} (hst : l.stackTraces = false) (ha2 : rg a2) (hF : T_X3_digestHandle M a1 a2 = some E) : Tt l yX3_digestHandle cX3_digestHandle 6 (some .long) rmTX3_digestHandle g b [.ref (adr b 0 0), .long a1, .int (jI a2)] M E := by
  refine tt_of (by decide +kernel) (Nat.le_of_ble_eq_true rfl) ?_
  intro p e s m args below meth c C0 hTH hnt hR ls hl
  obtain ⟨hx, hb, hr, hlocks, hml, hown, hts, hK⟩ := id C0
  have hS : va_S (AA b s.heap.size) s.heap s.heap [] := va_S.rf
  have hl : lv_has ls 6 [(0, .ref (adr b 0 0)), (1, .long a1), (3, .int (jI a2))] := hl
  obtain ⟨H, hH⟩ : ∃ z, z = s.heap := ⟨_, rfl⟩
  obtain ⟨locs, hlo⟩ : ∃ z : List Loc, z = [] := ⟨_, rfl⟩
  have hR : Rel g b M H := by rw [hH]; exact hR
  have hS : va_S (AA b s.heap.size) s.heap H locs := by rw [hH, hlo]; exact hS
  suffices hW : W p l e rmTX3_digestHandle s m args below meth c H locs 0 0 (vx_MQ below (fun _ _ _ _ => False) (XT g b E M s.heap.size) args s 1 6 (AA b s.heap.size)) (F0 m 0 ls []) by rw [hH, hlo] at hW; exact hW
  rw [T_X3_digestHandle] at hF
  refine lv_lload_n hx hb dX3_digestHandle_0 rfl (lv_at hl 1 rfl) ?_
  refine lv_ldc2 (v := (31 : Int64)) hx hb hown (hts _ wd1071) dX3_digestHandle_1 ?_
  refine lv_lmul hx hb dX3_digestHandle_4 ?_
  refine lv_iload_n hx hb dX3_digestHandle_5 rfl (lv_at hl 2 rfl) ?_
  refine lv_i2l (v := ((jI a2).toInt64)) hx hb dX3_digestHandle_6 rfl ?_
  refine lv_ladd hx hb dX3_digestHandle_7 ?_
  refine lv_lstore (lv' := [(4, .long ((a1 * (31 : Int64)) + ((jI a2).toInt64))), (0, .ref (adr b 0 0)), (1, .long a1), (3, .int (jI a2))]) hx hb dX3_digestHandle_8 hl (by decide) rfl (fun ls hl => ?_)
  refine lv_lload hx hb dX3_digestHandle_10 (lv_at hl 0 rfl) ?_
  refine lv_ldc2 (v := (31 : Int64)) hx hb hown (hts _ wd1071) dX3_digestHandle_12 ?_
  refine lv_lmul hx hb dX3_digestHandle_15 ?_
  refine lv_aload_n hx hb dX3_digestHandle_16 rfl (lv_at hl 1 rfl) ?_
  refine lv_iload_n hx hb dX3_digestHandle_17 rfl (lv_at hl 3 rfl) ?_
  rcases xt_some hF with hT | ⟨-, hF⟩
  · exact x_tV (As := [.int (jI a2)]) (rest := [.long (((a1 * (31 : Int64)) + ((jI a2).toInt64)) * (31 : Int64))]) hx hb hml hown hlocks hts hK hTH hnt hR hS (t_X3_nodeOf hst ha2 hT) wd1103 wd731 wd732 wd1 wd733 hyX3_nodeOf ⟨rfl, rfl⟩ ⟨Nat.le_of_ble_eq_true rfl, Nat.le_of_ble_eq_true rfl⟩ hl.1 (Nat.le_of_ble_eq_true rfl) dX3_digestHandle_18 ⟨Nat.le_of_ble_eq_true rfl, Nat.le_of_ble_eq_true rfl⟩ rfl
  obtain ⟨y2, hc1, hF⟩ := xb1_some hF
  refine x_cVi (C := RX3) (T := TX3) (N := 9) (ci := 3) (As := [.int (jI a2)]) (rest := [.long (((a1 * (31 : Int64)) + ((jI a2).toInt64)) * (31 : Int64))]) hx hb hml hown hts hK hR hS (c_X3_nodeOf ha2 hc1) ok0 rfl rfl wd1103 wd731 wd732 wd1 wd733 hyX3_nodeOf ⟨rfl, rfl⟩ ⟨Nat.le_of_ble_eq_true rfl, Nat.le_of_ble_eq_true rfl⟩ hl.1 (Nat.le_of_ble_eq_true rfl) dX3_digestHandle_18 ⟨Nat.zero_le _, Nat.zero_le _⟩ rfl (fun hg3 H locs hR hS => ?_)
  refine lv_i2l (v := ((jI y2).toInt64)) hx hb dX3_digestHandle_21 rfl ?_
  refine lv_ladd hx hb dX3_digestHandle_22 ?_
  refine lv_lstore (lv' := [(4, .long ((((a1 * (31 : Int64)) + ((jI a2).toInt64)) * (31 : Int64)) + ((jI y2).toInt64))), (0, .ref (adr b 0 0)), (1, .long a1), (3, .int (jI a2))]) hx hb dX3_digestHandle_23 hl (by decide) rfl (fun ls hl => ?_)
  refine lv_lload hx hb dX3_digestHandle_25 (lv_at hl 0 rfl) ?_
  refine lv_ldc2 (v := (31 : Int64)) hx hb hown (hts _ wd1071) dX3_digestHandle_27 ?_
  refine lv_lmul hx hb dX3_digestHandle_30 ?_
  refine lv_aload_n hx hb dX3_digestHandle_31 rfl (lv_at hl 1 rfl) ?_
  refine lv_iload_n hx hb dX3_digestHandle_32 rfl (lv_at hl 3 rfl) ?_
  rcases xt_some hF with hT | ⟨-, hF⟩
  · exact x_tV (As := [.int (jI a2)]) (rest := [.long (((((a1 * (31 : Int64)) + ((jI a2).toInt64)) * (31 : Int64)) + ((jI y2).toInt64)) * (31 : Int64))]) hx hb hml hown hlocks hts hK hTH hnt hR hS (t_X3_positionOf hst ha2 hT) wd1104 wd738 wd739 wd1 wd740 hyX3_positionOf ⟨rfl, rfl⟩ ⟨Nat.le_of_ble_eq_true rfl, Nat.le_of_ble_eq_true rfl⟩ hl.1 (Nat.le_of_ble_eq_true rfl) dX3_digestHandle_33 ⟨Nat.le_of_ble_eq_true rfl, Nat.le_of_ble_eq_true rfl⟩ rfl
  obtain ⟨y5, hc4, hF⟩ := xb1_some hF
  refine x_cVi (C := RX3) (T := TX3) (N := 9) (ci := 3) (As := [.int (jI a2)]) (rest := [.long (((((a1 * (31 : Int64)) + ((jI a2).toInt64)) * (31 : Int64)) + ((jI y2).toInt64)) * (31 : Int64))]) hx hb hml hown hts hK hR hS (c_X3_positionOf ha2 hc4) ok0 rfl rfl wd1104 wd738 wd739 wd1 wd740 hyX3_positionOf ⟨rfl, rfl⟩ ⟨Nat.le_of_ble_eq_true rfl, Nat.le_of_ble_eq_true rfl⟩ hl.1 (Nat.le_of_ble_eq_true rfl) dX3_digestHandle_33 ⟨Nat.zero_le _, Nat.zero_le _⟩ rfl (fun hg6 H locs hR hS => ?_)
  refine lv_i2l (v := ((jI y5).toInt64)) hx hb dX3_digestHandle_36 rfl ?_
  refine lv_ladd hx hb dX3_digestHandle_37 ?_
  refine lv_lstore (lv' := [(4, .long ((((((a1 * (31 : Int64)) + ((jI a2).toInt64)) * (31 : Int64)) + ((jI y2).toInt64)) * (31 : Int64)) + ((jI y5).toInt64))), (0, .ref (adr b 0 0)), (1, .long a1), (3, .int (jI a2))]) hx hb dX3_digestHandle_38 hl (by decide) rfl (fun ls hl => ?_)
  refine lv_lload hx hb dX3_digestHandle_40 (lv_at hl 0 rfl) ?_
  refine lv_ldc2 (v := (31 : Int64)) hx hb hown (hts _ wd1071) dX3_digestHandle_42 ?_
  refine lv_lmul hx hb dX3_digestHandle_45 ?_
  refine lv_aload_n hx hb dX3_digestHandle_46 rfl (lv_at hl 1 rfl) ?_
  refine lv_iload_n hx hb dX3_digestHandle_47 rfl (lv_at hl 3 rfl) ?_
  rcases xt_some hF with hT | ⟨-, hF⟩
  · exact x_tV (As := [.int (jI a2)]) (rest := [.long (((((((a1 * (31 : Int64)) + ((jI a2).toInt64)) * (31 : Int64)) + ((jI y2).toInt64)) * (31 : Int64)) + ((jI y5).toInt64)) * (31 : Int64))]) hx hb hml hown hlocks hts hK hTH hnt hR hS (t_X3_lockRows hst ha2 hT) wd1105 wd712 wd713 wd1 wd714 hyX3_lockRows ⟨rfl, rfl⟩ ⟨Nat.le_of_ble_eq_true rfl, Nat.le_of_ble_eq_true rfl⟩ hl.1 (Nat.le_of_ble_eq_true rfl) dX3_digestHandle_48 ⟨Nat.le_of_ble_eq_true rfl, Nat.le_of_ble_eq_true rfl⟩ rfl
  obtain ⟨y8, hc7, hF⟩ := xb1_some hF
  refine x_cVi (C := RX3) (T := TX3) (N := 9) (ci := 3) (As := [.int (jI a2)]) (rest := [.long (((((((a1 * (31 : Int64)) + ((jI a2).toInt64)) * (31 : Int64)) + ((jI y2).toInt64)) * (31 : Int64)) + ((jI y5).toInt64)) * (31 : Int64))]) hx hb hml hown hts hK hR hS (c_X3_lockRows ha2 hc7) ok0 rfl rfl wd1105 wd712 wd713 wd1 wd714 hyX3_lockRows ⟨rfl, rfl⟩ ⟨Nat.le_of_ble_eq_true rfl, Nat.le_of_ble_eq_true rfl⟩ hl.1 (Nat.le_of_ble_eq_true rfl) dX3_digestHandle_48 ⟨Nat.zero_le _, Nat.zero_le _⟩ rfl (fun hg9 H locs hR hS => ?_)
  refine lv_i2l (v := ((jI y8).toInt64)) hx hb dX3_digestHandle_51 rfl ?_
  refine lv_ladd hx hb dX3_digestHandle_52 ?_
  cases hF
abbrev rmTX3_digest : Room := { frames := 10, cells := 1, slots := 6, locals := 178 }
def T_X3_digest (M : Mm) : Option Nat := (xt (T_X3_needPower M ) (xb1 (F_X3_needPower M ) fun _ => (xt (T_X3_nodes M ) (xb1 (F_X3_nodes M ) fun y3 => (xt (T_X3_changes M ) (xb1 (F_X3_changes M ) fun y6 => (xt (T_X3_waiting M ) (xb1 (F_X3_waiting M ) fun y9 => (xt (T_X3_handles M ) (xb1 (F_X3_handles M ) fun y12 => (xb1 (F_X3_mounts M ) fun y15 => (xt (T_X3_used M ) (xb1 (F_X3_used M ) fun y18 => none)))))))))))))
set_option maxHeartbeats 4000000 in
set_option maxRecDepth 100000 in
theorem t_X3_digest {l : Launch} {g : Gx} {b : Nat} {M : Mm} {E : Nat} (hst : l.stackTraces = false) (hF : T_X3_digest M  = some E) : Tt l yX3_digest cX3_digest 4 (some .long) rmTX3_digest g b [.ref (adr b 0 0)] M E := by
  refine tt_of (by decide +kernel) (Nat.le_of_ble_eq_true rfl) ?_
  intro p e s m args below meth c C0 hTH hnt hR ls hl
  obtain ⟨hx, hb, hr, hlocks, hml, hown, hts, hK⟩ := id C0
  have hS : va_S (AA b s.heap.size) s.heap s.heap [] := va_S.rf
  have hl : lv_has ls 4 [(0, .ref (adr b 0 0))] := hl
  obtain ⟨H, hH⟩ : ∃ z, z = s.heap := ⟨_, rfl⟩
  obtain ⟨locs, hlo⟩ : ∃ z : List Loc, z = [] := ⟨_, rfl⟩
  have hR : Rel g b M H := by rw [hH]; exact hR
  have hS : va_S (AA b s.heap.size) s.heap H locs := by rw [hH, hlo]; exact hS
  suffices hW : W p l e rmTX3_digest s m args below meth c H locs 0 0 (vx_MQ below (fun _ _ _ _ => False) (XT g b E M s.heap.size) args s 1 6 (AA b s.heap.size)) (F0 m 0 ls []) by rw [hH, hlo] at hW; exact hW
  rw [T_X3_digest] at hF
  refine lv_aload_n hx hb dX3_digest_0 rfl (lv_at hl 0 rfl) ?_
  rcases xt_some hF with hT | ⟨-, hF⟩
  · exact x_tV (As := []) (rest := []) hx hb hml hown hlocks hts hK hTH hnt hR hS (t_X3_needPower hst  hT) wd189 wd191 ws1 wd1 wd192 hyX3_needPower ⟨rfl, rfl⟩ ⟨Nat.le_of_ble_eq_true rfl, Nat.le_of_ble_eq_true rfl⟩ hl.1 (Nat.le_of_ble_eq_true rfl) dX3_digest_1 ⟨Nat.le_of_ble_eq_true rfl, Nat.le_of_ble_eq_true rfl⟩ rfl
  obtain ⟨_, hc1, hF⟩ := xb1_some hF
  refine x_cVv (C := RX3) (T := TX3) (N := 9) (ci := 3) (As := []) (rest := []) hx hb hml hown hts hK hR hS (c_X3_needPower  hc1) ok0 rfl rfl wd189 wd191 ws1 wd1 wd192 hyX3_needPower ⟨rfl, rfl⟩ ⟨Nat.le_of_ble_eq_true rfl, Nat.le_of_ble_eq_true rfl⟩ hl.1 (Nat.le_of_ble_eq_true rfl) dX3_digest_1 ⟨Nat.zero_le _, Nat.zero_le _⟩ rfl (fun H locs hR hS => ?_)
  refine lv_ldc2 (v := (58004 : Int64)) hx hb hown (hts _ wd1070) dX3_digest_4 ?_
  refine lv_lstore_n (lv' := [(1, .long (58004 : Int64)), (0, .ref (adr b 0 0))]) hx hb dX3_digest_7 rfl hl (by decide) rfl (fun ls hl => ?_)
  refine lv_lload_n hx hb dX3_digest_8 rfl (lv_at hl 0 rfl) ?_
  refine lv_ldc2 (v := (31 : Int64)) hx hb hown (hts _ wd1071) dX3_digest_9 ?_
  refine lv_lmul hx hb dX3_digest_12 ?_
  refine lv_aload_n hx hb dX3_digest_13 rfl (lv_at hl 1 rfl) ?_
  rcases xt_some hF with hT | ⟨-, hF⟩
  · exact x_tV (As := []) (rest := [.long ((58004 : Int64) * (31 : Int64))]) hx hb hml hown hlocks hts hK hTH hnt hR hS (t_X3_nodes hst  hT) wd1072 wd815 wd816 wd1 wd817 hyX3_nodes ⟨rfl, rfl⟩ ⟨Nat.le_of_ble_eq_true rfl, Nat.le_of_ble_eq_true rfl⟩ hl.1 (Nat.le_of_ble_eq_true rfl) dX3_digest_14 ⟨Nat.le_of_ble_eq_true rfl, Nat.le_of_ble_eq_true rfl⟩ rfl
  obtain ⟨y3, hc2, hF⟩ := xb1_some hF
  refine x_cVi (C := RX3) (T := TX3) (N := 9) (ci := 3) (As := []) (rest := [.long ((58004 : Int64) * (31 : Int64))]) hx hb hml hown hts hK hR hS (c_X3_nodes  hc2) ok0 rfl rfl wd1072 wd815 wd816 wd1 wd817 hyX3_nodes ⟨rfl, rfl⟩ ⟨Nat.le_of_ble_eq_true rfl, Nat.le_of_ble_eq_true rfl⟩ hl.1 (Nat.le_of_ble_eq_true rfl) dX3_digest_14 ⟨Nat.zero_le _, Nat.zero_le _⟩ rfl (fun hg4 H locs hR hS => ?_)
  refine lv_i2l (v := ((jI y3).toInt64)) hx hb dX3_digest_17 rfl ?_
  refine lv_ladd hx hb dX3_digest_18 ?_
  refine lv_lstore_n (lv' := [(1, .long (((58004 : Int64) * (31 : Int64)) + ((jI y3).toInt64))), (0, .ref (adr b 0 0))]) hx hb dX3_digest_19 rfl hl (by decide) rfl (fun ls hl => ?_)
  refine lv_lload_n hx hb dX3_digest_20 rfl (lv_at hl 0 rfl) ?_
  refine lv_ldc2 (v := (31 : Int64)) hx hb hown (hts _ wd1071) dX3_digest_21 ?_
  refine lv_lmul hx hb dX3_digest_24 ?_
  refine lv_aload_n hx hb dX3_digest_25 rfl (lv_at hl 1 rfl) ?_
  rcases xt_some hF with hT | ⟨-, hF⟩
  · exact x_tV (As := []) (rest := [.long ((((58004 : Int64) * (31 : Int64)) + ((jI y3).toInt64)) * (31 : Int64))]) hx hb hml hown hlocks hts hK hTH hnt hR hS (t_X3_changes hst  hT) wd1073 wd808 wd809 wd1 wd810 hyX3_changes ⟨rfl, rfl⟩ ⟨Nat.le_of_ble_eq_true rfl, Nat.le_of_ble_eq_true rfl⟩ hl.1 (Nat.le_of_ble_eq_true rfl) dX3_digest_26 ⟨Nat.le_of_ble_eq_true rfl, Nat.le_of_ble_eq_true rfl⟩ rfl
  obtain ⟨y6, hc5, hF⟩ := xb1_some hF
  refine x_cVi (C := RX3) (T := TX3) (N := 9) (ci := 3) (As := []) (rest := [.long ((((58004 : Int64) * (31 : Int64)) + ((jI y3).toInt64)) * (31 : Int64))]) hx hb hml hown hts hK hR hS (c_X3_changes  hc5) ok0 rfl rfl wd1073 wd808 wd809 wd1 wd810 hyX3_changes ⟨rfl, rfl⟩ ⟨Nat.le_of_ble_eq_true rfl, Nat.le_of_ble_eq_true rfl⟩ hl.1 (Nat.le_of_ble_eq_true rfl) dX3_digest_26 ⟨Nat.zero_le _, Nat.zero_le _⟩ rfl (fun hg7 H locs hR hS => ?_)
  refine lv_i2l (v := ((jI y6).toInt64)) hx hb dX3_digest_29 rfl ?_
  refine lv_ladd hx hb dX3_digest_30 ?_
  refine lv_lstore_n (lv' := [(1, .long (((((58004 : Int64) * (31 : Int64)) + ((jI y3).toInt64)) * (31 : Int64)) + ((jI y6).toInt64))), (0, .ref (adr b 0 0))]) hx hb dX3_digest_31 rfl hl (by decide) rfl (fun ls hl => ?_)
  refine lv_lload_n hx hb dX3_digest_32 rfl (lv_at hl 0 rfl) ?_
  refine lv_ldc2 (v := (31 : Int64)) hx hb hown (hts _ wd1071) dX3_digest_33 ?_
  refine lv_lmul hx hb dX3_digest_36 ?_
  refine lv_aload_n hx hb dX3_digest_37 rfl (lv_at hl 1 rfl) ?_
  rcases xt_some hF with hT | ⟨-, hF⟩
  · exact x_tV (As := []) (rest := [.long ((((((58004 : Int64) * (31 : Int64)) + ((jI y3).toInt64)) * (31 : Int64)) + ((jI y6).toInt64)) * (31 : Int64))]) hx hb hml hown hlocks hts hK hTH hnt hR hS (t_X3_waiting hst  hT) wd1074 wd801 wd802 wd1 wd803 hyX3_waiting ⟨rfl, rfl⟩ ⟨Nat.le_of_ble_eq_true rfl, Nat.le_of_ble_eq_true rfl⟩ hl.1 (Nat.le_of_ble_eq_true rfl) dX3_digest_38 ⟨Nat.le_of_ble_eq_true rfl, Nat.le_of_ble_eq_true rfl⟩ rfl
  obtain ⟨y9, hc8, hF⟩ := xb1_some hF
  refine x_cVi (C := RX3) (T := TX3) (N := 9) (ci := 3) (As := []) (rest := [.long ((((((58004 : Int64) * (31 : Int64)) + ((jI y3).toInt64)) * (31 : Int64)) + ((jI y6).toInt64)) * (31 : Int64))]) hx hb hml hown hts hK hR hS (c_X3_waiting  hc8) ok0 rfl rfl wd1074 wd801 wd802 wd1 wd803 hyX3_waiting ⟨rfl, rfl⟩ ⟨Nat.le_of_ble_eq_true rfl, Nat.le_of_ble_eq_true rfl⟩ hl.1 (Nat.le_of_ble_eq_true rfl) dX3_digest_38 ⟨Nat.zero_le _, Nat.zero_le _⟩ rfl (fun hg10 H locs hR hS => ?_)
  refine lv_i2l (v := ((jI y9).toInt64)) hx hb dX3_digest_41 rfl ?_
  refine lv_ladd hx hb dX3_digest_42 ?_
  refine lv_lstore_n (lv' := [(1, .long (((((((58004 : Int64) * (31 : Int64)) + ((jI y3).toInt64)) * (31 : Int64)) + ((jI y6).toInt64)) * (31 : Int64)) + ((jI y9).toInt64))), (0, .ref (adr b 0 0))]) hx hb dX3_digest_43 rfl hl (by decide) rfl (fun ls hl => ?_)
  refine lv_lload_n hx hb dX3_digest_44 rfl (lv_at hl 0 rfl) ?_
  refine lv_ldc2 (v := (31 : Int64)) hx hb hown (hts _ wd1071) dX3_digest_45 ?_
  refine lv_lmul hx hb dX3_digest_48 ?_
  refine lv_aload_n hx hb dX3_digest_49 rfl (lv_at hl 1 rfl) ?_
  rcases xt_some hF with hT | ⟨-, hF⟩
  · exact x_tV (As := []) (rest := [.long ((((((((58004 : Int64) * (31 : Int64)) + ((jI y3).toInt64)) * (31 : Int64)) + ((jI y6).toInt64)) * (31 : Int64)) + ((jI y9).toInt64)) * (31 : Int64))]) hx hb hml hown hlocks hts hK hTH hnt hR hS (t_X3_handles hst  hT) wd1075 wd745 wd746 wd1 wd747 hyX3_handles ⟨rfl, rfl⟩ ⟨Nat.le_of_ble_eq_true rfl, Nat.le_of_ble_eq_true rfl⟩ hl.1 (Nat.le_of_ble_eq_true rfl) dX3_digest_50 ⟨Nat.le_of_ble_eq_true rfl, Nat.le_of_ble_eq_true rfl⟩ rfl
  obtain ⟨y12, hc11, hF⟩ := xb1_some hF
  refine x_cVi (C := RX3) (T := TX3) (N := 9) (ci := 3) (As := []) (rest := [.long ((((((((58004 : Int64) * (31 : Int64)) + ((jI y3).toInt64)) * (31 : Int64)) + ((jI y6).toInt64)) * (31 : Int64)) + ((jI y9).toInt64)) * (31 : Int64))]) hx hb hml hown hts hK hR hS (c_X3_handles  hc11) ok0 rfl rfl wd1075 wd745 wd746 wd1 wd747 hyX3_handles ⟨rfl, rfl⟩ ⟨Nat.le_of_ble_eq_true rfl, Nat.le_of_ble_eq_true rfl⟩ hl.1 (Nat.le_of_ble_eq_true rfl) dX3_digest_50 ⟨Nat.zero_le _, Nat.zero_le _⟩ rfl (fun hg13 H locs hR hS => ?_)
  refine lv_i2l (v := ((jI y12).toInt64)) hx hb dX3_digest_53 rfl ?_
  refine lv_ladd hx hb dX3_digest_54 ?_
  refine lv_lstore_n (lv' := [(1, .long (((((((((58004 : Int64) * (31 : Int64)) + ((jI y3).toInt64)) * (31 : Int64)) + ((jI y6).toInt64)) * (31 : Int64)) + ((jI y9).toInt64)) * (31 : Int64)) + ((jI y12).toInt64))), (0, .ref (adr b 0 0))]) hx hb dX3_digest_55 rfl hl (by decide) rfl (fun ls hl => ?_)
  refine lv_lload_n hx hb dX3_digest_56 rfl (lv_at hl 0 rfl) ?_
  refine lv_ldc2 (v := (31 : Int64)) hx hb hown (hts _ wd1071) dX3_digest_57 ?_
  refine lv_lmul hx hb dX3_digest_60 ?_
  refine lv_aload_n hx hb dX3_digest_61 rfl (lv_at hl 1 rfl) ?_
  obtain ⟨y15, hc14, hF⟩ := xb1_some hF
  refine x_cVi (C := RX3) (T := TX3) (N := 9) (ci := 3) (As := []) (rest := [.long ((((((((((58004 : Int64) * (31 : Int64)) + ((jI y3).toInt64)) * (31 : Int64)) + ((jI y6).toInt64)) * (31 : Int64)) + ((jI y9).toInt64)) * (31 : Int64)) + ((jI y12).toInt64)) * (31 : Int64))]) hx hb hml hown hts hK hR hS (c_X3_mounts  hc14) ok0 rfl rfl wd1076 wd172 wd173 wd1 wd174 hyX3_mounts ⟨rfl, rfl⟩ ⟨Nat.le_of_ble_eq_true rfl, Nat.le_of_ble_eq_true rfl⟩ hl.1 (Nat.le_of_ble_eq_true rfl) dX3_digest_62 ⟨Nat.zero_le _, Nat.zero_le _⟩ rfl (fun hg16 H locs hR hS => ?_)
  refine lv_i2l (v := ((jI y15).toInt64)) hx hb dX3_digest_65 rfl ?_
  refine lv_ladd hx hb dX3_digest_66 ?_
  refine lv_lstore_n (lv' := [(1, .long (((((((((((58004 : Int64) * (31 : Int64)) + ((jI y3).toInt64)) * (31 : Int64)) + ((jI y6).toInt64)) * (31 : Int64)) + ((jI y9).toInt64)) * (31 : Int64)) + ((jI y12).toInt64)) * (31 : Int64)) + ((jI y15).toInt64))), (0, .ref (adr b 0 0))]) hx hb dX3_digest_67 rfl hl (by decide) rfl (fun ls hl => ?_)
  refine lv_lload_n hx hb dX3_digest_68 rfl (lv_at hl 0 rfl) ?_
  refine lv_ldc2 (v := (31 : Int64)) hx hb hown (hts _ wd1071) dX3_digest_69 ?_
  refine lv_lmul hx hb dX3_digest_72 ?_
  refine lv_aload_n hx hb dX3_digest_73 rfl (lv_at hl 1 rfl) ?_
  rcases xt_some hF with hT | ⟨-, hF⟩
  · exact x_tV (As := []) (rest := [.long ((((((((((((58004 : Int64) * (31 : Int64)) + ((jI y3).toInt64)) * (31 : Int64)) + ((jI y6).toInt64)) * (31 : Int64)) + ((jI y9).toInt64)) * (31 : Int64)) + ((jI y12).toInt64)) * (31 : Int64)) + ((jI y15).toInt64)) * (31 : Int64))]) hx hb hml hown hlocks hts hK hTH hnt hR hS (t_X3_used hst  hT) wd1077 wd1021 wd1022 wd1 wd1023 hyX3_used ⟨rfl, rfl⟩ ⟨Nat.le_of_ble_eq_true rfl, Nat.le_of_ble_eq_true rfl⟩ hl.1 (Nat.le_of_ble_eq_true rfl) dX3_digest_74 ⟨Nat.le_of_ble_eq_true rfl, Nat.le_of_ble_eq_true rfl⟩ rfl
  obtain ⟨y18, hc17, hF⟩ := xb1_some hF
  refine x_cVi (C := RX3) (T := TX3) (N := 9) (ci := 3) (As := []) (rest := [.long ((((((((((((58004 : Int64) * (31 : Int64)) + ((jI y3).toInt64)) * (31 : Int64)) + ((jI y6).toInt64)) * (31 : Int64)) + ((jI y9).toInt64)) * (31 : Int64)) + ((jI y12).toInt64)) * (31 : Int64)) + ((jI y15).toInt64)) * (31 : Int64))]) hx hb hml hown hts hK hR hS (c_X3_used  hc17) ok0 rfl rfl wd1077 wd1021 wd1022 wd1 wd1023 hyX3_used ⟨rfl, rfl⟩ ⟨Nat.le_of_ble_eq_true rfl, Nat.le_of_ble_eq_true rfl⟩ hl.1 (Nat.le_of_ble_eq_true rfl) dX3_digest_74 ⟨Nat.zero_le _, Nat.zero_le _⟩ rfl (fun hg19 H locs hR hS => ?_)
  refine lv_i2l (v := ((jI y18).toInt64)) hx hb dX3_digest_77 rfl ?_
  refine lv_ladd hx hb dX3_digest_78 ?_
  refine lv_lstore_n (lv' := [(1, .long (((((((((((((58004 : Int64) * (31 : Int64)) + ((jI y3).toInt64)) * (31 : Int64)) + ((jI y6).toInt64)) * (31 : Int64)) + ((jI y9).toInt64)) * (31 : Int64)) + ((jI y12).toInt64)) * (31 : Int64)) + ((jI y15).toInt64)) * (31 : Int64)) + ((jI y18).toInt64))), (0, .ref (adr b 0 0))]) hx hb dX3_digest_79 rfl hl (by decide) rfl (fun ls hl => ?_)
  refine x_iconst hx hb dX3_digest_80 ?_
  refine lv_istore_n (lv' := [(3, .int (jI (0 : Int))), (1, .long (((((((((((((58004 : Int64) * (31 : Int64)) + ((jI y3).toInt64)) * (31 : Int64)) + ((jI y6).toInt64)) * (31 : Int64)) + ((jI y9).toInt64)) * (31 : Int64)) + ((jI y12).toInt64)) * (31 : Int64)) + ((jI y15).toInt64)) * (31 : Int64)) + ((jI y18).toInt64))), (0, .ref (adr b 0 0))]) hx hb dX3_digest_81 rfl hl (by decide) rfl (fun ls hl => ?_)
  cases hF
