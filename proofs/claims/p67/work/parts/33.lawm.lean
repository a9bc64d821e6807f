abbrev rmL_below : Room := { frames := 0, cells := 0, slots := 0, locals := 0 }
theorem hyL_below : yL_below.cls ≠ "java/lang/invoke/MethodHandle" ∧ yL_below.cls ≠ "java/lang/invoke/VarHandle" ∧ (parseMethodDescriptor yL_below.desc).map (fun d => d.parameters.length) = some 2 := by decide +kernel
def F_L_below (a1 : Int) (a2 : Int) : Option (Int) := (xk (¬ a2 = 0) (xk (rg (Int.tmod (andI a1 (2147483647 : Int)) a2)) (some (Int.tmod (andI a1 (2147483647 : Int)) a2))))
set_option maxHeartbeats 4000000 in
set_option maxRecDepth 100000 in
theorem c_L_below {l : Launch} {g : Gx} {b : Nat} {M : Mm} {a1 : Int} {a2 : Int} {r : Int} (ha1 : rg a1) (ha2 : rg a2) (hF : F_L_below a1 a2 = some r) : Cl l yL_below cL_below 2 (some .int) rmL_below g b b [.int (jI a1), .int (jI a2)] M [] 0 0 (rI g b r M b []) := by
  refine cl_of (by decide +kernel) (Nat.le_of_ble_eq_true rfl) ?_
  intro p e s m args below meth c C0 hR ls hl
  obtain ⟨hx, hb, hr, hlocks, hml, hown, hts, hK⟩ := id C0
  have hA : ∀ q, AA b s.heap.size q → AF b b s.heap.size q := fun q h => Or.inl h
  have hS : va_S (AF b b s.heap.size) s.heap s.heap [] := va_S.rf
  have hl : lv_has ls 2 [(0, .int (jI a1)), (1, .int (jI a2))] := hl
  obtain ⟨H, hH⟩ : ∃ z, z = s.heap := ⟨_, rfl⟩
  obtain ⟨locs, hlo⟩ : ∃ z : List Loc, z = [] := ⟨_, rfl⟩
  obtain ⟨cells, hce⟩ : ∃ z : Nat, z = 0 := ⟨_, rfl⟩
  obtain ⟨slots, hsl⟩ : ∃ z : Nat, z = 0 := ⟨_, rfl⟩
  have hbu := And.intro hce hsl
  have hR : RD g b M [] H := by rw [hH]; exact hR
  have hS : va_S (AF b b s.heap.size) s.heap H locs := by rw [hH, hlo]; exact hS
  suffices hW : W p l e rmL_below s m args below meth c H locs cells slots (MQ below (rI g b r M b [] s.heap.size) args s 0 0 (AF b b s.heap.size)) (F0 m 0 ls []) by rw [hH, hlo, hce, hsl] at hW; exact hW
  rw [F_L_below] at hF
  refine lv_iload_n hx hb dL_below_0 rfl (lv_at hl 0 rfl) ?_
  refine x_ldc (n := (2147483647 : Int)) hx hb hown (hts _ wd616) (by decide +kernel) dL_below_1 ?_
  refine x_iand hx hb dL_below_3 ?_
  refine lv_iload_n hx hb dL_below_4 rfl (lv_at hl 1 rfl) ?_
  obtain ⟨hz1, hF⟩ := xk_some hF
  obtain ⟨hq2, hF⟩ := xk_some hF
  refine x_irem hx hb (andI_rg _ _) ha2 hz1 dL_below_5 ?_
  cases hF
  exact l_iret hx hb hlocks hK hR hS (by have := hbu; omega) (by have := hbu; omega) hq2 [] (by decide) rfl hr dL_below_6
abbrev rmL_node : Room := { frames := 2, cells := 0, slots := 0, locals := 42 }
theorem hyL_node : yL_node.cls ≠ "java/lang/invoke/MethodHandle" ∧ yL_node.cls ≠ "java/lang/invoke/VarHandle" ∧ (parseMethodDescriptor yL_node.desc).map (fun d => d.parameters.length) = some 2 := by decide +kernel
def F_L_node (M : Mm) (a2 : Int) : Option (Int) := (xb1 (F_L_below a2 (11 : Int)) fun y2 => (xb1 (F_X3_typeOf M y2) fun y5 => (if y5 ≤ 0 then (some (0 : Int)) else (some y2))))
set_option maxHeartbeats 4000000 in
set_option maxRecDepth 100000 in
theorem c_L_node {l : Launch} {g : Gx} {b : Nat} {M : Mm} {a2 : Int} {r : Int} (ha2 : rg a2) (hF : F_L_node M a2 = some r) : Cl l yL_node cL_node 3 (some .int) rmL_node g b b [.ref (adr b 0 0), .int (jI a2)] M [] 0 0 (rI g b r M b []) := by
  refine cl_of (by decide +kernel) (Nat.le_of_ble_eq_true rfl) ?_
  intro p e s m args below meth c C0 hR ls hl
  obtain ⟨hx, hb, hr, hlocks, hml, hown, hts, hK⟩ := id C0
  have hA : ∀ q, AA b s.heap.size q → AF b b s.heap.size q := fun q h => Or.inl h
  have hS : va_S (AF b b s.heap.size) s.heap s.heap [] := va_S.rf
  have hl : lv_has ls 3 [(0, .ref (adr b 0 0)), (1, .int (jI a2))] := hl
  obtain ⟨H, hH⟩ : ∃ z, z = s.heap := ⟨_, rfl⟩
  obtain ⟨locs, hlo⟩ : ∃ z : List Loc, z = [] := ⟨_, rfl⟩
  obtain ⟨cells, hce⟩ : ∃ z : Nat, z = 0 := ⟨_, rfl⟩
  obtain ⟨slots, hsl⟩ : ∃ z : Nat, z = 0 := ⟨_, rfl⟩
  have hbu := And.intro hce hsl
  have hR : RD g b M [] H := by rw [hH]; exact hR
  have hS : va_S (AF b b s.heap.size) s.heap H locs := by rw [hH, hlo]; exact hS
  suffices hW : W p l e rmL_node s m args below meth c H locs cells slots (MQ below (rI g b r M b [] s.heap.size) args s 0 0 (AF b b s.heap.size)) (F0 m 0 ls []) by rw [hH, hlo, hce, hsl] at hW; exact hW
  rw [F_L_node] at hF
  refine lv_iload_n hx hb dL_node_0 rfl (lv_at hl 1 rfl) ?_
  refine x_bipush hx hb (by decide +kernel) dL_node_1 ?_
  obtain ⟨y2, hc1, hF⟩ := xb1_some hF
  refine l_cS0 (As := [.int (jI a2), .int (jI (11 : Int))]) (rest := []) hx hb hml hown hts hK hR hS hA (c_L_below ha2 (by decide : rg (11 : Int)) hc1) wd613 wd614 wd0 wd615 hyL_below ⟨rfl, rfl⟩ ⟨Nat.le_of_ble_eq_true rfl, Nat.le_of_ble_eq_true rfl⟩ hl.1 (Nat.le_of_ble_eq_true rfl) dL_node_3 ⟨by have := hbu; simp only [rmL_node]; omega, by have := hbu; simp only [rmL_node]; omega⟩ rfl (fun hg3 H locs hR hS => ?_)
  obtain ⟨cells, hce⟩ : ∃ z, z = cells + 0 := ⟨_, rfl⟩; obtain ⟨slots, hsl⟩ : ∃ z, z = slots + 0 := ⟨_, rfl⟩; rw [← hce, ← hsl]; have hbu := And.intro hbu (And.intro hce hsl)
  refine lv_istore_n (lv' := [(2, .int (jI y2)), (0, .ref (adr b 0 0)), (1, .int (jI a2))]) hx hb dL_node_6 rfl hl (by decide) rfl (fun ls hl => ?_)
  refine lv_aload_n hx hb dL_node_7 rfl (lv_at hl 1 rfl) ?_
  refine lv_iload_n hx hb dL_node_8 rfl (lv_at hl 0 rfl) ?_
  obtain ⟨y5, hc4, hF⟩ := xb1_some hF
  refine l_cVi (As := [.int (jI y2)]) (rest := []) hx hb hml hown hts hK hR hS hA (c_X3_typeOf hg3 hc4) wd333 wd334 wd335 wd1 wd336 hyX3_typeOf ⟨rfl, rfl⟩ ⟨Nat.le_of_ble_eq_true rfl, Nat.le_of_ble_eq_true rfl⟩ hl.1 (Nat.le_of_ble_eq_true rfl) dL_node_9 ⟨by have := hbu; simp only [rmL_node]; omega, by have := hbu; simp only [rmL_node]; omega⟩ rfl (fun hg6 H locs hR hS => ?_)
  refine x_if_le (tgt := 19) hx hb hg6 dL_node_12 (by decide) (fun ci7 => ?_) (fun ci7 => ?_)
  · rw [if_pos ci7] at hF
    refine x_iconst hx hb dL_node_19 ?_
    cases hF
    exact l_iret hx hb hlocks hK hR hS (by have := hbu; omega) (by have := hbu; omega) (by decide : rg (0 : Int)) [] (by decide) rfl hr dL_node_20
  · rw [if_neg ci7] at hF
    refine lv_iload_n hx hb dL_node_15 rfl (lv_at hl 0 rfl) ?_
    refine lv_goto (tgt := 20) hx hb dL_node_16 (by decide) ?_
    cases hF
    exact l_iret hx hb hlocks hK hR hS (by have := hbu; omega) (by have := hbu; omega) hg3 [] (by decide) rfl hr dL_node_20
abbrev rmL_power : Room := { frames := 6, cells := 0, slots := 0, locals := 128 }
theorem hyL_power : yL_power.cls ≠ "java/lang/invoke/MethodHandle" ∧ yL_power.cls ≠ "java/lang/invoke/VarHandle" ∧ (parseMethodDescriptor yL_power.desc).map (fun d => d.parameters.length) = some 3 := by decide +kernel
def F_L_power (M : Mm) (a2 : Int) (a3 : Int) : Option (Int × Mm) := (xb1 (F_L_below (shrI a2 (6 : Int)) (5 : Int)) fun y2 => (if y2 = (0 : Int) then (xb2 (F_X3_sync M ) fun y6 M7 => (xb1 (F_X3_isDown M7 ) fun y10 => (if y6 = y10 then (some ((0 : Int), M7)) else (some ((1 : Int), M7))))) else (if y2 = (1 : Int) then (xb2 (F_X3_flush M ) fun y6 M7 => (xb1 (F_X3_isDown M7 ) fun y10 => (if y6 = y10 then (some ((0 : Int), M7)) else (some ((1 : Int), M7))))) else (if y2 = (2 : Int) then (xb1 (F_X3_cut M ) fun M6 => (xb1 (F_X3_isDown M6 ) fun y8 => (xk (y8 = 0 ∨ y8 = 1) (some (y8, M6))))) else (xb1 (F_L_below a3 (4 : Int)) fun y6 => (xb1 (F_L_below (shrI a3 (2 : Int)) (40 : Int)) fun y9 => (xk (rg ((1 : Int) + y9)) (xb1 (F_L_below (shrI a3 (5 : Int)) (41 : Int)) fun y13 => (xb1 (F_X3_fail M y6 ((1 : Int) + y9) y13) fun M16 => (xb1 (F_X3_isDown M16 ) fun y18 => (if y18 = 0 then (some ((1 : Int), M16)) else (some ((0 : Int), M16)))))))))))))
set_option maxHeartbeats 4000000 in
set_option maxRecDepth 100000 in
theorem c_L_power {l : Launch} {g : Gx} {b : Nat} {M : Mm} {a2 : Int} {a3 : Int} {r : Int} {M' : Mm} (ha2 : rg a2) (ha3 : rg a3) (hF : F_L_power M a2 a3 = some (r, M')) : Cl l yL_power cL_power 3 (some .boolean) rmL_power g b b [.ref (adr b 0 0), .int (jI a2), .int (jI a3)] M [] 0 0 (rI g b r M' b []) := by
  refine cl_of (by decide +kernel) (Nat.le_of_ble_eq_true rfl) ?_
  intro p e s m args below meth c C0 hR ls hl
  obtain ⟨hx, hb, hr, hlocks, hml, hown, hts, hK⟩ := id C0
  have hA : ∀ q, AA b s.heap.size q → AF b b s.heap.size q := fun q h => Or.inl h
  have hS : va_S (AF b b s.heap.size) s.heap s.heap [] := va_S.rf
  have hl : lv_has ls 3 [(0, .ref (adr b 0 0)), (1, .int (jI a2)), (2, .int (jI a3))] := hl
  obtain ⟨H, hH⟩ : ∃ z, z = s.heap := ⟨_, rfl⟩
  obtain ⟨locs, hlo⟩ : ∃ z : List Loc, z = [] := ⟨_, rfl⟩
  obtain ⟨cells, hce⟩ : ∃ z : Nat, z = 0 := ⟨_, rfl⟩
  obtain ⟨slots, hsl⟩ : ∃ z : Nat, z = 0 := ⟨_, rfl⟩
  have hbu := And.intro hce hsl
  have hR : RD g b M [] H := by rw [hH]; exact hR
  have hS : va_S (AF b b s.heap.size) s.heap H locs := by rw [hH, hlo]; exact hS
  suffices hW : W p l e rmL_power s m args below meth c H locs cells slots (MQ below (rI g b r M' b [] s.heap.size) args s 0 0 (AF b b s.heap.size)) (F0 m 0 ls []) by rw [hH, hlo, hce, hsl] at hW; exact hW
  rw [F_L_power] at hF
  refine lv_iload_n hx hb dL_power_0 rfl (lv_at hl 1 rfl) ?_
  refine x_bipush hx hb (by decide +kernel) dL_power_1 ?_
  refine x_ishr hx hb dL_power_3 ?_
  refine x_iconst hx hb dL_power_4 ?_
  obtain ⟨y2, hc1, hF⟩ := xb1_some hF
  refine l_cS0 (As := [.int (jI (shrI a2 (6 : Int))), .int (jI (5 : Int))]) (rest := []) hx hb hml hown hts hK hR hS hA (c_L_below (shrI_rg _ _) (by decide : rg (5 : Int)) hc1) wd613 wd614 wd0 wd615 hyL_below ⟨rfl, rfl⟩ ⟨Nat.le_of_ble_eq_true rfl, Nat.le_of_ble_eq_true rfl⟩ hl.1 (Nat.le_of_ble_eq_true rfl) dL_power_5 ⟨by have := hbu; simp only [rmL_power]; omega, by have := hbu; simp only [rmL_power]; omega⟩ rfl (fun hg3 H locs hR hS => ?_)
  obtain ⟨cells, hce⟩ : ∃ z, z = cells + 0 := ⟨_, rfl⟩; obtain ⟨slots, hsl⟩ : ∃ z, z = slots + 0 := ⟨_, rfl⟩; rw [← hce, ← hsl]; have hbu := And.intro hbu (And.intro hce hsl)
  by_cases cs8_0 : y2 = (0 : Int)
  · rw [if_pos cs8_0] at hF
    refine lv_tableIn (x := jI y2) (off := 28) (tgt := 36) hx hb dL_power_8 (by rw [jI_toInt hg3, cs8_0]; decide) (by rw [jI_toInt hg3, cs8_0]; decide) (by rw [jI_toInt hg3, cs8_0]; decide +kernel) rfl ?_
    refine lv_aload_n hx hb dL_power_36 rfl (lv_at hl 0 rfl) ?_
    obtain ⟨y6, M7, hc5, hF⟩ := xb2_some hF
    refine l_cVi (As := []) (rest := []) hx hb hml hown hts hK hR hS hA (c_X3_sync  hc5) wd242 wd243 wd244 wd1 wd245 hyX3_sync ⟨rfl, rfl⟩ ⟨Nat.le_of_ble_eq_true rfl, Nat.le_of_ble_eq_true rfl⟩ hl.1 (Nat.le_of_ble_eq_true rfl) dL_power_37 ⟨by have := hbu; simp only [rmL_power]; omega, by have := hbu; simp only [rmL_power]; omega⟩ rfl (fun hg8 H locs hR hS => ?_)
    refine lv_aload_n hx hb dL_power_40 rfl (lv_at hl 0 rfl) ?_
    obtain ⟨y10, hc9, hF⟩ := xb1_some hF
    refine l_cVi (As := []) (rest := [.int (jI y6)]) hx hb hml hown hts hK hR hS hA (c_X3_isDown  hc9) wd321 wd322 wd323 wd1 wd324 hyX3_isDown ⟨rfl, rfl⟩ ⟨Nat.le_of_ble_eq_true rfl, Nat.le_of_ble_eq_true rfl⟩ hl.1 (Nat.le_of_ble_eq_true rfl) dL_power_41 ⟨by have := hbu; simp only [rmL_power]; omega, by have := hbu; simp only [rmL_power]; omega⟩ rfl (fun hg11 H locs hR hS => ?_)
    refine x_icmp_eq (tgt := 51) hx hb hg8 hg11 dL_power_44 (by decide) (fun ci12 => ?_) (fun ci12 => ?_)
    · rw [if_pos ci12] at hF
      refine x_iconst hx hb dL_power_51 ?_
      cases hF
      exact l_zret hx hb hlocks hK hR hS (by have := hbu; omega) (by have := hbu; omega) (by decide) [] (by decide) rfl hr dL_power_52
    · rw [if_neg ci12] at hF
      refine x_iconst hx hb dL_power_47 ?_
      refine lv_goto (tgt := 52) hx hb dL_power_48 (by decide) ?_
      cases hF
      exact l_zret hx hb hlocks hK hR hS (by have := hbu; omega) (by have := hbu; omega) (by decide) [] (by decide) rfl hr dL_power_52
  · rw [if_neg cs8_0] at hF
    by_cases cs8_1 : y2 = (1 : Int)
    · rw [if_pos cs8_1] at hF
      refine lv_tableIn (x := jI y2) (off := 45) (tgt := 53) hx hb dL_power_8 (by rw [jI_toInt hg3, cs8_1]; decide) (by rw [jI_toInt hg3, cs8_1]; decide) (by rw [jI_toInt hg3, cs8_1]; decide +kernel) rfl ?_
      refine lv_aload_n hx hb dL_power_53 rfl (lv_at hl 0 rfl) ?_
      obtain ⟨y6, M7, hc5, hF⟩ := xb2_some hF
      refine l_cVi (As := []) (rest := []) hx hb hml hown hts hK hR hS hA (c_X3_flush  hc5) wd818 wd819 wd820 wd1 wd821 hyX3_flush ⟨rfl, rfl⟩ ⟨Nat.le_of_ble_eq_true rfl, Nat.le_of_ble_eq_true rfl⟩ hl.1 (Nat.le_of_ble_eq_true rfl) dL_power_54 ⟨by have := hbu; simp only [rmL_power]; omega, by have := hbu; simp only [rmL_power]; omega⟩ rfl (fun hg8 H locs hR hS => ?_)
      refine lv_aload_n hx hb dL_power_57 rfl (lv_at hl 0 rfl) ?_
      obtain ⟨y10, hc9, hF⟩ := xb1_some hF
      refine l_cVi (As := []) (rest := [.int (jI y6)]) hx hb hml hown hts hK hR hS hA (c_X3_isDown  hc9) wd321 wd322 wd323 wd1 wd324 hyX3_isDown ⟨rfl, rfl⟩ ⟨Nat.le_of_ble_eq_true rfl, Nat.le_of_ble_eq_true rfl⟩ hl.1 (Nat.le_of_ble_eq_true rfl) dL_power_58 ⟨by have := hbu; simp only [rmL_power]; omega, by have := hbu; simp only [rmL_power]; omega⟩ rfl (fun hg11 H locs hR hS => ?_)
      refine x_icmp_eq (tgt := 68) hx hb hg8 hg11 dL_power_61 (by decide) (fun ci12 => ?_) (fun ci12 => ?_)
      · rw [if_pos ci12] at hF
        refine x_iconst hx hb dL_power_68 ?_
        cases hF
        exact l_zret hx hb hlocks hK hR hS (by have := hbu; omega) (by have := hbu; omega) (by decide) [] (by decide) rfl hr dL_power_69
      · rw [if_neg ci12] at hF
        refine x_iconst hx hb dL_power_64 ?_
        refine lv_goto (tgt := 69) hx hb dL_power_65 (by decide) ?_
        cases hF
        exact l_zret hx hb hlocks hK hR hS (by have := hbu; omega) (by have := hbu; omega) (by decide) [] (by decide) rfl hr dL_power_69
    · rw [if_neg cs8_1] at hF
      by_cases cs8_2 : y2 = (2 : Int)
      · rw [if_pos cs8_2] at hF
        refine lv_tableIn (x := jI y2) (off := 62) (tgt := 70) hx hb dL_power_8 (by rw [jI_toInt hg3, cs8_2]; decide) (by rw [jI_toInt hg3, cs8_2]; decide) (by rw [jI_toInt hg3, cs8_2]; decide +kernel) rfl ?_
        refine lv_aload_n hx hb dL_power_70 rfl (lv_at hl 0 rfl) ?_
        obtain ⟨M6, hc5, hF⟩ := xb1_some hF
        refine l_cVv (As := []) (rest := []) hx hb hml hown hts hK hR hS hA (c_X3_cut  hc5) wd285 wd286 wd287 wd1 wd288 hyX3_cut ⟨rfl, rfl⟩ ⟨Nat.le_of_ble_eq_true rfl, Nat.le_of_ble_eq_true rfl⟩ hl.1 (Nat.le_of_ble_eq_true rfl) dL_power_71 ⟨by have := hbu; simp only [rmL_power]; omega, by have := hbu; simp only [rmL_power]; omega⟩ rfl (fun H locs hR hS => ?_)
        refine lv_aload_n hx hb dL_power_74 rfl (lv_at hl 0 rfl) ?_
        obtain ⟨y8, hc7, hF⟩ := xb1_some hF
        refine l_cVi (As := []) (rest := []) hx hb hml hown hts hK hR hS hA (c_X3_isDown  hc7) wd321 wd322 wd323 wd1 wd324 hyX3_isDown ⟨rfl, rfl⟩ ⟨Nat.le_of_ble_eq_true rfl, Nat.le_of_ble_eq_true rfl⟩ hl.1 (Nat.le_of_ble_eq_true rfl) dL_power_75 ⟨by have := hbu; simp only [rmL_power]; omega, by have := hbu; simp only [rmL_power]; omega⟩ rfl (fun hg9 H locs hR hS => ?_)
        obtain ⟨hz10, hF⟩ := xk_some hF
        cases hF
        exact l_zret hx hb hlocks hK hR hS (by have := hbu; omega) (by have := hbu; omega) hz10 [] (by decide) rfl hr dL_power_78
      · rw [if_neg cs8_2] at hF
        refine lv_tableOut (x := jI y2) hx hb dL_power_8 (by rw [jI_toInt hg3]; omega) (show ((8 : Nat) : Int) + _ = ((79 : Nat) : Int) from by decide) ?_
        refine lv_aload_n hx hb dL_power_79 rfl (lv_at hl 0 rfl) ?_
        refine lv_iload_n hx hb dL_power_80 rfl (lv_at hl 2 rfl) ?_
        refine x_iconst hx hb dL_power_81 ?_
        obtain ⟨y6, hc5, hF⟩ := xb1_some hF
        refine l_cS0 (As := [.int (jI a3), .int (jI (4 : Int))]) (rest := [.ref (adr b 0 0)]) hx hb hml hown hts hK hR hS hA (c_L_below ha3 (by decide : rg (4 : Int)) hc5) wd613 wd614 wd0 wd615 hyL_below ⟨rfl, rfl⟩ ⟨Nat.le_of_ble_eq_true rfl, Nat.le_of_ble_eq_true rfl⟩ hl.1 (Nat.le_of_ble_eq_true rfl) dL_power_82 ⟨by have := hbu; simp only [rmL_power]; omega, by have := hbu; simp only [rmL_power]; omega⟩ rfl (fun hg7 H locs hR hS => ?_)
        obtain ⟨cells, hce⟩ : ∃ z, z = cells + 0 := ⟨_, rfl⟩; obtain ⟨slots, hsl⟩ : ∃ z, z = slots + 0 := ⟨_, rfl⟩; rw [← hce, ← hsl]; have hbu := And.intro hbu (And.intro hce hsl)
        refine x_iconst hx hb dL_power_85 ?_
        refine lv_iload_n hx hb dL_power_86 rfl (lv_at hl 2 rfl) ?_
        refine x_iconst hx hb dL_power_87 ?_
        refine x_ishr hx hb dL_power_88 ?_
        refine x_bipush hx hb (by decide +kernel) dL_power_89 ?_
        obtain ⟨y9, hc8, hF⟩ := xb1_some hF
        refine l_cS0 (As := [.int (jI (shrI a3 (2 : Int))), .int (jI (40 : Int))]) (rest := [.int (jI (1 : Int)), .int (jI y6), .ref (adr b 0 0)]) hx hb hml hown hts hK hR hS hA (c_L_below (shrI_rg _ _) (by decide : rg (40 : Int)) hc8) wd613 wd614 wd0 wd615 hyL_below ⟨rfl, rfl⟩ ⟨Nat.le_of_ble_eq_true rfl, Nat.le_of_ble_eq_true rfl⟩ hl.1 (Nat.le_of_ble_eq_true rfl) dL_power_91 ⟨by have := hbu; simp only [rmL_power]; omega, by have := hbu; simp only [rmL_power]; omega⟩ rfl (fun hg10 H locs hR hS => ?_)
        obtain ⟨cells, hce⟩ : ∃ z, z = cells + 0 := ⟨_, rfl⟩; obtain ⟨slots, hsl⟩ : ∃ z, z = slots + 0 := ⟨_, rfl⟩; rw [← hce, ← hsl]; have hbu := And.intro hbu (And.intro hce hsl)
        obtain ⟨hq11, hF⟩ := xk_some hF
        refine x_iadd hx hb dL_power_94 ?_
        refine lv_iload_n hx hb dL_power_95 rfl (lv_at hl 2 rfl) ?_
        refine x_iconst hx hb dL_power_96 ?_
        refine x_ishr hx hb dL_power_97 ?_
        refine x_bipush hx hb (by decide +kernel) dL_power_98 ?_
        obtain ⟨y13, hc12, hF⟩ := xb1_some hF
        refine l_cS0 (As := [.int (jI (shrI a3 (5 : Int))), .int (jI (41 : Int))]) (rest := [.int (jI ((1 : Int) + y9)), .int (jI y6), .ref (adr b 0 0)]) hx hb hml hown hts hK hR hS hA (c_L_below (shrI_rg _ _) (by decide : rg (41 : Int)) hc12) wd613 wd614 wd0 wd615 hyL_below ⟨rfl, rfl⟩ ⟨Nat.le_of_ble_eq_true rfl, Nat.le_of_ble_eq_true rfl⟩ hl.1 (Nat.le_of_ble_eq_true rfl) dL_power_100 ⟨by have := hbu; simp only [rmL_power]; omega, by have := hbu; simp only [rmL_power]; omega⟩ rfl (fun hg14 H locs hR hS => ?_)
        obtain ⟨cells, hce⟩ : ∃ z, z = cells + 0 := ⟨_, rfl⟩; obtain ⟨slots, hsl⟩ : ∃ z, z = slots + 0 := ⟨_, rfl⟩; rw [← hce, ← hsl]; have hbu := And.intro hbu (And.intro hce hsl)
        obtain ⟨M16, hc15, hF⟩ := xb1_some hF
        refine l_cVv (As := [.int (jI y6), .int (jI ((1 : Int) + y9)), .int (jI y13)]) (rest := []) hx hb hml hown hts hK hR hS hA (c_X3_fail hg7 hq11 hg14 hc15) wd822 wd823 wd824 wd1 wd825 hyX3_fail ⟨rfl, rfl⟩ ⟨Nat.le_of_ble_eq_true rfl, Nat.le_of_ble_eq_true rfl⟩ hl.1 (Nat.le_of_ble_eq_true rfl) dL_power_103 ⟨by have := hbu; simp only [rmL_power]; omega, by have := hbu; simp only [rmL_power]; omega⟩ rfl (fun H locs hR hS => ?_)
        refine lv_aload_n hx hb dL_power_106 rfl (lv_at hl 0 rfl) ?_
        obtain ⟨y18, hc17, hF⟩ := xb1_some hF
        refine l_cVi (As := []) (rest := []) hx hb hml hown hts hK hR hS hA (c_X3_isDown  hc17) wd321 wd322 wd323 wd1 wd324 hyX3_isDown ⟨rfl, rfl⟩ ⟨Nat.le_of_ble_eq_true rfl, Nat.le_of_ble_eq_true rfl⟩ hl.1 (Nat.le_of_ble_eq_true rfl) dL_power_107 ⟨by have := hbu; simp only [rmL_power]; omega, by have := hbu; simp only [rmL_power]; omega⟩ rfl (fun hg19 H locs hR hS => ?_)
        refine x_if_ne (tgt := 117) hx hb hg19 dL_power_110 (by decide) (fun ci20 => ?_) (fun ci20 => ?_)
        · rw [if_neg ci20] at hF
          refine x_iconst hx hb dL_power_117 ?_
          cases hF
          exact l_zret hx hb hlocks hK hR hS (by have := hbu; omega) (by have := hbu; omega) (by decide) [] (by decide) rfl hr dL_power_118
        · rw [if_pos ci20] at hF
          refine x_iconst hx hb dL_power_113 ?_
          refine lv_goto (tgt := 118) hx hb dL_power_114 (by decide) ?_
          cases hF
          exact l_zret hx hb hlocks hK hR hS (by have := hbu; omega) (by have := hbu; omega) (by decide) [] (by decide) rfl hr dL_power_118
abbrev rmL_handle : Room := { frames := 7, cells := 0, slots := 0, locals := 158 }
theorem hyL_handle : yL_handle.cls ≠ "java/lang/invoke/MethodHandle" ∧ yL_handle.cls ≠ "java/lang/invoke/VarHandle" ∧ (parseMethodDescriptor yL_handle.desc).map (fun d => d.parameters.length) = some 6 := by decide +kernel
def F_L_handle_111  (M : Mm) (v2 : Int) (v5 : Int) (fqa : Nat → Int) : Option (Int × Mm × (Nat → Int)) := (xb1 (F_L_below (shrI v5 (3 : Int)) (64 : Int)) fun y2 => (xk (rg ((1 : Int) + y2)) (xb1 (F_L_below v5 (256 : Int)) fun y6 => (xb2 (F_X3_write M v2 ((1 : Int) + y2) y6) fun y9 M10 => (some ((1 : Int), M10, fqa))))))
set_option maxHeartbeats 4000000 in
set_option maxRecDepth 100000 in
theorem w_L_handle_111 {p : Program} {l : Launch} {e : Env} {s : State} {m : MethodId} {args : Array Value} {below : List Frame} {meth : Method} {c : Code} {g : Gx} {b : Nat} {qa : Nat} (C0 : XA p s m meth c args RL cL_handle 7 (some .boolean) g) {r : Int} {M' : Mm} {fa' : Nat → Int} : ∀ (M : Mm) (v2 : Int) (v5 : Int) (fqa : Nat → Int) (hv2 : rg v2) (hv5 : rg v5) (H : Heap) (locs : List Loc) (cells slots : Nat), cells + 0 ≤ 0 ∧ slots + 0 ≤ 0 → RD g b M [(qa, 3, 6, fqa)] H → va_S (AF b qa s.heap.size) s.heap H locs → ∀ ls : Array Slot, lv_has ls 7 [(0, .ref (adr b 0 0)), (2, .int (jI v2)), (5, .int (jI v5))] → F_L_handle_111  M  v2 v5 fqa = some (r, M', fa') → W p l e rmL_handle s m args below meth c H locs cells slots (MQ below (rI g b r M' qa [(qa, 3, 6, fa')] s.heap.size) args s 0 0 (AF b qa s.heap.size)) (F0 m 111 ls []) := by
  obtain ⟨hx, hb, hr, hlocks, hml, hown, hts, hK⟩ := id C0
  have hA : ∀ q, AA b s.heap.size q → AF b qa s.heap.size q := fun q h => Or.inl h
  intro M v2 v5 fqa hv2 hv5 H locs cells slots hbu hR hS ls hl hF
  rw [F_L_handle_111] at hF
  refine lv_aload_n hx hb dL_handle_111 rfl (lv_at hl 0 rfl) ?_
  refine lv_iload_n hx hb dL_handle_112 rfl (lv_at hl 1 rfl) ?_
  refine x_iconst hx hb dL_handle_113 ?_
  refine lv_iload hx hb dL_handle_114 (lv_at hl 2 rfl) ?_
  refine x_iconst hx hb dL_handle_116 ?_
  refine x_ishr hx hb dL_handle_117 ?_
  refine x_bipush hx hb (by decide +kernel) dL_handle_118 ?_
  obtain ⟨y2, hc1, hF⟩ := xb1_some hF
  refine l_cS0 (As := [.int (jI (shrI v5 (3 : Int))), .int (jI (64 : Int))]) (rest := [.int (jI (1 : Int)), .int (jI v2), .ref (adr b 0 0)]) hx hb hml hown hts hK hR hS hA (c_L_below (shrI_rg _ _) (by decide : rg (64 : Int)) hc1) wd613 wd614 wd0 wd615 hyL_below ⟨rfl, rfl⟩ ⟨Nat.le_of_ble_eq_true rfl, Nat.le_of_ble_eq_true rfl⟩ hl.1 (Nat.le_of_ble_eq_true rfl) dL_handle_120 ⟨by have := hbu; simp only [rmL_handle]; omega, by have := hbu; simp only [rmL_handle]; omega⟩ rfl (fun hg3 H locs hR hS => ?_)
  obtain ⟨cells, hce⟩ : ∃ z, z = cells + 0 := ⟨_, rfl⟩; obtain ⟨slots, hsl⟩ : ∃ z, z = slots + 0 := ⟨_, rfl⟩; rw [← hce, ← hsl]; have hbu := And.intro hbu (And.intro hce hsl)
  obtain ⟨hq4, hF⟩ := xk_some hF
  refine x_iadd hx hb dL_handle_123 ?_
  refine lv_iload hx hb dL_handle_124 (lv_at hl 2 rfl) ?_
  refine x_sipush hx hb (by decide +kernel) dL_handle_126 ?_
  obtain ⟨y6, hc5, hF⟩ := xb1_some hF
  refine l_cS0 (As := [.int (jI v5), .int (jI (256 : Int))]) (rest := [.int (jI ((1 : Int) + y2)), .int (jI v2), .ref (adr b 0 0)]) hx hb hml hown hts hK hR hS hA (c_L_below hv5 (by decide : rg (256 : Int)) hc5) wd613 wd614 wd0 wd615 hyL_below ⟨rfl, rfl⟩ ⟨Nat.le_of_ble_eq_true rfl, Nat.le_of_ble_eq_true rfl⟩ hl.1 (Nat.le_of_ble_eq_true rfl) dL_handle_129 ⟨by have := hbu; simp only [rmL_handle]; omega, by have := hbu; simp only [rmL_handle]; omega⟩ rfl (fun hg7 H locs hR hS => ?_)
  obtain ⟨cells, hce⟩ : ∃ z, z = cells + 0 := ⟨_, rfl⟩; obtain ⟨slots, hsl⟩ : ∃ z, z = slots + 0 := ⟨_, rfl⟩; rw [← hce, ← hsl]; have hbu := And.intro hbu (And.intro hce hsl)
  obtain ⟨y9, M10, hc8, hF⟩ := xb2_some hF
  refine l_cVi (As := [.int (jI v2), .int (jI ((1 : Int) + y2)), .int (jI y6)]) (rest := []) hx hb hml hown hts hK hR hS hA (c_X3_write hv2 hq4 hg7 hc8) wd806 wd807 wd808 wd1 wd809 hyX3_write ⟨rfl, rfl⟩ ⟨Nat.le_of_ble_eq_true rfl, Nat.le_of_ble_eq_true rfl⟩ hl.1 (Nat.le_of_ble_eq_true rfl) dL_handle_132 ⟨by have := hbu; simp only [rmL_handle]; omega, by have := hbu; simp only [rmL_handle]; omega⟩ rfl (fun hg11 H locs hR hS => ?_)
  refine lv_pop hx hb dL_handle_135 rfl ?_
  refine x_iconst hx hb dL_handle_136 ?_
  cases hF
  exact l_zret hx hb hlocks hK hR hS (by have := hbu; omega) (by have := hbu; omega) (by decide) [0] (by decide) rfl hr dL_handle_137
def F_L_handle_40  (M : Mm) (v2 : Int) (v6 : Int) (s1 : Int) (s2 : Int) (fqa : Nat → Int) : Option (Int × Mm × (Nat → Int)) := (xk (0 ≤ s1 ∧ s1 < 6) (xk (s2 = 0 ∨ s2 = 1) (xl (fun k => if k = s1.toNat then s2 else fqa k) fun f3 => (if v6 = v2 then (some ((1 : Int), M, f3)) else (if v6 = (-3 : Int) then (some ((1 : Int), M, f3)) else (some ((0 : Int), M, f3)))))))
set_option maxHeartbeats 4000000 in
set_option maxRecDepth 100000 in
theorem w_L_handle_40 {p : Program} {l : Launch} {e : Env} {s : State} {m : MethodId} {args : Array Value} {below : List Frame} {meth : Method} {c : Code} {g : Gx} {b : Nat} {qa : Nat} (C0 : XA p s m meth c args RL cL_handle 7 (some .boolean) g) {r : Int} {M' : Mm} {fa' : Nat → Int} : ∀ (M : Mm) (v2 : Int) (v6 : Int) (s1 : Int) (s2 : Int) (fqa : Nat → Int) (hv2 : rg v2) (hv6 : rg v6) (hs1 : rg s1) (hs2 : rg s2) (H : Heap) (locs : List Loc) (cells slots : Nat), cells + 0 ≤ 0 ∧ slots + 0 ≤ 0 → RD g b M [(qa, 3, 6, fqa)] H → va_S (AF b qa s.heap.size) s.heap H locs → ∀ ls : Array Slot, lv_has ls 7 [(2, .int (jI v2)), (6, .int (jI v6))] → F_L_handle_40  M  v2 v6 s1 s2 fqa = some (r, M', fa') → W p l e rmL_handle s m args below meth c H locs cells slots (MQ below (rI g b r M' qa [(qa, 3, 6, fa')] s.heap.size) args s 0 0 (AF b qa s.heap.size)) (F0 m 40 ls [.int (jI s2), .int (jI s1), .ref qa]) := by
  obtain ⟨hx, hb, hr, hlocks, hml, hown, hts, hK⟩ := id C0
  have hA : ∀ q, AA b s.heap.size q → AF b qa s.heap.size q := fun q h => Or.inl h
  intro M v2 v6 s1 s2 fqa hv2 hv6 hs1 hs2 H locs cells slots hbu hR hS ls hl hF
  rw [F_L_handle_40] at hF
  obtain ⟨hi1, hF⟩ := xk_some hF
  obtain ⟨hz2, hF⟩ := xk_some hF
  refine e_st (bl := true) hx hb hK hR hS 0 rfl rfl (Or.inr rfl) hs1 hs2 (fun _ => hz2) hi1 dL_handle_40 (fun H locs hR hS => ?_)
  obtain ⟨f3, eM, hF⟩ := xl_some hF
  have hR : RD g b M [(qa, 3, 6, f3)] H := by have h9 := hR; rw [eM] at h9; exact h9
  clear eM
  refine lv_iload hx hb dL_handle_41 (lv_at hl 1 rfl) ?_
  refine lv_iload_n hx hb dL_handle_43 rfl (lv_at hl 0 rfl) ?_
  refine x_icmp_eq (tgt := 54) hx hb hv6 hv2 dL_handle_44 (by decide) (fun ci4 => ?_) (fun ci4 => ?_)
  · rw [if_pos ci4] at hF
    refine x_iconst hx hb dL_handle_54 ?_
    refine lv_goto (tgt := 59) hx hb dL_handle_55 (by decide) ?_
    cases hF
    exact l_zret hx hb hlocks hK hR hS (by have := hbu; omega) (by have := hbu; omega) (by decide) [0] (by decide) rfl hr dL_handle_59
  · rw [if_neg ci4] at hF
    refine lv_iload hx hb dL_handle_47 (lv_at hl 1 rfl) ?_
    refine x_bipush hx hb (by decide +kernel) dL_handle_49 ?_
    refine x_icmp_ne (tgt := 58) hx hb hv6 (by decide : rg (-3 : Int)) dL_handle_51 (by decide) (fun ci5 => ?_) (fun ci5 => ?_)
    · rw [if_neg ci5] at hF
      refine x_iconst hx hb dL_handle_58 ?_
      cases hF
      exact l_zret hx hb hlocks hK hR hS (by have := hbu; omega) (by have := hbu; omega) (by decide) [0] (by decide) rfl hr dL_handle_59
    · rw [if_pos ci5] at hF
      refine x_iconst hx hb dL_handle_54 ?_
      refine lv_goto (tgt := 59) hx hb dL_handle_55 (by decide) ?_
      cases hF
      exact l_zret hx hb hlocks hK hR hS (by have := hbu; omega) (by have := hbu; omega) (by decide) [0] (by decide) rfl hr dL_handle_59
def F_L_handle_8  : Nat → Mm → Int → Int → (Nat → Int) → Option (Int × Mm × (Nat → Int))
  | 0, _, _, _, _ => none
  | n + 1, M, v2, v3, fqa => (xk (0 ≤ v2 ∧ v2 < 6) (if (fqa v2.toNat) = 0 then (xb2 (F_X3_open M v3) fun y5 M6 => (if y5 = v2 then (F_L_handle_40  M6 v2 y5 v2 (1 : Int) fqa) else (F_L_handle_40  M6 v2 y5 v2 (0 : Int) fqa))) else (xk (rg (v2 + (1 : Int))) (F_L_handle_8  n M (v2 + (1 : Int)) v3 fqa))))
set_option maxHeartbeats 4000000 in
set_option maxRecDepth 100000 in
theorem w_L_handle_8 {p : Program} {l : Launch} {e : Env} {s : State} {m : MethodId} {args : Array Value} {below : List Frame} {meth : Method} {c : Code} {g : Gx} {b : Nat} {qa : Nat} (C0 : XA p s m meth c args RL cL_handle 7 (some .boolean) g) {r : Int} {M' : Mm} {fa' : Nat → Int} : ∀ n : Nat, ∀ (M : Mm) (v2 : Int) (v3 : Int) (fqa : Nat → Int) (hv2 : rg v2) (hv3 : rg v3) (H : Heap) (locs : List Loc) (cells slots : Nat), cells + 0 ≤ 0 ∧ slots + 0 ≤ 0 → RD g b M [(qa, 3, 6, fqa)] H → va_S (AF b qa s.heap.size) s.heap H locs → ∀ ls : Array Slot, lv_has ls 7 [(0, .ref (adr b 0 0)), (1, .ref qa), (2, .int (jI v2)), (3, .int (jI v3))] → F_L_handle_8  n M  v2 v3 fqa = some (r, M', fa') → W p l e rmL_handle s m args below meth c H locs cells slots (MQ below (rI g b r M' qa [(qa, 3, 6, fa')] s.heap.size) args s 0 0 (AF b qa s.heap.size)) (F0 m 8 ls []) := by
  obtain ⟨hx, hb, hr, hlocks, hml, hown, hts, hK⟩ := id C0
  have hA : ∀ q, AA b s.heap.size q → AF b qa s.heap.size q := fun q h => Or.inl h
  intro n
  induction n with
  | zero =>
    intro M v2 v3 fqa hv2 hv3 H locs cells slots hbu hR hS ls hl hF
    rw [F_L_handle_8] at hF
    cases hF
  | succ n ih =>
    intro M v2 v3 fqa hv2 hv3 H locs cells slots hbu hR hS ls hl hF
    rw [F_L_handle_8] at hF
    refine lv_aload_n hx hb dL_handle_8 rfl (lv_at hl 1 rfl) ?_
    refine lv_iload_n hx hb dL_handle_9 rfl (lv_at hl 2 rfl) ?_
    obtain ⟨hi1, hF⟩ := xk_some hF
    refine e_ld (bl := true) hx hb hK hR 0 rfl rfl hv2 hi1 dL_handle_10 ?_
    have hg2 : rg (fqa v2.toNat) := (hR.2.1 0 _ rfl).2.2 _
    refine x_if_eq (tgt := 20) hx hb hg2 dL_handle_11 (by decide) (fun ci3 => ?_) (fun ci3 => ?_)
    · rw [if_pos ci3] at hF
      refine lv_aload_n hx hb dL_handle_20 rfl (lv_at hl 0 rfl) ?_
      refine lv_iload_n hx hb dL_handle_21 rfl (lv_at hl 3 rfl) ?_
      obtain ⟨y5, M6, hc4, hF⟩ := xb2_some hF
      refine l_cVi (As := [.int (jI v3)]) (rest := []) hx hb hml hown hts hK hR hS hA (c_X3_open hv3 hc4) wd790 wd791 wd792 wd1 wd793 hyX3_open ⟨rfl, rfl⟩ ⟨Nat.le_of_ble_eq_true rfl, Nat.le_of_ble_eq_true rfl⟩ hl.1 (Nat.le_of_ble_eq_true rfl) dL_handle_22 ⟨by have := hbu; simp only [rmL_handle]; omega, by have := hbu; simp only [rmL_handle]; omega⟩ rfl (fun hg7 H locs hR hS => ?_)
      refine lv_istore (lv' := [(6, .int (jI y5)), (0, .ref (adr b 0 0)), (1, .ref qa), (2, .int (jI v2)), (3, .int (jI v3))]) hx hb dL_handle_25 hl (by decide) rfl (fun ls hl => ?_)
      refine lv_aload_n hx hb dL_handle_27 rfl (lv_at hl 2 rfl) ?_
      refine lv_iload_n hx hb dL_handle_28 rfl (lv_at hl 3 rfl) ?_
      refine lv_iload hx hb dL_handle_29 (lv_at hl 0 rfl) ?_
      refine lv_iload_n hx hb dL_handle_31 rfl (lv_at hl 3 rfl) ?_
      refine x_icmp_ne (tgt := 39) hx hb hg7 hv2 dL_handle_32 (by decide) (fun ci8 => ?_) (fun ci8 => ?_)
      · rw [if_neg ci8] at hF
        refine x_iconst hx hb dL_handle_39 ?_
        exact w_L_handle_40 C0  M6 v2 y5 v2 (0 : Int) fqa hv2 hg7 hv2 (by decide : rg (0 : Int)) H locs _ _ (by omega) hR hS ls (lv_sub hl [3, 0] rfl) hF
      · rw [if_pos ci8] at hF
        refine x_iconst hx hb dL_handle_35 ?_
        refine lv_goto (tgt := 40) hx hb dL_handle_36 (by decide) ?_
        exact w_L_handle_40 C0  M6 v2 y5 v2 (1 : Int) fqa hv2 hg7 hv2 (by decide : rg (1 : Int)) H locs _ _ (by omega) hR hS ls (lv_sub hl [3, 0] rfl) hF
    · rw [if_neg ci3] at hF
      obtain ⟨hq9, hF⟩ := xk_some hF
      refine x_iinc (lv' := [(2, .int (jI (v2 + (1 : Int)))), (0, .ref (adr b 0 0)), (1, .ref qa), (3, .int (jI v3))]) hx hb dL_handle_14 hl (k := 2) rfl (by decide) rfl (fun ls hl => ?_)
      refine lv_goto (tgt := 8) hx hb dL_handle_17 (by decide) ?_
      exact ih M (v2 + (1 : Int)) v3 fqa hq9 hv3 H locs _ _ (by omega) hR hS ls (lv_sub hl [1, 2, 0, 3] rfl) hF
def F_L_handle (M : Mm) (a3 : Int) (a4 : Int) (a5 : Int) (a6 : Int) (fa : Nat → Int) : Option (Int × Mm × (Nat → Int)) := (xk (0 ≤ a3 ∧ a3 < 6) (if (fa a3.toNat) = 0 then (F_L_handle_8  FU M (0 : Int) a4 fa) else (xb1 (F_L_below (shrI a5 (6 : Int)) (4 : Int)) fun y5 => (if y5 = 0 then (xk (0 ≤ a3 ∧ a3 < 6) (xl (fun k => if k = a3.toNat then (0 : Int) else fa k) fun f20 => (xb2 (F_X3_close M a3) fun y22 M23 => (some ((1 : Int), M23, f20))))) else (xb1 (F_L_below (shrI a5 (6 : Int)) (2 : Int)) fun y9 => (if y9 = 0 then (xb1 (F_L_below a6 (257 : Int)) fun y13 => (xb2 (F_X3_seek M a3 y13) fun y16 M17 => (F_L_handle_111  M17 a3 a6 fa))) else (F_L_handle_111  M a3 a6 fa)))))))
set_option maxHeartbeats 4000000 in
set_option maxRecDepth 100000 in
theorem c_L_handle {l : Launch} {g : Gx} {b : Nat} {M : Mm} {a3 : Int} {a4 : Int} {a5 : Int} {a6 : Int} {qa : Nat} {fa : Nat → Int} {r : Int} {M' : Mm} {fa' : Nat → Int} (ha3 : rg a3) (ha4 : rg a4) (ha5 : rg a5) (ha6 : rg a6) (hF : F_L_handle M a3 a4 a5 a6 fa = some (r, M', fa')) : Cl l yL_handle cL_handle 7 (some .boolean) rmL_handle g b qa [.ref (adr b 0 0), .ref qa, .int (jI a3), .int (jI a4), .int (jI a5), .int (jI a6)] M [(qa, 3, 6, fa)] 0 0 (rI g b r M' qa [(qa, 3, 6, fa')]) := by
  refine cl_of (by decide +kernel) (Nat.le_of_ble_eq_true rfl) ?_
  intro p e s m args below meth c C0 hR ls hl
  obtain ⟨hx, hb, hr, hlocks, hml, hown, hts, hK⟩ := id C0
  have hA : ∀ q, AA b s.heap.size q → AF b qa s.heap.size q := fun q h => Or.inl h
  have hS : va_S (AF b qa s.heap.size) s.heap s.heap [] := va_S.rf
  have hl : lv_has ls 7 [(0, .ref (adr b 0 0)), (1, .ref qa), (2, .int (jI a3)), (3, .int (jI a4)), (4, .int (jI a5)), (5, .int (jI a6))] := hl
  obtain ⟨H, hH⟩ : ∃ z, z = s.heap := ⟨_, rfl⟩
  obtain ⟨locs, hlo⟩ : ∃ z : List Loc, z = [] := ⟨_, rfl⟩
  obtain ⟨cells, hce⟩ : ∃ z : Nat, z = 0 := ⟨_, rfl⟩
  obtain ⟨slots, hsl⟩ : ∃ z : Nat, z = 0 := ⟨_, rfl⟩
  have hbu := And.intro hce hsl
  have hR : RD g b M [(qa, 3, 6, fa)] H := by rw [hH]; exact hR
  have hS : va_S (AF b qa s.heap.size) s.heap H locs := by rw [hH, hlo]; exact hS
  suffices hW : W p l e rmL_handle s m args below meth c H locs cells slots (MQ below (rI g b r M' qa [(qa, 3, 6, fa')] s.heap.size) args s 0 0 (AF b qa s.heap.size)) (F0 m 0 ls []) by rw [hH, hlo, hce, hsl] at hW; exact hW
  rw [F_L_handle] at hF
  refine lv_aload_n hx hb dL_handle_0 rfl (lv_at hl 1 rfl) ?_
  refine lv_iload_n hx hb dL_handle_1 rfl (lv_at hl 2 rfl) ?_
  obtain ⟨hi1, hF⟩ := xk_some hF
  refine e_ld (bl := true) hx hb hK hR 0 rfl rfl ha3 hi1 dL_handle_2 ?_
  have hg2 : rg (fa a3.toNat) := (hR.2.1 0 _ rfl).2.2 _
  refine x_if_ne (tgt := 60) hx hb hg2 dL_handle_3 (by decide) (fun ci3 => ?_) (fun ci3 => ?_)
  · rw [if_neg ci3] at hF
    refine lv_iload hx hb dL_handle_60 (lv_at hl 4 rfl) ?_
    refine x_bipush hx hb (by decide +kernel) dL_handle_62 ?_
    refine x_ishr hx hb dL_handle_64 ?_
    refine x_iconst hx hb dL_handle_65 ?_
    obtain ⟨y5, hc4, hF⟩ := xb1_some hF
    refine l_cS0 (As := [.int (jI (shrI a5 (6 : Int))), .int (jI (4 : Int))]) (rest := []) hx hb hml hown hts hK hR hS hA (c_L_below (shrI_rg _ _) (by decide : rg (4 : Int)) hc4) wd613 wd614 wd0 wd615 hyL_below ⟨rfl, rfl⟩ ⟨Nat.le_of_ble_eq_true rfl, Nat.le_of_ble_eq_true rfl⟩ hl.1 (Nat.le_of_ble_eq_true rfl) dL_handle_66 ⟨by have := hbu; simp only [rmL_handle]; omega, by have := hbu; simp only [rmL_handle]; omega⟩ rfl (fun hg6 H locs hR hS => ?_)
    obtain ⟨cells, hce⟩ : ∃ z, z = cells + 0 := ⟨_, rfl⟩; obtain ⟨slots, hsl⟩ : ∃ z, z = slots + 0 := ⟨_, rfl⟩; rw [← hce, ← hsl]; have hbu := And.intro hbu (And.intro hce hsl)
    refine x_if_ne (tgt := 85) hx hb hg6 dL_handle_69 (by decide) (fun ci7 => ?_) (fun ci7 => ?_)
    · rw [if_neg ci7] at hF
      refine lv_iload hx hb dL_handle_85 (lv_at hl 4 rfl) ?_
      refine x_bipush hx hb (by decide +kernel) dL_handle_87 ?_
      refine x_ishr hx hb dL_handle_89 ?_
      refine x_iconst hx hb dL_handle_90 ?_
      obtain ⟨y9, hc8, hF⟩ := xb1_some hF
      refine l_cS0 (As := [.int (jI (shrI a5 (6 : Int))), .int (jI (2 : Int))]) (rest := []) hx hb hml hown hts hK hR hS hA (c_L_below (shrI_rg _ _) (by decide : rg (2 : Int)) hc8) wd613 wd614 wd0 wd615 hyL_below ⟨rfl, rfl⟩ ⟨Nat.le_of_ble_eq_true rfl, Nat.le_of_ble_eq_true rfl⟩ hl.1 (Nat.le_of_ble_eq_true rfl) dL_handle_91 ⟨by have := hbu; simp only [rmL_handle]; omega, by have := hbu; simp only [rmL_handle]; omega⟩ rfl (fun hg10 H locs hR hS => ?_)
      obtain ⟨cells, hce⟩ : ∃ z, z = cells + 0 := ⟨_, rfl⟩; obtain ⟨slots, hsl⟩ : ∃ z, z = slots + 0 := ⟨_, rfl⟩; rw [← hce, ← hsl]; have hbu := And.intro hbu (And.intro hce hsl)
      refine x_if_ne (tgt := 111) hx hb hg10 dL_handle_94 (by decide) (fun ci11 => ?_) (fun ci11 => ?_)
      · rw [if_neg ci11] at hF
        exact w_L_handle_111 C0  M a3 a6 fa ha3 ha6 H locs _ _ (by omega) hR hS ls (lv_sub hl [0, 2, 5] rfl) hF
      · rw [if_pos ci11] at hF
        refine lv_aload_n hx hb dL_handle_97 rfl (lv_at hl 0 rfl) ?_
        refine lv_iload_n hx hb dL_handle_98 rfl (lv_at hl 2 rfl) ?_
        refine lv_iload hx hb dL_handle_99 (lv_at hl 5 rfl) ?_
        refine x_sipush hx hb (by decide +kernel) dL_handle_101 ?_
        obtain ⟨y13, hc12, hF⟩ := xb1_some hF
        refine l_cS0 (As := [.int (jI a6), .int (jI (257 : Int))]) (rest := [.int (jI a3), .ref (adr b 0 0)]) hx hb hml hown hts hK hR hS hA (c_L_below ha6 (by decide : rg (257 : Int)) hc12) wd613 wd614 wd0 wd615 hyL_below ⟨rfl, rfl⟩ ⟨Nat.le_of_ble_eq_true rfl, Nat.le_of_ble_eq_true rfl⟩ hl.1 (Nat.le_of_ble_eq_true rfl) dL_handle_104 ⟨by have := hbu; simp only [rmL_handle]; omega, by have := hbu; simp only [rmL_handle]; omega⟩ rfl (fun hg14 H locs hR hS => ?_)
        obtain ⟨cells, hce⟩ : ∃ z, z = cells + 0 := ⟨_, rfl⟩; obtain ⟨slots, hsl⟩ : ∃ z, z = slots + 0 := ⟨_, rfl⟩; rw [← hce, ← hsl]; have hbu := And.intro hbu (And.intro hce hsl)
        obtain ⟨y16, M17, hc15, hF⟩ := xb2_some hF
        refine l_cVi (As := [.int (jI a3), .int (jI y13)]) (rest := []) hx hb hml hown hts hK hR hS hA (c_X3_seek ha3 hg14 hc15) wd802 wd803 wd804 wd1 wd805 hyX3_seek ⟨rfl, rfl⟩ ⟨Nat.le_of_ble_eq_true rfl, Nat.le_of_ble_eq_true rfl⟩ hl.1 (Nat.le_of_ble_eq_true rfl) dL_handle_107 ⟨by have := hbu; simp only [rmL_handle]; omega, by have := hbu; simp only [rmL_handle]; omega⟩ rfl (fun hg18 H locs hR hS => ?_)
        refine lv_pop hx hb dL_handle_110 rfl ?_
        exact w_L_handle_111 C0  M17 a3 a6 fa ha3 ha6 H locs _ _ (by omega) hR hS ls (lv_sub hl [0, 2, 5] rfl) hF
    · rw [if_pos ci7] at hF
      refine lv_aload_n hx hb dL_handle_72 rfl (lv_at hl 1 rfl) ?_
      refine lv_iload_n hx hb dL_handle_73 rfl (lv_at hl 2 rfl) ?_
      refine x_iconst hx hb dL_handle_74 ?_
      obtain ⟨hi19, hF⟩ := xk_some hF
      refine e_st (bl := true) hx hb hK hR hS 0 rfl rfl (Or.inr rfl) ha3 (by decide : rg (0 : Int)) (fun _ => by decide) hi19 dL_handle_75 (fun H locs hR hS => ?_)
      obtain ⟨f20, eM, hF⟩ := xl_some hF
      have hR : RD g b M [(qa, 3, 6, f20)] H := by have h9 := hR; rw [eM] at h9; exact h9
      clear eM
      refine lv_aload_n hx hb dL_handle_76 rfl (lv_at hl 0 rfl) ?_
      refine lv_iload_n hx hb dL_handle_77 rfl (lv_at hl 2 rfl) ?_
      obtain ⟨y22, M23, hc21, hF⟩ := xb2_some hF
      refine l_cVi (As := [.int (jI a3)]) (rest := []) hx hb hml hown hts hK hR hS hA (c_X3_close ha3 hc21) wd798 wd799 wd800 wd1 wd801 hyX3_close ⟨rfl, rfl⟩ ⟨Nat.le_of_ble_eq_true rfl, Nat.le_of_ble_eq_true rfl⟩ hl.1 (Nat.le_of_ble_eq_true rfl) dL_handle_78 ⟨by have := hbu; simp only [rmL_handle]; omega, by have := hbu; simp only [rmL_handle]; omega⟩ rfl (fun hg24 H locs hR hS => ?_)
      refine lv_pop hx hb dL_handle_81 rfl ?_
      refine lv_goto (tgt := 136) hx hb dL_handle_82 (by decide) ?_
      refine x_iconst hx hb dL_handle_136 ?_
      cases hF
      exact l_zret hx hb hlocks hK hR hS (by have := hbu; omega) (by have := hbu; omega) (by decide) [0] (by decide) rfl hr dL_handle_137
  · rw [if_pos ci3] at hF
    refine x_iconst hx hb dL_handle_6 ?_
    refine lv_istore_n (lv' := [(2, .int (jI (0 : Int))), (0, .ref (adr b 0 0)), (1, .ref qa), (3, .int (jI a4)), (4, .int (jI a5)), (5, .int (jI a6))]) hx hb dL_handle_7 rfl hl (by decide) rfl (fun ls hl => ?_)
    exact w_L_handle_8 C0  FU M (0 : Int) a4 fa (by decide : rg (0 : Int)) ha4 H locs _ _ (by omega) hR hS ls (lv_sub hl [1, 2, 0, 3] rfl) hF
abbrev rmL_act : Room := { frames := 8, cells := 0, slots := 0, locals := 184 }
theorem hyL_act : yL_act.cls ≠ "java/lang/invoke/MethodHandle" ∧ yL_act.cls ≠ "java/lang/invoke/VarHandle" ∧ (parseMethodDescriptor yL_act.desc).map (fun d => d.parameters.length) = some 4 := by decide +kernel
def F_L_act (M : Mm) (a3 : Int) (a4 : Int) (fa : Nat → Int) : Option (Int × Mm × (Nat → Int)) := (xb1 (F_L_node M a4) fun y2 => (xb1 (F_L_node M (shrI a4 (4 : Int))) fun y5 => (xb1 (F_L_below (shrI a4 (8 : Int)) (6 : Int)) fun y8 => (xk (rg ((1 : Int) + y8)) (xb1 (F_L_below (shrI a3 (5 : Int)) (6 : Int)) fun y12 => (xk (rg ((1 : Int) + y12)) (xb1 (F_L_below (shrI a3 (4 : Int)) (3 : Int)) fun y16 => (xb1 (F_L_below a3 (20 : Int)) fun y19 => (if y19 = (0 : Int) then (xb2 (F_X3_makeFile M y2 ((1 : Int) + y8)) fun y23 M24 => (some ((1 : Int), M24, fa))) else (if y19 = (1 : Int) then (xb2 (F_X3_makeFile M y2 ((1 : Int) + y8)) fun y23 M24 => (some ((1 : Int), M24, fa))) else (if y19 = (2 : Int) then (xb2 (F_X3_makeFile M y2 ((1 : Int) + y8)) fun y23 M24 => (some ((1 : Int), M24, fa))) else (if y19 = (3 : Int) then (xb2 (F_X3_makeFolder M y2 ((1 : Int) + y8)) fun y23 M24 => (some ((1 : Int), M24, fa))) else (if y19 = (4 : Int) then (xb2 (F_X3_makeFolder M y2 ((1 : Int) + y8)) fun y23 M24 => (some ((1 : Int), M24, fa))) else (if y19 = (5 : Int) then (xb1 (F_L_below (shrI a3 (5 : Int)) (5 : Int)) fun y23 => (xk (rg (y23 - (1 : Int))) (xb2 (F_X3_makeLink M y2 ((1 : Int) + y8) (y23 - (1 : Int)) ((1 : Int) + y8) (0 : Int)) fun y27 M28 => (some ((1 : Int), M28, fa))))) else (if y19 = (6 : Int) then (xb2 (F_X3_cloneFile M y2 ((1 : Int) + y8) y5) fun y23 M24 => (some ((1 : Int), M24, fa))) else (if y19 = (7 : Int) then (xb2 (F_X3_addName M y2 ((1 : Int) + y8) y5) fun y23 M24 => (some ((1 : Int), M24, fa))) else (if y19 = (8 : Int) then (xb2 (F_X3_unlink M y2 ((1 : Int) + y8)) fun y23 M24 => (some ((1 : Int), M24, fa))) else (if y19 = (9 : Int) then (xb2 (F_X3_rename M y2 ((1 : Int) + y8) y5 ((1 : Int) + y12)) fun y23 M24 => (some ((1 : Int), M24, fa))) else (if y19 = (10 : Int) then (xb2 (F_X3_exchange M y2 ((1 : Int) + y8) y5 ((1 : Int) + y12)) fun y23 M24 => (some ((1 : Int), M24, fa))) else (if y19 = (11 : Int) then (xb2 (F_X3_removeFolder M y2 ((1 : Int) + y8)) fun y23 M24 => (some ((1 : Int), M24, fa))) else (if y19 = (12 : Int) then (xb1 (F_L_below (shrI a3 (5 : Int)) (321 : Int)) fun y23 => (xb2 (F_X3_truncate M y2 y23) fun y26 M27 => (some ((1 : Int), M27, fa)))) else (if y19 = (13 : Int) then (xb1 (F_L_below (shrI a3 (5 : Int)) (20 : Int)) fun y23 => (xb2 (F_X3_punch M y2 y23) fun y26 M27 => (some ((1 : Int), M27, fa)))) else (if y19 = (14 : Int) then (xb1 (F_L_below (shrI a3 (5 : Int)) (4 : Int)) fun y23 => (xb1 (F_L_below (shrI a3 (7 : Int)) (4 : Int)) fun y26 => (xb2 (F_X3_share M y2 y23 y5 y26) fun y29 M30 => (some ((1 : Int), M30, fa))))) else (if y19 = (15 : Int) then (xb1 (F_L_below (shrI a3 (5 : Int)) (4 : Int)) fun y23 => (xb2 (F_X3_setOwner M y2 y23) fun y26 M27 => (some ((1 : Int), M27, fa)))) else (if y19 = (16 : Int) then (xb1 (F_L_below (shrI a3 (5 : Int)) (4 : Int)) fun y23 => (xb1 (F_L_below (shrI a3 (7 : Int)) (4 : Int)) fun y26 => (if y26 = 0 then (xb1 (F_L_below a4 (9 : Int)) fun y37 => (xb2 (F_X3_setQuota M y23 y37) fun y40 M41 => (some ((1 : Int), M41, fa)))) else (xb1 (F_L_below a4 (121 : Int)) fun y30 => (xb2 (F_X3_setQuota M y23 y30) fun y33 M34 => (some ((1 : Int), M34, fa))))))) else (if y19 = (17 : Int) then (xb3 (F_L_handle M y16 y2 a3 a4 fa) fun y23 M24 f25 => (xk (y23 = 0 ∨ y23 = 1) (some (y23, M24, f25)))) else (if y19 = (18 : Int) then (xb3 (F_L_handle M y16 y2 a3 a4 fa) fun y23 M24 f25 => (xk (y23 = 0 ∨ y23 = 1) (some (y23, M24, f25)))) else (xb2 (F_L_power M a3 a4) fun y23 M24 => (xk (y23 = 0 ∨ y23 = 1) (some (y23, M24, fa)))))))))))))))))))))))))))))))
set_option maxHeartbeats 4000000 in
set_option maxRecDepth 100000 in
theorem c_L_act {l : Launch} {g : Gx} {b : Nat} {M : Mm} {a3 : Int} {a4 : Int} {qa : Nat} {fa : Nat → Int} {r : Int} {M' : Mm} {fa' : Nat → Int} (ha3 : rg a3) (ha4 : rg a4) (hF : F_L_act M a3 a4 fa = some (r, M', fa')) : Cl l yL_act cL_act 9 (some .boolean) rmL_act g b qa [.ref (adr b 0 0), .ref qa, .int (jI a3), .int (jI a4)] M [(qa, 3, 6, fa)] 0 0 (rI g b r M' qa [(qa, 3, 6, fa')]) := by
  refine cl_of (by decide +kernel) (Nat.le_of_ble_eq_true rfl) ?_
  intro p e s m args below meth c C0 hR ls hl
  obtain ⟨hx, hb, hr, hlocks, hml, hown, hts, hK⟩ := id C0
  have hA : ∀ q, AA b s.heap.size q → AF b qa s.heap.size q := fun q h => Or.inl h
  have hS : va_S (AF b qa s.heap.size) s.heap s.heap [] := va_S.rf
  have hl : lv_has ls 9 [(0, .ref (adr b 0 0)), (1, .ref qa), (2, .int (jI a3)), (3, .int (jI a4))] := hl
  obtain ⟨H, hH⟩ : ∃ z, z = s.heap := ⟨_, rfl⟩
  obtain ⟨locs, hlo⟩ : ∃ z : List Loc, z = [] := ⟨_, rfl⟩
  obtain ⟨cells, hce⟩ : ∃ z : Nat, z = 0 := ⟨_, rfl⟩
  obtain ⟨slots, hsl⟩ : ∃ z : Nat, z = 0 := ⟨_, rfl⟩
  have hbu := And.intro hce hsl
  have hR : RD g b M [(qa, 3, 6, fa)] H := by rw [hH]; exact hR
  have hS : va_S (AF b qa s.heap.size) s.heap H locs := by rw [hH, hlo]; exact hS
  suffices hW : W p l e rmL_act s m args below meth c H locs cells slots (MQ below (rI g b r M' qa [(qa, 3, 6, fa')] s.heap.size) args s 0 0 (AF b qa s.heap.size)) (F0 m 0 ls []) by rw [hH, hlo, hce, hsl] at hW; exact hW
  rw [F_L_act] at hF
  refine lv_aload_n hx hb dL_act_0 rfl (lv_at hl 0 rfl) ?_
  refine lv_iload_n hx hb dL_act_1 rfl (lv_at hl 3 rfl) ?_
  obtain ⟨y2, hc1, hF⟩ := xb1_some hF
  refine l_cS0 (As := [.ref (adr b 0 0), .int (jI a4)]) (rest := []) hx hb hml hown hts hK hR hS hA (c_L_node ha4 hc1) wd610 wd611 wd0 wd612 hyL_node ⟨rfl, rfl⟩ ⟨Nat.le_of_ble_eq_true rfl, Nat.le_of_ble_eq_true rfl⟩ hl.1 (Nat.le_of_ble_eq_true rfl) dL_act_2 ⟨by have := hbu; simp only [rmL_act]; omega, by have := hbu; simp only [rmL_act]; omega⟩ rfl (fun hg3 H locs hR hS => ?_)
  obtain ⟨cells, hce⟩ : ∃ z, z = cells + 0 := ⟨_, rfl⟩; obtain ⟨slots, hsl⟩ : ∃ z, z = slots + 0 := ⟨_, rfl⟩; rw [← hce, ← hsl]; have hbu := And.intro hbu (And.intro hce hsl)
  refine lv_istore (lv' := [(4, .int (jI y2)), (0, .ref (adr b 0 0)), (1, .ref qa), (2, .int (jI a3)), (3, .int (jI a4))]) hx hb dL_act_5 hl (by decide) rfl (fun ls hl => ?_)
  refine lv_aload_n hx hb dL_act_7 rfl (lv_at hl 1 rfl) ?_
  refine lv_iload_n hx hb dL_act_8 rfl (lv_at hl 4 rfl) ?_
  refine x_iconst hx hb dL_act_9 ?_
  refine x_ishr hx hb dL_act_10 ?_
  obtain ⟨y5, hc4, hF⟩ := xb1_some hF
  refine l_cS0 (As := [.ref (adr b 0 0), .int (jI (shrI a4 (4 : Int)))]) (rest := []) hx hb hml hown hts hK hR hS hA (c_L_node (shrI_rg _ _) hc4) wd610 wd611 wd0 wd612 hyL_node ⟨rfl, rfl⟩ ⟨Nat.le_of_ble_eq_true rfl, Nat.le_of_ble_eq_true rfl⟩ hl.1 (Nat.le_of_ble_eq_true rfl) dL_act_11 ⟨by have := hbu; simp only [rmL_act]; omega, by have := hbu; simp only [rmL_act]; omega⟩ rfl (fun hg6 H locs hR hS => ?_)
  obtain ⟨cells, hce⟩ : ∃ z, z = cells + 0 := ⟨_, rfl⟩; obtain ⟨slots, hsl⟩ : ∃ z, z = slots + 0 := ⟨_, rfl⟩; rw [← hce, ← hsl]; have hbu := And.intro hbu (And.intro hce hsl)
  refine lv_istore (lv' := [(5, .int (jI y5)), (4, .int (jI y2)), (0, .ref (adr b 0 0)), (1, .ref qa), (2, .int (jI a3)), (3, .int (jI a4))]) hx hb dL_act_14 hl (by decide) rfl (fun ls hl => ?_)
  refine x_iconst hx hb dL_act_16 ?_
  refine lv_iload_n hx hb dL_act_17 rfl (lv_at hl 5 rfl) ?_
  refine x_bipush hx hb (by decide +kernel) dL_act_18 ?_
  refine x_ishr hx hb dL_act_20 ?_
  refine x_bipush hx hb (by decide +kernel) dL_act_21 ?_
  obtain ⟨y8, hc7, hF⟩ := xb1_some hF
  refine l_cS0 (As := [.int (jI (shrI a4 (8 : Int))), .int (jI (6 : Int))]) (rest := [.int (jI (1 : Int))]) hx hb hml hown hts hK hR hS hA (c_L_below (shrI_rg _ _) (by decide : rg (6 : Int)) hc7) wd613 wd614 wd0 wd615 hyL_below ⟨rfl, rfl⟩ ⟨Nat.le_of_ble_eq_true rfl, Nat.le_of_ble_eq_true rfl⟩ hl.1 (Nat.le_of_ble_eq_true rfl) dL_act_23 ⟨by have := hbu; simp only [rmL_act]; omega, by have := hbu; simp only [rmL_act]; omega⟩ rfl (fun hg9 H locs hR hS => ?_)
  obtain ⟨cells, hce⟩ : ∃ z, z = cells + 0 := ⟨_, rfl⟩; obtain ⟨slots, hsl⟩ : ∃ z, z = slots + 0 := ⟨_, rfl⟩; rw [← hce, ← hsl]; have hbu := And.intro hbu (And.intro hce hsl)
  obtain ⟨hq10, hF⟩ := xk_some hF
  refine x_iadd hx hb dL_act_26 ?_
  refine lv_istore (lv' := [(6, .int (jI ((1 : Int) + y8))), (5, .int (jI y5)), (4, .int (jI y2)), (0, .ref (adr b 0 0)), (1, .ref qa), (2, .int (jI a3)), (3, .int (jI a4))]) hx hb dL_act_27 hl (by decide) rfl (fun ls hl => ?_)
  refine x_iconst hx hb dL_act_29 ?_
  refine lv_iload_n hx hb dL_act_30 rfl (lv_at hl 5 rfl) ?_
  refine x_iconst hx hb dL_act_31 ?_
  refine x_ishr hx hb dL_act_32 ?_
  refine x_bipush hx hb (by decide +kernel) dL_act_33 ?_
  obtain ⟨y12, hc11, hF⟩ := xb1_some hF
  refine l_cS0 (As := [.int (jI (shrI a3 (5 : Int))), .int (jI (6 : Int))]) (rest := [.int (jI (1 : Int))]) hx hb hml hown hts hK hR hS hA (c_L_below (shrI_rg _ _) (by decide : rg (6 : Int)) hc11) wd613 wd614 wd0 wd615 hyL_below ⟨rfl, rfl⟩ ⟨Nat.le_of_ble_eq_true rfl, Nat.le_of_ble_eq_true rfl⟩ hl.1 (Nat.le_of_ble_eq_true rfl) dL_act_35 ⟨by have := hbu; simp only [rmL_act]; omega, by have := hbu; simp only [rmL_act]; omega⟩ rfl (fun hg13 H locs hR hS => ?_)
  obtain ⟨cells, hce⟩ : ∃ z, z = cells + 0 := ⟨_, rfl⟩; obtain ⟨slots, hsl⟩ : ∃ z, z = slots + 0 := ⟨_, rfl⟩; rw [← hce, ← hsl]; have hbu := And.intro hbu (And.intro hce hsl)
  obtain ⟨hq14, hF⟩ := xk_some hF
  refine x_iadd hx hb dL_act_38 ?_
  refine lv_istore (lv' := [(7, .int (jI ((1 : Int) + y12))), (6, .int (jI ((1 : Int) + y8))), (5, .int (jI y5)), (4, .int (jI y2)), (0, .ref (adr b 0 0)), (1, .ref qa), (2, .int (jI a3)), (3, .int (jI a4))]) hx hb dL_act_39 hl (by decide) rfl (fun ls hl => ?_)
  refine lv_iload_n hx hb dL_act_41 rfl (lv_at hl 6 rfl) ?_
  refine x_iconst hx hb dL_act_42 ?_
  refine x_ishr hx hb dL_act_43 ?_
  refine x_iconst hx hb dL_act_44 ?_
  obtain ⟨y16, hc15, hF⟩ := xb1_some hF
  refine l_cS0 (As := [.int (jI (shrI a3 (4 : Int))), .int (jI (3 : Int))]) (rest := []) hx hb hml hown hts hK hR hS hA (c_L_below (shrI_rg _ _) (by decide : rg (3 : Int)) hc15) wd613 wd614 wd0 wd615 hyL_below ⟨rfl, rfl⟩ ⟨Nat.le_of_ble_eq_true rfl, Nat.le_of_ble_eq_true rfl⟩ hl.1 (Nat.le_of_ble_eq_true rfl) dL_act_45 ⟨by have := hbu; simp only [rmL_act]; omega, by have := hbu; simp only [rmL_act]; omega⟩ rfl (fun hg17 H locs hR hS => ?_)
  obtain ⟨cells, hce⟩ : ∃ z, z = cells + 0 := ⟨_, rfl⟩; obtain ⟨slots, hsl⟩ : ∃ z, z = slots + 0 := ⟨_, rfl⟩; rw [← hce, ← hsl]; have hbu := And.intro hbu (And.intro hce hsl)
  refine lv_istore (lv' := [(8, .int (jI y16)), (7, .int (jI ((1 : Int) + y12))), (6, .int (jI ((1 : Int) + y8))), (5, .int (jI y5)), (4, .int (jI y2)), (0, .ref (adr b 0 0)), (1, .ref qa), (2, .int (jI a3)), (3, .int (jI a4))]) hx hb dL_act_48 hl (by decide) rfl (fun ls hl => ?_)
  refine lv_iload_n hx hb dL_act_50 rfl (lv_at hl 7 rfl) ?_
  refine x_bipush hx hb (by decide +kernel) dL_act_51 ?_
  obtain ⟨y19, hc18, hF⟩ := xb1_some hF
  refine l_cS0 (As := [.int (jI a3), .int (jI (20 : Int))]) (rest := []) hx hb hml hown hts hK hR hS hA (c_L_below ha3 (by decide : rg (20 : Int)) hc18) wd613 wd614 wd0 wd615 hyL_below ⟨rfl, rfl⟩ ⟨Nat.le_of_ble_eq_true rfl, Nat.le_of_ble_eq_true rfl⟩ hl.1 (Nat.le_of_ble_eq_true rfl) dL_act_53 ⟨by have := hbu; simp only [rmL_act]; omega, by have := hbu; simp only [rmL_act]; omega⟩ rfl (fun hg20 H locs hR hS => ?_)
  obtain ⟨cells, hce⟩ : ∃ z, z = cells + 0 := ⟨_, rfl⟩; obtain ⟨slots, hsl⟩ : ∃ z, z = slots + 0 := ⟨_, rfl⟩; rw [← hce, ← hsl]; have hbu := And.intro hbu (And.intro hce hsl)
  by_cases cs56_0 : y19 = (0 : Int)
  · rw [if_pos cs56_0] at hF
    refine lv_tableIn (x := jI y19) (off := 92) (tgt := 148) hx hb dL_act_56 (by rw [jI_toInt hg20, cs56_0]; decide) (by rw [jI_toInt hg20, cs56_0]; decide) (by rw [jI_toInt hg20, cs56_0]; decide +kernel) rfl ?_
    refine lv_aload_n hx hb dL_act_148 rfl (lv_at hl 5 rfl) ?_
    refine lv_iload hx hb dL_act_149 (lv_at hl 4 rfl) ?_
    refine lv_iload hx hb dL_act_151 (lv_at hl 2 rfl) ?_
    obtain ⟨y23, M24, hc22, hF⟩ := xb2_some hF
    refine l_cVi (As := [.int (jI y2), .int (jI ((1 : Int) + y8))]) (rest := []) hx hb hml hown hts hK hR hS hA (c_X3_makeFile hg3 hq10 hc22) wd617 wd618 wd619 wd1 wd620 hyX3_makeFile ⟨rfl, rfl⟩ ⟨Nat.le_of_ble_eq_true rfl, Nat.le_of_ble_eq_true rfl⟩ hl.1 (Nat.le_of_ble_eq_true rfl) dL_act_153 ⟨by have := hbu; simp only [rmL_act]; omega, by have := hbu; simp only [rmL_act]; omega⟩ rfl (fun hg25 H locs hR hS => ?_)
    refine lv_pop hx hb dL_act_156 rfl ?_
    refine lv_goto (tgt := 421) hx hb dL_act_157 (by decide) ?_
    refine x_iconst hx hb dL_act_421 ?_
    cases hF
    exact l_zret hx hb hlocks hK hR hS (by have := hbu; omega) (by have := hbu; omega) (by decide) [0] (by decide) rfl hr dL_act_422
  · rw [if_neg cs56_0] at hF
    by_cases cs56_1 : y19 = (1 : Int)
    · rw [if_pos cs56_1] at hF
      refine lv_tableIn (x := jI y19) (off := 92) (tgt := 148) hx hb dL_act_56 (by rw [jI_toInt hg20, cs56_1]; decide) (by rw [jI_toInt hg20, cs56_1]; decide) (by rw [jI_toInt hg20, cs56_1]; decide +kernel) rfl ?_
      refine lv_aload_n hx hb dL_act_148 rfl (lv_at hl 5 rfl) ?_
      refine lv_iload hx hb dL_act_149 (lv_at hl 4 rfl) ?_
      refine lv_iload hx hb dL_act_151 (lv_at hl 2 rfl) ?_
      obtain ⟨y23, M24, hc22, hF⟩ := xb2_some hF
      refine l_cVi (As := [.int (jI y2), .int (jI ((1 : Int) + y8))]) (rest := []) hx hb hml hown hts hK hR hS hA (c_X3_makeFile hg3 hq10 hc22) wd617 wd618 wd619 wd1 wd620 hyX3_makeFile ⟨rfl, rfl⟩ ⟨Nat.le_of_ble_eq_true rfl, Nat.le_of_ble_eq_true rfl⟩ hl.1 (Nat.le_of_ble_eq_true rfl) dL_act_153 ⟨by have := hbu; simp only [rmL_act]; omega, by have := hbu; simp only [rmL_act]; omega⟩ rfl (fun hg25 H locs hR hS => ?_)
      refine lv_pop hx hb dL_act_156 rfl ?_
      refine lv_goto (tgt := 421) hx hb dL_act_157 (by decide) ?_
      refine x_iconst hx hb dL_act_421 ?_
      cases hF
      exact l_zret hx hb hlocks hK hR hS (by have := hbu; omega) (by have := hbu; omega) (by decide) [0] (by decide) rfl hr dL_act_422
    · rw [if_neg cs56_1] at hF
      by_cases cs56_2 : y19 = (2 : Int)
      · rw [if_pos cs56_2] at hF
        refine lv_tableIn (x := jI y19) (off := 92) (tgt := 148) hx hb dL_act_56 (by rw [jI_toInt hg20, cs56_2]; decide) (by rw [jI_toInt hg20, cs56_2]; decide) (by rw [jI_toInt hg20, cs56_2]; decide +kernel) rfl ?_
        refine lv_aload_n hx hb dL_act_148 rfl (lv_at hl 5 rfl) ?_
        refine lv_iload hx hb dL_act_149 (lv_at hl 4 rfl) ?_
        refine lv_iload hx hb dL_act_151 (lv_at hl 2 rfl) ?_
        obtain ⟨y23, M24, hc22, hF⟩ := xb2_some hF
        refine l_cVi (As := [.int (jI y2), .int (jI ((1 : Int) + y8))]) (rest := []) hx hb hml hown hts hK hR hS hA (c_X3_makeFile hg3 hq10 hc22) wd617 wd618 wd619 wd1 wd620 hyX3_makeFile ⟨rfl, rfl⟩ ⟨Nat.le_of_ble_eq_true rfl, Nat.le_of_ble_eq_true rfl⟩ hl.1 (Nat.le_of_ble_eq_true rfl) dL_act_153 ⟨by have := hbu; simp only [rmL_act]; omega, by have := hbu; simp only [rmL_act]; omega⟩ rfl (fun hg25 H locs hR hS => ?_)
        refine lv_pop hx hb dL_act_156 rfl ?_
        refine lv_goto (tgt := 421) hx hb dL_act_157 (by decide) ?_
        refine x_iconst hx hb dL_act_421 ?_
        cases hF
        exact l_zret hx hb hlocks hK hR hS (by have := hbu; omega) (by have := hbu; omega) (by decide) [0] (by decide) rfl hr dL_act_422
      · rw [if_neg cs56_2] at hF
        by_cases cs56_3 : y19 = (3 : Int)
        · rw [if_pos cs56_3] at hF
          refine lv_tableIn (x := jI y19) (off := 104) (tgt := 160) hx hb dL_act_56 (by rw [jI_toInt hg20, cs56_3]; decide) (by rw [jI_toInt hg20, cs56_3]; decide) (by rw [jI_toInt hg20, cs56_3]; decide +kernel) rfl ?_
          refine lv_aload_n hx hb dL_act_160 rfl (lv_at hl 5 rfl) ?_
          refine lv_iload hx hb dL_act_161 (lv_at hl 4 rfl) ?_
          refine lv_iload hx hb dL_act_163 (lv_at hl 2 rfl) ?_
          obtain ⟨y23, M24, hc22, hF⟩ := xb2_some hF
          refine l_cVi (As := [.int (jI y2), .int (jI ((1 : Int) + y8))]) (rest := []) hx hb hml hown hts hK hR hS hA (c_X3_makeFolder hg3 hq10 hc22) wd661 wd662 wd663 wd1 wd664 hyX3_makeFolder ⟨rfl, rfl⟩ ⟨Nat.le_of_ble_eq_true rfl, Nat.le_of_ble_eq_true rfl⟩ hl.1 (Nat.le_of_ble_eq_true rfl) dL_act_165 ⟨by have := hbu; simp only [rmL_act]; omega, by have := hbu; simp only [rmL_act]; omega⟩ rfl (fun hg25 H locs hR hS => ?_)
          refine lv_pop hx hb dL_act_168 rfl ?_
          refine lv_goto (tgt := 421) hx hb dL_act_169 (by decide) ?_
          refine x_iconst hx hb dL_act_421 ?_
          cases hF
          exact l_zret hx hb hlocks hK hR hS (by have := hbu; omega) (by have := hbu; omega) (by decide) [0] (by decide) rfl hr dL_act_422
        · rw [if_neg cs56_3] at hF
          by_cases cs56_4 : y19 = (4 : Int)
          · rw [if_pos cs56_4] at hF
            refine lv_tableIn (x := jI y19) (off := 104) (tgt := 160) hx hb dL_act_56 (by rw [jI_toInt hg20, cs56_4]; decide) (by rw [jI_toInt hg20, cs56_4]; decide) (by rw [jI_toInt hg20, cs56_4]; decide +kernel) rfl ?_
            refine lv_aload_n hx hb dL_act_160 rfl (lv_at hl 5 rfl) ?_
            refine lv_iload hx hb dL_act_161 (lv_at hl 4 rfl) ?_
            refine lv_iload hx hb dL_act_163 (lv_at hl 2 rfl) ?_
            obtain ⟨y23, M24, hc22, hF⟩ := xb2_some hF
            refine l_cVi (As := [.int (jI y2), .int (jI ((1 : Int) + y8))]) (rest := []) hx hb hml hown hts hK hR hS hA (c_X3_makeFolder hg3 hq10 hc22) wd661 wd662 wd663 wd1 wd664 hyX3_makeFolder ⟨rfl, rfl⟩ ⟨Nat.le_of_ble_eq_true rfl, Nat.le_of_ble_eq_true rfl⟩ hl.1 (Nat.le_of_ble_eq_true rfl) dL_act_165 ⟨by have := hbu; simp only [rmL_act]; omega, by have := hbu; simp only [rmL_act]; omega⟩ rfl (fun hg25 H locs hR hS => ?_)
            refine lv_pop hx hb dL_act_168 rfl ?_
            refine lv_goto (tgt := 421) hx hb dL_act_169 (by decide) ?_
            refine x_iconst hx hb dL_act_421 ?_
            cases hF
            exact l_zret hx hb hlocks hK hR hS (by have := hbu; omega) (by have := hbu; omega) (by decide) [0] (by decide) rfl hr dL_act_422
          · rw [if_neg cs56_4] at hF
            by_cases cs56_5 : y19 = (5 : Int)
            · rw [if_pos cs56_5] at hF
              refine lv_tableIn (x := jI y19) (off := 116) (tgt := 172) hx hb dL_act_56 (by rw [jI_toInt hg20, cs56_5]; decide) (by rw [jI_toInt hg20, cs56_5]; decide) (by rw [jI_toInt hg20, cs56_5]; decide +kernel) rfl ?_
              refine lv_aload_n hx hb dL_act_172 rfl (lv_at hl 5 rfl) ?_
              refine lv_iload hx hb dL_act_173 (lv_at hl 4 rfl) ?_
              refine lv_iload hx hb dL_act_175 (lv_at hl 2 rfl) ?_
              refine lv_iload_n hx hb dL_act_177 rfl (lv_at hl 7 rfl) ?_
              refine x_iconst hx hb dL_act_178 ?_
              refine x_ishr hx hb dL_act_179 ?_
              refine x_iconst hx hb dL_act_180 ?_
              obtain ⟨y23, hc22, hF⟩ := xb1_some hF
              refine l_cS0 (As := [.int (jI (shrI a3 (5 : Int))), .int (jI (5 : Int))]) (rest := [.int (jI ((1 : Int) + y8)), .int (jI y2), .ref (adr b 0 0)]) hx hb hml hown hts hK hR hS hA (c_L_below (shrI_rg _ _) (by decide : rg (5 : Int)) hc22) wd613 wd614 wd0 wd615 hyL_below ⟨rfl, rfl⟩ ⟨Nat.le_of_ble_eq_true rfl, Nat.le_of_ble_eq_true rfl⟩ hl.1 (Nat.le_of_ble_eq_true rfl) dL_act_181 ⟨by have := hbu; simp only [rmL_act]; omega, by have := hbu; simp only [rmL_act]; omega⟩ rfl (fun hg24 H locs hR hS => ?_)
              obtain ⟨cells, hce⟩ : ∃ z, z = cells + 0 := ⟨_, rfl⟩; obtain ⟨slots, hsl⟩ : ∃ z, z = slots + 0 := ⟨_, rfl⟩; rw [← hce, ← hsl]; have hbu := And.intro hbu (And.intro hce hsl)
              refine x_iconst hx hb dL_act_184 ?_
              obtain ⟨hq25, hF⟩ := xk_some hF
              refine x_isub hx hb dL_act_185 ?_
              refine lv_iload hx hb dL_act_186 (lv_at hl 2 rfl) ?_
              refine x_iconst hx hb dL_act_188 ?_
              obtain ⟨y27, M28, hc26, hF⟩ := xb2_some hF
              refine l_cVi (As := [.int (jI y2), .int (jI ((1 : Int) + y8)), .int (jI (y23 - (1 : Int))), .int (jI ((1 : Int) + y8)), .int (jI (0 : Int))]) (rest := []) hx hb hml hown hts hK hR hS hA (c_X3_makeLink hg3 hq10 hq25 hq10 (by decide : rg (0 : Int)) hc26) wd665 wd666 wd667 wd1 wd668 hyX3_makeLink ⟨rfl, rfl⟩ ⟨Nat.le_of_ble_eq_true rfl, Nat.le_of_ble_eq_true rfl⟩ hl.1 (Nat.le_of_ble_eq_true rfl) dL_act_189 ⟨by have := hbu; simp only [rmL_act]; omega, by have := hbu; simp only [rmL_act]; omega⟩ rfl (fun hg29 H locs hR hS => ?_)
              refine lv_pop hx hb dL_act_192 rfl ?_
              refine lv_goto (tgt := 421) hx hb dL_act_193 (by decide) ?_
              refine x_iconst hx hb dL_act_421 ?_
              cases hF
              exact l_zret hx hb hlocks hK hR hS (by have := hbu; omega) (by have := hbu; omega) (by decide) [0] (by decide) rfl hr dL_act_422
            · rw [if_neg cs56_5] at hF
              by_cases cs56_6 : y19 = (6 : Int)
              · rw [if_pos cs56_6] at hF
                refine lv_tableIn (x := jI y19) (off := 140) (tgt := 196) hx hb dL_act_56 (by rw [jI_toInt hg20, cs56_6]; decide) (by rw [jI_toInt hg20, cs56_6]; decide) (by rw [jI_toInt hg20, cs56_6]; decide +kernel) rfl ?_
                refine lv_aload_n hx hb dL_act_196 rfl (lv_at hl 5 rfl) ?_
                refine lv_iload hx hb dL_act_197 (lv_at hl 4 rfl) ?_
                refine lv_iload hx hb dL_act_199 (lv_at hl 2 rfl) ?_
                refine lv_iload hx hb dL_act_201 (lv_at hl 3 rfl) ?_
                obtain ⟨y23, M24, hc22, hF⟩ := xb2_some hF
                refine l_cVi (As := [.int (jI y2), .int (jI ((1 : Int) + y8)), .int (jI y5)]) (rest := []) hx hb hml hown hts hK hR hS hA (c_X3_cloneFile hg3 hq10 hg6 hc22) wd670 wd671 wd672 wd1 wd673 hyX3_cloneFile ⟨rfl, rfl⟩ ⟨Nat.le_of_ble_eq_true rfl, Nat.le_of_ble_eq_true rfl⟩ hl.1 (Nat.le_of_ble_eq_true rfl) dL_act_203 ⟨by have := hbu; simp only [rmL_act]; omega, by have := hbu; simp only [rmL_act]; omega⟩ rfl (fun hg25 H locs hR hS => ?_)
                refine lv_pop hx hb dL_act_206 rfl ?_
                refine lv_goto (tgt := 421) hx hb dL_act_207 (by decide) ?_
                refine x_iconst hx hb dL_act_421 ?_
                cases hF
                exact l_zret hx hb hlocks hK hR hS (by have := hbu; omega) (by have := hbu; omega) (by decide) [0] (by decide) rfl hr dL_act_422
              · rw [if_neg cs56_6] at hF
                by_cases cs56_7 : y19 = (7 : Int)
                · rw [if_pos cs56_7] at hF
                  refine lv_tableIn (x := jI y19) (off := 154) (tgt := 210) hx hb dL_act_56 (by rw [jI_toInt hg20, cs56_7]; decide) (by rw [jI_toInt hg20, cs56_7]; decide) (by rw [jI_toInt hg20, cs56_7]; decide +kernel) rfl ?_
                  refine lv_aload_n hx hb dL_act_210 rfl (lv_at hl 5 rfl) ?_
                  refine lv_iload hx hb dL_act_211 (lv_at hl 4 rfl) ?_
                  refine lv_iload hx hb dL_act_213 (lv_at hl 2 rfl) ?_
                  refine lv_iload hx hb dL_act_215 (lv_at hl 3 rfl) ?_
                  obtain ⟨y23, M24, hc22, hF⟩ := xb2_some hF
                  refine l_cVi (As := [.int (jI y2), .int (jI ((1 : Int) + y8)), .int (jI y5)]) (rest := []) hx hb hml hown hts hK hR hS hA (c_X3_addName hg3 hq10 hg6 hc22) wd678 wd679 wd680 wd1 wd681 hyX3_addName ⟨rfl, rfl⟩ ⟨Nat.le_of_ble_eq_true rfl, Nat.le_of_ble_eq_true rfl⟩ hl.1 (Nat.le_of_ble_eq_true rfl) dL_act_217 ⟨by have := hbu; simp only [rmL_act]; omega, by have := hbu; simp only [rmL_act]; omega⟩ rfl (fun hg25 H locs hR hS => ?_)
                  refine lv_pop hx hb dL_act_220 rfl ?_
                  refine lv_goto (tgt := 421) hx hb dL_act_221 (by decide) ?_
                  refine x_iconst hx hb dL_act_421 ?_
                  cases hF
                  exact l_zret hx hb hlocks hK hR hS (by have := hbu; omega) (by have := hbu; omega) (by decide) [0] (by decide) rfl hr dL_act_422
                · rw [if_neg cs56_7] at hF
                  by_cases cs56_8 : y19 = (8 : Int)
                  · rw [if_pos cs56_8] at hF
                    refine lv_tableIn (x := jI y19) (off := 168) (tgt := 224) hx hb dL_act_56 (by rw [jI_toInt hg20, cs56_8]; decide) (by rw [jI_toInt hg20, cs56_8]; decide) (by rw [jI_toInt hg20, cs56_8]; decide +kernel) rfl ?_
                    refine lv_aload_n hx hb dL_act_224 rfl (lv_at hl 5 rfl) ?_
                    refine lv_iload hx hb dL_act_225 (lv_at hl 4 rfl) ?_
                    refine lv_iload hx hb dL_act_227 (lv_at hl 2 rfl) ?_
                    obtain ⟨y23, M24, hc22, hF⟩ := xb2_some hF
                    refine l_cVi (As := [.int (jI y2), .int (jI ((1 : Int) + y8))]) (rest := []) hx hb hml hown hts hK hR hS hA (c_X3_unlink hg3 hq10 hc22) wd683 wd684 wd685 wd1 wd686 hyX3_unlink ⟨rfl, rfl⟩ ⟨Nat.le_of_ble_eq_true rfl, Nat.le_of_ble_eq_true rfl⟩ hl.1 (Nat.le_of_ble_eq_true rfl) dL_act_229 ⟨by have := hbu; simp only [rmL_act]; omega, by have := hbu; simp only [rmL_act]; omega⟩ rfl (fun hg25 H locs hR hS => ?_)
                    refine lv_pop hx hb dL_act_232 rfl ?_
                    refine lv_goto (tgt := 421) hx hb dL_act_233 (by decide) ?_
                    refine x_iconst hx hb dL_act_421 ?_
                    cases hF
                    exact l_zret hx hb hlocks hK hR hS (by have := hbu; omega) (by have := hbu; omega) (by decide) [0] (by decide) rfl hr dL_act_422
                  · rw [if_neg cs56_8] at hF
                    by_cases cs56_9 : y19 = (9 : Int)
                    · rw [if_pos cs56_9] at hF
                      refine lv_tableIn (x := jI y19) (off := 180) (tgt := 236) hx hb dL_act_56 (by rw [jI_toInt hg20, cs56_9]; decide) (by rw [jI_toInt hg20, cs56_9]; decide) (by rw [jI_toInt hg20, cs56_9]; decide +kernel) rfl ?_
                      refine lv_aload_n hx hb dL_act_236 rfl (lv_at hl 5 rfl) ?_
                      refine lv_iload hx hb dL_act_237 (lv_at hl 4 rfl) ?_
                      refine lv_iload hx hb dL_act_239 (lv_at hl 2 rfl) ?_
                      refine lv_iload hx hb dL_act_241 (lv_at hl 3 rfl) ?_
                      refine lv_iload hx hb dL_act_243 (lv_at hl 1 rfl) ?_
                      obtain ⟨y23, M24, hc22, hF⟩ := xb2_some hF
                      refine l_cVi (As := [.int (jI y2), .int (jI ((1 : Int) + y8)), .int (jI y5), .int (jI ((1 : Int) + y12))]) (rest := []) hx hb hml hown hts hK hR hS hA (c_X3_rename hg3 hq10 hg6 hq14 hc22) wd709 wd710 wd711 wd1 wd712 hyX3_rename ⟨rfl, rfl⟩ ⟨Nat.le_of_ble_eq_true rfl, Nat.le_of_ble_eq_true rfl⟩ hl.1 (Nat.le_of_ble_eq_true rfl) dL_act_245 ⟨by have := hbu; simp only [rmL_act]; omega, by have := hbu; simp only [rmL_act]; omega⟩ rfl (fun hg25 H locs hR hS => ?_)
                      refine lv_pop hx hb dL_act_248 rfl ?_
                      refine lv_goto (tgt := 421) hx hb dL_act_249 (by decide) ?_
                      refine x_iconst hx hb dL_act_421 ?_
                      cases hF
                      exact l_zret hx hb hlocks hK hR hS (by have := hbu; omega) (by have := hbu; omega) (by decide) [0] (by decide) rfl hr dL_act_422
                    · rw [if_neg cs56_9] at hF
                      by_cases cs56_10 : y19 = (10 : Int)
                      · rw [if_pos cs56_10] at hF
                        refine lv_tableIn (x := jI y19) (off := 196) (tgt := 252) hx hb dL_act_56 (by rw [jI_toInt hg20, cs56_10]; decide) (by rw [jI_toInt hg20, cs56_10]; decide) (by rw [jI_toInt hg20, cs56_10]; decide +kernel) rfl ?_
                        refine lv_aload_n hx hb dL_act_252 rfl (lv_at hl 5 rfl) ?_
                        refine lv_iload hx hb dL_act_253 (lv_at hl 4 rfl) ?_
                        refine lv_iload hx hb dL_act_255 (lv_at hl 2 rfl) ?_
                        refine lv_iload hx hb dL_act_257 (lv_at hl 3 rfl) ?_
                        refine lv_iload hx hb dL_act_259 (lv_at hl 1 rfl) ?_
                        obtain ⟨y23, M24, hc22, hF⟩ := xb2_some hF
                        refine l_cVi (As := [.int (jI y2), .int (jI ((1 : Int) + y8)), .int (jI y5), .int (jI ((1 : Int) + y12))]) (rest := []) hx hb hml hown hts hK hR hS hA (c_X3_exchange hg3 hq10 hg6 hq14 hc22) wd725 wd726 wd727 wd1 wd728 hyX3_exchange ⟨rfl, rfl⟩ ⟨Nat.le_of_ble_eq_true rfl, Nat.le_of_ble_eq_true rfl⟩ hl.1 (Nat.le_of_ble_eq_true rfl) dL_act_261 ⟨by have := hbu; simp only [rmL_act]; omega, by have := hbu; simp only [rmL_act]; omega⟩ rfl (fun hg25 H locs hR hS => ?_)
                        refine lv_pop hx hb dL_act_264 rfl ?_
                        refine lv_goto (tgt := 421) hx hb dL_act_265 (by decide) ?_
                        refine x_iconst hx hb dL_act_421 ?_
                        cases hF
                        exact l_zret hx hb hlocks hK hR hS (by have := hbu; omega) (by have := hbu; omega) (by decide) [0] (by decide) rfl hr dL_act_422
                      · rw [if_neg cs56_10] at hF
                        by_cases cs56_11 : y19 = (11 : Int)
                        · rw [if_pos cs56_11] at hF
                          refine lv_tableIn (x := jI y19) (off := 212) (tgt := 268) hx hb dL_act_56 (by rw [jI_toInt hg20, cs56_11]; decide) (by rw [jI_toInt hg20, cs56_11]; decide) (by rw [jI_toInt hg20, cs56_11]; decide +kernel) rfl ?_
                          refine lv_aload_n hx hb dL_act_268 rfl (lv_at hl 5 rfl) ?_
                          refine lv_iload hx hb dL_act_269 (lv_at hl 4 rfl) ?_
                          refine lv_iload hx hb dL_act_271 (lv_at hl 2 rfl) ?_
                          obtain ⟨y23, M24, hc22, hF⟩ := xb2_some hF
                          refine l_cVi (As := [.int (jI y2), .int (jI ((1 : Int) + y8))]) (rest := []) hx hb hml hown hts hK hR hS hA (c_X3_removeFolder hg3 hq10 hc22) wd737 wd738 wd739 wd1 wd740 hyX3_removeFolder ⟨rfl, rfl⟩ ⟨Nat.le_of_ble_eq_true rfl, Nat.le_of_ble_eq_true rfl⟩ hl.1 (Nat.le_of_ble_eq_true rfl) dL_act_273 ⟨by have := hbu; simp only [rmL_act]; omega, by have := hbu; simp only [rmL_act]; omega⟩ rfl (fun hg25 H locs hR hS => ?_)
                          refine lv_pop hx hb dL_act_276 rfl ?_
                          refine lv_goto (tgt := 421) hx hb dL_act_277 (by decide) ?_
                          refine x_iconst hx hb dL_act_421 ?_
                          cases hF
                          exact l_zret hx hb hlocks hK hR hS (by have := hbu; omega) (by have := hbu; omega) (by decide) [0] (by decide) rfl hr dL_act_422
                        · rw [if_neg cs56_11] at hF
                          by_cases cs56_12 : y19 = (12 : Int)
                          · rw [if_pos cs56_12] at hF
                            refine lv_tableIn (x := jI y19) (off := 224) (tgt := 280) hx hb dL_act_56 (by rw [jI_toInt hg20, cs56_12]; decide) (by rw [jI_toInt hg20, cs56_12]; decide) (by rw [jI_toInt hg20, cs56_12]; decide +kernel) rfl ?_
                            refine lv_aload_n hx hb dL_act_280 rfl (lv_at hl 5 rfl) ?_
                            refine lv_iload hx hb dL_act_281 (lv_at hl 4 rfl) ?_
                            refine lv_iload_n hx hb dL_act_283 rfl (lv_at hl 7 rfl) ?_
                            refine x_iconst hx hb dL_act_284 ?_
                            refine x_ishr hx hb dL_act_285 ?_
                            refine x_sipush hx hb (by decide +kernel) dL_act_286 ?_
                            obtain ⟨y23, hc22, hF⟩ := xb1_some hF
                            refine l_cS0 (As := [.int (jI (shrI a3 (5 : Int))), .int (jI (321 : Int))]) (rest := [.int (jI y2), .ref (adr b 0 0)]) hx hb hml hown hts hK hR hS hA (c_L_below (shrI_rg _ _) (by decide : rg (321 : Int)) hc22) wd613 wd614 wd0 wd615 hyL_below ⟨rfl, rfl⟩ ⟨Nat.le_of_ble_eq_true rfl, Nat.le_of_ble_eq_true rfl⟩ hl.1 (Nat.le_of_ble_eq_true rfl) dL_act_289 ⟨by have := hbu; simp only [rmL_act]; omega, by have := hbu; simp only [rmL_act]; omega⟩ rfl (fun hg24 H locs hR hS => ?_)
                            obtain ⟨cells, hce⟩ : ∃ z, z = cells + 0 := ⟨_, rfl⟩; obtain ⟨slots, hsl⟩ : ∃ z, z = slots + 0 := ⟨_, rfl⟩; rw [← hce, ← hsl]; have hbu := And.intro hbu (And.intro hce hsl)
                            obtain ⟨y26, M27, hc25, hF⟩ := xb2_some hF
                            refine l_cVi (As := [.int (jI y2), .int (jI y23)]) (rest := []) hx hb hml hown hts hK hR hS hA (c_X3_truncate hg3 hg24 hc25) wd741 wd742 wd743 wd1 wd744 hyX3_truncate ⟨rfl, rfl⟩ ⟨Nat.le_of_ble_eq_true rfl, Nat.le_of_ble_eq_true rfl⟩ hl.1 (Nat.le_of_ble_eq_true rfl) dL_act_292 ⟨by have := hbu; simp only [rmL_act]; omega, by have := hbu; simp only [rmL_act]; omega⟩ rfl (fun hg28 H locs hR hS => ?_)
                            refine lv_pop hx hb dL_act_295 rfl ?_
                            refine lv_goto (tgt := 421) hx hb dL_act_296 (by decide) ?_
                            refine x_iconst hx hb dL_act_421 ?_
                            cases hF
                            exact l_zret hx hb hlocks hK hR hS (by have := hbu; omega) (by have := hbu; omega) (by decide) [0] (by decide) rfl hr dL_act_422
                          · rw [if_neg cs56_12] at hF
                            by_cases cs56_13 : y19 = (13 : Int)
                            · rw [if_pos cs56_13] at hF
                              refine lv_tableIn (x := jI y19) (off := 243) (tgt := 299) hx hb dL_act_56 (by rw [jI_toInt hg20, cs56_13]; decide) (by rw [jI_toInt hg20, cs56_13]; decide) (by rw [jI_toInt hg20, cs56_13]; decide +kernel) rfl ?_
                              refine lv_aload_n hx hb dL_act_299 rfl (lv_at hl 5 rfl) ?_
                              refine lv_iload hx hb dL_act_300 (lv_at hl 4 rfl) ?_
                              refine lv_iload_n hx hb dL_act_302 rfl (lv_at hl 7 rfl) ?_
                              refine x_iconst hx hb dL_act_303 ?_
                              refine x_ishr hx hb dL_act_304 ?_
                              refine x_bipush hx hb (by decide +kernel) dL_act_305 ?_
                              obtain ⟨y23, hc22, hF⟩ := xb1_some hF
                              refine l_cS0 (As := [.int (jI (shrI a3 (5 : Int))), .int (jI (20 : Int))]) (rest := [.int (jI y2), .ref (adr b 0 0)]) hx hb hml hown hts hK hR hS hA (c_L_below (shrI_rg _ _) (by decide : rg (20 : Int)) hc22) wd613 wd614 wd0 wd615 hyL_below ⟨rfl, rfl⟩ ⟨Nat.le_of_ble_eq_true rfl, Nat.le_of_ble_eq_true rfl⟩ hl.1 (Nat.le_of_ble_eq_true rfl) dL_act_307 ⟨by have := hbu; simp only [rmL_act]; omega, by have := hbu; simp only [rmL_act]; omega⟩ rfl (fun hg24 H locs hR hS => ?_)
                              obtain ⟨cells, hce⟩ : ∃ z, z = cells + 0 := ⟨_, rfl⟩; obtain ⟨slots, hsl⟩ : ∃ z, z = slots + 0 := ⟨_, rfl⟩; rw [← hce, ← hsl]; have hbu := And.intro hbu (And.intro hce hsl)
                              obtain ⟨y26, M27, hc25, hF⟩ := xb2_some hF
                              refine l_cVi (As := [.int (jI y2), .int (jI y23)]) (rest := []) hx hb hml hown hts hK hR hS hA (c_X3_punch hg3 hg24 hc25) wd761 wd762 wd763 wd1 wd764 hyX3_punch ⟨rfl, rfl⟩ ⟨Nat.le_of_ble_eq_true rfl, Nat.le_of_ble_eq_true rfl⟩ hl.1 (Nat.le_of_ble_eq_true rfl) dL_act_310 ⟨by have := hbu; simp only [rmL_act]; omega, by have := hbu; simp only [rmL_act]; omega⟩ rfl (fun hg28 H locs hR hS => ?_)
                              refine lv_pop hx hb dL_act_313 rfl ?_
                              refine lv_goto (tgt := 421) hx hb dL_act_314 (by decide) ?_
                              refine x_iconst hx hb dL_act_421 ?_
                              cases hF
                              exact l_zret hx hb hlocks hK hR hS (by have := hbu; omega) (by have := hbu; omega) (by decide) [0] (by decide) rfl hr dL_act_422
                            · rw [if_neg cs56_13] at hF
                              by_cases cs56_14 : y19 = (14 : Int)
                              · rw [if_pos cs56_14] at hF
                                refine lv_tableIn (x := jI y19) (off := 261) (tgt := 317) hx hb dL_act_56 (by rw [jI_toInt hg20, cs56_14]; decide) (by rw [jI_toInt hg20, cs56_14]; decide) (by rw [jI_toInt hg20, cs56_14]; decide +kernel) rfl ?_
                                refine lv_aload_n hx hb dL_act_317 rfl (lv_at hl 5 rfl) ?_
                                refine lv_iload hx hb dL_act_318 (lv_at hl 4 rfl) ?_
                                refine lv_iload_n hx hb dL_act_320 rfl (lv_at hl 7 rfl) ?_
                                refine x_iconst hx hb dL_act_321 ?_
                                refine x_ishr hx hb dL_act_322 ?_
                                refine x_iconst hx hb dL_act_323 ?_
                                obtain ⟨y23, hc22, hF⟩ := xb1_some hF
                                refine l_cS0 (As := [.int (jI (shrI a3 (5 : Int))), .int (jI (4 : Int))]) (rest := [.int (jI y2), .ref (adr b 0 0)]) hx hb hml hown hts hK hR hS hA (c_L_below (shrI_rg _ _) (by decide : rg (4 : Int)) hc22) wd613 wd614 wd0 wd615 hyL_below ⟨rfl, rfl⟩ ⟨Nat.le_of_ble_eq_true rfl, Nat.le_of_ble_eq_true rfl⟩ hl.1 (Nat.le_of_ble_eq_true rfl) dL_act_324 ⟨by have := hbu; simp only [rmL_act]; omega, by have := hbu; simp only [rmL_act]; omega⟩ rfl (fun hg24 H locs hR hS => ?_)
                                obtain ⟨cells, hce⟩ : ∃ z, z = cells + 0 := ⟨_, rfl⟩; obtain ⟨slots, hsl⟩ : ∃ z, z = slots + 0 := ⟨_, rfl⟩; rw [← hce, ← hsl]; have hbu := And.intro hbu (And.intro hce hsl)
                                refine lv_iload hx hb dL_act_327 (lv_at hl 3 rfl) ?_
                                refine lv_iload_n hx hb dL_act_329 rfl (lv_at hl 7 rfl) ?_
                                refine x_bipush hx hb (by decide +kernel) dL_act_330 ?_
                                refine x_ishr hx hb dL_act_332 ?_
                                refine x_iconst hx hb dL_act_333 ?_
                                obtain ⟨y26, hc25, hF⟩ := xb1_some hF
                                refine l_cS0 (As := [.int (jI (shrI a3 (7 : Int))), .int (jI (4 : Int))]) (rest := [.int (jI y5), .int (jI y23), .int (jI y2), .ref (adr b 0 0)]) hx hb hml hown hts hK hR hS hA (c_L_below (shrI_rg _ _) (by decide : rg (4 : Int)) hc25) wd613 wd614 wd0 wd615 hyL_below ⟨rfl, rfl⟩ ⟨Nat.le_of_ble_eq_true rfl, Nat.le_of_ble_eq_true rfl⟩ hl.1 (Nat.le_of_ble_eq_true rfl) dL_act_334 ⟨by have := hbu; simp only [rmL_act]; omega, by have := hbu; simp only [rmL_act]; omega⟩ rfl (fun hg27 H locs hR hS => ?_)
                                obtain ⟨cells, hce⟩ : ∃ z, z = cells + 0 := ⟨_, rfl⟩; obtain ⟨slots, hsl⟩ : ∃ z, z = slots + 0 := ⟨_, rfl⟩; rw [← hce, ← hsl]; have hbu := And.intro hbu (And.intro hce hsl)
                                obtain ⟨y29, M30, hc28, hF⟩ := xb2_some hF
                                refine l_cVi (As := [.int (jI y2), .int (jI y23), .int (jI y5), .int (jI y26)]) (rest := []) hx hb hml hown hts hK hR hS hA (c_X3_share hg3 hg24 hg6 hg27 hc28) wd767 wd768 wd769 wd1 wd770 hyX3_share ⟨rfl, rfl⟩ ⟨Nat.le_of_ble_eq_true rfl, Nat.le_of_ble_eq_true rfl⟩ hl.1 (Nat.le_of_ble_eq_true rfl) dL_act_337 ⟨by have := hbu; simp only [rmL_act]; omega, by have := hbu; simp only [rmL_act]; omega⟩ rfl (fun hg31 H locs hR hS => ?_)
                                refine lv_pop hx hb dL_act_340 rfl ?_
                                refine lv_goto (tgt := 421) hx hb dL_act_341 (by decide) ?_
                                refine x_iconst hx hb dL_act_421 ?_
                                cases hF
                                exact l_zret hx hb hlocks hK hR hS (by have := hbu; omega) (by have := hbu; omega) (by decide) [0] (by decide) rfl hr dL_act_422
                              · rw [if_neg cs56_14] at hF
                                by_cases cs56_15 : y19 = (15 : Int)
                                · rw [if_pos cs56_15] at hF
                                  refine lv_tableIn (x := jI y19) (off := 288) (tgt := 344) hx hb dL_act_56 (by rw [jI_toInt hg20, cs56_15]; decide) (by rw [jI_toInt hg20, cs56_15]; decide) (by rw [jI_toInt hg20, cs56_15]; decide +kernel) rfl ?_
                                  refine lv_aload_n hx hb dL_act_344 rfl (lv_at hl 5 rfl) ?_
                                  refine lv_iload hx hb dL_act_345 (lv_at hl 4 rfl) ?_
                                  refine lv_iload_n hx hb dL_act_347 rfl (lv_at hl 7 rfl) ?_
                                  refine x_iconst hx hb dL_act_348 ?_
                                  refine x_ishr hx hb dL_act_349 ?_
                                  refine x_iconst hx hb dL_act_350 ?_
                                  obtain ⟨y23, hc22, hF⟩ := xb1_some hF
                                  refine l_cS0 (As := [.int (jI (shrI a3 (5 : Int))), .int (jI (4 : Int))]) (rest := [.int (jI y2), .ref (adr b 0 0)]) hx hb hml hown hts hK hR hS hA (c_L_below (shrI_rg _ _) (by decide : rg (4 : Int)) hc22) wd613 wd614 wd0 wd615 hyL_below ⟨rfl, rfl⟩ ⟨Nat.le_of_ble_eq_true rfl, Nat.le_of_ble_eq_true rfl⟩ hl.1 (Nat.le_of_ble_eq_true rfl) dL_act_351 ⟨by have := hbu; simp only [rmL_act]; omega, by have := hbu; simp only [rmL_act]; omega⟩ rfl (fun hg24 H locs hR hS => ?_)
                                  obtain ⟨cells, hce⟩ : ∃ z, z = cells + 0 := ⟨_, rfl⟩; obtain ⟨slots, hsl⟩ : ∃ z, z = slots + 0 := ⟨_, rfl⟩; rw [← hce, ← hsl]; have hbu := And.intro hbu (And.intro hce hsl)
                                  obtain ⟨y26, M27, hc25, hF⟩ := xb2_some hF
                                  refine l_cVi (As := [.int (jI y2), .int (jI y23)]) (rest := []) hx hb hml hown hts hK hR hS hA (c_X3_setOwner hg3 hg24 hc25) wd775 wd776 wd777 wd1 wd778 hyX3_setOwner ⟨rfl, rfl⟩ ⟨Nat.le_of_ble_eq_true rfl, Nat.le_of_ble_eq_true rfl⟩ hl.1 (Nat.le_of_ble_eq_true rfl) dL_act_354 ⟨by have := hbu; simp only [rmL_act]; omega, by have := hbu; simp only [rmL_act]; omega⟩ rfl (fun hg28 H locs hR hS => ?_)
                                  refine lv_pop hx hb dL_act_357 rfl ?_
                                  refine lv_goto (tgt := 421) hx hb dL_act_358 (by decide) ?_
                                  refine x_iconst hx hb dL_act_421 ?_
                                  cases hF
                                  exact l_zret hx hb hlocks hK hR hS (by have := hbu; omega) (by have := hbu; omega) (by decide) [0] (by decide) rfl hr dL_act_422
                                · rw [if_neg cs56_15] at hF
                                  by_cases cs56_16 : y19 = (16 : Int)
                                  · rw [if_pos cs56_16] at hF
                                    refine lv_tableIn (x := jI y19) (off := 305) (tgt := 361) hx hb dL_act_56 (by rw [jI_toInt hg20, cs56_16]; decide) (by rw [jI_toInt hg20, cs56_16]; decide) (by rw [jI_toInt hg20, cs56_16]; decide +kernel) rfl ?_
                                    refine lv_aload_n hx hb dL_act_361 rfl (lv_at hl 5 rfl) ?_
                                    refine lv_iload_n hx hb dL_act_362 rfl (lv_at hl 7 rfl) ?_
                                    refine x_iconst hx hb dL_act_363 ?_
                                    refine x_ishr hx hb dL_act_364 ?_
                                    refine x_iconst hx hb dL_act_365 ?_
                                    obtain ⟨y23, hc22, hF⟩ := xb1_some hF
                                    refine l_cS0 (As := [.int (jI (shrI a3 (5 : Int))), .int (jI (4 : Int))]) (rest := [.ref (adr b 0 0)]) hx hb hml hown hts hK hR hS hA (c_L_below (shrI_rg _ _) (by decide : rg (4 : Int)) hc22) wd613 wd614 wd0 wd615 hyL_below ⟨rfl, rfl⟩ ⟨Nat.le_of_ble_eq_true rfl, Nat.le_of_ble_eq_true rfl⟩ hl.1 (Nat.le_of_ble_eq_true rfl) dL_act_366 ⟨by have := hbu; simp only [rmL_act]; omega, by have := hbu; simp only [rmL_act]; omega⟩ rfl (fun hg24 H locs hR hS => ?_)
                                    obtain ⟨cells, hce⟩ : ∃ z, z = cells + 0 := ⟨_, rfl⟩; obtain ⟨slots, hsl⟩ : ∃ z, z = slots + 0 := ⟨_, rfl⟩; rw [← hce, ← hsl]; have hbu := And.intro hbu (And.intro hce hsl)
                                    refine lv_iload_n hx hb dL_act_369 rfl (lv_at hl 7 rfl) ?_
                                    refine x_bipush hx hb (by decide +kernel) dL_act_370 ?_
                                    refine x_ishr hx hb dL_act_372 ?_
                                    refine x_iconst hx hb dL_act_373 ?_
                                    obtain ⟨y26, hc25, hF⟩ := xb1_some hF
                                    refine l_cS0 (As := [.int (jI (shrI a3 (7 : Int))), .int (jI (4 : Int))]) (rest := [.int (jI y23), .ref (adr b 0 0)]) hx hb hml hown hts hK hR hS hA (c_L_below (shrI_rg _ _) (by decide : rg (4 : Int)) hc25) wd613 wd614 wd0 wd615 hyL_below ⟨rfl, rfl⟩ ⟨Nat.le_of_ble_eq_true rfl, Nat.le_of_ble_eq_true rfl⟩ hl.1 (Nat.le_of_ble_eq_true rfl) dL_act_374 ⟨by have := hbu; simp only [rmL_act]; omega, by have := hbu; simp only [rmL_act]; omega⟩ rfl (fun hg27 H locs hR hS => ?_)
                                    obtain ⟨cells, hce⟩ : ∃ z, z = cells + 0 := ⟨_, rfl⟩; obtain ⟨slots, hsl⟩ : ∃ z, z = slots + 0 := ⟨_, rfl⟩; rw [← hce, ← hsl]; have hbu := And.intro hbu (And.intro hce hsl)
                                    refine x_if_ne (tgt := 389) hx hb hg27 dL_act_377 (by decide) (fun ci28 => ?_) (fun ci28 => ?_)
                                    · rw [if_neg ci28] at hF
                                      refine lv_iload_n hx hb dL_act_389 rfl (lv_at hl 8 rfl) ?_
                                      refine x_bipush hx hb (by decide +kernel) dL_act_390 ?_
                                      obtain ⟨y30, hc29, hF⟩ := xb1_some hF
                                      refine l_cS0 (As := [.int (jI a4), .int (jI (121 : Int))]) (rest := [.int (jI y23), .ref (adr b 0 0)]) hx hb hml hown hts hK hR hS hA (c_L_below ha4 (by decide : rg (121 : Int)) hc29) wd613 wd614 wd0 wd615 hyL_below ⟨rfl, rfl⟩ ⟨Nat.le_of_ble_eq_true rfl, Nat.le_of_ble_eq_true rfl⟩ hl.1 (Nat.le_of_ble_eq_true rfl) dL_act_392 ⟨by have := hbu; simp only [rmL_act]; omega, by have := hbu; simp only [rmL_act]; omega⟩ rfl (fun hg31 H locs hR hS => ?_)
                                      obtain ⟨cells, hce⟩ : ∃ z, z = cells + 0 := ⟨_, rfl⟩; obtain ⟨slots, hsl⟩ : ∃ z, z = slots + 0 := ⟨_, rfl⟩; rw [← hce, ← hsl]; have hbu := And.intro hbu (And.intro hce hsl)
                                      obtain ⟨y33, M34, hc32, hF⟩ := xb2_some hF
                                      refine l_cVi (As := [.int (jI y23), .int (jI y30)]) (rest := []) hx hb hml hown hts hK hR hS hA (c_X3_setQuota hg24 hg31 hc32) wd779 wd780 wd781 wd1 wd782 hyX3_setQuota ⟨rfl, rfl⟩ ⟨Nat.le_of_ble_eq_true rfl, Nat.le_of_ble_eq_true rfl⟩ hl.1 (Nat.le_of_ble_eq_true rfl) dL_act_395 ⟨by have := hbu; simp only [rmL_act]; omega, by have := hbu; simp only [rmL_act]; omega⟩ rfl (fun hg35 H locs hR hS => ?_)
                                      refine lv_pop hx hb dL_act_398 rfl ?_
                                      refine lv_goto (tgt := 421) hx hb dL_act_399 (by decide) ?_
                                      refine x_iconst hx hb dL_act_421 ?_
                                      cases hF
                                      exact l_zret hx hb hlocks hK hR hS (by have := hbu; omega) (by have := hbu; omega) (by decide) [0] (by decide) rfl hr dL_act_422
                                    · rw [if_pos ci28] at hF
                                      refine lv_iload_n hx hb dL_act_380 rfl (lv_at hl 8 rfl) ?_
                                      refine x_bipush hx hb (by decide +kernel) dL_act_381 ?_
                                      obtain ⟨y37, hc36, hF⟩ := xb1_some hF
                                      refine l_cS0 (As := [.int (jI a4), .int (jI (9 : Int))]) (rest := [.int (jI y23), .ref (adr b 0 0)]) hx hb hml hown hts hK hR hS hA (c_L_below ha4 (by decide : rg (9 : Int)) hc36) wd613 wd614 wd0 wd615 hyL_below ⟨rfl, rfl⟩ ⟨Nat.le_of_ble_eq_true rfl, Nat.le_of_ble_eq_true rfl⟩ hl.1 (Nat.le_of_ble_eq_true rfl) dL_act_383 ⟨by have := hbu; simp only [rmL_act]; omega, by have := hbu; simp only [rmL_act]; omega⟩ rfl (fun hg38 H locs hR hS => ?_)
                                      obtain ⟨cells, hce⟩ : ∃ z, z = cells + 0 := ⟨_, rfl⟩; obtain ⟨slots, hsl⟩ : ∃ z, z = slots + 0 := ⟨_, rfl⟩; rw [← hce, ← hsl]; have hbu := And.intro hbu (And.intro hce hsl)
                                      refine lv_goto (tgt := 395) hx hb dL_act_386 (by decide) ?_
                                      obtain ⟨y40, M41, hc39, hF⟩ := xb2_some hF
                                      refine l_cVi (As := [.int (jI y23), .int (jI y37)]) (rest := []) hx hb hml hown hts hK hR hS hA (c_X3_setQuota hg24 hg38 hc39) wd779 wd780 wd781 wd1 wd782 hyX3_setQuota ⟨rfl, rfl⟩ ⟨Nat.le_of_ble_eq_true rfl, Nat.le_of_ble_eq_true rfl⟩ hl.1 (Nat.le_of_ble_eq_true rfl) dL_act_395 ⟨by have := hbu; simp only [rmL_act]; omega, by have := hbu; simp only [rmL_act]; omega⟩ rfl (fun hg42 H locs hR hS => ?_)
                                      refine lv_pop hx hb dL_act_398 rfl ?_
                                      refine lv_goto (tgt := 421) hx hb dL_act_399 (by decide) ?_
                                      refine x_iconst hx hb dL_act_421 ?_
                                      cases hF
                                      exact l_zret hx hb hlocks hK hR hS (by have := hbu; omega) (by have := hbu; omega) (by decide) [0] (by decide) rfl hr dL_act_422
                                  · rw [if_neg cs56_16] at hF
                                    by_cases cs56_17 : y19 = (17 : Int)
                                    · rw [if_pos cs56_17] at hF
                                      refine lv_tableIn (x := jI y19) (off := 346) (tgt := 402) hx hb dL_act_56 (by rw [jI_toInt hg20, cs56_17]; decide) (by rw [jI_toInt hg20, cs56_17]; decide) (by rw [jI_toInt hg20, cs56_17]; decide +kernel) rfl ?_
                                      refine lv_aload_n hx hb dL_act_402 rfl (lv_at hl 5 rfl) ?_
                                      refine lv_aload_n hx hb dL_act_403 rfl (lv_at hl 6 rfl) ?_
                                      refine lv_iload hx hb dL_act_404 (lv_at hl 0 rfl) ?_
                                      refine lv_iload hx hb dL_act_406 (lv_at hl 4 rfl) ?_
                                      refine lv_iload_n hx hb dL_act_408 rfl (lv_at hl 7 rfl) ?_
                                      refine lv_iload_n hx hb dL_act_409 rfl (lv_at hl 8 rfl) ?_
                                      obtain ⟨y23, M24, f25, hc22, hF⟩ := xb3_some hF
                                      refine l_cS1 (As := [.ref (adr b 0 0), .ref qa, .int (jI y16), .int (jI y2), .int (jI a3), .int (jI a4)]) (rest := []) hx hb hml hown hts hK hR hS hA (i := 0) rfl (Or.inr rfl) (c_L_handle hg17 hg3 ha3 ha4 hc22) wd787 wd788 wd0 wd789 hyL_handle ⟨rfl, rfl⟩ ⟨Nat.le_of_ble_eq_true rfl, Nat.le_of_ble_eq_true rfl⟩ hl.1 (Nat.le_of_ble_eq_true rfl) dL_act_410 ⟨by have := hbu; simp only [rmL_act]; omega, by have := hbu; simp only [rmL_act]; omega⟩ rfl (fun hg26 H locs hR hS => ?_)
                                      have hR : RD g b M24 [(qa, 3, 6, f25)] H := hR
                                      obtain ⟨cells, hce⟩ : ∃ z, z = cells + 0 := ⟨_, rfl⟩; obtain ⟨slots, hsl⟩ : ∃ z, z = slots + 0 := ⟨_, rfl⟩; rw [← hce, ← hsl]; have hbu := And.intro hbu (And.intro hce hsl)
                                      obtain ⟨hz27, hF⟩ := xk_some hF
                                      cases hF
                                      exact l_zret hx hb hlocks hK hR hS (by have := hbu; omega) (by have := hbu; omega) hz27 [0] (by decide) rfl hr dL_act_413
                                    · rw [if_neg cs56_17] at hF
                                      by_cases cs56_18 : y19 = (18 : Int)
                                      · rw [if_pos cs56_18] at hF
                                        refine lv_tableIn (x := jI y19) (off := 346) (tgt := 402) hx hb dL_act_56 (by rw [jI_toInt hg20, cs56_18]; decide) (by rw [jI_toInt hg20, cs56_18]; decide) (by rw [jI_toInt hg20, cs56_18]; decide +kernel) rfl ?_
                                        refine lv_aload_n hx hb dL_act_402 rfl (lv_at hl 5 rfl) ?_
                                        refine lv_aload_n hx hb dL_act_403 rfl (lv_at hl 6 rfl) ?_
                                        refine lv_iload hx hb dL_act_404 (lv_at hl 0 rfl) ?_
                                        refine lv_iload hx hb dL_act_406 (lv_at hl 4 rfl) ?_
                                        refine lv_iload_n hx hb dL_act_408 rfl (lv_at hl 7 rfl) ?_
                                        refine lv_iload_n hx hb dL_act_409 rfl (lv_at hl 8 rfl) ?_
                                        obtain ⟨y23, M24, f25, hc22, hF⟩ := xb3_some hF
                                        refine l_cS1 (As := [.ref (adr b 0 0), .ref qa, .int (jI y16), .int (jI y2), .int (jI a3), .int (jI a4)]) (rest := []) hx hb hml hown hts hK hR hS hA (i := 0) rfl (Or.inr rfl) (c_L_handle hg17 hg3 ha3 ha4 hc22) wd787 wd788 wd0 wd789 hyL_handle ⟨rfl, rfl⟩ ⟨Nat.le_of_ble_eq_true rfl, Nat.le_of_ble_eq_true rfl⟩ hl.1 (Nat.le_of_ble_eq_true rfl) dL_act_410 ⟨by have := hbu; simp only [rmL_act]; omega, by have := hbu; simp only [rmL_act]; omega⟩ rfl (fun hg26 H locs hR hS => ?_)
                                        have hR : RD g b M24 [(qa, 3, 6, f25)] H := hR
                                        obtain ⟨cells, hce⟩ : ∃ z, z = cells + 0 := ⟨_, rfl⟩; obtain ⟨slots, hsl⟩ : ∃ z, z = slots + 0 := ⟨_, rfl⟩; rw [← hce, ← hsl]; have hbu := And.intro hbu (And.intro hce hsl)
                                        obtain ⟨hz27, hF⟩ := xk_some hF
                                        cases hF
                                        exact l_zret hx hb hlocks hK hR hS (by have := hbu; omega) (by have := hbu; omega) hz27 [0] (by decide) rfl hr dL_act_413
                                      · rw [if_neg cs56_18] at hF
                                        refine lv_tableOut (x := jI y19) hx hb dL_act_56 (by rw [jI_toInt hg20]; omega) (show ((56 : Nat) : Int) + _ = ((414 : Nat) : Int) from by decide) ?_
                                        refine lv_aload_n hx hb dL_act_414 rfl (lv_at hl 5 rfl) ?_
                                        refine lv_iload_n hx hb dL_act_415 rfl (lv_at hl 7 rfl) ?_
                                        refine lv_iload_n hx hb dL_act_416 rfl (lv_at hl 8 rfl) ?_
                                        obtain ⟨y23, M24, hc22, hF⟩ := xb2_some hF
                                        refine l_cS0 (As := [.ref (adr b 0 0), .int (jI a3), .int (jI a4)]) (rest := []) hx hb hml hown hts hK hR hS hA (c_L_power ha3 ha4 hc22) wd815 wd816 wd0 wd817 hyL_power ⟨rfl, rfl⟩ ⟨Nat.le_of_ble_eq_true rfl, Nat.le_of_ble_eq_true rfl⟩ hl.1 (Nat.le_of_ble_eq_true rfl) dL_act_417 ⟨by have := hbu; simp only [rmL_act]; omega, by have := hbu; simp only [rmL_act]; omega⟩ rfl (fun hg25 H locs hR hS => ?_)
                                        obtain ⟨cells, hce⟩ : ∃ z, z = cells + 0 := ⟨_, rfl⟩; obtain ⟨slots, hsl⟩ : ∃ z, z = slots + 0 := ⟨_, rfl⟩; rw [← hce, ← hsl]; have hbu := And.intro hbu (And.intro hce hsl)
                                        obtain ⟨hz26, hF⟩ := xk_some hF
                                        cases hF
                                        exact l_zret hx hb hlocks hK hR hS (by have := hbu; omega) (by have := hbu; omega) hz26 [0] (by decide) rfl hr dL_act_420
abbrev rmL_isSound : Room := { frames := 5, cells := 1, slots := 32, locals := 120 }
theorem hyL_isSound : yL_isSound.cls ≠ "java/lang/invoke/MethodHandle" ∧ yL_isSound.cls ≠ "java/lang/invoke/VarHandle" ∧ (parseMethodDescriptor yL_isSound.desc).map (fun d => d.parameters.length) = some 1 := by decide +kernel
def F_L_isSound_329  : Nat → Mm → Int → Int → Int → Int → Option (Int × Mm)
  | 0, _, _, _, _, _ => none
  | n + 1, M, v2, v3, v4, v5 => (if (4 : Int) ≤ v5 then (if v4 = v2 then (xb1 (F_X3_used M ) fun y4 => (if (120 : Int) < y4 then (some ((0 : Int), M)) else (xb1 (F_X3_used M ) fun y8 => (if v2 < y8 then (some ((0 : Int), M)) else (xb1 (F_X3_handles M ) fun y12 => (if y12 < v3 then (some ((0 : Int), M)) else (xb1 (F_X3_waiting M ) fun y16 => (if y16 ≤ (7 : Int) then (if 0 < v3 then (some ((1 : Int), M)) else (xb2 (F_X3_blocksUnder M (0 : Int)) fun y21 M22 => (xb1 (F_X3_used M22 ) fun y25 => (if y21 = y25 then (xb2 (F_X3_wouldFree M22 (0 : Int)) fun y29 M30 => (xb1 (F_X3_used M30 ) fun y33 => (if y29 = y33 then (some ((1 : Int), M30)) else (some ((0 : Int), M30))))) else (some ((0 : Int), M22)))))) else (some ((0 : Int), M)))))))))) else (some ((0 : Int), M))) else (xb1 (F_X3_usedBy M v5) fun y37 => (xk (rg (v4 + y37)) (xk (rg (v5 + (1 : Int))) (F_L_isSound_329  n M v2 v3 (v4 + y37) (v5 + (1 : Int)))))))
set_option maxHeartbeats 4000000 in
set_option maxRecDepth 100000 in
theorem w_L_isSound_329 {p : Program} {l : Launch} {e : Env} {s : State} {m : MethodId} {args : Array Value} {below : List Frame} {meth : Method} {c : Code} {g : Gx} {b : Nat} (C0 : XA p s m meth c args RL cL_isSound 9 (some .boolean) g) {r : Int} {M' : Mm} : ∀ n : Nat, ∀ (M : Mm) (v2 : Int) (v3 : Int) (v4 : Int) (v5 : Int)  (hv2 : rg v2) (hv3 : rg v3) (hv4 : rg v4) (hv5 : rg v5) (H : Heap) (locs : List Loc) (cells slots : Nat), cells + 0 ≤ 1 ∧ slots + 0 ≤ 32 → RD g b M [] H → va_S (AF b b s.heap.size) s.heap H locs → ∀ ls : Array Slot, lv_has ls 9 [(0, .ref (adr b 0 0)), (2, .int (jI v2)), (3, .int (jI v3)), (4, .int (jI v4)), (5, .int (jI v5))] → F_L_isSound_329  n M  v2 v3 v4 v5 = some (r, M') → W p l e rmL_isSound s m args below meth c H locs cells slots (MQ below (rI g b r M' b [] s.heap.size) args s 1 32 (AF b b s.heap.size)) (F0 m 329 ls []) := by
  obtain ⟨hx, hb, hr, hlocks, hml, hown, hts, hK⟩ := id C0
  have hA : ∀ q, AA b s.heap.size q → AF b b s.heap.size q := fun q h => Or.inl h
  intro n
  induction n with
  | zero =>
    intro M v2 v3 v4 v5 hv2 hv3 hv4 hv5 H locs cells slots hbu hR hS ls hl hF
    rw [F_L_isSound_329] at hF
    cases hF
  | succ n ih =>
    intro M v2 v3 v4 v5 hv2 hv3 hv4 hv5 H locs cells slots hbu hR hS ls hl hF
    rw [F_L_isSound_329] at hF
    refine lv_iload hx hb dL_isSound_329 (lv_at hl 4 rfl) ?_
    refine x_iconst hx hb dL_isSound_331 ?_
    refine x_icmp_ge (tgt := 352) hx hb hv5 (by decide : rg (4 : Int)) dL_isSound_332 (by decide) (fun ci1 => ?_) (fun ci1 => ?_)
    · rw [if_pos ci1] at hF
      refine lv_iload hx hb dL_isSound_352 (lv_at hl 3 rfl) ?_
      refine lv_iload_n hx hb dL_isSound_354 rfl (lv_at hl 1 rfl) ?_
      refine x_icmp_ne (tgt := 392) hx hb hv4 hv2 dL_isSound_355 (by decide) (fun ci2 => ?_) (fun ci2 => ?_)
      · rw [if_neg ci2] at hF
        refine x_iconst hx hb dL_isSound_392 ?_
        cases hF
        exact l_zret hx hb hlocks hK hR hS (by have := hbu; omega) (by have := hbu; omega) (by decide) [] (by decide) rfl hr dL_isSound_393
      · rw [if_pos ci2] at hF
        refine lv_aload_n hx hb dL_isSound_358 rfl (lv_at hl 0 rfl) ?_
        obtain ⟨y4, hc3, hF⟩ := xb1_some hF
        refine l_cVi (As := []) (rest := []) hx hb hml hown hts hK hR hS hA (c_X3_used  hc3) wd842 wd401 wd402 wd1 wd403 hyX3_used ⟨rfl, rfl⟩ ⟨Nat.le_of_ble_eq_true rfl, Nat.le_of_ble_eq_true rfl⟩ hl.1 (Nat.le_of_ble_eq_true rfl) dL_isSound_359 ⟨by have := hbu; simp only [rmL_isSound]; omega, by have := hbu; simp only [rmL_isSound]; omega⟩ rfl (fun hg5 H locs hR hS => ?_)
        refine x_bipush hx hb (by decide +kernel) dL_isSound_362 ?_
        refine x_icmp_gt (tgt := 392) hx hb hg5 (by decide : rg (120 : Int)) dL_isSound_364 (by decide) (fun ci6 => ?_) (fun ci6 => ?_)
        · rw [if_pos ci6] at hF
          refine x_iconst hx hb dL_isSound_392 ?_
          cases hF
          exact l_zret hx hb hlocks hK hR hS (by have := hbu; omega) (by have := hbu; omega) (by decide) [] (by decide) rfl hr dL_isSound_393
        · rw [if_neg ci6] at hF
          refine lv_aload_n hx hb dL_isSound_367 rfl (lv_at hl 0 rfl) ?_
          obtain ⟨y8, hc7, hF⟩ := xb1_some hF
          refine l_cVi (As := []) (rest := []) hx hb hml hown hts hK hR hS hA (c_X3_used  hc7) wd842 wd401 wd402 wd1 wd403 hyX3_used ⟨rfl, rfl⟩ ⟨Nat.le_of_ble_eq_true rfl, Nat.le_of_ble_eq_true rfl⟩ hl.1 (Nat.le_of_ble_eq_true rfl) dL_isSound_368 ⟨by have := hbu; simp only [rmL_isSound]; omega, by have := hbu; simp only [rmL_isSound]; omega⟩ rfl (fun hg9 H locs hR hS => ?_)
          refine lv_iload_n hx hb dL_isSound_371 rfl (lv_at hl 1 rfl) ?_
          refine x_icmp_gt (tgt := 392) hx hb hg9 hv2 dL_isSound_372 (by decide) (fun ci10 => ?_) (fun ci10 => ?_)
          · rw [if_pos ci10] at hF
            refine x_iconst hx hb dL_isSound_392 ?_
            cases hF
            exact l_zret hx hb hlocks hK hR hS (by have := hbu; omega) (by have := hbu; omega) (by decide) [] (by decide) rfl hr dL_isSound_393
          · rw [if_neg ci10] at hF
            refine lv_iload_n hx hb dL_isSound_375 rfl (lv_at hl 2 rfl) ?_
            refine lv_aload_n hx hb dL_isSound_376 rfl (lv_at hl 0 rfl) ?_
            obtain ⟨y12, hc11, hF⟩ := xb1_some hF
            refine l_cVi (As := []) (rest := [.int (jI v3)]) hx hb hml hown hts hK hR hS hA (c_X3_handles  hc11) wd166 wd167 wd168 wd1 wd169 hyX3_handles ⟨rfl, rfl⟩ ⟨Nat.le_of_ble_eq_true rfl, Nat.le_of_ble_eq_true rfl⟩ hl.1 (Nat.le_of_ble_eq_true rfl) dL_isSound_377 ⟨by have := hbu; simp only [rmL_isSound]; omega, by have := hbu; simp only [rmL_isSound]; omega⟩ rfl (fun hg13 H locs hR hS => ?_)
            refine x_icmp_gt (tgt := 392) hx hb hv3 hg13 dL_isSound_380 (by decide) (fun ci14 => ?_) (fun ci14 => ?_)
            · rw [if_pos ci14] at hF
              refine x_iconst hx hb dL_isSound_392 ?_
              cases hF
              exact l_zret hx hb hlocks hK hR hS (by have := hbu; omega) (by have := hbu; omega) (by decide) [] (by decide) rfl hr dL_isSound_393
            · rw [if_neg ci14] at hF
              refine lv_aload_n hx hb dL_isSound_383 rfl (lv_at hl 0 rfl) ?_
              obtain ⟨y16, hc15, hF⟩ := xb1_some hF
              refine l_cVi (As := []) (rest := []) hx hb hml hown hts hK hR hS hA (c_X3_waiting  hc15) wd325 wd326 wd327 wd1 wd328 hyX3_waiting ⟨rfl, rfl⟩ ⟨Nat.le_of_ble_eq_true rfl, Nat.le_of_ble_eq_true rfl⟩ hl.1 (Nat.le_of_ble_eq_true rfl) dL_isSound_384 ⟨by have := hbu; simp only [rmL_isSound]; omega, by have := hbu; simp only [rmL_isSound]; omega⟩ rfl (fun hg17 H locs hR hS => ?_)
              refine x_bipush hx hb (by decide +kernel) dL_isSound_387 ?_
              refine x_icmp_le (tgt := 394) hx hb hg17 (by decide : rg (7 : Int)) dL_isSound_389 (by decide) (fun ci18 => ?_) (fun ci18 => ?_)
              · rw [if_pos ci18] at hF
                refine lv_iload_n hx hb dL_isSound_394 rfl (lv_at hl 2 rfl) ?_
                refine x_if_gt (tgt := 422) hx hb hv3 dL_isSound_395 (by decide) (fun ci19 => ?_) (fun ci19 => ?_)
                · rw [if_pos ci19] at hF
                  refine x_iconst hx hb dL_isSound_422 ?_
                  refine lv_goto (tgt := 427) hx hb dL_isSound_423 (by decide) ?_
                  cases hF
                  exact l_zret hx hb hlocks hK hR hS (by have := hbu; omega) (by have := hbu; omega) (by decide) [] (by decide) rfl hr dL_isSound_427
                · rw [if_neg ci19] at hF
                  refine lv_aload_n hx hb dL_isSound_398 rfl (lv_at hl 0 rfl) ?_
                  refine x_iconst hx hb dL_isSound_399 ?_
                  obtain ⟨y21, M22, hc20, hF⟩ := xb2_some hF
                  refine l_cVi (As := [.int (jI (0 : Int))]) (rest := []) hx hb hml hown hts hK hR hS hA (c_X3_blocksUnder (by decide : rg (0 : Int)) hc20) wd843 wd503 wd504 wd1 wd505 hyX3_blocksUnder ⟨rfl, rfl⟩ ⟨Nat.le_of_ble_eq_true rfl, Nat.le_of_ble_eq_true rfl⟩ hl.1 (Nat.le_of_ble_eq_true rfl) dL_isSound_400 ⟨by have := hbu; simp only [rmL_isSound]; omega, by have := hbu; simp only [rmL_isSound]; omega⟩ rfl (fun hg23 H locs hR hS => ?_)
                  refine lv_aload_n hx hb dL_isSound_403 rfl (lv_at hl 0 rfl) ?_
                  obtain ⟨y25, hc24, hF⟩ := xb1_some hF
                  refine l_cVi (As := []) (rest := [.int (jI y21)]) hx hb hml hown hts hK hR hS hA (c_X3_used  hc24) wd842 wd401 wd402 wd1 wd403 hyX3_used ⟨rfl, rfl⟩ ⟨Nat.le_of_ble_eq_true rfl, Nat.le_of_ble_eq_true rfl⟩ hl.1 (Nat.le_of_ble_eq_true rfl) dL_isSound_404 ⟨by have := hbu; simp only [rmL_isSound]; omega, by have := hbu; simp only [rmL_isSound]; omega⟩ rfl (fun hg26 H locs hR hS => ?_)
                  refine x_icmp_ne (tgt := 426) hx hb hg23 hg26 dL_isSound_407 (by decide) (fun ci27 => ?_) (fun ci27 => ?_)
                  · rw [if_neg ci27] at hF
                    refine x_iconst hx hb dL_isSound_426 ?_
                    cases hF
                    exact l_zret hx hb hlocks hK hR hS (by have := hbu; omega) (by have := hbu; omega) (by decide) [] (by decide) rfl hr dL_isSound_427
                  · rw [if_pos ci27] at hF
                    refine lv_aload_n hx hb dL_isSound_410 rfl (lv_at hl 0 rfl) ?_
                    refine x_iconst hx hb dL_isSound_411 ?_
                    obtain ⟨y29, M30, hc28, hF⟩ := xb2_some hF
                    refine l_cVi (As := [.int (jI (0 : Int))]) (rest := []) hx hb hml hown hts hK hR hS hA (c_X3_wouldFree (by decide : rg (0 : Int)) hc28) wd844 wd530 wd531 wd1 wd532 hyX3_wouldFree ⟨rfl, rfl⟩ ⟨Nat.le_of_ble_eq_true rfl, Nat.le_of_ble_eq_true rfl⟩ hl.1 (Nat.le_of_ble_eq_true rfl) dL_isSound_412 ⟨by have := hbu; simp only [rmL_isSound]; omega, by have := hbu; simp only [rmL_isSound]; omega⟩ rfl (fun hg31 H locs hR hS => ?_)
                    refine lv_aload_n hx hb dL_isSound_415 rfl (lv_at hl 0 rfl) ?_
                    obtain ⟨y33, hc32, hF⟩ := xb1_some hF
                    refine l_cVi (As := []) (rest := [.int (jI y29)]) hx hb hml hown hts hK hR hS hA (c_X3_used  hc32) wd842 wd401 wd402 wd1 wd403 hyX3_used ⟨rfl, rfl⟩ ⟨Nat.le_of_ble_eq_true rfl, Nat.le_of_ble_eq_true rfl⟩ hl.1 (Nat.le_of_ble_eq_true rfl) dL_isSound_416 ⟨by have := hbu; simp only [rmL_isSound]; omega, by have := hbu; simp only [rmL_isSound]; omega⟩ rfl (fun hg34 H locs hR hS => ?_)
                    refine x_icmp_ne (tgt := 426) hx hb hg31 hg34 dL_isSound_419 (by decide) (fun ci35 => ?_) (fun ci35 => ?_)
                    · rw [if_neg ci35] at hF
                      refine x_iconst hx hb dL_isSound_426 ?_
                      cases hF
                      exact l_zret hx hb hlocks hK hR hS (by have := hbu; omega) (by have := hbu; omega) (by decide) [] (by decide) rfl hr dL_isSound_427
                    · rw [if_pos ci35] at hF
                      refine x_iconst hx hb dL_isSound_422 ?_
                      refine lv_goto (tgt := 427) hx hb dL_isSound_423 (by decide) ?_
                      cases hF
                      exact l_zret hx hb hlocks hK hR hS (by have := hbu; omega) (by have := hbu; omega) (by decide) [] (by decide) rfl hr dL_isSound_427
              · rw [if_neg ci18] at hF
                refine x_iconst hx hb dL_isSound_392 ?_
                cases hF
                exact l_zret hx hb hlocks hK hR hS (by have := hbu; omega) (by have := hbu; omega) (by decide) [] (by decide) rfl hr dL_isSound_393
    · rw [if_neg ci1] at hF
      refine lv_iload hx hb dL_isSound_335 (lv_at hl 3 rfl) ?_
      refine lv_aload_n hx hb dL_isSound_337 rfl (lv_at hl 0 rfl) ?_
      refine lv_iload hx hb dL_isSound_338 (lv_at hl 4 rfl) ?_
      obtain ⟨y37, hc36, hF⟩ := xb1_some hF
      refine l_cVi (As := [.int (jI v5)]) (rest := [.int (jI v4)]) hx hb hml hown hts hK hR hS hA (c_X3_usedBy hv5 hc36) wd841 wd416 wd417 wd1 wd418 hyX3_usedBy ⟨rfl, rfl⟩ ⟨Nat.le_of_ble_eq_true rfl, Nat.le_of_ble_eq_true rfl⟩ hl.1 (Nat.le_of_ble_eq_true rfl) dL_isSound_340 ⟨by have := hbu; simp only [rmL_isSound]; omega, by have := hbu; simp only [rmL_isSound]; omega⟩ rfl (fun hg38 H locs hR hS => ?_)
      obtain ⟨hq39, hF⟩ := xk_some hF
      refine x_iadd hx hb dL_isSound_343 ?_
      refine lv_istore (lv' := [(4, .int (jI (v4 + y37))), (0, .ref (adr b 0 0)), (2, .int (jI v2)), (3, .int (jI v3)), (5, .int (jI v5))]) hx hb dL_isSound_344 hl (by decide) rfl (fun ls hl => ?_)
      obtain ⟨hq40, hF⟩ := xk_some hF
      refine x_iinc (lv' := [(5, .int (jI (v5 + (1 : Int)))), (4, .int (jI (v4 + y37))), (0, .ref (adr b 0 0)), (2, .int (jI v2)), (3, .int (jI v3))]) hx hb dL_isSound_346 hl (k := 4) rfl (by decide) rfl (fun ls hl => ?_)
      refine lv_goto (tgt := 329) hx hb dL_isSound_349 (by decide) ?_
      exact ih M v2 v3 (v4 + y37) (v5 + (1 : Int)) hv2 hv3 hq39 hq40 H locs _ _ (by omega) hR hS ls (lv_sub hl [2, 3, 4, 1, 0] rfl) hF
def F_L_isSound_295 (rec140 : Mm → Int → Int → Int → (Nat → Int) → Option (Int × Mm)) (M : Mm) (v2 : Int) (v3 : Int) (v4 : Int) (v6 : Int) (fdq1 : Nat → Int) : Option (Int × Mm) := (xb1 (F_X3_blocksOf M v4) fun y2 => (xk (rg (v2 + y2)) (if v6 = 0 then (xk (rg (v3 + (0 : Int))) (xk (rg (v4 + (1 : Int))) (rec140 M (v2 + y2) (v3 + (0 : Int)) (v4 + (1 : Int)) fdq1))) else (xk (rg (v3 + (1 : Int))) (xk (rg (v4 + (1 : Int))) (rec140 M (v2 + y2) (v3 + (1 : Int)) (v4 + (1 : Int)) fdq1))))))
set_option maxHeartbeats 4000000 in
set_option maxRecDepth 100000 in
theorem w_L_isSound_295 {p : Program} {l : Launch} {e : Env} {s : State} {m : MethodId} {args : Array Value} {below : List Frame} {meth : Method} {c : Code} {g : Gx} {b : Nat} (C0 : XA p s m meth c args RL cL_isSound 9 (some .boolean) g) {r : Int} {M' : Mm} {rec140 : Mm → Int → Int → Int → (Nat → Int) → Option (Int × Mm)} (hrec140 : ∀ (M : Mm) (v2 : Int) (v3 : Int) (v4 : Int) (fdq1 : Nat → Int) (hv2 : rg v2) (hv3 : rg v3) (hv4 : rg v4) (dq1 : Nat) (hdq1 : s.heap.size ≤ dq1) (H : Heap) (locs : List Loc) (cells slots : Nat), cells + 0 ≤ 1 ∧ slots + 0 ≤ 32 → RD g b M [(dq1, 0, 32, fdq1)] H → va_S (AF b b s.heap.size) s.heap H locs → ∀ ls : Array Slot, lv_has ls 9 [(0, .ref (adr b 0 0)), (1, .ref dq1), (2, .int (jI v2)), (3, .int (jI v3)), (4, .int (jI v4))] → rec140 M  v2 v3 v4 fdq1 = some (r, M') → W p l e rmL_isSound s m args below meth c H locs cells slots (MQ below (rI g b r M' b [] s.heap.size) args s 1 32 (AF b b s.heap.size)) (F0 m 140 ls [])) : ∀ (M : Mm) (v2 : Int) (v3 : Int) (v4 : Int) (v6 : Int) (fdq1 : Nat → Int) (hv2 : rg v2) (hv3 : rg v3) (hv4 : rg v4) (hv6 : rg v6) (dq1 : Nat) (hdq1 : s.heap.size ≤ dq1) (H : Heap) (locs : List Loc) (cells slots : Nat), cells + 0 ≤ 1 ∧ slots + 0 ≤ 32 → RD g b M [(dq1, 0, 32, fdq1)] H → va_S (AF b b s.heap.size) s.heap H locs → ∀ ls : Array Slot, lv_has ls 9 [(0, .ref (adr b 0 0)), (1, .ref dq1), (2, .int (jI v2)), (3, .int (jI v3)), (4, .int (jI v4)), (6, .int (jI v6))] → F_L_isSound_295 rec140 M  v2 v3 v4 v6 fdq1 = some (r, M') → W p l e rmL_isSound s m args below meth c H locs cells slots (MQ below (rI g b r M' b [] s.heap.size) args s 1 32 (AF b b s.heap.size)) (F0 m 295 ls []) := by
  obtain ⟨hx, hb, hr, hlocks, hml, hown, hts, hK⟩ := id C0
  have hA : ∀ q, AA b s.heap.size q → AF b b s.heap.size q := fun q h => Or.inl h
  intro M v2 v3 v4 v6 fdq1 hv2 hv3 hv4 hv6 dq1 hdq1 H locs cells slots hbu hR hS ls hl hF
  rw [F_L_isSound_295] at hF
  refine lv_iload_n hx hb dL_isSound_295 rfl (lv_at hl 2 rfl) ?_
  refine lv_aload_n hx hb dL_isSound_296 rfl (lv_at hl 0 rfl) ?_
  refine lv_iload hx hb dL_isSound_297 (lv_at hl 4 rfl) ?_
  obtain ⟨y2, hc1, hF⟩ := xb1_some hF
  refine l_cVi (As := [.int (jI v4)]) (rest := [.int (jI v2)]) hx hb hml hown hts hK hR hS hA (c_X3_blocksOf hv4 hc1) wd840 wd474 wd475 wd1 wd476 hyX3_blocksOf ⟨rfl, rfl⟩ ⟨Nat.le_of_ble_eq_true rfl, Nat.le_of_ble_eq_true rfl⟩ hl.1 (Nat.le_of_ble_eq_true rfl) dL_isSound_299 ⟨by have := hbu; simp only [rmL_isSound]; omega, by have := hbu; simp only [rmL_isSound]; omega⟩ rfl (fun hg3 H locs hR hS => ?_)
  obtain ⟨hq4, hF⟩ := xk_some hF
  refine x_iadd hx hb dL_isSound_302 ?_
  refine lv_istore_n (lv' := [(2, .int (jI (v2 + y2))), (0, .ref (adr b 0 0)), (1, .ref dq1), (3, .int (jI v3)), (4, .int (jI v4)), (6, .int (jI v6))]) hx hb dL_isSound_303 rfl hl (by decide) rfl (fun ls hl => ?_)
  refine lv_iload_n hx hb dL_isSound_304 rfl (lv_at hl 3 rfl) ?_
  refine lv_iload hx hb dL_isSound_305 (lv_at hl 5 rfl) ?_
  refine x_if_eq (tgt := 314) hx hb hv6 dL_isSound_307 (by decide) (fun ci5 => ?_) (fun ci5 => ?_)
  · rw [if_pos ci5] at hF
    refine x_iconst hx hb dL_isSound_314 ?_
    obtain ⟨hq6, hF⟩ := xk_some hF
    refine x_iadd hx hb dL_isSound_315 ?_
    refine lv_istore_n (lv' := [(3, .int (jI (v3 + (0 : Int)))), (2, .int (jI (v2 + y2))), (0, .ref (adr b 0 0)), (1, .ref dq1), (4, .int (jI v4)), (6, .int (jI v6))]) hx hb dL_isSound_316 rfl hl (by decide) rfl (fun ls hl => ?_)
    obtain ⟨hq7, hF⟩ := xk_some hF
    refine x_iinc (lv' := [(4, .int (jI (v4 + (1 : Int)))), (3, .int (jI (v3 + (0 : Int)))), (2, .int (jI (v2 + y2))), (0, .ref (adr b 0 0)), (1, .ref dq1), (6, .int (jI v6))]) hx hb dL_isSound_317 hl (k := 4) rfl (by decide) rfl (fun ls hl => ?_)
    refine lv_goto (tgt := 140) hx hb dL_isSound_320 (by decide) ?_
    exact hrec140 M (v2 + y2) (v3 + (0 : Int)) (v4 + (1 : Int)) fdq1 hq4 hq6 hq7 dq1 hdq1 H locs _ _ (by omega) hR hS ls (lv_sub hl [3, 4, 2, 1, 0] rfl) hF
  · rw [if_neg ci5] at hF
    refine x_iconst hx hb dL_isSound_310 ?_
    refine lv_goto (tgt := 315) hx hb dL_isSound_311 (by decide) ?_
    obtain ⟨hq8, hF⟩ := xk_some hF
    refine x_iadd hx hb dL_isSound_315 ?_
    refine lv_istore_n (lv' := [(3, .int (jI (v3 + (1 : Int)))), (2, .int (jI (v2 + y2))), (0, .ref (adr b 0 0)), (1, .ref dq1), (4, .int (jI v4)), (6, .int (jI v6))]) hx hb dL_isSound_316 rfl hl (by decide) rfl (fun ls hl => ?_)
    obtain ⟨hq9, hF⟩ := xk_some hF
    refine x_iinc (lv' := [(4, .int (jI (v4 + (1 : Int)))), (3, .int (jI (v3 + (1 : Int)))), (2, .int (jI (v2 + y2))), (0, .ref (adr b 0 0)), (1, .ref dq1), (6, .int (jI v6))]) hx hb dL_isSound_317 hl (k := 4) rfl (by decide) rfl (fun ls hl => ?_)
    refine lv_goto (tgt := 140) hx hb dL_isSound_320 (by decide) ?_
    exact hrec140 M (v2 + y2) (v3 + (1 : Int)) (v4 + (1 : Int)) fdq1 hq4 hq8 hq9 dq1 hdq1 H locs _ _ (by omega) hR hS ls (lv_sub hl [3, 4, 2, 1, 0] rfl) hF
def F_L_isSound_240 (rec140 : Mm → Int → Int → Int → (Nat → Int) → Option (Int × Mm)) (M : Mm) (v2 : Int) (v3 : Int) (v4 : Int) (v5 : Int) (v6 : Int) (fdq1 : Nat → Int) : Option (Int × Mm) := (xk (0 ≤ v4 ∧ v4 < 32) (if (fdq1 v4.toNat) ≤ (6 : Int) then (xb1 (F_X3_sharedOf M v4) fun y5 => (xb1 (F_X3_blocksOf M v4) fun y8 => (if y8 < y5 then (some ((0 : Int), M)) else (if v5 = (1 : Int) then (xb1 (F_X3_blocksOf M v4) fun y13 => (xk (rg ((16 : Int) * y13)) (xb1 (F_X3_sizeOf M v4) fun y17 => (xk (rg (y17 + (15 : Int))) (if ((16 : Int) * y13) ≤ (y17 + (15 : Int)) then (F_L_isSound_295 rec140 M v2 v3 v4 v6 fdq1) else (some ((0 : Int), M))))))) else (F_L_isSound_295 rec140 M v2 v3 v4 v6 fdq1))))) else (some ((0 : Int), M))))
set_option maxHeartbeats 4000000 in
set_option maxRecDepth 100000 in
theorem w_L_isSound_240 {p : Program} {l : Launch} {e : Env} {s : State} {m : MethodId} {args : Array Value} {below : List Frame} {meth : Method} {c : Code} {g : Gx} {b : Nat} (C0 : XA p s m meth c args RL cL_isSound 9 (some .boolean) g) {r : Int} {M' : Mm} {rec140 : Mm → Int → Int → Int → (Nat → Int) → Option (Int × Mm)} (hrec140 : ∀ (M : Mm) (v2 : Int) (v3 : Int) (v4 : Int) (fdq1 : Nat → Int) (hv2 : rg v2) (hv3 : rg v3) (hv4 : rg v4) (dq1 : Nat) (hdq1 : s.heap.size ≤ dq1) (H : Heap) (locs : List Loc) (cells slots : Nat), cells + 0 ≤ 1 ∧ slots + 0 ≤ 32 → RD g b M [(dq1, 0, 32, fdq1)] H → va_S (AF b b s.heap.size) s.heap H locs → ∀ ls : Array Slot, lv_has ls 9 [(0, .ref (adr b 0 0)), (1, .ref dq1), (2, .int (jI v2)), (3, .int (jI v3)), (4, .int (jI v4))] → rec140 M  v2 v3 v4 fdq1 = some (r, M') → W p l e rmL_isSound s m args below meth c H locs cells slots (MQ below (rI g b r M' b [] s.heap.size) args s 1 32 (AF b b s.heap.size)) (F0 m 140 ls [])) : ∀ (M : Mm) (v2 : Int) (v3 : Int) (v4 : Int) (v5 : Int) (v6 : Int) (fdq1 : Nat → Int) (hv2 : rg v2) (hv3 : rg v3) (hv4 : rg v4) (hv5 : rg v5) (hv6 : rg v6) (dq1 : Nat) (hdq1 : s.heap.size ≤ dq1) (H : Heap) (locs : List Loc) (cells slots : Nat), cells + 0 ≤ 1 ∧ slots + 0 ≤ 32 → RD g b M [(dq1, 0, 32, fdq1)] H → va_S (AF b b s.heap.size) s.heap H locs → ∀ ls : Array Slot, lv_has ls 9 [(0, .ref (adr b 0 0)), (1, .ref dq1), (2, .int (jI v2)), (3, .int (jI v3)), (4, .int (jI v4)), (5, .int (jI v5)), (6, .int (jI v6))] → F_L_isSound_240 rec140 M  v2 v3 v4 v5 v6 fdq1 = some (r, M') → W p l e rmL_isSound s m args below meth c H locs cells slots (MQ below (rI g b r M' b [] s.heap.size) args s 1 32 (AF b b s.heap.size)) (F0 m 240 ls []) := by
  obtain ⟨hx, hb, hr, hlocks, hml, hown, hts, hK⟩ := id C0
  have hA : ∀ q, AA b s.heap.size q → AF b b s.heap.size q := fun q h => Or.inl h
  intro M v2 v3 v4 v5 v6 fdq1 hv2 hv3 hv4 hv5 hv6 dq1 hdq1 H locs cells slots hbu hR hS ls hl hF
  rw [F_L_isSound_240] at hF
  refine lv_aload_n hx hb dL_isSound_240 rfl (lv_at hl 1 rfl) ?_
  refine lv_iload hx hb dL_isSound_241 (lv_at hl 4 rfl) ?_
  obtain ⟨hi1, hF⟩ := xk_some hF
  refine e_ld (bl := false) hx hb hK hR 0 rfl rfl hv4 hi1 dL_isSound_243 ?_
  have hg2 : rg (fdq1 v4.toNat) := (hR.2.1 0 _ rfl).2.2 _
  refine x_bipush hx hb (by decide +kernel) dL_isSound_244 ?_
  refine x_icmp_le (tgt := 251) hx hb hg2 (by decide : rg (6 : Int)) dL_isSound_246 (by decide) (fun ci3 => ?_) (fun ci3 => ?_)
  · rw [if_pos ci3] at hF
    refine lv_aload_n hx hb dL_isSound_251 rfl (lv_at hl 0 rfl) ?_
    refine lv_iload hx hb dL_isSound_252 (lv_at hl 4 rfl) ?_
    obtain ⟨y5, hc4, hF⟩ := xb1_some hF
    refine l_cVi (As := [.int (jI v4)]) (rest := []) hx hb hml hown hts hK hR hS hA (c_X3_sharedOf hv4 hc4) wd839 wd479 wd480 wd1 wd481 hyX3_sharedOf ⟨rfl, rfl⟩ ⟨Nat.le_of_ble_eq_true rfl, Nat.le_of_ble_eq_true rfl⟩ hl.1 (Nat.le_of_ble_eq_true rfl) dL_isSound_254 ⟨by have := hbu; simp only [rmL_isSound]; omega, by have := hbu; simp only [rmL_isSound]; omega⟩ rfl (fun hg6 H locs hR hS => ?_)
    refine lv_aload_n hx hb dL_isSound_257 rfl (lv_at hl 0 rfl) ?_
    refine lv_iload hx hb dL_isSound_258 (lv_at hl 4 rfl) ?_
    obtain ⟨y8, hc7, hF⟩ := xb1_some hF
    refine l_cVi (As := [.int (jI v4)]) (rest := [.int (jI y5)]) hx hb hml hown hts hK hR hS hA (c_X3_blocksOf hv4 hc7) wd840 wd474 wd475 wd1 wd476 hyX3_blocksOf ⟨rfl, rfl⟩ ⟨Nat.le_of_ble_eq_true rfl, Nat.le_of_ble_eq_true rfl⟩ hl.1 (Nat.le_of_ble_eq_true rfl) dL_isSound_260 ⟨by have := hbu; simp only [rmL_isSound]; omega, by have := hbu; simp only [rmL_isSound]; omega⟩ rfl (fun hg9 H locs hR hS => ?_)
    refine x_icmp_gt (tgt := 293) hx hb hg6 hg9 dL_isSound_263 (by decide) (fun ci10 => ?_) (fun ci10 => ?_)
    · rw [if_pos ci10] at hF
      refine x_iconst hx hb dL_isSound_293 ?_
      cases hF
      exact l_zret hx hb hlocks hK hR hS (by have := hbu; omega) (by have := hbu; omega) (by decide) [] (by decide) rfl hr dL_isSound_294
    · rw [if_neg ci10] at hF
      refine lv_iload hx hb dL_isSound_266 (lv_at hl 5 rfl) ?_
      refine x_iconst hx hb dL_isSound_268 ?_
      refine x_icmp_ne (tgt := 295) hx hb hv5 (by decide : rg (1 : Int)) dL_isSound_269 (by decide) (fun ci11 => ?_) (fun ci11 => ?_)
      · rw [if_neg ci11] at hF
        exact w_L_isSound_295 C0 hrec140 M v2 v3 v4 v6 fdq1 hv2 hv3 hv4 hv6 dq1 hdq1 H locs _ _ (by omega) hR hS ls (lv_sub hl [0, 1, 2, 3, 4, 6] rfl) hF
      · rw [if_pos ci11] at hF
        refine x_bipush hx hb (by decide +kernel) dL_isSound_272 ?_
        refine lv_aload_n hx hb dL_isSound_274 rfl (lv_at hl 0 rfl) ?_
        refine lv_iload hx hb dL_isSound_275 (lv_at hl 4 rfl) ?_
        obtain ⟨y13, hc12, hF⟩ := xb1_some hF
        refine l_cVi (As := [.int (jI v4)]) (rest := [.int (jI (16 : Int))]) hx hb hml hown hts hK hR hS hA (c_X3_blocksOf hv4 hc12) wd840 wd474 wd475 wd1 wd476 hyX3_blocksOf ⟨rfl, rfl⟩ ⟨Nat.le_of_ble_eq_true rfl, Nat.le_of_ble_eq_true rfl⟩ hl.1 (Nat.le_of_ble_eq_true rfl) dL_isSound_277 ⟨by have := hbu; simp only [rmL_isSound]; omega, by have := hbu; simp only [rmL_isSound]; omega⟩ rfl (fun hg14 H locs hR hS => ?_)
        obtain ⟨hq15, hF⟩ := xk_some hF
        refine x_imul hx hb dL_isSound_280 ?_
        refine lv_aload_n hx hb dL_isSound_281 rfl (lv_at hl 0 rfl) ?_
        refine lv_iload hx hb dL_isSound_282 (lv_at hl 4 rfl) ?_
        obtain ⟨y17, hc16, hF⟩ := xb1_some hF
        refine l_cVi (As := [.int (jI v4)]) (rest := [.int (jI ((16 : Int) * y13))]) hx hb hml hown hts hK hR hS hA (c_X3_sizeOf hv4 hc16) wd338 wd339 wd340 wd1 wd341 hyX3_sizeOf ⟨rfl, rfl⟩ ⟨Nat.le_of_ble_eq_true rfl, Nat.le_of_ble_eq_true rfl⟩ hl.1 (Nat.le_of_ble_eq_true rfl) dL_isSound_284 ⟨by have := hbu; simp only [rmL_isSound]; omega, by have := hbu; simp only [rmL_isSound]; omega⟩ rfl (fun hg18 H locs hR hS => ?_)
        refine x_bipush hx hb (by decide +kernel) dL_isSound_287 ?_
        obtain ⟨hq19, hF⟩ := xk_some hF
        refine x_iadd hx hb dL_isSound_289 ?_
        refine x_icmp_le (tgt := 295) hx hb hq15 hq19 dL_isSound_290 (by decide) (fun ci20 => ?_) (fun ci20 => ?_)
        · rw [if_pos ci20] at hF
          exact w_L_isSound_295 C0 hrec140 M v2 v3 v4 v6 fdq1 hv2 hv3 hv4 hv6 dq1 hdq1 H locs _ _ (by omega) hR hS ls (lv_sub hl [0, 1, 2, 3, 4, 6] rfl) hF
        · rw [if_neg ci20] at hF
          refine x_iconst hx hb dL_isSound_293 ?_
          cases hF
          exact l_zret hx hb hlocks hK hR hS (by have := hbu; omega) (by have := hbu; omega) (by decide) [] (by decide) rfl hr dL_isSound_294
  · rw [if_neg ci3] at hF
    refine x_iconst hx hb dL_isSound_249 ?_
    cases hF
    exact l_zret hx hb hlocks hK hR hS (by have := hbu; omega) (by have := hbu; omega) (by decide) [] (by decide) rfl hr dL_isSound_250
def F_L_isSound_217 (rec140 : Mm → Int → Int → Int → (Nat → Int) → Option (Int × Mm)) (M : Mm) (v2 : Int) (v3 : Int) (v4 : Int) (v5 : Int) (v6 : Int) (fdq1 : Nat → Int) : Option (Int × Mm) := (if v5 = (2 : Int) then (xk (0 ≤ v4 ∧ v4 < 32) (if v4 = 0 then (if (fdq1 v4.toNat) = (0 : Int) then (F_L_isSound_240 rec140 M v2 v3 v4 v5 v6 fdq1) else (some ((0 : Int), M))) else (if (fdq1 v4.toNat) = (1 : Int) then (F_L_isSound_240 rec140 M v2 v3 v4 v5 v6 fdq1) else (some ((0 : Int), M))))) else (F_L_isSound_240 rec140 M v2 v3 v4 v5 v6 fdq1))
set_option maxHeartbeats 4000000 in
set_option maxRecDepth 100000 in
theorem w_L_isSound_217 {p : Program} {l : Launch} {e : Env} {s : State} {m : MethodId} {args : Array Value} {below : List Frame} {meth : Method} {c : Code} {g : Gx} {b : Nat} (C0 : XA p s m meth c args RL cL_isSound 9 (some .boolean) g) {r : Int} {M' : Mm} {rec140 : Mm → Int → Int → Int → (Nat → Int) → Option (Int × Mm)} (hrec140 : ∀ (M : Mm) (v2 : Int) (v3 : Int) (v4 : Int) (fdq1 : Nat → Int) (hv2 : rg v2) (hv3 : rg v3) (hv4 : rg v4) (dq1 : Nat) (hdq1 : s.heap.size ≤ dq1) (H : Heap) (locs : List Loc) (cells slots : Nat), cells + 0 ≤ 1 ∧ slots + 0 ≤ 32 → RD g b M [(dq1, 0, 32, fdq1)] H → va_S (AF b b s.heap.size) s.heap H locs → ∀ ls : Array Slot, lv_has ls 9 [(0, .ref (adr b 0 0)), (1, .ref dq1), (2, .int (jI v2)), (3, .int (jI v3)), (4, .int (jI v4))] → rec140 M  v2 v3 v4 fdq1 = some (r, M') → W p l e rmL_isSound s m args below meth c H locs cells slots (MQ below (rI g b r M' b [] s.heap.size) args s 1 32 (AF b b s.heap.size)) (F0 m 140 ls [])) : ∀ (M : Mm) (v2 : Int) (v3 : Int) (v4 : Int) (v5 : Int) (v6 : Int) (fdq1 : Nat → Int) (hv2 : rg v2) (hv3 : rg v3) (hv4 : rg v4) (hv5 : rg v5) (hv6 : rg v6) (dq1 : Nat) (hdq1 : s.heap.size ≤ dq1) (H : Heap) (locs : List Loc) (cells slots : Nat), cells + 0 ≤ 1 ∧ slots + 0 ≤ 32 → RD g b M [(dq1, 0, 32, fdq1)] H → va_S (AF b b s.heap.size) s.heap H locs → ∀ ls : Array Slot, lv_has ls 9 [(0, .ref (adr b 0 0)), (1, .ref dq1), (2, .int (jI v2)), (3, .int (jI v3)), (4, .int (jI v4)), (5, .int (jI v5)), (6, .int (jI v6))] → F_L_isSound_217 rec140 M  v2 v3 v4 v5 v6 fdq1 = some (r, M') → W p l e rmL_isSound s m args below meth c H locs cells slots (MQ below (rI g b r M' b [] s.heap.size) args s 1 32 (AF b b s.heap.size)) (F0 m 217 ls []) := by
  obtain ⟨hx, hb, hr, hlocks, hml, hown, hts, hK⟩ := id C0
  have hA : ∀ q, AA b s.heap.size q → AF b b s.heap.size q := fun q h => Or.inl h
  intro M v2 v3 v4 v5 v6 fdq1 hv2 hv3 hv4 hv5 hv6 dq1 hdq1 H locs cells slots hbu hR hS ls hl hF
  rw [F_L_isSound_217] at hF
  refine lv_iload hx hb dL_isSound_217 (lv_at hl 5 rfl) ?_
  refine x_iconst hx hb dL_isSound_219 ?_
  refine x_icmp_ne (tgt := 240) hx hb hv5 (by decide : rg (2 : Int)) dL_isSound_220 (by decide) (fun ci1 => ?_) (fun ci1 => ?_)
  · rw [if_neg ci1] at hF
    exact w_L_isSound_240 C0 hrec140 M v2 v3 v4 v5 v6 fdq1 hv2 hv3 hv4 hv5 hv6 dq1 hdq1 H locs _ _ (by omega) hR hS ls (lv_sub hl [0, 1, 2, 3, 4, 5, 6] rfl) hF
  · rw [if_pos ci1] at hF
    refine lv_aload_n hx hb dL_isSound_223 rfl (lv_at hl 1 rfl) ?_
    refine lv_iload hx hb dL_isSound_224 (lv_at hl 4 rfl) ?_
    obtain ⟨hi21, hF⟩ := xk_some hF
    refine e_ld (bl := false) hx hb hK hR 0 rfl rfl hv4 hi21 dL_isSound_226 ?_
    have hg22 : rg (fdq1 v4.toNat) := (hR.2.1 0 _ rfl).2.2 _
    refine lv_iload hx hb dL_isSound_227 (lv_at hl 4 rfl) ?_
    refine x_if_ne (tgt := 236) hx hb hv4 dL_isSound_229 (by decide) (fun ci23 => ?_) (fun ci23 => ?_)
    · rw [if_neg ci23] at hF
      refine x_iconst hx hb dL_isSound_236 ?_
      refine x_icmp_ne (tgt := 249) hx hb hg22 (by decide : rg (1 : Int)) dL_isSound_237 (by decide) (fun ci24 => ?_) (fun ci24 => ?_)
      · rw [if_neg ci24] at hF
        refine x_iconst hx hb dL_isSound_249 ?_
        cases hF
        exact l_zret hx hb hlocks hK hR hS (by have := hbu; omega) (by have := hbu; omega) (by decide) [] (by decide) rfl hr dL_isSound_250
      · rw [if_pos ci24] at hF
        exact w_L_isSound_240 C0 hrec140 M v2 v3 v4 v5 v6 fdq1 hv2 hv3 hv4 hv5 hv6 dq1 hdq1 H locs _ _ (by omega) hR hS ls (lv_sub hl [0, 1, 2, 3, 4, 5, 6] rfl) hF
    · rw [if_pos ci23] at hF
      refine x_iconst hx hb dL_isSound_232 ?_
      refine lv_goto (tgt := 237) hx hb dL_isSound_233 (by decide) ?_
      refine x_icmp_ne (tgt := 249) hx hb hg22 (by decide : rg (0 : Int)) dL_isSound_237 (by decide) (fun ci25 => ?_) (fun ci25 => ?_)
      · rw [if_neg ci25] at hF
        refine x_iconst hx hb dL_isSound_249 ?_
        cases hF
        exact l_zret hx hb hlocks hK hR hS (by have := hbu; omega) (by have := hbu; omega) (by decide) [] (by decide) rfl hr dL_isSound_250
      · rw [if_pos ci25] at hF
        exact w_L_isSound_240 C0 hrec140 M v2 v3 v4 v5 v6 fdq1 hv2 hv3 hv4 hv5 hv6 dq1 hdq1 H locs _ _ (by omega) hR hS ls (lv_sub hl [0, 1, 2, 3, 4, 5, 6] rfl) hF
def F_L_isSound_202 (rec140 : Mm → Int → Int → Int → (Nat → Int) → Option (Int × Mm)) (M : Mm) (v2 : Int) (v3 : Int) (v4 : Int) (v5 : Int) (v6 : Int) (s0 : Int) (fdq1 : Nat → Int) : Option (Int × Mm) := (if s0 = (0 : Int) then (if v6 = 0 then (F_L_isSound_217 rec140 M v2 v3 v4 v5 v6 fdq1) else (if v5 = (1 : Int) then (F_L_isSound_217 rec140 M v2 v3 v4 v5 v6 fdq1) else (some ((0 : Int), M)))) else (some ((0 : Int), M)))
set_option maxHeartbeats 4000000 in
set_option maxRecDepth 100000 in
theorem w_L_isSound_202 {p : Program} {l : Launch} {e : Env} {s : State} {m : MethodId} {args : Array Value} {below : List Frame} {meth : Method} {c : Code} {g : Gx} {b : Nat} (C0 : XA p s m meth c args RL cL_isSound 9 (some .boolean) g) {r : Int} {M' : Mm} {rec140 : Mm → Int → Int → Int → (Nat → Int) → Option (Int × Mm)} (hrec140 : ∀ (M : Mm) (v2 : Int) (v3 : Int) (v4 : Int) (fdq1 : Nat → Int) (hv2 : rg v2) (hv3 : rg v3) (hv4 : rg v4) (dq1 : Nat) (hdq1 : s.heap.size ≤ dq1) (H : Heap) (locs : List Loc) (cells slots : Nat), cells + 0 ≤ 1 ∧ slots + 0 ≤ 32 → RD g b M [(dq1, 0, 32, fdq1)] H → va_S (AF b b s.heap.size) s.heap H locs → ∀ ls : Array Slot, lv_has ls 9 [(0, .ref (adr b 0 0)), (1, .ref dq1), (2, .int (jI v2)), (3, .int (jI v3)), (4, .int (jI v4))] → rec140 M  v2 v3 v4 fdq1 = some (r, M') → W p l e rmL_isSound s m args below meth c H locs cells slots (MQ below (rI g b r M' b [] s.heap.size) args s 1 32 (AF b b s.heap.size)) (F0 m 140 ls [])) : ∀ (M : Mm) (v2 : Int) (v3 : Int) (v4 : Int) (v5 : Int) (v6 : Int) (s0 : Int) (fdq1 : Nat → Int) (hv2 : rg v2) (hv3 : rg v3) (hv4 : rg v4) (hv5 : rg v5) (hv6 : rg v6) (hs0 : rg s0) (dq1 : Nat) (hdq1 : s.heap.size ≤ dq1) (H : Heap) (locs : List Loc) (cells slots : Nat), cells + 0 ≤ 1 ∧ slots + 0 ≤ 32 → RD g b M [(dq1, 0, 32, fdq1)] H → va_S (AF b b s.heap.size) s.heap H locs → ∀ ls : Array Slot, lv_has ls 9 [(0, .ref (adr b 0 0)), (1, .ref dq1), (2, .int (jI v2)), (3, .int (jI v3)), (4, .int (jI v4)), (5, .int (jI v5)), (6, .int (jI v6))] → F_L_isSound_202 rec140 M  v2 v3 v4 v5 v6 s0 fdq1 = some (r, M') → W p l e rmL_isSound s m args below meth c H locs cells slots (MQ below (rI g b r M' b [] s.heap.size) args s 1 32 (AF b b s.heap.size)) (F0 m 202 ls [.int (jI s0)]) := by
  obtain ⟨hx, hb, hr, hlocks, hml, hown, hts, hK⟩ := id C0
  have hA : ∀ q, AA b s.heap.size q → AF b b s.heap.size q := fun q h => Or.inl h
  intro M v2 v3 v4 v5 v6 s0 fdq1 hv2 hv3 hv4 hv5 hv6 hs0 dq1 hdq1 H locs cells slots hbu hR hS ls hl hF
  rw [F_L_isSound_202] at hF
  refine x_iconst hx hb dL_isSound_202 ?_
  refine x_icmp_ne (tgt := 249) hx hb hs0 (by decide : rg (0 : Int)) dL_isSound_203 (by decide) (fun ci1 => ?_) (fun ci1 => ?_)
  · rw [if_neg ci1] at hF
    refine x_iconst hx hb dL_isSound_249 ?_
    cases hF
    exact l_zret hx hb hlocks hK hR hS (by have := hbu; omega) (by have := hbu; omega) (by decide) [] (by decide) rfl hr dL_isSound_250
  · rw [if_pos ci1] at hF
    refine lv_iload hx hb dL_isSound_206 (lv_at hl 6 rfl) ?_
    refine x_if_eq (tgt := 217) hx hb hv6 dL_isSound_208 (by decide) (fun ci2 => ?_) (fun ci2 => ?_)
    · rw [if_pos ci2] at hF
      exact w_L_isSound_217 C0 hrec140 M v2 v3 v4 v5 v6 fdq1 hv2 hv3 hv4 hv5 hv6 dq1 hdq1 H locs _ _ (by omega) hR hS ls (lv_sub hl [0, 1, 2, 3, 4, 5, 6] rfl) hF
    · rw [if_neg ci2] at hF
      refine lv_iload hx hb dL_isSound_211 (lv_at hl 5 rfl) ?_
      refine x_iconst hx hb dL_isSound_213 ?_
      refine x_icmp_ne (tgt := 249) hx hb hv5 (by decide : rg (1 : Int)) dL_isSound_214 (by decide) (fun ci26 => ?_) (fun ci26 => ?_)
      · rw [if_neg ci26] at hF
        refine x_iconst hx hb dL_isSound_249 ?_
        cases hF
        exact l_zret hx hb hlocks hK hR hS (by have := hbu; omega) (by have := hbu; omega) (by decide) [] (by decide) rfl hr dL_isSound_250
      · rw [if_pos ci26] at hF
        exact w_L_isSound_217 C0 hrec140 M v2 v3 v4 v5 v6 fdq1 hv2 hv3 hv4 hv5 hv6 dq1 hdq1 H locs _ _ (by omega) hR hS ls (lv_sub hl [0, 1, 2, 3, 4, 5, 6] rfl) hF
def F_L_isSound_140  : Nat → Mm → Int → Int → Int → (Nat → Int) → Option (Int × Mm)
  | 0, _, _, _, _, _ => none
  | n + 1, M, v2, v3, v4, fdq1 => (if (32 : Int) ≤ v4 then (F_L_isSound_329  FU M v2 v3 (0 : Int) (0 : Int)) else (xb1 (F_X3_typeOf M v4) fun y42 => (if y42 = 0 then (xk (rg (v4 + (1 : Int))) (F_L_isSound_140  n M v2 v3 (v4 + (1 : Int)) fdq1)) else (xb1 (F_X3_isOrphan M v4) fun y46 => (xb1 (F_X3_linksOf M v4) fun y49 => (xk (0 ≤ v4 ∧ v4 < 32) (if y49 = (fdq1 v4.toNat) then (if v4 ≤ 0 then (F_L_isSound_202 (F_L_isSound_140  n) M v2 v3 v4 y42 y46 y46 fdq1) else (xk (0 ≤ v4 ∧ v4 < 32) (if (fdq1 v4.toNat) = 0 then (if y46 = (1 : Int) then (if y46 = 0 then (F_L_isSound_217 (F_L_isSound_140  n) M v2 v3 v4 y42 y46 fdq1) else (if y42 = (1 : Int) then (F_L_isSound_217 (F_L_isSound_140  n) M v2 v3 v4 y42 y46 fdq1) else (some ((0 : Int), M)))) else (some ((0 : Int), M))) else (F_L_isSound_202 (F_L_isSound_140  n) M v2 v3 v4 y42 y46 y46 fdq1)))) else (some ((0 : Int), M)))))))))
set_option maxHeartbeats 4000000 in
set_option maxRecDepth 100000 in
theorem w_L_isSound_140 {p : Program} {l : Launch} {e : Env} {s : State} {m : MethodId} {args : Array Value} {below : List Frame} {meth : Method} {c : Code} {g : Gx} {b : Nat} (C0 : XA p s m meth c args RL cL_isSound 9 (some .boolean) g) {r : Int} {M' : Mm} : ∀ n : Nat, ∀ (M : Mm) (v2 : Int) (v3 : Int) (v4 : Int) (fdq1 : Nat → Int) (hv2 : rg v2) (hv3 : rg v3) (hv4 : rg v4) (dq1 : Nat) (hdq1 : s.heap.size ≤ dq1) (H : Heap) (locs : List Loc) (cells slots : Nat), cells + 0 ≤ 1 ∧ slots + 0 ≤ 32 → RD g b M [(dq1, 0, 32, fdq1)] H → va_S (AF b b s.heap.size) s.heap H locs → ∀ ls : Array Slot, lv_has ls 9 [(0, .ref (adr b 0 0)), (1, .ref dq1), (2, .int (jI v2)), (3, .int (jI v3)), (4, .int (jI v4))] → F_L_isSound_140  n M  v2 v3 v4 fdq1 = some (r, M') → W p l e rmL_isSound s m args below meth c H locs cells slots (MQ below (rI g b r M' b [] s.heap.size) args s 1 32 (AF b b s.heap.size)) (F0 m 140 ls []) := by
  obtain ⟨hx, hb, hr, hlocks, hml, hown, hts, hK⟩ := id C0
  have hA : ∀ q, AA b s.heap.size q → AF b b s.heap.size q := fun q h => Or.inl h
  intro n
  induction n with
  | zero =>
    intro M v2 v3 v4 fdq1 hv2 hv3 hv4 dq1 hdq1 H locs cells slots hbu hR hS ls hl hF
    rw [F_L_isSound_140] at hF
    cases hF
  | succ n ih =>
    intro M v2 v3 v4 fdq1 hv2 hv3 hv4 dq1 hdq1 H locs cells slots hbu hR hS ls hl hF
    rw [F_L_isSound_140] at hF
    refine lv_iload hx hb dL_isSound_140 (lv_at hl 4 rfl) ?_
    refine x_bipush hx hb (by decide +kernel) dL_isSound_142 ?_
    refine x_icmp_ge (tgt := 323) hx hb hv4 (by decide : rg (32 : Int)) dL_isSound_144 (by decide) (fun ci1 => ?_) (fun ci1 => ?_)
    · rw [if_pos ci1] at hF
      refine x_iconst hx hb dL_isSound_323 ?_
      refine lv_istore (lv' := [(4, .int (jI (0 : Int))), (0, .ref (adr b 0 0)), (1, .ref dq1), (2, .int (jI v2)), (3, .int (jI v3))]) hx hb dL_isSound_324 hl (by decide) rfl (fun ls hl => ?_)
      refine x_iconst hx hb dL_isSound_326 ?_
      refine lv_istore (lv' := [(5, .int (jI (0 : Int))), (4, .int (jI (0 : Int))), (0, .ref (adr b 0 0)), (1, .ref dq1), (2, .int (jI v2)), (3, .int (jI v3))]) hx hb dL_isSound_327 hl (by decide) rfl (fun ls hl => ?_)
      exact w_L_isSound_329 C0  FU M v2 v3 (0 : Int) (0 : Int) hv2 hv3 (by decide : rg (0 : Int)) (by decide : rg (0 : Int)) H locs _ _ (by omega) (hR.pick [] (by decide) rfl) hS ls (lv_sub hl [2, 4, 5, 1, 0] rfl) hF
    · rw [if_neg ci1] at hF
      refine lv_aload_n hx hb dL_isSound_147 rfl (lv_at hl 0 rfl) ?_
      refine lv_iload hx hb dL_isSound_148 (lv_at hl 4 rfl) ?_
      obtain ⟨y42, hc41, hF⟩ := xb1_some hF
      refine l_cVi (As := [.int (jI v4)]) (rest := []) hx hb hml hown hts hK hR hS hA (c_X3_typeOf hv4 hc41) wd333 wd334 wd335 wd1 wd336 hyX3_typeOf ⟨rfl, rfl⟩ ⟨Nat.le_of_ble_eq_true rfl, Nat.le_of_ble_eq_true rfl⟩ hl.1 (Nat.le_of_ble_eq_true rfl) dL_isSound_150 ⟨by have := hbu; simp only [rmL_isSound]; omega, by have := hbu; simp only [rmL_isSound]; omega⟩ rfl (fun hg43 H locs hR hS => ?_)
      refine lv_istore (lv' := [(5, .int (jI y42)), (0, .ref (adr b 0 0)), (1, .ref dq1), (2, .int (jI v2)), (3, .int (jI v3)), (4, .int (jI v4))]) hx hb dL_isSound_153 hl (by decide) rfl (fun ls hl => ?_)
      refine lv_iload hx hb dL_isSound_155 (lv_at hl 0 rfl) ?_
      refine x_if_ne (tgt := 163) hx hb hg43 dL_isSound_157 (by decide) (fun ci44 => ?_) (fun ci44 => ?_)
      · rw [if_neg ci44] at hF
        refine lv_aload_n hx hb dL_isSound_163 rfl (lv_at hl 1 rfl) ?_
        refine lv_iload hx hb dL_isSound_164 (lv_at hl 5 rfl) ?_
        obtain ⟨y46, hc45, hF⟩ := xb1_some hF
        refine l_cVi (As := [.int (jI v4)]) (rest := []) hx hb hml hown hts hK hR hS hA (c_X3_isOrphan hv4 hc45) wd370 wd371 wd372 wd1 wd373 hyX3_isOrphan ⟨rfl, rfl⟩ ⟨Nat.le_of_ble_eq_true rfl, Nat.le_of_ble_eq_true rfl⟩ hl.1 (Nat.le_of_ble_eq_true rfl) dL_isSound_166 ⟨by have := hbu; simp only [rmL_isSound]; omega, by have := hbu; simp only [rmL_isSound]; omega⟩ rfl (fun hg47 H locs hR hS => ?_)
        refine lv_istore (lv' := [(6, .int (jI y46)), (5, .int (jI y42)), (0, .ref (adr b 0 0)), (1, .ref dq1), (2, .int (jI v2)), (3, .int (jI v3)), (4, .int (jI v4))]) hx hb dL_isSound_169 hl (by decide) rfl (fun ls hl => ?_)
        refine lv_aload_n hx hb dL_isSound_171 rfl (lv_at hl 2 rfl) ?_
        refine lv_iload hx hb dL_isSound_172 (lv_at hl 6 rfl) ?_
        obtain ⟨y49, hc48, hF⟩ := xb1_some hF
        refine l_cVi (As := [.int (jI v4)]) (rest := []) hx hb hml hown hts hK hR hS hA (c_X3_linksOf hv4 hc48) wd838 wd465 wd466 wd1 wd467 hyX3_linksOf ⟨rfl, rfl⟩ ⟨Nat.le_of_ble_eq_true rfl, Nat.le_of_ble_eq_true rfl⟩ hl.1 (Nat.le_of_ble_eq_true rfl) dL_isSound_174 ⟨by have := hbu; simp only [rmL_isSound]; omega, by have := hbu; simp only [rmL_isSound]; omega⟩ rfl (fun hg50 H locs hR hS => ?_)
        refine lv_aload_n hx hb dL_isSound_177 rfl (lv_at hl 3 rfl) ?_
        refine lv_iload hx hb dL_isSound_178 (lv_at hl 6 rfl) ?_
        obtain ⟨hi51, hF⟩ := xk_some hF
        refine e_ld (bl := false) hx hb hK hR 0 rfl rfl hv4 hi51 dL_isSound_180 ?_
        have hg52 : rg (fdq1 v4.toNat) := (hR.2.1 0 _ rfl).2.2 _
        refine x_icmp_ne (tgt := 249) hx hb hg50 hg52 dL_isSound_181 (by decide) (fun ci53 => ?_) (fun ci53 => ?_)
        · rw [if_neg ci53] at hF
          refine x_iconst hx hb dL_isSound_249 ?_
          cases hF
          exact l_zret hx hb hlocks hK hR hS (by have := hbu; omega) (by have := hbu; omega) (by decide) [] (by decide) rfl hr dL_isSound_250
        · rw [if_pos ci53] at hF
          refine lv_iload hx hb dL_isSound_184 (lv_at hl 0 rfl) ?_
          refine lv_iload hx hb dL_isSound_186 (lv_at hl 6 rfl) ?_
          refine x_if_le (tgt := 202) hx hb hv4 dL_isSound_188 (by decide) (fun ci54 => ?_) (fun ci54 => ?_)
          · rw [if_pos ci54] at hF
            exact w_L_isSound_202 C0 ih M v2 v3 v4 y42 y46 y46 fdq1 hv2 hv3 hv4 hg43 hg47 hg47 dq1 hdq1 H locs _ _ (by omega) hR hS ls (lv_sub hl [2, 3, 4, 5, 6, 1, 0] rfl) hF
          · rw [if_neg ci54] at hF
            refine lv_aload_n hx hb dL_isSound_191 rfl (lv_at hl 3 rfl) ?_
            refine lv_iload hx hb dL_isSound_192 (lv_at hl 6 rfl) ?_
            obtain ⟨hi55, hF⟩ := xk_some hF
            refine e_ld (bl := false) hx hb hK hR 0 rfl rfl hv4 hi55 dL_isSound_194 ?_
            have hg56 : rg (fdq1 v4.toNat) := (hR.2.1 0 _ rfl).2.2 _
            refine x_if_ne (tgt := 202) hx hb hg56 dL_isSound_195 (by decide) (fun ci57 => ?_) (fun ci57 => ?_)
            · rw [if_neg ci57] at hF
              exact w_L_isSound_202 C0 ih M v2 v3 v4 y42 y46 y46 fdq1 hv2 hv3 hv4 hg43 hg47 hg47 dq1 hdq1 H locs _ _ (by omega) hR hS ls (lv_sub hl [2, 3, 4, 5, 6, 1, 0] rfl) hF
            · rw [if_pos ci57] at hF
              refine x_iconst hx hb dL_isSound_198 ?_
              refine lv_goto (tgt := 203) hx hb dL_isSound_199 (by decide) ?_
              refine x_icmp_ne (tgt := 249) hx hb hg47 (by decide : rg (1 : Int)) dL_isSound_203 (by decide) (fun ci58 => ?_) (fun ci58 => ?_)
              · rw [if_neg ci58] at hF
                refine x_iconst hx hb dL_isSound_249 ?_
                cases hF
                exact l_zret hx hb hlocks hK hR hS (by have := hbu; omega) (by have := hbu; omega) (by decide) [] (by decide) rfl hr dL_isSound_250
              · rw [if_pos ci58] at hF
                refine lv_iload hx hb dL_isSound_206 (lv_at hl 0 rfl) ?_
                refine x_if_eq (tgt := 217) hx hb hg47 dL_isSound_208 (by decide) (fun ci59 => ?_) (fun ci59 => ?_)
                · rw [if_pos ci59] at hF
                  exact w_L_isSound_217 C0 ih M v2 v3 v4 y42 y46 fdq1 hv2 hv3 hv4 hg43 hg47 dq1 hdq1 H locs _ _ (by omega) hR hS ls (lv_sub hl [2, 3, 4, 5, 6, 1, 0] rfl) hF
                · rw [if_neg ci59] at hF
                  refine lv_iload hx hb dL_isSound_211 (lv_at hl 1 rfl) ?_
                  refine x_iconst hx hb dL_isSound_213 ?_
                  refine x_icmp_ne (tgt := 249) hx hb hg43 (by decide : rg (1 : Int)) dL_isSound_214 (by decide) (fun ci60 => ?_) (fun ci60 => ?_)
                  · rw [if_neg ci60] at hF
                    refine x_iconst hx hb dL_isSound_249 ?_
                    cases hF
                    exact l_zret hx hb hlocks hK hR hS (by have := hbu; omega) (by have := hbu; omega) (by decide) [] (by decide) rfl hr dL_isSound_250
                  · rw [if_pos ci60] at hF
                    exact w_L_isSound_217 C0 ih M v2 v3 v4 y42 y46 fdq1 hv2 hv3 hv4 hg43 hg47 dq1 hdq1 H locs _ _ (by omega) hR hS ls (lv_sub hl [2, 3, 4, 5, 6, 1, 0] rfl) hF
      · rw [if_pos ci44] at hF
        refine lv_goto (tgt := 317) hx hb dL_isSound_160 (by decide) ?_
        obtain ⟨hq61, hF⟩ := xk_some hF
        refine x_iinc (lv' := [(4, .int (jI (v4 + (1 : Int)))), (5, .int (jI y42)), (0, .ref (adr b 0 0)), (1, .ref dq1), (2, .int (jI v2)), (3, .int (jI v3))]) hx hb dL_isSound_317 hl (k := 5) rfl (by decide) rfl (fun ls hl => ?_)
        refine lv_goto (tgt := 140) hx hb dL_isSound_320 (by decide) ?_
        exact ih M v2 v3 (v4 + (1 : Int)) fdq1 hv2 hv3 hq61 dq1 hdq1 H locs _ _ (by omega) hR hS ls (lv_sub hl [2, 3, 4, 5, 0] rfl) hF
def F_L_isSound_113 (rec12 : Mm → Int → Int → Int → (Nat → Int) → Option (Int × Mm)) (rec38 : Mm → Int → Int → Int → Int → Int → (Nat → Int) → Option (Int × Mm)) (M : Mm) (v2 : Int) (v3 : Int) (v4 : Int) (v6 : Int) (v7 : Int) (v8 : Int) (fdq1 : Nat → Int) : Option (Int × Mm) := (xk (0 ≤ v8 ∧ v8 < 32) (xk (rg ((fdq1 v8.toNat) + (1 : Int))) (xk (0 ≤ v8 ∧ v8 < 32) (xl (fun k => if k = v8.toNat then ((fdq1 v8.toNat) + (1 : Int)) else fdq1 k) fun f5 => (xk (rg (v6 + (1 : Int))) (rec38 M v2 v3 v4 v7 (v6 + (1 : Int)) f5))))))
set_option maxHeartbeats 4000000 in
set_option maxRecDepth 100000 in
theorem w_L_isSound_113 {p : Program} {l : Launch} {e : Env} {s : State} {m : MethodId} {args : Array Value} {below : List Frame} {meth : Method} {c : Code} {g : Gx} {b : Nat} (C0 : XA p s m meth c args RL cL_isSound 9 (some .boolean) g) {r : Int} {M' : Mm} {rec12 : Mm → Int → Int → Int → (Nat → Int) → Option (Int × Mm)} (hrec12 : ∀ (M : Mm) (v2 : Int) (v3 : Int) (v4 : Int) (fdq1 : Nat → Int) (hv2 : rg v2) (hv3 : rg v3) (hv4 : rg v4) (dq1 : Nat) (hdq1 : s.heap.size ≤ dq1) (H : Heap) (locs : List Loc) (cells slots : Nat), cells + 0 ≤ 1 ∧ slots + 0 ≤ 32 → RD g b M [(dq1, 0, 32, fdq1)] H → va_S (AF b b s.heap.size) s.heap H locs → ∀ ls : Array Slot, lv_has ls 9 [(0, .ref (adr b 0 0)), (1, .ref dq1), (2, .int (jI v2)), (3, .int (jI v3)), (4, .int (jI v4))] → rec12 M  v2 v3 v4 fdq1 = some (r, M') → W p l e rmL_isSound s m args below meth c H locs cells slots (MQ below (rI g b r M' b [] s.heap.size) args s 1 32 (AF b b s.heap.size)) (F0 m 12 ls [])) {rec38 : Mm → Int → Int → Int → Int → Int → (Nat → Int) → Option (Int × Mm)} (hrec38 : ∀ (M : Mm) (v2 : Int) (v3 : Int) (v4 : Int) (v5 : Int) (v6 : Int) (fdq1 : Nat → Int) (hv2 : rg v2) (hv3 : rg v3) (hv4 : rg v4) (hv5 : rg v5) (hv6 : rg v6) (dq1 : Nat) (hdq1 : s.heap.size ≤ dq1) (H : Heap) (locs : List Loc) (cells slots : Nat), cells + 0 ≤ 1 ∧ slots + 0 ≤ 32 → RD g b M [(dq1, 0, 32, fdq1)] H → va_S (AF b b s.heap.size) s.heap H locs → ∀ ls : Array Slot, lv_has ls 9 [(0, .ref (adr b 0 0)), (1, .ref dq1), (2, .int (jI v2)), (3, .int (jI v3)), (4, .int (jI v4)), (5, .int (jI v5)), (6, .int (jI v6))] → rec38 M  v2 v3 v4 v5 v6 fdq1 = some (r, M') → W p l e rmL_isSound s m args below meth c H locs cells slots (MQ below (rI g b r M' b [] s.heap.size) args s 1 32 (AF b b s.heap.size)) (F0 m 38 ls [])) : ∀ (M : Mm) (v2 : Int) (v3 : Int) (v4 : Int) (v6 : Int) (v7 : Int) (v8 : Int) (fdq1 : Nat → Int) (hv2 : rg v2) (hv3 : rg v3) (hv4 : rg v4) (hv6 : rg v6) (hv7 : rg v7) (hv8 : rg v8) (dq1 : Nat) (hdq1 : s.heap.size ≤ dq1) (H : Heap) (locs : List Loc) (cells slots : Nat), cells + 0 ≤ 1 ∧ slots + 0 ≤ 32 → RD g b M [(dq1, 0, 32, fdq1)] H → va_S (AF b b s.heap.size) s.heap H locs → ∀ ls : Array Slot, lv_has ls 9 [(0, .ref (adr b 0 0)), (1, .ref dq1), (2, .int (jI v2)), (3, .int (jI v3)), (4, .int (jI v4)), (6, .int (jI v6)), (7, .int (jI v7)), (8, .int (jI v8))] → F_L_isSound_113 rec12 rec38 M  v2 v3 v4 v6 v7 v8 fdq1 = some (r, M') → W p l e rmL_isSound s m args below meth c H locs cells slots (MQ below (rI g b r M' b [] s.heap.size) args s 1 32 (AF b b s.heap.size)) (F0 m 113 ls []) := by
  obtain ⟨hx, hb, hr, hlocks, hml, hown, hts, hK⟩ := id C0
  have hA : ∀ q, AA b s.heap.size q → AF b b s.heap.size q := fun q h => Or.inl h
  intro M v2 v3 v4 v6 v7 v8 fdq1 hv2 hv3 hv4 hv6 hv7 hv8 dq1 hdq1 H locs cells slots hbu hR hS ls hl hF
  rw [F_L_isSound_113] at hF
  refine lv_aload_n hx hb dL_isSound_113 rfl (lv_at hl 1 rfl) ?_
  refine lv_iload hx hb dL_isSound_114 (lv_at hl 7 rfl) ?_
  refine lv_dup2_11 hx hb dL_isSound_116 rfl rfl ?_
  obtain ⟨hi1, hF⟩ := xk_some hF
  refine e_ld (bl := false) hx hb hK hR 0 rfl rfl hv8 hi1 dL_isSound_117 ?_
  have hg2 : rg (fdq1 v8.toNat) := (hR.2.1 0 _ rfl).2.2 _
  refine x_iconst hx hb dL_isSound_118 ?_
  obtain ⟨hq3, hF⟩ := xk_some hF
  refine x_iadd hx hb dL_isSound_119 ?_
  obtain ⟨hi4, hF⟩ := xk_some hF
  refine e_st (bl := false) hx hb hK hR hS 0 rfl rfl (Or.inl (Or.inr hdq1)) hv8 hq3 (fun h => nomatch h) hi4 dL_isSound_120 (fun H locs hR hS => ?_)
  obtain ⟨f5, eM, hF⟩ := xl_some hF
  have hR : RD g b M [(dq1, 0, 32, f5)] H := by have h9 := hR; rw [eM] at h9; exact h9
  clear eM
  refine lv_iload hx hb dL_isSound_121 (lv_at hl 6 rfl) ?_
  refine lv_istore (lv' := [(5, .int (jI v7)), (0, .ref (adr b 0 0)), (1, .ref dq1), (2, .int (jI v2)), (3, .int (jI v3)), (4, .int (jI v4)), (6, .int (jI v6)), (7, .int (jI v7)), (8, .int (jI v8))]) hx hb dL_isSound_123 hl (by decide) rfl (fun ls hl => ?_)
  obtain ⟨hq6, hF⟩ := xk_some hF
  refine x_iinc (lv' := [(6, .int (jI (v6 + (1 : Int)))), (5, .int (jI v7)), (0, .ref (adr b 0 0)), (1, .ref dq1), (2, .int (jI v2)), (3, .int (jI v3)), (4, .int (jI v4)), (7, .int (jI v7)), (8, .int (jI v8))]) hx hb dL_isSound_125 hl (k := 6) rfl (by decide) rfl (fun ls hl => ?_)
  refine lv_goto (tgt := 38) hx hb dL_isSound_128 (by decide) ?_
  exact hrec38 M v2 v3 v4 v7 (v6 + (1 : Int)) f5 hv2 hv3 hv4 hv7 hq6 dq1 hdq1 H locs _ _ (by omega) hR hS ls (lv_sub hl [2, 3, 4, 5, 6, 1, 0] rfl) hF
def F_L_isSound_38 (rec12 : Mm → Int → Int → Int → (Nat → Int) → Option (Int × Mm)) : Nat → Mm → Int → Int → Int → Int → Int → (Nat → Int) → Option (Int × Mm)
  | 0, _, _, _, _, _, _, _ => none
  | n + 1, M, v2, v3, v4, v5, v6, fdq1 => (xb1 (F_X3_sizeOf M v4) fun y2 => (if y2 ≤ v6 then (xk (rg (v4 + (1 : Int))) (rec12 M v2 v3 (v4 + (1 : Int)) fdq1)) else (xb1 (F_X3_nameAt M v4 v6) fun y7 => (xb1 (F_X3_lookup M v4 y7) fun y10 => (if y7 ≤ v5 then (some ((0 : Int), M)) else (if y10 < 0 then (some ((0 : Int), M)) else (xb1 (F_X3_typeOf M y10) fun y15 => (if y15 = 0 then (some ((0 : Int), M)) else (xb1 (F_X3_typeOf M y10) fun y19 => (if y19 = (2 : Int) then (xb1 (F_X3_parentOf M y10) fun y23 => (if y23 = v4 then (F_L_isSound_113 rec12 (F_L_isSound_38 rec12 n) M v2 v3 v4 v6 y7 y10 fdq1) else (some ((0 : Int), M)))) else (F_L_isSound_113 rec12 (F_L_isSound_38 rec12 n) M v2 v3 v4 v6 y7 y10 fdq1)))))))))))
set_option maxHeartbeats 4000000 in
set_option maxRecDepth 100000 in
theorem w_L_isSound_38 {p : Program} {l : Launch} {e : Env} {s : State} {m : MethodId} {args : Array Value} {below : List Frame} {meth : Method} {c : Code} {g : Gx} {b : Nat} (C0 : XA p s m meth c args RL cL_isSound 9 (some .boolean) g) {r : Int} {M' : Mm} {rec12 : Mm → Int → Int → Int → (Nat → Int) → Option (Int × Mm)} (hrec12 : ∀ (M : Mm) (v2 : Int) (v3 : Int) (v4 : Int) (fdq1 : Nat → Int) (hv2 : rg v2) (hv3 : rg v3) (hv4 : rg v4) (dq1 : Nat) (hdq1 : s.heap.size ≤ dq1) (H : Heap) (locs : List Loc) (cells slots : Nat), cells + 0 ≤ 1 ∧ slots + 0 ≤ 32 → RD g b M [(dq1, 0, 32, fdq1)] H → va_S (AF b b s.heap.size) s.heap H locs → ∀ ls : Array Slot, lv_has ls 9 [(0, .ref (adr b 0 0)), (1, .ref dq1), (2, .int (jI v2)), (3, .int (jI v3)), (4, .int (jI v4))] → rec12 M  v2 v3 v4 fdq1 = some (r, M') → W p l e rmL_isSound s m args below meth c H locs cells slots (MQ below (rI g b r M' b [] s.heap.size) args s 1 32 (AF b b s.heap.size)) (F0 m 12 ls [])) : ∀ n : Nat, ∀ (M : Mm) (v2 : Int) (v3 : Int) (v4 : Int) (v5 : Int) (v6 : Int) (fdq1 : Nat → Int) (hv2 : rg v2) (hv3 : rg v3) (hv4 : rg v4) (hv5 : rg v5) (hv6 : rg v6) (dq1 : Nat) (hdq1 : s.heap.size ≤ dq1) (H : Heap) (locs : List Loc) (cells slots : Nat), cells + 0 ≤ 1 ∧ slots + 0 ≤ 32 → RD g b M [(dq1, 0, 32, fdq1)] H → va_S (AF b b s.heap.size) s.heap H locs → ∀ ls : Array Slot, lv_has ls 9 [(0, .ref (adr b 0 0)), (1, .ref dq1), (2, .int (jI v2)), (3, .int (jI v3)), (4, .int (jI v4)), (5, .int (jI v5)), (6, .int (jI v6))] → F_L_isSound_38 rec12 n M  v2 v3 v4 v5 v6 fdq1 = some (r, M') → W p l e rmL_isSound s m args below meth c H locs cells slots (MQ below (rI g b r M' b [] s.heap.size) args s 1 32 (AF b b s.heap.size)) (F0 m 38 ls []) := by
  obtain ⟨hx, hb, hr, hlocks, hml, hown, hts, hK⟩ := id C0
  have hA : ∀ q, AA b s.heap.size q → AF b b s.heap.size q := fun q h => Or.inl h
  intro n
  induction n with
  | zero =>
    intro M v2 v3 v4 v5 v6 fdq1 hv2 hv3 hv4 hv5 hv6 dq1 hdq1 H locs cells slots hbu hR hS ls hl hF
    rw [F_L_isSound_38] at hF
    cases hF
  | succ n ih =>
    intro M v2 v3 v4 v5 v6 fdq1 hv2 hv3 hv4 hv5 hv6 dq1 hdq1 H locs cells slots hbu hR hS ls hl hF
    rw [F_L_isSound_38] at hF
    refine lv_iload hx hb dL_isSound_38 (lv_at hl 6 rfl) ?_
    refine lv_aload_n hx hb dL_isSound_40 rfl (lv_at hl 0 rfl) ?_
    refine lv_iload hx hb dL_isSound_41 (lv_at hl 4 rfl) ?_
    obtain ⟨y2, hc1, hF⟩ := xb1_some hF
    refine l_cVi (As := [.int (jI v4)]) (rest := [.int (jI v6)]) hx hb hml hown hts hK hR hS hA (c_X3_sizeOf hv4 hc1) wd338 wd339 wd340 wd1 wd341 hyX3_sizeOf ⟨rfl, rfl⟩ ⟨Nat.le_of_ble_eq_true rfl, Nat.le_of_ble_eq_true rfl⟩ hl.1 (Nat.le_of_ble_eq_true rfl) dL_isSound_43 ⟨by have := hbu; simp only [rmL_isSound]; omega, by have := hbu; simp only [rmL_isSound]; omega⟩ rfl (fun hg3 H locs hR hS => ?_)
    refine x_icmp_ge (tgt := 131) hx hb hv6 hg3 dL_isSound_46 (by decide) (fun ci4 => ?_) (fun ci4 => ?_)
    · rw [if_pos ci4] at hF
      obtain ⟨hq5, hF⟩ := xk_some hF
      refine x_iinc (lv' := [(4, .int (jI (v4 + (1 : Int)))), (0, .ref (adr b 0 0)), (1, .ref dq1), (2, .int (jI v2)), (3, .int (jI v3)), (5, .int (jI v5)), (6, .int (jI v6))]) hx hb dL_isSound_131 hl (k := 4) rfl (by decide) rfl (fun ls hl => ?_)
      refine lv_goto (tgt := 12) hx hb dL_isSound_134 (by decide) ?_
      exact hrec12 M v2 v3 (v4 + (1 : Int)) fdq1 hv2 hv3 hq5 dq1 hdq1 H locs _ _ (by omega) hR hS ls (lv_sub hl [1, 2, 3, 4, 0] rfl) hF
    · rw [if_neg ci4] at hF
      refine lv_aload_n hx hb dL_isSound_49 rfl (lv_at hl 0 rfl) ?_
      refine lv_iload hx hb dL_isSound_50 (lv_at hl 4 rfl) ?_
      refine lv_iload hx hb dL_isSound_52 (lv_at hl 6 rfl) ?_
      obtain ⟨y7, hc6, hF⟩ := xb1_some hF
      refine l_cVi (As := [.int (jI v4), .int (jI v6)]) (rest := []) hx hb hml hown hts hK hR hS hA (c_X3_nameAt hv4 hv6 hc6) wd829 wd830 wd831 wd1 wd832 hyX3_nameAt ⟨rfl, rfl⟩ ⟨Nat.le_of_ble_eq_true rfl, Nat.le_of_ble_eq_true rfl⟩ hl.1 (Nat.le_of_ble_eq_true rfl) dL_isSound_54 ⟨by have := hbu; simp only [rmL_isSound]; omega, by have := hbu; simp only [rmL_isSound]; omega⟩ rfl (fun hg8 H locs hR hS => ?_)
      refine lv_istore (lv' := [(7, .int (jI y7)), (0, .ref (adr b 0 0)), (1, .ref dq1), (2, .int (jI v2)), (3, .int (jI v3)), (4, .int (jI v4)), (5, .int (jI v5)), (6, .int (jI v6))]) hx hb dL_isSound_57 hl (by decide) rfl (fun ls hl => ?_)
      refine lv_aload_n hx hb dL_isSound_59 rfl (lv_at hl 1 rfl) ?_
      refine lv_iload hx hb dL_isSound_60 (lv_at hl 5 rfl) ?_
      refine lv_iload hx hb dL_isSound_62 (lv_at hl 0 rfl) ?_
      obtain ⟨y10, hc9, hF⟩ := xb1_some hF
      refine l_cVi (As := [.int (jI v4), .int (jI y7)]) (rest := []) hx hb hml hown hts hK hR hS hA (c_X3_lookup hv4 hg8 hc9) wd833 wd834 wd835 wd1 wd836 hyX3_lookup ⟨rfl, rfl⟩ ⟨Nat.le_of_ble_eq_true rfl, Nat.le_of_ble_eq_true rfl⟩ hl.1 (Nat.le_of_ble_eq_true rfl) dL_isSound_64 ⟨by have := hbu; simp only [rmL_isSound]; omega, by have := hbu; simp only [rmL_isSound]; omega⟩ rfl (fun hg11 H locs hR hS => ?_)
      refine lv_istore (lv' := [(8, .int (jI y10)), (7, .int (jI y7)), (0, .ref (adr b 0 0)), (1, .ref dq1), (2, .int (jI v2)), (3, .int (jI v3)), (4, .int (jI v4)), (5, .int (jI v5)), (6, .int (jI v6))]) hx hb dL_isSound_67 hl (by decide) rfl (fun ls hl => ?_)
      refine lv_iload hx hb dL_isSound_69 (lv_at hl 1 rfl) ?_
      refine lv_iload hx hb dL_isSound_71 (lv_at hl 7 rfl) ?_
      refine x_icmp_le (tgt := 111) hx hb hg8 hv5 dL_isSound_73 (by decide) (fun ci12 => ?_) (fun ci12 => ?_)
      · rw [if_pos ci12] at hF
        refine x_iconst hx hb dL_isSound_111 ?_
        cases hF
        exact l_zret hx hb hlocks hK hR hS (by have := hbu; omega) (by have := hbu; omega) (by decide) [] (by decide) rfl hr dL_isSound_112
      · rw [if_neg ci12] at hF
        refine lv_iload hx hb dL_isSound_76 (lv_at hl 0 rfl) ?_
        refine x_if_lt (tgt := 111) hx hb hg11 dL_isSound_78 (by decide) (fun ci13 => ?_) (fun ci13 => ?_)
        · rw [if_pos ci13] at hF
          refine x_iconst hx hb dL_isSound_111 ?_
          cases hF
          exact l_zret hx hb hlocks hK hR hS (by have := hbu; omega) (by have := hbu; omega) (by decide) [] (by decide) rfl hr dL_isSound_112
        · rw [if_neg ci13] at hF
          refine lv_aload_n hx hb dL_isSound_81 rfl (lv_at hl 2 rfl) ?_
          refine lv_iload hx hb dL_isSound_82 (lv_at hl 0 rfl) ?_
          obtain ⟨y15, hc14, hF⟩ := xb1_some hF
          refine l_cVi (As := [.int (jI y10)]) (rest := []) hx hb hml hown hts hK hR hS hA (c_X3_typeOf hg11 hc14) wd333 wd334 wd335 wd1 wd336 hyX3_typeOf ⟨rfl, rfl⟩ ⟨Nat.le_of_ble_eq_true rfl, Nat.le_of_ble_eq_true rfl⟩ hl.1 (Nat.le_of_ble_eq_true rfl) dL_isSound_84 ⟨by have := hbu; simp only [rmL_isSound]; omega, by have := hbu; simp only [rmL_isSound]; omega⟩ rfl (fun hg16 H locs hR hS => ?_)
          refine x_if_eq (tgt := 111) hx hb hg16 dL_isSound_87 (by decide) (fun ci17 => ?_) (fun ci17 => ?_)
          · rw [if_pos ci17] at hF
            refine x_iconst hx hb dL_isSound_111 ?_
            cases hF
            exact l_zret hx hb hlocks hK hR hS (by have := hbu; omega) (by have := hbu; omega) (by decide) [] (by decide) rfl hr dL_isSound_112
          · rw [if_neg ci17] at hF
            refine lv_aload_n hx hb dL_isSound_90 rfl (lv_at hl 2 rfl) ?_
            refine lv_iload hx hb dL_isSound_91 (lv_at hl 0 rfl) ?_
            obtain ⟨y19, hc18, hF⟩ := xb1_some hF
            refine l_cVi (As := [.int (jI y10)]) (rest := []) hx hb hml hown hts hK hR hS hA (c_X3_typeOf hg11 hc18) wd333 wd334 wd335 wd1 wd336 hyX3_typeOf ⟨rfl, rfl⟩ ⟨Nat.le_of_ble_eq_true rfl, Nat.le_of_ble_eq_true rfl⟩ hl.1 (Nat.le_of_ble_eq_true rfl) dL_isSound_93 ⟨by have := hbu; simp only [rmL_isSound]; omega, by have := hbu; simp only [rmL_isSound]; omega⟩ rfl (fun hg20 H locs hR hS => ?_)
            refine x_iconst hx hb dL_isSound_96 ?_
            refine x_icmp_ne (tgt := 113) hx hb hg20 (by decide : rg (2 : Int)) dL_isSound_97 (by decide) (fun ci21 => ?_) (fun ci21 => ?_)
            · rw [if_neg ci21] at hF
              exact w_L_isSound_113 C0 hrec12 ih M v2 v3 v4 v6 y7 y10 fdq1 hv2 hv3 hv4 hv6 hg8 hg11 dq1 hdq1 H locs _ _ (by omega) hR hS ls (lv_sub hl [2, 3, 4, 5, 6, 8, 1, 0] rfl) hF
            · rw [if_pos ci21] at hF
              refine lv_aload_n hx hb dL_isSound_100 rfl (lv_at hl 2 rfl) ?_
              refine lv_iload hx hb dL_isSound_101 (lv_at hl 0 rfl) ?_
              obtain ⟨y23, hc22, hF⟩ := xb1_some hF
              refine l_cVi (As := [.int (jI y10)]) (rest := []) hx hb hml hown hts hK hR hS hA (c_X3_parentOf hg11 hc22) wd837 wd491 wd492 wd1 wd493 hyX3_parentOf ⟨rfl, rfl⟩ ⟨Nat.le_of_ble_eq_true rfl, Nat.le_of_ble_eq_true rfl⟩ hl.1 (Nat.le_of_ble_eq_true rfl) dL_isSound_103 ⟨by have := hbu; simp only [rmL_isSound]; omega, by have := hbu; simp only [rmL_isSound]; omega⟩ rfl (fun hg24 H locs hR hS => ?_)
              refine lv_iload hx hb dL_isSound_106 (lv_at hl 6 rfl) ?_
              refine x_icmp_eq (tgt := 113) hx hb hg24 hv4 dL_isSound_108 (by decide) (fun ci25 => ?_) (fun ci25 => ?_)
              · rw [if_pos ci25] at hF
                exact w_L_isSound_113 C0 hrec12 ih M v2 v3 v4 v6 y7 y10 fdq1 hv2 hv3 hv4 hv6 hg8 hg11 dq1 hdq1 H locs _ _ (by omega) hR hS ls (lv_sub hl [2, 3, 4, 5, 6, 8, 1, 0] rfl) hF
              · rw [if_neg ci25] at hF
                refine x_iconst hx hb dL_isSound_111 ?_
                cases hF
                exact l_zret hx hb hlocks hK hR hS (by have := hbu; omega) (by have := hbu; omega) (by decide) [] (by decide) rfl hr dL_isSound_112
def F_L_isSound_12  : Nat → Mm → Int → Int → Int → (Nat → Int) → Option (Int × Mm)
  | 0, _, _, _, _, _ => none
  | n + 1, M, v2, v3, v4, fdq1 => (if (32 : Int) ≤ v4 then (F_L_isSound_140  FU M v2 v3 (0 : Int) fdq1) else (xb1 (F_X3_typeOf M v4) fun y63 => (if y63 = (2 : Int) then (F_L_isSound_38 (F_L_isSound_12  n) FU M v2 v3 v4 (0 : Int) (0 : Int) fdq1) else (xk (rg (v4 + (1 : Int))) (F_L_isSound_12  n M v2 v3 (v4 + (1 : Int)) fdq1)))))
set_option maxHeartbeats 4000000 in
set_option maxRecDepth 100000 in
theorem w_L_isSound_12 {p : Program} {l : Launch} {e : Env} {s : State} {m : MethodId} {args : Array Value} {below : List Frame} {meth : Method} {c : Code} {g : Gx} {b : Nat} (C0 : XA p s m meth c args RL cL_isSound 9 (some .boolean) g) {r : Int} {M' : Mm} : ∀ n : Nat, ∀ (M : Mm) (v2 : Int) (v3 : Int) (v4 : Int) (fdq1 : Nat → Int) (hv2 : rg v2) (hv3 : rg v3) (hv4 : rg v4) (dq1 : Nat) (hdq1 : s.heap.size ≤ dq1) (H : Heap) (locs : List Loc) (cells slots : Nat), cells + 0 ≤ 1 ∧ slots + 0 ≤ 32 → RD g b M [(dq1, 0, 32, fdq1)] H → va_S (AF b b s.heap.size) s.heap H locs → ∀ ls : Array Slot, lv_has ls 9 [(0, .ref (adr b 0 0)), (1, .ref dq1), (2, .int (jI v2)), (3, .int (jI v3)), (4, .int (jI v4))] → F_L_isSound_12  n M  v2 v3 v4 fdq1 = some (r, M') → W p l e rmL_isSound s m args below meth c H locs cells slots (MQ below (rI g b r M' b [] s.heap.size) args s 1 32 (AF b b s.heap.size)) (F0 m 12 ls []) := by
  obtain ⟨hx, hb, hr, hlocks, hml, hown, hts, hK⟩ := id C0
  have hA : ∀ q, AA b s.heap.size q → AF b b s.heap.size q := fun q h => Or.inl h
  intro n
  induction n with
  | zero =>
    intro M v2 v3 v4 fdq1 hv2 hv3 hv4 dq1 hdq1 H locs cells slots hbu hR hS ls hl hF
    rw [F_L_isSound_12] at hF
    cases hF
  | succ n ih =>
    intro M v2 v3 v4 fdq1 hv2 hv3 hv4 dq1 hdq1 H locs cells slots hbu hR hS ls hl hF
    rw [F_L_isSound_12] at hF
    refine lv_iload hx hb dL_isSound_12 (lv_at hl 4 rfl) ?_
    refine x_bipush hx hb (by decide +kernel) dL_isSound_14 ?_
    refine x_icmp_ge (tgt := 137) hx hb hv4 (by decide : rg (32 : Int)) dL_isSound_16 (by decide) (fun ci1 => ?_) (fun ci1 => ?_)
    · rw [if_pos ci1] at hF
      refine x_iconst hx hb dL_isSound_137 ?_
      refine lv_istore (lv' := [(4, .int (jI (0 : Int))), (0, .ref (adr b 0 0)), (1, .ref dq1), (2, .int (jI v2)), (3, .int (jI v3))]) hx hb dL_isSound_138 hl (by decide) rfl (fun ls hl => ?_)
      exact w_L_isSound_140 C0  FU M v2 v3 (0 : Int) fdq1 hv2 hv3 (by decide : rg (0 : Int)) dq1 hdq1 H locs _ _ (by omega) hR hS ls (lv_sub hl [1, 2, 3, 4, 0] rfl) hF
    · rw [if_neg ci1] at hF
      refine lv_aload_n hx hb dL_isSound_19 rfl (lv_at hl 0 rfl) ?_
      refine lv_iload hx hb dL_isSound_20 (lv_at hl 4 rfl) ?_
      obtain ⟨y63, hc62, hF⟩ := xb1_some hF
      refine l_cVi (As := [.int (jI v4)]) (rest := []) hx hb hml hown hts hK hR hS hA (c_X3_typeOf hv4 hc62) wd333 wd334 wd335 wd1 wd336 hyX3_typeOf ⟨rfl, rfl⟩ ⟨Nat.le_of_ble_eq_true rfl, Nat.le_of_ble_eq_true rfl⟩ hl.1 (Nat.le_of_ble_eq_true rfl) dL_isSound_22 ⟨by have := hbu; simp only [rmL_isSound]; omega, by have := hbu; simp only [rmL_isSound]; omega⟩ rfl (fun hg64 H locs hR hS => ?_)
      refine x_iconst hx hb dL_isSound_25 ?_
      refine x_icmp_eq (tgt := 32) hx hb hg64 (by decide : rg (2 : Int)) dL_isSound_26 (by decide) (fun ci65 => ?_) (fun ci65 => ?_)
      · rw [if_pos ci65] at hF
        refine x_iconst hx hb dL_isSound_32 ?_
        refine lv_istore (lv' := [(5, .int (jI (0 : Int))), (0, .ref (adr b 0 0)), (1, .ref dq1), (2, .int (jI v2)), (3, .int (jI v3)), (4, .int (jI v4))]) hx hb dL_isSound_33 hl (by decide) rfl (fun ls hl => ?_)
        refine x_iconst hx hb dL_isSound_35 ?_
        refine lv_istore (lv' := [(6, .int (jI (0 : Int))), (5, .int (jI (0 : Int))), (0, .ref (adr b 0 0)), (1, .ref dq1), (2, .int (jI v2)), (3, .int (jI v3)), (4, .int (jI v4))]) hx hb dL_isSound_36 hl (by decide) rfl (fun ls hl => ?_)
        exact w_L_isSound_38 C0 ih FU M v2 v3 v4 (0 : Int) (0 : Int) fdq1 hv2 hv3 hv4 (by decide : rg (0 : Int)) (by decide : rg (0 : Int)) dq1 hdq1 H locs _ _ (by omega) hR hS ls (lv_sub hl [2, 3, 4, 5, 6, 1, 0] rfl) hF
      · rw [if_neg ci65] at hF
        refine lv_goto (tgt := 131) hx hb dL_isSound_29 (by decide) ?_
        obtain ⟨hq66, hF⟩ := xk_some hF
        refine x_iinc (lv' := [(4, .int (jI (v4 + (1 : Int)))), (0, .ref (adr b 0 0)), (1, .ref dq1), (2, .int (jI v2)), (3, .int (jI v3))]) hx hb dL_isSound_131 hl (k := 4) rfl (by decide) rfl (fun ls hl => ?_)
        refine lv_goto (tgt := 12) hx hb dL_isSound_134 (by decide) ?_
        exact ih M v2 v3 (v4 + (1 : Int)) fdq1 hv2 hv3 hq66 dq1 hdq1 H locs _ _ (by omega) hR hS ls (lv_sub hl [1, 2, 3, 4, 0] rfl) hF
def F_L_isSound (M : Mm) : Option (Int × Mm) := (F_L_isSound_12  FU M (0 : Int) (0 : Int) (0 : Int) (fun _ => 0))
set_option maxHeartbeats 4000000 in
set_option maxRecDepth 100000 in
theorem c_L_isSound {l : Launch} {g : Gx} {b : Nat} {M : Mm} {r : Int} {M' : Mm} (hF : F_L_isSound M = some (r, M')) : Cl l yL_isSound cL_isSound 9 (some .boolean) rmL_isSound g b b [.ref (adr b 0 0)] M [] 1 32 (rI g b r M' b []) := by
  refine cl_of (by decide +kernel) (Nat.le_of_ble_eq_true rfl) ?_
  intro p e s m args below meth c C0 hR ls hl
  obtain ⟨hx, hb, hr, hlocks, hml, hown, hts, hK⟩ := id C0
  have hA : ∀ q, AA b s.heap.size q → AF b b s.heap.size q := fun q h => Or.inl h
  have hS : va_S (AF b b s.heap.size) s.heap s.heap [] := va_S.rf
  have hl : lv_has ls 9 [(0, .ref (adr b 0 0))] := hl
  obtain ⟨H, hH⟩ : ∃ z, z = s.heap := ⟨_, rfl⟩
  obtain ⟨locs, hlo⟩ : ∃ z : List Loc, z = [] := ⟨_, rfl⟩
  obtain ⟨cells, hce⟩ : ∃ z : Nat, z = 0 := ⟨_, rfl⟩
  obtain ⟨slots, hsl⟩ : ∃ z : Nat, z = 0 := ⟨_, rfl⟩
  have hbu := And.intro hce hsl
  have hR : RD g b M [] H := by rw [hH]; exact hR
  have hS : va_S (AF b b s.heap.size) s.heap H locs := by rw [hH, hlo]; exact hS
  suffices hW : W p l e rmL_isSound s m args below meth c H locs cells slots (MQ below (rI g b r M' b [] s.heap.size) args s 1 32 (AF b b s.heap.size)) (F0 m 0 ls []) by rw [hH, hlo, hce, hsl] at hW; exact hW
  rw [F_L_isSound] at hF
  refine x_bipush hx hb (by decide +kernel) dL_isSound_0 ?_
  refine e_new (atype := .int) (kd := 0) (N := 32) hx hb hts wd87 rfl rfl (fun cA h => Option.some.inj (h.symm.trans (hK.2 0 _ rfl).2)) hR hS (by decide : rg (32 : Int)) rfl (by decide) (show _ ≤ _ from (by have := hbu; simp only [rmL_isSound]; omega)) (show _ ≤ _ from (by have := hbu; simp only [rmL_isSound]; omega)) dL_isSound_2 (fun dq1 H hdq1 hR hS => ?_)
  have hR : RD g b M [(dq1, 0, 32, (fun _ => 0))] H := hR
  obtain ⟨cells, hce⟩ : ∃ z, z = cells + 1 := ⟨_, rfl⟩; obtain ⟨slots, hsl⟩ : ∃ z, z = slots + 32 := ⟨_, rfl⟩; rw [← hce, ← hsl]; have hbu := And.intro hbu (And.intro hce hsl)
  refine lv_astore_n (lv' := [(1, .ref dq1), (0, .ref (adr b 0 0))]) hx hb dL_isSound_4 rfl hl (by decide) rfl (fun ls hl => ?_)
  refine x_iconst hx hb dL_isSound_5 ?_
  refine lv_istore_n (lv' := [(2, .int (jI (0 : Int))), (1, .ref dq1), (0, .ref (adr b 0 0))]) hx hb dL_isSound_6 rfl hl (by decide) rfl (fun ls hl => ?_)
  refine x_iconst hx hb dL_isSound_7 ?_
  refine lv_istore_n (lv' := [(3, .int (jI (0 : Int))), (2, .int (jI (0 : Int))), (1, .ref dq1), (0, .ref (adr b 0 0))]) hx hb dL_isSound_8 rfl hl (by decide) rfl (fun ls hl => ?_)
  refine x_iconst hx hb dL_isSound_9 ?_
  refine lv_istore (lv' := [(4, .int (jI (0 : Int))), (3, .int (jI (0 : Int))), (2, .int (jI (0 : Int))), (1, .ref dq1), (0, .ref (adr b 0 0))]) hx hb dL_isSound_10 hl (by decide) rfl (fun ls hl => ?_)
  exact w_L_isSound_12 C0  FU M (0 : Int) (0 : Int) (0 : Int) (fun _ => 0) (by decide : rg (0 : Int)) (by decide : rg (0 : Int)) (by decide : rg (0 : Int)) dq1 hdq1 H locs _ _ (by omega) hR hS ls (lv_sub hl [4, 3, 2, 1, 0] rfl) hF
