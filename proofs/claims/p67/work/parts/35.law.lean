def F_L_law_303 (xs : Nat → Int32) (L : Nat)  : Nat → Mm → Int → Int → (Nat → Int) → (Nat → Int) → Option (Int × Mm)
  | 0, _, _, _, _, _ => none
  | n + 1, M, v5, v9, fdq2, fdq3 => (if (32 : Int) ≤ v9 then (xb1 (F_X3_changes M ) fun y3 => (if y3 = v5 then (xb1 (F_X3_handles M ) fun y7 => (if y7 = 0 then (xb1 (F_X3_waiting M ) fun y11 => (if y11 = 0 then (xb2 (F_L_isSound M ) fun y15 M16 => (if y15 = 0 then (some ((0 : Int), M16)) else (some ((1 : Int), M16)))) else (some ((0 : Int), M)))) else (some ((0 : Int), M)))) else (some ((0 : Int), M)))) else (xb1 (F_X3_typeOf M v9) fun y20 => (xk (0 ≤ v9 ∧ v9 < 32) (if y20 = (fdq3 v9.toNat) then (xk (0 ≤ v9 ∧ v9 < 32) (if (fdq3 v9.toNat) ≤ 0 then (xk (rg (v9 + (1 : Int))) (F_L_law_303 xs L  n M v5 (v9 + (1 : Int)) fdq2 fdq3)) else (xb1 (F_X3_sizeOf M v9) fun y30 => (xk (0 ≤ v9 ∧ v9 < 32) (if y30 = (fdq2 v9.toNat) then (xk (rg (v9 + (1 : Int))) (F_L_law_303 xs L  n M v5 (v9 + (1 : Int)) fdq2 fdq3)) else (some ((0 : Int), M))))))) else (some ((0 : Int), M))))))
set_option maxHeartbeats 4000000 in
set_option maxRecDepth 100000 in
theorem w_L_law_303 {p : Program} {l : Launch} {e : Env} {s : State} {m : MethodId} {args : Array Value} {below : List Frame} {meth : Method} {c : Code} {g : Gx} {b b0 L : Nat} {xs : Nat → Int32} {Q : State → Prop} (C0 : LA p s m c args b0 L xs g b) {r : Int} {M' : Mm} (hret : ∀ (H : Heap) (locs : List Loc) (ls : Array Slot) (cells slots pc : Nat), cells ≤ 600086 → slots ≤ 7301442 → va_S (fun a => s.heap.size ≤ a) s.heap H locs → decode cL_law pc = .ok (.ireturn, 1) → W p l e room_1 s m args below meth c H locs cells slots Q (F0 m pc ls [.int (jI r)])) : ∀ n : Nat, ∀ (M : Mm) (v5 : Int) (v9 : Int) (fdq2 : Nat → Int) (fdq3 : Nat → Int) (hv5 : rg v5) (hv9 : rg v9) (dq2 : Nat) (dq3 : Nat) (hdq2 : s.heap.size ≤ dq2) (hdq3 : s.heap.size ≤ dq3) (H : Heap) (locs : List Loc) (cells slots : Nat), cells + 1 ≤ 600086 ∧ slots + 32 ≤ 7301442 → RD g b M [(dq2, 0, 32, fdq2), (dq3, 0, 32, fdq3)] H → va_S (fun a => s.heap.size ≤ a) s.heap H locs → ∀ ls : Array Slot, lv_has ls 10 [(1, .ref (adr b 0 0)), (5, .int (jI v5)), (7, .ref dq2), (8, .ref dq3), (9, .int (jI v9))] → F_L_law_303 xs L  n M  v5 v9 fdq2 fdq3 = some (r, M') → W p l e room_1 s m args below meth c H locs cells slots Q (F0 m 303 ls []) := by
  obtain ⟨hx, hb, hml, hown, hts, hX, hbl, hK, hbZ⟩ := id C0
  have hA : ∀ q, AA b s.heap.size q → (fun a => s.heap.size ≤ a) q := fun q h => h.elim (fun z => by show s.heap.size ≤ q; omega) (fun z => z)
  intro n
  induction n with
  | zero =>
    intro M v5 v9 fdq2 fdq3 hv5 hv9 dq2 dq3 hdq2 hdq3 H locs cells slots hbu hR hS ls hl hF
    rw [F_L_law_303] at hF
    cases hF
  | succ n ih =>
    intro M v5 v9 fdq2 fdq3 hv5 hv9 dq2 dq3 hdq2 hdq3 H locs cells slots hbu hR hS ls hl hF
    rw [F_L_law_303] at hF
    refine lv_iload hx hb dL_law_303 (lv_at hl 4 rfl) ?_
    refine x_bipush hx hb (by decide +kernel) dL_law_305 ?_
    refine x_icmp_ge (tgt := 354) hx hb hv9 (by decide : rg (32 : Int)) dL_law_307 (by decide) (fun ci1 => ?_) (fun ci1 => ?_)
    · rw [if_pos ci1] at hF
      refine lv_aload_n hx hb dL_law_354 rfl (lv_at hl 0 rfl) ?_
      obtain ⟨y3, hc2, hF⟩ := xb1_some hF
      refine l_cVi (As := []) (rest := []) hx hb hml hown hts hK hR hS hA (c_X3_changes  hc2) wd329 wd330 wd331 wd1 wd332 hyX3_changes ⟨rfl, rfl⟩ ⟨Nat.le_of_ble_eq_true rfl, Nat.le_of_ble_eq_true rfl⟩ hl.1 (Nat.le_of_ble_eq_true rfl) dL_law_355 ⟨by have := hbu; simp only [room_1]; omega, by have := hbu; simp only [room_1]; omega⟩ rfl (fun hg4 H locs hR hS => ?_)
      refine lv_iload hx hb dL_law_358 (lv_at hl 1 rfl) ?_
      refine x_icmp_ne (tgt := 388) hx hb hg4 hv5 dL_law_360 (by decide) (fun ci5 => ?_) (fun ci5 => ?_)
      · rw [if_neg ci5] at hF
        refine x_iconst hx hb dL_law_388 ?_
        cases hF
        exact hret H locs ls _ _ _ (by have := hbu; omega) (by have := hbu; omega) hS dL_law_389
      · rw [if_pos ci5] at hF
        refine lv_aload_n hx hb dL_law_363 rfl (lv_at hl 0 rfl) ?_
        obtain ⟨y7, hc6, hF⟩ := xb1_some hF
        refine l_cVi (As := []) (rest := []) hx hb hml hown hts hK hR hS hA (c_X3_handles  hc6) wd166 wd167 wd168 wd1 wd169 hyX3_handles ⟨rfl, rfl⟩ ⟨Nat.le_of_ble_eq_true rfl, Nat.le_of_ble_eq_true rfl⟩ hl.1 (Nat.le_of_ble_eq_true rfl) dL_law_364 ⟨by have := hbu; simp only [room_1]; omega, by have := hbu; simp only [room_1]; omega⟩ rfl (fun hg8 H locs hR hS => ?_)
        refine x_if_ne (tgt := 388) hx hb hg8 dL_law_367 (by decide) (fun ci9 => ?_) (fun ci9 => ?_)
        · rw [if_neg ci9] at hF
          refine x_iconst hx hb dL_law_388 ?_
          cases hF
          exact hret H locs ls _ _ _ (by have := hbu; omega) (by have := hbu; omega) hS dL_law_389
        · rw [if_pos ci9] at hF
          refine lv_aload_n hx hb dL_law_370 rfl (lv_at hl 0 rfl) ?_
          obtain ⟨y11, hc10, hF⟩ := xb1_some hF
          refine l_cVi (As := []) (rest := []) hx hb hml hown hts hK hR hS hA (c_X3_waiting  hc10) wd325 wd326 wd327 wd1 wd328 hyX3_waiting ⟨rfl, rfl⟩ ⟨Nat.le_of_ble_eq_true rfl, Nat.le_of_ble_eq_true rfl⟩ hl.1 (Nat.le_of_ble_eq_true rfl) dL_law_371 ⟨by have := hbu; simp only [room_1]; omega, by have := hbu; simp only [room_1]; omega⟩ rfl (fun hg12 H locs hR hS => ?_)
          refine x_if_ne (tgt := 388) hx hb hg12 dL_law_374 (by decide) (fun ci13 => ?_) (fun ci13 => ?_)
          · rw [if_neg ci13] at hF
            refine x_iconst hx hb dL_law_388 ?_
            cases hF
            exact hret H locs ls _ _ _ (by have := hbu; omega) (by have := hbu; omega) hS dL_law_389
          · rw [if_pos ci13] at hF
            refine lv_aload_n hx hb dL_law_377 rfl (lv_at hl 0 rfl) ?_
            obtain ⟨y15, M16, hc14, hF⟩ := xb2_some hF
            refine l_cS0 (As := [.ref (adr b 0 0)]) (rest := []) hx hb hml hown hts hK hR hS hA (c_L_isSound  hc14) wd826 wd827 wd0 wd828 hyL_isSound ⟨rfl, rfl⟩ ⟨Nat.le_of_ble_eq_true rfl, Nat.le_of_ble_eq_true rfl⟩ hl.1 (Nat.le_of_ble_eq_true rfl) dL_law_378 ⟨by have := hbu; simp only [room_1]; omega, by have := hbu; simp only [room_1]; omega⟩ rfl (fun hg17 H locs hR hS => ?_)
            obtain ⟨cells, hce⟩ : ∃ z, z = cells + 1 := ⟨_, rfl⟩; obtain ⟨slots, hsl⟩ : ∃ z, z = slots + 32 := ⟨_, rfl⟩; rw [← hce, ← hsl]; have hbu := And.intro hbu (And.intro hce hsl)
            refine x_if_eq (tgt := 388) hx hb hg17 dL_law_381 (by decide) (fun ci18 => ?_) (fun ci18 => ?_)
            · rw [if_pos ci18] at hF
              refine x_iconst hx hb dL_law_388 ?_
              cases hF
              exact hret H locs ls _ _ _ (by have := hbu; omega) (by have := hbu; omega) hS dL_law_389
            · rw [if_neg ci18] at hF
              refine x_iconst hx hb dL_law_384 ?_
              refine lv_goto (tgt := 389) hx hb dL_law_385 (by decide) ?_
              cases hF
              exact hret H locs ls _ _ _ (by have := hbu; omega) (by have := hbu; omega) hS dL_law_389
    · rw [if_neg ci1] at hF
      refine lv_aload_n hx hb dL_law_310 rfl (lv_at hl 0 rfl) ?_
      refine lv_iload hx hb dL_law_311 (lv_at hl 4 rfl) ?_
      obtain ⟨y20, hc19, hF⟩ := xb1_some hF
      refine l_cVi (As := [.int (jI v9)]) (rest := []) hx hb hml hown hts hK hR hS hA (c_X3_typeOf hv9 hc19) wd333 wd334 wd335 wd1 wd336 hyX3_typeOf ⟨rfl, rfl⟩ ⟨Nat.le_of_ble_eq_true rfl, Nat.le_of_ble_eq_true rfl⟩ hl.1 (Nat.le_of_ble_eq_true rfl) dL_law_313 ⟨by have := hbu; simp only [room_1]; omega, by have := hbu; simp only [room_1]; omega⟩ rfl (fun hg21 H locs hR hS => ?_)
      refine lv_aload hx hb dL_law_316 (lv_at hl 3 rfl) ?_
      refine lv_iload hx hb dL_law_318 (lv_at hl 4 rfl) ?_
      obtain ⟨hi22, hF⟩ := xk_some hF
      refine e_ld (bl := false) hx hb hK hR 1 rfl rfl hv9 hi22 dL_law_320 ?_
      have hg23 : rg (fdq3 v9.toNat) := (hR.2.1 1 _ rfl).2.2 _
      refine x_icmp_ne (tgt := 346) hx hb hg21 hg23 dL_law_321 (by decide) (fun ci24 => ?_) (fun ci24 => ?_)
      · rw [if_neg ci24] at hF
        refine x_iconst hx hb dL_law_346 ?_
        cases hF
        exact hret H locs ls _ _ _ (by have := hbu; omega) (by have := hbu; omega) hS dL_law_347
      · rw [if_pos ci24] at hF
        refine lv_aload hx hb dL_law_324 (lv_at hl 3 rfl) ?_
        refine lv_iload hx hb dL_law_326 (lv_at hl 4 rfl) ?_
        obtain ⟨hi25, hF⟩ := xk_some hF
        refine e_ld (bl := false) hx hb hK hR 1 rfl rfl hv9 hi25 dL_law_328 ?_
        have hg26 : rg (fdq3 v9.toNat) := (hR.2.1 1 _ rfl).2.2 _
        refine x_if_le (tgt := 348) hx hb hg26 dL_law_329 (by decide) (fun ci27 => ?_) (fun ci27 => ?_)
        · rw [if_pos ci27] at hF
          obtain ⟨hq28, hF⟩ := xk_some hF
          refine x_iinc (lv' := [(9, .int (jI (v9 + (1 : Int)))), (1, .ref (adr b 0 0)), (5, .int (jI v5)), (7, .ref dq2), (8, .ref dq3)]) hx hb dL_law_348 hl (k := 4) rfl (by decide) rfl (fun ls hl => ?_)
          refine lv_goto (tgt := 303) hx hb dL_law_351 (by decide) ?_
          exact ih M v5 (v9 + (1 : Int)) fdq2 fdq3 hv5 hq28 dq2 dq3 hdq2 hdq3 H locs _ _ (by omega) hR hS ls (lv_sub hl [1, 2, 3, 4, 0] rfl) hF
        · rw [if_neg ci27] at hF
          refine lv_aload_n hx hb dL_law_332 rfl (lv_at hl 0 rfl) ?_
          refine lv_iload hx hb dL_law_333 (lv_at hl 4 rfl) ?_
          obtain ⟨y30, hc29, hF⟩ := xb1_some hF
          refine l_cVi (As := [.int (jI v9)]) (rest := []) hx hb hml hown hts hK hR hS hA (c_X3_sizeOf hv9 hc29) wd338 wd339 wd340 wd1 wd341 hyX3_sizeOf ⟨rfl, rfl⟩ ⟨Nat.le_of_ble_eq_true rfl, Nat.le_of_ble_eq_true rfl⟩ hl.1 (Nat.le_of_ble_eq_true rfl) dL_law_335 ⟨by have := hbu; simp only [room_1]; omega, by have := hbu; simp only [room_1]; omega⟩ rfl (fun hg31 H locs hR hS => ?_)
          refine lv_aload hx hb dL_law_338 (lv_at hl 2 rfl) ?_
          refine lv_iload hx hb dL_law_340 (lv_at hl 4 rfl) ?_
          obtain ⟨hi32, hF⟩ := xk_some hF
          refine e_ld (bl := false) hx hb hK hR 0 rfl rfl hv9 hi32 dL_law_342 ?_
          have hg33 : rg (fdq2 v9.toNat) := (hR.2.1 0 _ rfl).2.2 _
          refine x_icmp_eq (tgt := 348) hx hb hg31 hg33 dL_law_343 (by decide) (fun ci34 => ?_) (fun ci34 => ?_)
          · rw [if_pos ci34] at hF
            obtain ⟨hq35, hF⟩ := xk_some hF
            refine x_iinc (lv' := [(9, .int (jI (v9 + (1 : Int)))), (1, .ref (adr b 0 0)), (5, .int (jI v5)), (7, .ref dq2), (8, .ref dq3)]) hx hb dL_law_348 hl (k := 4) rfl (by decide) rfl (fun ls hl => ?_)
            refine lv_goto (tgt := 303) hx hb dL_law_351 (by decide) ?_
            exact ih M v5 (v9 + (1 : Int)) fdq2 fdq3 hv5 hq35 dq2 dq3 hdq2 hdq3 H locs _ _ (by omega) hR hS ls (lv_sub hl [1, 2, 3, 4, 0] rfl) hF
          · rw [if_neg ci34] at hF
            refine x_iconst hx hb dL_law_346 ?_
            cases hF
            exact hret H locs ls _ _ _ (by have := hbu; omega) (by have := hbu; omega) hS dL_law_347
def F_L_law_250 (xs : Nat → Int32) (L : Nat) (rec211 : Mm → Int → Int → (Nat → Int) → (Nat → Int) → Option (Int × Mm)) (M : Mm) (v5 : Int) (v9 : Int) (s1 : Int) (s2 : Int) (fdq2 : Nat → Int) (fdq3 : Nat → Int) : Option (Int × Mm) := (xk (0 ≤ s1 ∧ s1 < 32) (xl (fun k => if k = s1.toNat then s2 else fdq3 k) fun f2 => (xk (0 ≤ v9 ∧ v9 < 32) (if (f2 v9.toNat) ≤ 0 then (xk (0 ≤ v9 ∧ v9 < 32) (xl (fun k => if k = v9.toNat then (0 : Int) else fdq2 k) fun f7 => (xk (rg (v9 + (1 : Int))) (rec211 M v5 (v9 + (1 : Int)) f7 f2)))) else (xb1 (F_X3_sizeOf M v9) fun y10 => (xk (0 ≤ v9 ∧ v9 < 32) (xl (fun k => if k = v9.toNat then y10 else fdq2 k) fun f13 => (xk (rg (v9 + (1 : Int))) (rec211 M v5 (v9 + (1 : Int)) f13 f2)))))))))
set_option maxHeartbeats 4000000 in
set_option maxRecDepth 100000 in
theorem w_L_law_250 {p : Program} {l : Launch} {e : Env} {s : State} {m : MethodId} {args : Array Value} {below : List Frame} {meth : Method} {c : Code} {g : Gx} {b b0 L : Nat} {xs : Nat → Int32} {Q : State → Prop} (C0 : LA p s m c args b0 L xs g b) {r : Int} {M' : Mm} (hret : ∀ (H : Heap) (locs : List Loc) (ls : Array Slot) (cells slots pc : Nat), cells ≤ 600086 → slots ≤ 7301442 → va_S (fun a => s.heap.size ≤ a) s.heap H locs → decode cL_law pc = .ok (.ireturn, 1) → W p l e room_1 s m args below meth c H locs cells slots Q (F0 m pc ls [.int (jI r)])) {rec211 : Mm → Int → Int → (Nat → Int) → (Nat → Int) → Option (Int × Mm)} (hrec211 : ∀ (M : Mm) (v5 : Int) (v9 : Int) (fdq2 : Nat → Int) (fdq3 : Nat → Int) (hv5 : rg v5) (hv9 : rg v9) (dq2 : Nat) (dq3 : Nat) (hdq2 : s.heap.size ≤ dq2) (hdq3 : s.heap.size ≤ dq3) (H : Heap) (locs : List Loc) (cells slots : Nat), cells + 1 ≤ 600086 ∧ slots + 32 ≤ 7301442 → RD g b M [(dq2, 0, 32, fdq2), (dq3, 0, 32, fdq3)] H → va_S (fun a => s.heap.size ≤ a) s.heap H locs → ∀ ls : Array Slot, lv_has ls 10 [(1, .ref (adr b 0 0)), (5, .int (jI v5)), (7, .ref dq2), (8, .ref dq3), (9, .int (jI v9))] → rec211 M  v5 v9 fdq2 fdq3 = some (r, M') → W p l e room_1 s m args below meth c H locs cells slots Q (F0 m 211 ls [])) : ∀ (M : Mm) (v5 : Int) (v9 : Int) (s1 : Int) (s2 : Int) (fdq2 : Nat → Int) (fdq3 : Nat → Int) (hv5 : rg v5) (hv9 : rg v9) (hs1 : rg s1) (hs2 : rg s2) (dq2 : Nat) (dq3 : Nat) (hdq2 : s.heap.size ≤ dq2) (hdq3 : s.heap.size ≤ dq3) (H : Heap) (locs : List Loc) (cells slots : Nat), cells + 1 ≤ 600086 ∧ slots + 32 ≤ 7301442 → RD g b M [(dq2, 0, 32, fdq2), (dq3, 0, 32, fdq3)] H → va_S (fun a => s.heap.size ≤ a) s.heap H locs → ∀ ls : Array Slot, lv_has ls 10 [(1, .ref (adr b 0 0)), (5, .int (jI v5)), (7, .ref dq2), (8, .ref dq3), (9, .int (jI v9))] → F_L_law_250 xs L rec211 M  v5 v9 s1 s2 fdq2 fdq3 = some (r, M') → W p l e room_1 s m args below meth c H locs cells slots Q (F0 m 250 ls [.int (jI s2), .int (jI s1), .ref dq3]) := by
  obtain ⟨hx, hb, hml, hown, hts, hX, hbl, hK, hbZ⟩ := id C0
  have hA : ∀ q, AA b s.heap.size q → (fun a => s.heap.size ≤ a) q := fun q h => h.elim (fun z => by show s.heap.size ≤ q; omega) (fun z => z)
  intro M v5 v9 s1 s2 fdq2 fdq3 hv5 hv9 hs1 hs2 dq2 dq3 hdq2 hdq3 H locs cells slots hbu hR hS ls hl hF
  rw [F_L_law_250] at hF
  obtain ⟨hi1, hF⟩ := xk_some hF
  refine e_st (bl := false) hx hb hK hR hS 1 rfl rfl (show s.heap.size ≤ _ from hdq3) hs1 hs2 (fun h => nomatch h) hi1 dL_law_250 (fun H locs hR hS => ?_)
  obtain ⟨f2, eM, hF⟩ := xl_some hF
  have hR : RD g b M [(dq2, 0, 32, fdq2), (dq3, 0, 32, f2)] H := by have h9 := hR; rw [eM] at h9; exact h9
  clear eM
  refine lv_aload hx hb dL_law_251 (lv_at hl 2 rfl) ?_
  refine lv_iload hx hb dL_law_253 (lv_at hl 4 rfl) ?_
  refine lv_aload hx hb dL_law_255 (lv_at hl 3 rfl) ?_
  refine lv_iload hx hb dL_law_257 (lv_at hl 4 rfl) ?_
  obtain ⟨hi3, hF⟩ := xk_some hF
  refine e_ld (bl := false) hx hb hK hR 1 rfl rfl hv9 hi3 dL_law_259 ?_
  have hg4 : rg (f2 v9.toNat) := (hR.2.1 1 _ rfl).2.2 _
  refine x_if_le (tgt := 272) hx hb hg4 dL_law_260 (by decide) (fun ci5 => ?_) (fun ci5 => ?_)
  · rw [if_pos ci5] at hF
    refine x_iconst hx hb dL_law_272 ?_
    obtain ⟨hi6, hF⟩ := xk_some hF
    refine e_st (bl := false) hx hb hK hR hS 0 rfl rfl (show s.heap.size ≤ _ from hdq2) hv9 (by decide : rg (0 : Int)) (fun h => nomatch h) hi6 dL_law_273 (fun H locs hR hS => ?_)
    obtain ⟨f7, eM, hF⟩ := xl_some hF
    have hR : RD g b M [(dq2, 0, 32, f7), (dq3, 0, 32, f2)] H := by have h9 := hR; rw [eM] at h9; exact h9
    clear eM
    obtain ⟨hq8, hF⟩ := xk_some hF
    refine x_iinc (lv' := [(9, .int (jI (v9 + (1 : Int)))), (1, .ref (adr b 0 0)), (5, .int (jI v5)), (7, .ref dq2), (8, .ref dq3)]) hx hb dL_law_274 hl (k := 4) rfl (by decide) rfl (fun ls hl => ?_)
    refine lv_goto (tgt := 211) hx hb dL_law_277 (by decide) ?_
    exact hrec211 M v5 (v9 + (1 : Int)) f7 f2 hv5 hq8 dq2 dq3 hdq2 hdq3 H locs _ _ (by omega) hR hS ls (lv_sub hl [1, 2, 3, 4, 0] rfl) hF
  · rw [if_neg ci5] at hF
    refine lv_aload_n hx hb dL_law_263 rfl (lv_at hl 0 rfl) ?_
    refine lv_iload hx hb dL_law_264 (lv_at hl 4 rfl) ?_
    obtain ⟨y10, hc9, hF⟩ := xb1_some hF
    refine l_cVi (As := [.int (jI v9)]) (rest := [.int (jI v9), .ref dq2]) hx hb hml hown hts hK hR hS hA (c_X3_sizeOf hv9 hc9) wd338 wd339 wd340 wd1 wd341 hyX3_sizeOf ⟨rfl, rfl⟩ ⟨Nat.le_of_ble_eq_true rfl, Nat.le_of_ble_eq_true rfl⟩ hl.1 (Nat.le_of_ble_eq_true rfl) dL_law_266 ⟨by have := hbu; simp only [room_1]; omega, by have := hbu; simp only [room_1]; omega⟩ rfl (fun hg11 H locs hR hS => ?_)
    refine lv_goto (tgt := 273) hx hb dL_law_269 (by decide) ?_
    obtain ⟨hi12, hF⟩ := xk_some hF
    refine e_st (bl := false) hx hb hK hR hS 0 rfl rfl (show s.heap.size ≤ _ from hdq2) hv9 hg11 (fun h => nomatch h) hi12 dL_law_273 (fun H locs hR hS => ?_)
    obtain ⟨f13, eM, hF⟩ := xl_some hF
    have hR : RD g b M [(dq2, 0, 32, f13), (dq3, 0, 32, f2)] H := by have h9 := hR; rw [eM] at h9; exact h9
    clear eM
    obtain ⟨hq14, hF⟩ := xk_some hF
    refine x_iinc (lv' := [(9, .int (jI (v9 + (1 : Int)))), (1, .ref (adr b 0 0)), (5, .int (jI v5)), (7, .ref dq2), (8, .ref dq3)]) hx hb dL_law_274 hl (k := 4) rfl (by decide) rfl (fun ls hl => ?_)
    refine lv_goto (tgt := 211) hx hb dL_law_277 (by decide) ?_
    exact hrec211 M v5 (v9 + (1 : Int)) f13 f2 hv5 hq14 dq2 dq3 hdq2 hdq3 H locs _ _ (by omega) hR hS ls (lv_sub hl [1, 2, 3, 4, 0] rfl) hF
def F_L_law_240 (xs : Nat → Int32) (L : Nat) (rec211 : Mm → Int → Int → (Nat → Int) → (Nat → Int) → Option (Int × Mm)) (M : Mm) (v5 : Int) (v9 : Int) (s1 : Int) (fdq2 : Nat → Int) (fdq3 : Nat → Int) : Option (Int × Mm) := (F_L_law_250 xs L rec211 M v5 v9 s1 (0 : Int) fdq2 fdq3)
set_option maxHeartbeats 4000000 in
set_option maxRecDepth 100000 in
theorem w_L_law_240 {p : Program} {l : Launch} {e : Env} {s : State} {m : MethodId} {args : Array Value} {below : List Frame} {meth : Method} {c : Code} {g : Gx} {b b0 L : Nat} {xs : Nat → Int32} {Q : State → Prop} (C0 : LA p s m c args b0 L xs g b) {r : Int} {M' : Mm} (hret : ∀ (H : Heap) (locs : List Loc) (ls : Array Slot) (cells slots pc : Nat), cells ≤ 600086 → slots ≤ 7301442 → va_S (fun a => s.heap.size ≤ a) s.heap H locs → decode cL_law pc = .ok (.ireturn, 1) → W p l e room_1 s m args below meth c H locs cells slots Q (F0 m pc ls [.int (jI r)])) {rec211 : Mm → Int → Int → (Nat → Int) → (Nat → Int) → Option (Int × Mm)} (hrec211 : ∀ (M : Mm) (v5 : Int) (v9 : Int) (fdq2 : Nat → Int) (fdq3 : Nat → Int) (hv5 : rg v5) (hv9 : rg v9) (dq2 : Nat) (dq3 : Nat) (hdq2 : s.heap.size ≤ dq2) (hdq3 : s.heap.size ≤ dq3) (H : Heap) (locs : List Loc) (cells slots : Nat), cells + 1 ≤ 600086 ∧ slots + 32 ≤ 7301442 → RD g b M [(dq2, 0, 32, fdq2), (dq3, 0, 32, fdq3)] H → va_S (fun a => s.heap.size ≤ a) s.heap H locs → ∀ ls : Array Slot, lv_has ls 10 [(1, .ref (adr b 0 0)), (5, .int (jI v5)), (7, .ref dq2), (8, .ref dq3), (9, .int (jI v9))] → rec211 M  v5 v9 fdq2 fdq3 = some (r, M') → W p l e room_1 s m args below meth c H locs cells slots Q (F0 m 211 ls [])) : ∀ (M : Mm) (v5 : Int) (v9 : Int) (s1 : Int) (fdq2 : Nat → Int) (fdq3 : Nat → Int) (hv5 : rg v5) (hv9 : rg v9) (hs1 : rg s1) (dq2 : Nat) (dq3 : Nat) (hdq2 : s.heap.size ≤ dq2) (hdq3 : s.heap.size ≤ dq3) (H : Heap) (locs : List Loc) (cells slots : Nat), cells + 1 ≤ 600086 ∧ slots + 32 ≤ 7301442 → RD g b M [(dq2, 0, 32, fdq2), (dq3, 0, 32, fdq3)] H → va_S (fun a => s.heap.size ≤ a) s.heap H locs → ∀ ls : Array Slot, lv_has ls 10 [(1, .ref (adr b 0 0)), (5, .int (jI v5)), (7, .ref dq2), (8, .ref dq3), (9, .int (jI v9))] → F_L_law_240 xs L rec211 M  v5 v9 s1 fdq2 fdq3 = some (r, M') → W p l e room_1 s m args below meth c H locs cells slots Q (F0 m 240 ls [.int (jI s1), .ref dq3]) := by
  obtain ⟨hx, hb, hml, hown, hts, hX, hbl, hK, hbZ⟩ := id C0
  have hA : ∀ q, AA b s.heap.size q → (fun a => s.heap.size ≤ a) q := fun q h => h.elim (fun z => by show s.heap.size ≤ q; omega) (fun z => z)
  intro M v5 v9 s1 fdq2 fdq3 hv5 hv9 hs1 dq2 dq3 hdq2 hdq3 H locs cells slots hbu hR hS ls hl hF
  rw [F_L_law_240] at hF
  refine x_iconst hx hb dL_law_240 ?_
  refine lv_goto (tgt := 250) hx hb dL_law_241 (by decide) ?_
  exact w_L_law_250 C0 hret hrec211 M v5 v9 s1 (0 : Int) fdq2 fdq3 hv5 hv9 hs1 (by decide : rg (0 : Int)) dq2 dq3 hdq2 hdq3 H locs _ _ (by omega) hR hS ls (lv_sub hl [0, 1, 2, 3, 4] rfl) hF
def F_L_law_211 (xs : Nat → Int32) (L : Nat)  : Nat → Mm → Int → Int → (Nat → Int) → (Nat → Int) → Option (Int × Mm)
  | 0, _, _, _, _, _ => none
  | n + 1, M, v5, v9, fdq2, fdq3 => (if (32 : Int) ≤ v9 then (xb1 (F_X3_cut M ) fun M3 => (xb2 (F_X3_mount M3 ) fun y5 M6 => (if 0 ≤ y5 then (F_L_law_303 xs L  FU M6 v5 (0 : Int) fdq2 fdq3) else (xb2 (F_X3_mount M6 ) fun y37 M38 => (if 0 ≤ y37 then (F_L_law_303 xs L  FU M38 v5 (0 : Int) fdq2 fdq3) else (some ((0 : Int), M38))))))) else (xb1 (F_X3_typeOf M v9) fun y42 => (if y42 = 0 then (F_L_law_240 xs L (F_L_law_211 xs L  n) M v5 v9 v9 fdq2 fdq3) else (xb1 (F_X3_isOrphan M v9) fun y46 => (if y46 = 0 then (xb1 (F_X3_typeOf M v9) fun y50 => (F_L_law_250 xs L (F_L_law_211 xs L  n) M v5 v9 v9 y50 fdq2 fdq3)) else (F_L_law_240 xs L (F_L_law_211 xs L  n) M v5 v9 v9 fdq2 fdq3))))))
set_option maxHeartbeats 4000000 in
set_option maxRecDepth 100000 in
theorem w_L_law_211 {p : Program} {l : Launch} {e : Env} {s : State} {m : MethodId} {args : Array Value} {below : List Frame} {meth : Method} {c : Code} {g : Gx} {b b0 L : Nat} {xs : Nat → Int32} {Q : State → Prop} (C0 : LA p s m c args b0 L xs g b) {r : Int} {M' : Mm} (hret : ∀ (H : Heap) (locs : List Loc) (ls : Array Slot) (cells slots pc : Nat), cells ≤ 600086 → slots ≤ 7301442 → va_S (fun a => s.heap.size ≤ a) s.heap H locs → decode cL_law pc = .ok (.ireturn, 1) → W p l e room_1 s m args below meth c H locs cells slots Q (F0 m pc ls [.int (jI r)])) : ∀ n : Nat, ∀ (M : Mm) (v5 : Int) (v9 : Int) (fdq2 : Nat → Int) (fdq3 : Nat → Int) (hv5 : rg v5) (hv9 : rg v9) (dq2 : Nat) (dq3 : Nat) (hdq2 : s.heap.size ≤ dq2) (hdq3 : s.heap.size ≤ dq3) (H : Heap) (locs : List Loc) (cells slots : Nat), cells + 1 ≤ 600086 ∧ slots + 32 ≤ 7301442 → RD g b M [(dq2, 0, 32, fdq2), (dq3, 0, 32, fdq3)] H → va_S (fun a => s.heap.size ≤ a) s.heap H locs → ∀ ls : Array Slot, lv_has ls 10 [(1, .ref (adr b 0 0)), (5, .int (jI v5)), (7, .ref dq2), (8, .ref dq3), (9, .int (jI v9))] → F_L_law_211 xs L  n M  v5 v9 fdq2 fdq3 = some (r, M') → W p l e room_1 s m args below meth c H locs cells slots Q (F0 m 211 ls []) := by
  obtain ⟨hx, hb, hml, hown, hts, hX, hbl, hK, hbZ⟩ := id C0
  have hA : ∀ q, AA b s.heap.size q → (fun a => s.heap.size ≤ a) q := fun q h => h.elim (fun z => by show s.heap.size ≤ q; omega) (fun z => z)
  intro n
  induction n with
  | zero =>
    intro M v5 v9 fdq2 fdq3 hv5 hv9 dq2 dq3 hdq2 hdq3 H locs cells slots hbu hR hS ls hl hF
    rw [F_L_law_211] at hF
    cases hF
  | succ n ih =>
    intro M v5 v9 fdq2 fdq3 hv5 hv9 dq2 dq3 hdq2 hdq3 H locs cells slots hbu hR hS ls hl hF
    rw [F_L_law_211] at hF
    refine lv_iload hx hb dL_law_211 (lv_at hl 4 rfl) ?_
    refine x_bipush hx hb (by decide +kernel) dL_law_213 ?_
    refine x_icmp_ge (tgt := 280) hx hb hv9 (by decide : rg (32 : Int)) dL_law_215 (by decide) (fun ci1 => ?_) (fun ci1 => ?_)
    · rw [if_pos ci1] at hF
      refine lv_aload_n hx hb dL_law_280 rfl (lv_at hl 0 rfl) ?_
      obtain ⟨M3, hc2, hF⟩ := xb1_some hF
      refine l_cVv (As := []) (rest := []) hx hb hml hown hts hK hR hS hA (c_X3_cut  hc2) wd285 wd286 wd287 wd1 wd288 hyX3_cut ⟨rfl, rfl⟩ ⟨Nat.le_of_ble_eq_true rfl, Nat.le_of_ble_eq_true rfl⟩ hl.1 (Nat.le_of_ble_eq_true rfl) dL_law_281 ⟨by have := hbu; simp only [room_1]; omega, by have := hbu; simp only [room_1]; omega⟩ rfl (fun H locs hR hS => ?_)
      refine lv_aload_n hx hb dL_law_284 rfl (lv_at hl 0 rfl) ?_
      obtain ⟨y5, M6, hc4, hF⟩ := xb2_some hF
      refine l_cVi (As := []) (rest := []) hx hb hml hown hts hK hR hS hA (c_X3_mount  hc4) wd289 wd290 wd291 wd1 wd292 hyX3_mount ⟨rfl, rfl⟩ ⟨Nat.le_of_ble_eq_true rfl, Nat.le_of_ble_eq_true rfl⟩ hl.1 (Nat.le_of_ble_eq_true rfl) dL_law_285 ⟨by have := hbu; simp only [room_1]; omega, by have := hbu; simp only [room_1]; omega⟩ rfl (fun hg7 H locs hR hS => ?_)
      refine x_if_ge (tgt := 300) hx hb hg7 dL_law_288 (by decide) (fun ci8 => ?_) (fun ci8 => ?_)
      · rw [if_pos ci8] at hF
        refine x_iconst hx hb dL_law_300 ?_
        refine lv_istore (lv' := [(9, .int (jI (0 : Int))), (1, .ref (adr b 0 0)), (5, .int (jI v5)), (7, .ref dq2), (8, .ref dq3)]) hx hb dL_law_301 hl (by decide) rfl (fun ls hl => ?_)
        exact w_L_law_303 C0 hret  FU M6 v5 (0 : Int) fdq2 fdq3 hv5 (by decide : rg (0 : Int)) dq2 dq3 hdq2 hdq3 H locs _ _ (by omega) hR hS ls (lv_sub hl [1, 2, 3, 4, 0] rfl) hF
      · rw [if_neg ci8] at hF
        refine lv_aload_n hx hb dL_law_291 rfl (lv_at hl 0 rfl) ?_
        obtain ⟨y37, M38, hc36, hF⟩ := xb2_some hF
        refine l_cVi (As := []) (rest := []) hx hb hml hown hts hK hR hS hA (c_X3_mount  hc36) wd289 wd290 wd291 wd1 wd292 hyX3_mount ⟨rfl, rfl⟩ ⟨Nat.le_of_ble_eq_true rfl, Nat.le_of_ble_eq_true rfl⟩ hl.1 (Nat.le_of_ble_eq_true rfl) dL_law_292 ⟨by have := hbu; simp only [room_1]; omega, by have := hbu; simp only [room_1]; omega⟩ rfl (fun hg39 H locs hR hS => ?_)
        refine x_if_ge (tgt := 300) hx hb hg39 dL_law_295 (by decide) (fun ci40 => ?_) (fun ci40 => ?_)
        · rw [if_pos ci40] at hF
          refine x_iconst hx hb dL_law_300 ?_
          refine lv_istore (lv' := [(9, .int (jI (0 : Int))), (1, .ref (adr b 0 0)), (5, .int (jI v5)), (7, .ref dq2), (8, .ref dq3)]) hx hb dL_law_301 hl (by decide) rfl (fun ls hl => ?_)
          exact w_L_law_303 C0 hret  FU M38 v5 (0 : Int) fdq2 fdq3 hv5 (by decide : rg (0 : Int)) dq2 dq3 hdq2 hdq3 H locs _ _ (by omega) hR hS ls (lv_sub hl [1, 2, 3, 4, 0] rfl) hF
        · rw [if_neg ci40] at hF
          refine x_iconst hx hb dL_law_298 ?_
          cases hF
          exact hret H locs ls _ _ _ (by have := hbu; omega) (by have := hbu; omega) hS dL_law_299
    · rw [if_neg ci1] at hF
      refine lv_aload hx hb dL_law_218 (lv_at hl 3 rfl) ?_
      refine lv_iload hx hb dL_law_220 (lv_at hl 4 rfl) ?_
      refine lv_aload_n hx hb dL_law_222 rfl (lv_at hl 0 rfl) ?_
      refine lv_iload hx hb dL_law_223 (lv_at hl 4 rfl) ?_
      obtain ⟨y42, hc41, hF⟩ := xb1_some hF
      refine l_cVi (As := [.int (jI v9)]) (rest := [.int (jI v9), .ref dq3]) hx hb hml hown hts hK hR hS hA (c_X3_typeOf hv9 hc41) wd333 wd334 wd335 wd1 wd336 hyX3_typeOf ⟨rfl, rfl⟩ ⟨Nat.le_of_ble_eq_true rfl, Nat.le_of_ble_eq_true rfl⟩ hl.1 (Nat.le_of_ble_eq_true rfl) dL_law_225 ⟨by have := hbu; simp only [room_1]; omega, by have := hbu; simp only [room_1]; omega⟩ rfl (fun hg43 H locs hR hS => ?_)
      refine x_if_eq (tgt := 240) hx hb hg43 dL_law_228 (by decide) (fun ci44 => ?_) (fun ci44 => ?_)
      · rw [if_pos ci44] at hF
        exact w_L_law_240 C0 hret ih M v5 v9 v9 fdq2 fdq3 hv5 hv9 hv9 dq2 dq3 hdq2 hdq3 H locs _ _ (by omega) hR hS ls (lv_sub hl [0, 1, 2, 3, 4] rfl) hF
      · rw [if_neg ci44] at hF
        refine lv_aload_n hx hb dL_law_231 rfl (lv_at hl 0 rfl) ?_
        refine lv_iload hx hb dL_law_232 (lv_at hl 4 rfl) ?_
        obtain ⟨y46, hc45, hF⟩ := xb1_some hF
        refine l_cVi (As := [.int (jI v9)]) (rest := [.int (jI v9), .ref dq3]) hx hb hml hown hts hK hR hS hA (c_X3_isOrphan hv9 hc45) wd370 wd371 wd372 wd1 wd373 hyX3_isOrphan ⟨rfl, rfl⟩ ⟨Nat.le_of_ble_eq_true rfl, Nat.le_of_ble_eq_true rfl⟩ hl.1 (Nat.le_of_ble_eq_true rfl) dL_law_234 ⟨by have := hbu; simp only [room_1]; omega, by have := hbu; simp only [room_1]; omega⟩ rfl (fun hg47 H locs hR hS => ?_)
        refine x_if_eq (tgt := 244) hx hb hg47 dL_law_237 (by decide) (fun ci48 => ?_) (fun ci48 => ?_)
        · rw [if_pos ci48] at hF
          refine lv_aload_n hx hb dL_law_244 rfl (lv_at hl 0 rfl) ?_
          refine lv_iload hx hb dL_law_245 (lv_at hl 4 rfl) ?_
          obtain ⟨y50, hc49, hF⟩ := xb1_some hF
          refine l_cVi (As := [.int (jI v9)]) (rest := [.int (jI v9), .ref dq3]) hx hb hml hown hts hK hR hS hA (c_X3_typeOf hv9 hc49) wd333 wd334 wd335 wd1 wd336 hyX3_typeOf ⟨rfl, rfl⟩ ⟨Nat.le_of_ble_eq_true rfl, Nat.le_of_ble_eq_true rfl⟩ hl.1 (Nat.le_of_ble_eq_true rfl) dL_law_247 ⟨by have := hbu; simp only [room_1]; omega, by have := hbu; simp only [room_1]; omega⟩ rfl (fun hg51 H locs hR hS => ?_)
          exact w_L_law_250 C0 hret ih M v5 v9 v9 y50 fdq2 fdq3 hv5 hv9 hv9 hg51 dq2 dq3 hdq2 hdq3 H locs _ _ (by omega) hR hS ls (lv_sub hl [0, 1, 2, 3, 4] rfl) hF
        · rw [if_neg ci48] at hF
          exact w_L_law_240 C0 hret ih M v5 v9 v9 fdq2 fdq3 hv5 hv9 hv9 dq2 dq3 hdq2 hdq3 H locs _ _ (by omega) hR hS ls (lv_sub hl [0, 1, 2, 3, 4] rfl) hF
def F_L_law_108 (xs : Nat → Int32) (L : Nat) (rec15 : Mm → Int → (Nat → Int) → Option (Int × Mm)) (M : Mm) (v3 : Int) (fdq1 : Nat → Int) : Option (Int × Mm) := (xk (rg (Int.tmod v3 (3 : Int))) (if (Int.tmod v3 (3 : Int)) = (2 : Int) then (xb2 (F_L_isSound M ) fun y6 M7 => (if y6 = 0 then (some ((0 : Int), M7)) else (xk (rg (v3 + (1 : Int))) (rec15 M7 (v3 + (1 : Int)) fdq1)))) else (xk (rg (v3 + (1 : Int))) (rec15 M (v3 + (1 : Int)) fdq1))))
set_option maxHeartbeats 4000000 in
set_option maxRecDepth 100000 in
theorem w_L_law_108 {p : Program} {l : Launch} {e : Env} {s : State} {m : MethodId} {args : Array Value} {below : List Frame} {meth : Method} {c : Code} {g : Gx} {b b0 L : Nat} {xs : Nat → Int32} {Q : State → Prop} (C0 : LA p s m c args b0 L xs g b) {nb : Nat} {r : Int} {M' : Mm} (hret : ∀ (H : Heap) (locs : List Loc) (ls : Array Slot) (cells slots pc : Nat), cells ≤ 600086 → slots ≤ 7301442 → va_S (fun a => s.heap.size ≤ a) s.heap H locs → decode cL_law pc = .ok (.ireturn, 1) → W p l e room_1 s m args below meth c H locs cells slots Q (F0 m pc ls [.int (jI r)])) {rec15 : Mm → Int → (Nat → Int) → Option (Int × Mm)} (hrec15 : ∀ (M : Mm) (v3 : Int) (fdq1 : Nat → Int) (hv3 : rg v3) (dq1 : Nat) (hdq1 : s.heap.size ≤ dq1) (H : Heap) (locs : List Loc) (cells slots : Nat), cells + 3 * nb + 4 ≤ 600086 ∧ slots + 110 * nb + 128 ≤ 7301442 → RD g b M [(dq1, 3, 6, fdq1)] H → va_S (fun a => s.heap.size ≤ a) s.heap H locs → ∀ ls : Array Slot, lv_has ls 10 [(0, .ref b0), (1, .ref (adr b 0 0)), (2, .ref dq1), (3, .int (jI v3))] → rec15 M  v3 fdq1 = some (r, M') → W p l e room_1 s m args below meth c H locs cells slots Q (F0 m 15 ls [])) : ∀ (M : Mm) (v3 : Int) (fdq1 : Nat → Int) (hv3 : rg v3) (dq1 : Nat) (hdq1 : s.heap.size ≤ dq1) (H : Heap) (locs : List Loc) (cells slots : Nat), cells + 3 * nb + 5 ≤ 600086 ∧ slots + 110 * nb + 160 ≤ 7301442 → RD g b M [(dq1, 3, 6, fdq1)] H → va_S (fun a => s.heap.size ≤ a) s.heap H locs → ∀ ls : Array Slot, lv_has ls 10 [(0, .ref b0), (1, .ref (adr b 0 0)), (2, .ref dq1), (3, .int (jI v3))] → F_L_law_108 xs L rec15 M  v3 fdq1 = some (r, M') → W p l e room_1 s m args below meth c H locs cells slots Q (F0 m 108 ls []) := by
  obtain ⟨hx, hb, hml, hown, hts, hX, hbl, hK, hbZ⟩ := id C0
  have hA : ∀ q, AA b s.heap.size q → (fun a => s.heap.size ≤ a) q := fun q h => h.elim (fun z => by show s.heap.size ≤ q; omega) (fun z => z)
  intro M v3 fdq1 hv3 dq1 hdq1 H locs cells slots hbu hR hS ls hl hF
  rw [F_L_law_108] at hF
  refine lv_iload_n hx hb dL_law_108 rfl (lv_at hl 3 rfl) ?_
  refine x_iconst hx hb dL_law_109 ?_
  obtain ⟨hq2, hF⟩ := xk_some hF
  refine x_irem hx hb hv3 (by decide : rg (3 : Int)) (by decide) dL_law_110 ?_
  refine x_iconst hx hb dL_law_111 ?_
  refine x_icmp_ne (tgt := 124) hx hb hq2 (by decide : rg (2 : Int)) dL_law_112 (by decide) (fun ci3 => ?_) (fun ci3 => ?_)
  · rw [if_neg ci3] at hF
    obtain ⟨hq4, hF⟩ := xk_some hF
    refine x_iinc (lv' := [(3, .int (jI (v3 + (1 : Int)))), (0, .ref b0), (1, .ref (adr b 0 0)), (2, .ref dq1)]) hx hb dL_law_124 hl (k := 3) rfl (by decide) rfl (fun ls hl => ?_)
    refine lv_goto (tgt := 15) hx hb dL_law_127 (by decide) ?_
    exact hrec15 M (v3 + (1 : Int)) fdq1 hq4 dq1 hdq1 H locs _ _ (by omega) hR hS ls (lv_sub hl [1, 2, 3, 0] rfl) hF
  · rw [if_pos ci3] at hF
    refine lv_aload_n hx hb dL_law_115 rfl (lv_at hl 1 rfl) ?_
    obtain ⟨y6, M7, hc5, hF⟩ := xb2_some hF
    refine l_cS0 (As := [.ref (adr b 0 0)]) (rest := []) hx hb hml hown hts hK hR hS hA (c_L_isSound  hc5) wd826 wd827 wd0 wd828 hyL_isSound ⟨rfl, rfl⟩ ⟨Nat.le_of_ble_eq_true rfl, Nat.le_of_ble_eq_true rfl⟩ hl.1 (Nat.le_of_ble_eq_true rfl) dL_law_116 ⟨by have := hbu; simp only [room_1]; omega, by have := hbu; simp only [room_1]; omega⟩ rfl (fun hg8 H locs hR hS => ?_)
    obtain ⟨cells, hce⟩ : ∃ z, z = cells + 1 := ⟨_, rfl⟩; obtain ⟨slots, hsl⟩ : ∃ z, z = slots + 32 := ⟨_, rfl⟩; rw [← hce, ← hsl]; have hbu := And.intro hbu (And.intro hce hsl)
    refine x_if_ne (tgt := 124) hx hb hg8 dL_law_119 (by decide) (fun ci9 => ?_) (fun ci9 => ?_)
    · rw [if_neg ci9] at hF
      obtain ⟨hq10, hF⟩ := xk_some hF
      refine x_iinc (lv' := [(3, .int (jI (v3 + (1 : Int)))), (0, .ref b0), (1, .ref (adr b 0 0)), (2, .ref dq1)]) hx hb dL_law_124 hl (k := 3) rfl (by decide) rfl (fun ls hl => ?_)
      refine lv_goto (tgt := 15) hx hb dL_law_127 (by decide) ?_
      exact hrec15 M7 (v3 + (1 : Int)) fdq1 hq10 dq1 hdq1 H locs _ _ (by omega) hR hS ls (lv_sub hl [1, 2, 3, 0] rfl) hF
    · rw [if_pos ci9] at hF
      refine x_iconst hx hb dL_law_122 ?_
      cases hF
      exact hret H locs ls _ _ _ (by have := hbu; omega) (by have := hbu; omega) hS dL_law_123
def F_L_law_15 (xs : Nat → Int32) (L : Nat)  : Nat → Mm → Int → (Nat → Int) → Option (Int × Mm)
  | 0, _, _, _ => none
  | n + 1, M, v3, fdq1 => (if (45 : Int) ≤ v3 then (xb2 (F_X3_digest M ) fun y3 M4 => (xb2 (F_L_isSound M4 ) fun y6 M7 => (if y6 = 0 then (some ((0 : Int), M7)) else (xb1 (F_X3_flaws M7 ) fun y11 => (if y11 = 0 then (xb2 (F_X3_digest M7 ) fun y15 M16 => (if (lcmpI y15 y3) = 0 then (xb1 (F_X3_changes M16 ) fun y19 => (xb2 (F_X3_sync M16 ) fun y22 M23 => (xb1 (F_X3_isDown M23 ) fun y26 => (if y26 = 0 then (if y22 = (1 : Int) then (if y22 = 0 then (some ((1 : Int), M23)) else (F_L_law_211 xs L  FU M23 y19 (0 : Int) (fun _ => 0) (fun _ => 0))) else (some ((0 : Int), M23))) else (if y22 = (0 : Int) then (if y22 = 0 then (some ((1 : Int), M23)) else (F_L_law_211 xs L  FU M23 y19 (0 : Int) (fun _ => 0) (fun _ => 0))) else (some ((0 : Int), M23))))))) else (some ((0 : Int), M16)))) else (some ((0 : Int), M7))))))) else (xk (rg (Int.tmod v3 (15 : Int))) (xk (0 ≤ (Int.tmod v3 (15 : Int))) (xk (rg (Int.tdiv v3 (15 : Int))) (xk (rg ((Int.tdiv v3 (15 : Int)) * (7 : Int))) (xk (rg (v3 + (4 : Int))) (xk (rg (Int.tmod (v3 + (4 : Int)) (16 : Int))) (xk (0 ≤ (Int.tmod (v3 + (4 : Int)) (16 : Int))) (xk (rg (Int.tdiv v3 (16 : Int))) (xk (rg ((Int.tdiv v3 (16 : Int)) * (6 : Int))) (xb3 (F_L_act M (shrI (cellX xs L (Int.tmod v3 (15 : Int))) ((Int.tdiv v3 (15 : Int)) * (7 : Int))) (shrI (cellX xs L (Int.tmod (v3 + (4 : Int)) (16 : Int))) ((Int.tdiv v3 (16 : Int)) * (6 : Int))) fdq1) fun y68 M69 f70 => (if y68 = 0 then (some ((0 : Int), M69)) else (xb1 (F_X3_isDown M69 ) fun y74 => (if y74 = 0 then (F_L_law_108 xs L (F_L_law_15 xs L  n) M69 v3 f70) else (xb2 (F_X3_mount M69 ) fun y78 M79 => (if 0 ≤ y78 then (F_L_law_108 xs L (F_L_law_15 xs L  n) M79 v3 (fun _ => 0)) else (xb1 (F_X3_isDown M79 ) fun y83 => (if y83 = 0 then (some ((0 : Int), M79)) else (xb2 (F_X3_mount M79 ) fun y87 M88 => (if 0 ≤ y87 then (F_L_law_108 xs L (F_L_law_15 xs L  n) M88 v3 (fun _ => 0)) else (some ((0 : Int), M88))))))))))))))))))))))
set_option maxHeartbeats 4000000 in
set_option maxRecDepth 100000 in
theorem w_L_law_15 {p : Program} {l : Launch} {e : Env} {s : State} {m : MethodId} {args : Array Value} {below : List Frame} {meth : Method} {c : Code} {g : Gx} {b b0 L : Nat} {xs : Nat → Int32} {Q : State → Prop} (C0 : LA p s m c args b0 L xs g b) {r : Int} {M' : Mm} (hret : ∀ (H : Heap) (locs : List Loc) (ls : Array Slot) (cells slots pc : Nat), cells ≤ 600086 → slots ≤ 7301442 → va_S (fun a => s.heap.size ≤ a) s.heap H locs → decode cL_law pc = .ok (.ireturn, 1) → W p l e room_1 s m args below meth c H locs cells slots Q (F0 m pc ls [.int (jI r)])) : ∀ n : Nat, ∀ (M : Mm) (v3 : Int) (fdq1 : Nat → Int) (hv3 : rg v3) (dq1 : Nat) (hdq1 : s.heap.size ≤ dq1) (H : Heap) (locs : List Loc) (cells slots : Nat), cells + 3 * n + 4 ≤ 600086 ∧ slots + 110 * n + 128 ≤ 7301442 → RD g b M [(dq1, 3, 6, fdq1)] H → va_S (fun a => s.heap.size ≤ a) s.heap H locs → ∀ ls : Array Slot, lv_has ls 10 [(0, .ref b0), (1, .ref (adr b 0 0)), (2, .ref dq1), (3, .int (jI v3))] → F_L_law_15 xs L  n M  v3 fdq1 = some (r, M') → W p l e room_1 s m args below meth c H locs cells slots Q (F0 m 15 ls []) := by
  obtain ⟨hx, hb, hml, hown, hts, hX, hbl, hK, hbZ⟩ := id C0
  have hA : ∀ q, AA b s.heap.size q → (fun a => s.heap.size ≤ a) q := fun q h => h.elim (fun z => by show s.heap.size ≤ q; omega) (fun z => z)
  intro n
  induction n with
  | zero =>
    intro M v3 fdq1 hv3 dq1 hdq1 H locs cells slots hbu hR hS ls hl hF
    rw [F_L_law_15] at hF
    cases hF
  | succ n ih =>
    intro M v3 fdq1 hv3 dq1 hdq1 H locs cells slots hbu hR hS ls hl hF
    rw [F_L_law_15] at hF
    refine lv_iload_n hx hb dL_law_15 rfl (lv_at hl 3 rfl) ?_
    refine x_bipush hx hb (by decide +kernel) dL_law_16 ?_
    refine x_icmp_ge (tgt := 130) hx hb hv3 (by decide : rg (45 : Int)) dL_law_18 (by decide) (fun ci1 => ?_) (fun ci1 => ?_)
    · rw [if_pos ci1] at hF
      refine lv_aload_n hx hb dL_law_130 rfl (lv_at hl 1 rfl) ?_
      obtain ⟨y3, M4, hc2, hF⟩ := xb2_some hF
      refine l_cVl (As := []) (rest := []) hx hb hml hown hts hK hR hS hA (c_X3_digest  hc2) wd379 wd380 wd381 wd1 wd382 hyX3_digest ⟨rfl, rfl⟩ ⟨Nat.le_of_ble_eq_true rfl, Nat.le_of_ble_eq_true rfl⟩ hl.1 (Nat.le_of_ble_eq_true rfl) dL_law_131 ⟨by have := hbu; simp only [room_1]; omega, by have := hbu; simp only [room_1]; omega⟩ rfl (fun H locs hR hS => ?_)
      refine lv_lstore_n (lv' := [(3, .long y3), (0, .ref b0), (1, .ref (adr b 0 0)), (2, .ref dq1)]) hx hb dL_law_134 rfl hl (by decide) rfl (fun ls hl => ?_)
      refine lv_aload_n hx hb dL_law_135 rfl (lv_at hl 2 rfl) ?_
      obtain ⟨y6, M7, hc5, hF⟩ := xb2_some hF
      refine l_cS0 (As := [.ref (adr b 0 0)]) (rest := []) hx hb hml hown hts hK hR hS hA (c_L_isSound  hc5) wd826 wd827 wd0 wd828 hyL_isSound ⟨rfl, rfl⟩ ⟨Nat.le_of_ble_eq_true rfl, Nat.le_of_ble_eq_true rfl⟩ hl.1 (Nat.le_of_ble_eq_true rfl) dL_law_136 ⟨by have := hbu; simp only [room_1]; omega, by have := hbu; simp only [room_1]; omega⟩ rfl (fun hg8 H locs hR hS => ?_)
      obtain ⟨cells, hce⟩ : ∃ z, z = cells + 1 := ⟨_, rfl⟩; obtain ⟨slots, hsl⟩ : ∃ z, z = slots + 32 := ⟨_, rfl⟩; rw [← hce, ← hsl]; have hbu := And.intro hbu (And.intro hce hsl)
      refine x_if_eq (tgt := 158) hx hb hg8 dL_law_139 (by decide) (fun ci9 => ?_) (fun ci9 => ?_)
      · rw [if_pos ci9] at hF
        refine x_iconst hx hb dL_law_158 ?_
        cases hF
        exact hret H locs ls _ _ _ (by have := hbu; omega) (by have := hbu; omega) hS dL_law_159
      · rw [if_neg ci9] at hF
        refine lv_aload_n hx hb dL_law_142 rfl (lv_at hl 2 rfl) ?_
        obtain ⟨y11, hc10, hF⟩ := xb1_some hF
        refine l_cVi (As := []) (rest := []) hx hb hml hown hts hK hR hS hA (c_X3_flaws  hc10) wd375 wd376 wd377 wd1 wd378 hyX3_flaws ⟨rfl, rfl⟩ ⟨Nat.le_of_ble_eq_true rfl, Nat.le_of_ble_eq_true rfl⟩ hl.1 (Nat.le_of_ble_eq_true rfl) dL_law_143 ⟨by have := hbu; simp only [room_1]; omega, by have := hbu; simp only [room_1]; omega⟩ rfl (fun hg12 H locs hR hS => ?_)
        refine x_if_ne (tgt := 158) hx hb hg12 dL_law_146 (by decide) (fun ci13 => ?_) (fun ci13 => ?_)
        · rw [if_neg ci13] at hF
          refine x_iconst hx hb dL_law_158 ?_
          cases hF
          exact hret H locs ls _ _ _ (by have := hbu; omega) (by have := hbu; omega) hS dL_law_159
        · rw [if_pos ci13] at hF
          refine lv_aload_n hx hb dL_law_149 rfl (lv_at hl 2 rfl) ?_
          obtain ⟨y15, M16, hc14, hF⟩ := xb2_some hF
          refine l_cVl (As := []) (rest := []) hx hb hml hown hts hK hR hS hA (c_X3_digest  hc14) wd379 wd380 wd381 wd1 wd382 hyX3_digest ⟨rfl, rfl⟩ ⟨Nat.le_of_ble_eq_true rfl, Nat.le_of_ble_eq_true rfl⟩ hl.1 (Nat.le_of_ble_eq_true rfl) dL_law_150 ⟨by have := hbu; simp only [room_1]; omega, by have := hbu; simp only [room_1]; omega⟩ rfl (fun H locs hR hS => ?_)
          refine lv_lload_n hx hb dL_law_153 rfl (lv_at hl 0 rfl) ?_
          refine x_lcmp hx hb dL_law_154 ?_
          refine x_if_eq (tgt := 160) hx hb (lcmpI_rg _ _) dL_law_155 (by decide) (fun ci17 => ?_) (fun ci17 => ?_)
          · rw [if_pos ci17] at hF
            refine lv_aload_n hx hb dL_law_160 rfl (lv_at hl 2 rfl) ?_
            obtain ⟨y19, hc18, hF⟩ := xb1_some hF
            refine l_cVi (As := []) (rest := []) hx hb hml hown hts hK hR hS hA (c_X3_changes  hc18) wd329 wd330 wd331 wd1 wd332 hyX3_changes ⟨rfl, rfl⟩ ⟨Nat.le_of_ble_eq_true rfl, Nat.le_of_ble_eq_true rfl⟩ hl.1 (Nat.le_of_ble_eq_true rfl) dL_law_161 ⟨by have := hbu; simp only [room_1]; omega, by have := hbu; simp only [room_1]; omega⟩ rfl (fun hg20 H locs hR hS => ?_)
            refine lv_istore (lv' := [(5, .int (jI y19)), (3, .long y3), (0, .ref b0), (1, .ref (adr b 0 0)), (2, .ref dq1)]) hx hb dL_law_164 hl (by decide) rfl (fun ls hl => ?_)
            refine lv_aload_n hx hb dL_law_166 rfl (lv_at hl 3 rfl) ?_
            obtain ⟨y22, M23, hc21, hF⟩ := xb2_some hF
            refine l_cVi (As := []) (rest := []) hx hb hml hown hts hK hR hS hA (c_X3_sync  hc21) wd242 wd243 wd244 wd1 wd245 hyX3_sync ⟨rfl, rfl⟩ ⟨Nat.le_of_ble_eq_true rfl, Nat.le_of_ble_eq_true rfl⟩ hl.1 (Nat.le_of_ble_eq_true rfl) dL_law_167 ⟨by have := hbu; simp only [room_1]; omega, by have := hbu; simp only [room_1]; omega⟩ rfl (fun hg24 H locs hR hS => ?_)
            refine lv_istore (lv' := [(6, .int (jI y22)), (5, .int (jI y19)), (3, .long y3), (0, .ref b0), (1, .ref (adr b 0 0)), (2, .ref dq1)]) hx hb dL_law_170 hl (by decide) rfl (fun ls hl => ?_)
            refine lv_iload hx hb dL_law_172 (lv_at hl 0 rfl) ?_
            refine lv_aload_n hx hb dL_law_174 rfl (lv_at hl 4 rfl) ?_
            obtain ⟨y26, hc25, hF⟩ := xb1_some hF
            refine l_cVi (As := []) (rest := [.int (jI y22)]) hx hb hml hown hts hK hR hS hA (c_X3_isDown  hc25) wd321 wd322 wd323 wd1 wd324 hyX3_isDown ⟨rfl, rfl⟩ ⟨Nat.le_of_ble_eq_true rfl, Nat.le_of_ble_eq_true rfl⟩ hl.1 (Nat.le_of_ble_eq_true rfl) dL_law_175 ⟨by have := hbu; simp only [room_1]; omega, by have := hbu; simp only [room_1]; omega⟩ rfl (fun hg27 H locs hR hS => ?_)
            refine x_if_ne (tgt := 185) hx hb hg27 dL_law_178 (by decide) (fun ci28 => ?_) (fun ci28 => ?_)
            · rw [if_neg ci28] at hF
              refine x_iconst hx hb dL_law_185 ?_
              refine x_icmp_eq (tgt := 191) hx hb hg24 (by decide : rg (0 : Int)) dL_law_186 (by decide) (fun ci29 => ?_) (fun ci29 => ?_)
              · rw [if_pos ci29] at hF
                refine lv_iload hx hb dL_law_191 (lv_at hl 0 rfl) ?_
                refine x_if_eq (tgt := 390) hx hb hg24 dL_law_193 (by decide) (fun ci30 => ?_) (fun ci30 => ?_)
                · rw [if_pos ci30] at hF
                  refine x_iconst hx hb dL_law_390 ?_
                  cases hF
                  exact hret H locs ls _ _ _ (by have := hbu; omega) (by have := hbu; omega) hS dL_law_391
                · rw [if_neg ci30] at hF
                  refine x_bipush hx hb (by decide +kernel) dL_law_196 ?_
                  refine e_new (atype := .int) (kd := 0) (N := 32) hx hb hts wd87 rfl rfl (fun cA h => Option.some.inj (h.symm.trans (hK.2 0 _ rfl).2)) hR hS (by decide : rg (32 : Int)) rfl (by decide) (show _ ≤ _ from (by have := hbu; simp only [room_1]; omega)) (show _ ≤ _ from (by have := hbu; simp only [room_1]; omega)) dL_law_198 (fun dq2 H hdq2 hR hS => ?_)
                  have hR : RD g b M23 [(dq1, 3, 6, fdq1), (dq2, 0, 32, (fun _ => 0))] H := hR
                  obtain ⟨cells, hce⟩ : ∃ z, z = cells + 1 := ⟨_, rfl⟩; obtain ⟨slots, hsl⟩ : ∃ z, z = slots + 32 := ⟨_, rfl⟩; rw [← hce, ← hsl]; have hbu := And.intro hbu (And.intro hce hsl)
                  refine lv_astore (lv' := [(7, .ref dq2), (6, .int (jI y22)), (5, .int (jI y19)), (3, .long y3), (0, .ref b0), (1, .ref (adr b 0 0)), (2, .ref dq1)]) hx hb dL_law_200 hl (by decide) rfl (fun ls hl => ?_)
                  refine x_bipush hx hb (by decide +kernel) dL_law_202 ?_
                  refine e_new (atype := .int) (kd := 0) (N := 32) hx hb hts wd87 rfl rfl (fun cA h => Option.some.inj (h.symm.trans (hK.2 0 _ rfl).2)) hR hS (by decide : rg (32 : Int)) rfl (by decide) (show _ ≤ _ from (by have := hbu; simp only [room_1]; omega)) (show _ ≤ _ from (by have := hbu; simp only [room_1]; omega)) dL_law_204 (fun dq3 H hdq3 hR hS => ?_)
                  have hR : RD g b M23 [(dq1, 3, 6, fdq1), (dq2, 0, 32, (fun _ => 0)), (dq3, 0, 32, (fun _ => 0))] H := hR
                  obtain ⟨cells, hce⟩ : ∃ z, z = cells + 1 := ⟨_, rfl⟩; obtain ⟨slots, hsl⟩ : ∃ z, z = slots + 32 := ⟨_, rfl⟩; rw [← hce, ← hsl]; have hbu := And.intro hbu (And.intro hce hsl)
                  refine lv_astore (lv' := [(8, .ref dq3), (7, .ref dq2), (6, .int (jI y22)), (5, .int (jI y19)), (3, .long y3), (0, .ref b0), (1, .ref (adr b 0 0)), (2, .ref dq1)]) hx hb dL_law_206 hl (by decide) rfl (fun ls hl => ?_)
                  refine x_iconst hx hb dL_law_208 ?_
                  refine lv_istore (lv' := [(9, .int (jI (0 : Int))), (8, .ref dq3), (7, .ref dq2), (6, .int (jI y22)), (5, .int (jI y19)), (3, .long y3), (0, .ref b0), (1, .ref (adr b 0 0)), (2, .ref dq1)]) hx hb dL_law_209 hl (by decide) rfl (fun ls hl => ?_)
                  exact w_L_law_211 C0 hret  FU M23 y19 (0 : Int) (fun _ => 0) (fun _ => 0) hg20 (by decide : rg (0 : Int)) dq2 dq3 hdq2 hdq3 H locs _ _ (by omega) (hR.pick [1, 2] (by decide) rfl) hS ls (lv_sub hl [7, 4, 2, 1, 0] rfl) hF
              · rw [if_neg ci29] at hF
                refine x_iconst hx hb dL_law_189 ?_
                cases hF
                exact hret H locs ls _ _ _ (by have := hbu; omega) (by have := hbu; omega) hS dL_law_190
            · rw [if_pos ci28] at hF
              refine x_iconst hx hb dL_law_181 ?_
              refine lv_goto (tgt := 186) hx hb dL_law_182 (by decide) ?_
              refine x_icmp_eq (tgt := 191) hx hb hg24 (by decide : rg (1 : Int)) dL_law_186 (by decide) (fun ci52 => ?_) (fun ci52 => ?_)
              · rw [if_pos ci52] at hF
                refine lv_iload hx hb dL_law_191 (lv_at hl 0 rfl) ?_
                refine x_if_eq (tgt := 390) hx hb hg24 dL_law_193 (by decide) (fun ci53 => ?_) (fun ci53 => ?_)
                · rw [if_pos ci53] at hF
                  refine x_iconst hx hb dL_law_390 ?_
                  cases hF
                  exact hret H locs ls _ _ _ (by have := hbu; omega) (by have := hbu; omega) hS dL_law_391
                · rw [if_neg ci53] at hF
                  refine x_bipush hx hb (by decide +kernel) dL_law_196 ?_
                  refine e_new (atype := .int) (kd := 0) (N := 32) hx hb hts wd87 rfl rfl (fun cA h => Option.some.inj (h.symm.trans (hK.2 0 _ rfl).2)) hR hS (by decide : rg (32 : Int)) rfl (by decide) (show _ ≤ _ from (by have := hbu; simp only [room_1]; omega)) (show _ ≤ _ from (by have := hbu; simp only [room_1]; omega)) dL_law_198 (fun dq2 H hdq2 hR hS => ?_)
                  have hR : RD g b M23 [(dq1, 3, 6, fdq1), (dq2, 0, 32, (fun _ => 0))] H := hR
                  obtain ⟨cells, hce⟩ : ∃ z, z = cells + 1 := ⟨_, rfl⟩; obtain ⟨slots, hsl⟩ : ∃ z, z = slots + 32 := ⟨_, rfl⟩; rw [← hce, ← hsl]; have hbu := And.intro hbu (And.intro hce hsl)
                  refine lv_astore (lv' := [(7, .ref dq2), (6, .int (jI y22)), (5, .int (jI y19)), (3, .long y3), (0, .ref b0), (1, .ref (adr b 0 0)), (2, .ref dq1)]) hx hb dL_law_200 hl (by decide) rfl (fun ls hl => ?_)
                  refine x_bipush hx hb (by decide +kernel) dL_law_202 ?_
                  refine e_new (atype := .int) (kd := 0) (N := 32) hx hb hts wd87 rfl rfl (fun cA h => Option.some.inj (h.symm.trans (hK.2 0 _ rfl).2)) hR hS (by decide : rg (32 : Int)) rfl (by decide) (show _ ≤ _ from (by have := hbu; simp only [room_1]; omega)) (show _ ≤ _ from (by have := hbu; simp only [room_1]; omega)) dL_law_204 (fun dq3 H hdq3 hR hS => ?_)
                  have hR : RD g b M23 [(dq1, 3, 6, fdq1), (dq2, 0, 32, (fun _ => 0)), (dq3, 0, 32, (fun _ => 0))] H := hR
                  obtain ⟨cells, hce⟩ : ∃ z, z = cells + 1 := ⟨_, rfl⟩; obtain ⟨slots, hsl⟩ : ∃ z, z = slots + 32 := ⟨_, rfl⟩; rw [← hce, ← hsl]; have hbu := And.intro hbu (And.intro hce hsl)
                  refine lv_astore (lv' := [(8, .ref dq3), (7, .ref dq2), (6, .int (jI y22)), (5, .int (jI y19)), (3, .long y3), (0, .ref b0), (1, .ref (adr b 0 0)), (2, .ref dq1)]) hx hb dL_law_206 hl (by decide) rfl (fun ls hl => ?_)
                  refine x_iconst hx hb dL_law_208 ?_
                  refine lv_istore (lv' := [(9, .int (jI (0 : Int))), (8, .ref dq3), (7, .ref dq2), (6, .int (jI y22)), (5, .int (jI y19)), (3, .long y3), (0, .ref b0), (1, .ref (adr b 0 0)), (2, .ref dq1)]) hx hb dL_law_209 hl (by decide) rfl (fun ls hl => ?_)
                  exact w_L_law_211 C0 hret  FU M23 y19 (0 : Int) (fun _ => 0) (fun _ => 0) hg20 (by decide : rg (0 : Int)) dq2 dq3 hdq2 hdq3 H locs _ _ (by omega) (hR.pick [1, 2] (by decide) rfl) hS ls (lv_sub hl [7, 4, 2, 1, 0] rfl) hF
              · rw [if_neg ci52] at hF
                refine x_iconst hx hb dL_law_189 ?_
                cases hF
                exact hret H locs ls _ _ _ (by have := hbu; omega) (by have := hbu; omega) hS dL_law_190
          · rw [if_neg ci17] at hF
            refine x_iconst hx hb dL_law_158 ?_
            cases hF
            exact hret H locs ls _ _ _ (by have := hbu; omega) (by have := hbu; omega) hS dL_law_159
    · rw [if_neg ci1] at hF
      refine lv_aload_n hx hb dL_law_21 rfl (lv_at hl 0 rfl) ?_
      refine lv_iload_n hx hb dL_law_22 rfl (lv_at hl 3 rfl) ?_
      refine x_bipush hx hb (by decide +kernel) dL_law_23 ?_
      obtain ⟨hq55, hF⟩ := xk_some hF
      refine x_irem hx hb hv3 (by decide : rg (15 : Int)) (by decide) dL_law_25 ?_
      obtain ⟨hq56, hF⟩ := xk_some hF
      refine l_cell (rest := []) C0 hS hq55 hq56 wd603 hl.1 (Nat.le_of_ble_eq_true rfl) dL_law_26 ⟨show _ ≤ _ from (by have := hbu; simp only [room_1]; omega), show _ ≤ _ from (by have := hbu; simp only [room_1]; omega)⟩ rfl (fun H locs hS hk => ?_)
      have hR := hR.kept0 hk
      refine lv_iload_n hx hb dL_law_29 rfl (lv_at hl 3 rfl) ?_
      refine x_bipush hx hb (by decide +kernel) dL_law_30 ?_
      obtain ⟨hq58, hF⟩ := xk_some hF
      refine x_idiv hx hb hv3 (by decide : rg (15 : Int)) (by decide) dL_law_32 ?_
      refine x_bipush hx hb (by decide +kernel) dL_law_33 ?_
      obtain ⟨hq59, hF⟩ := xk_some hF
      refine x_imul hx hb dL_law_35 ?_
      refine x_ishr hx hb dL_law_36 ?_
      refine lv_istore (lv' := [(4, .int (jI (shrI (cellX xs L (Int.tmod v3 (15 : Int))) ((Int.tdiv v3 (15 : Int)) * (7 : Int))))), (0, .ref b0), (1, .ref (adr b 0 0)), (2, .ref dq1), (3, .int (jI v3))]) hx hb dL_law_37 hl (by decide) rfl (fun ls hl => ?_)
      refine lv_aload_n hx hb dL_law_39 rfl (lv_at hl 1 rfl) ?_
      refine lv_iload_n hx hb dL_law_40 rfl (lv_at hl 4 rfl) ?_
      refine x_iconst hx hb dL_law_41 ?_
      obtain ⟨hq60, hF⟩ := xk_some hF
      refine x_iadd hx hb dL_law_42 ?_
      refine x_bipush hx hb (by decide +kernel) dL_law_43 ?_
      obtain ⟨hq62, hF⟩ := xk_some hF
      refine x_irem hx hb hq60 (by decide : rg (16 : Int)) (by decide) dL_law_45 ?_
      obtain ⟨hq63, hF⟩ := xk_some hF
      refine l_cell (rest := []) C0 hS hq62 hq63 wd603 hl.1 (Nat.le_of_ble_eq_true rfl) dL_law_46 ⟨show _ ≤ _ from (by have := hbu; simp only [room_1]; omega), show _ ≤ _ from (by have := hbu; simp only [room_1]; omega)⟩ rfl (fun H locs hS hk => ?_)
      have hR := hR.kept0 hk
      refine lv_iload_n hx hb dL_law_49 rfl (lv_at hl 4 rfl) ?_
      refine x_bipush hx hb (by decide +kernel) dL_law_50 ?_
      obtain ⟨hq65, hF⟩ := xk_some hF
      refine x_idiv hx hb hv3 (by decide : rg (16 : Int)) (by decide) dL_law_52 ?_
      refine x_bipush hx hb (by decide +kernel) dL_law_53 ?_
      obtain ⟨hq66, hF⟩ := xk_some hF
      refine x_imul hx hb dL_law_55 ?_
      refine x_ishr hx hb dL_law_56 ?_
      refine lv_istore (lv' := [(5, .int (jI (shrI (cellX xs L (Int.tmod (v3 + (4 : Int)) (16 : Int))) ((Int.tdiv v3 (16 : Int)) * (6 : Int))))), (4, .int (jI (shrI (cellX xs L (Int.tmod v3 (15 : Int))) ((Int.tdiv v3 (15 : Int)) * (7 : Int))))), (0, .ref b0), (1, .ref (adr b 0 0)), (2, .ref dq1), (3, .int (jI v3))]) hx hb dL_law_57 hl (by decide) rfl (fun ls hl => ?_)
      refine lv_aload_n hx hb dL_law_59 rfl (lv_at hl 3 rfl) ?_
      refine lv_aload_n hx hb dL_law_60 rfl (lv_at hl 4 rfl) ?_
      refine lv_iload hx hb dL_law_61 (lv_at hl 1 rfl) ?_
      refine lv_iload hx hb dL_law_63 (lv_at hl 0 rfl) ?_
      obtain ⟨y68, M69, f70, hc67, hF⟩ := xb3_some hF
      refine l_cS1 (As := [.ref (adr b 0 0), .ref dq1, .int (jI (shrI (cellX xs L (Int.tmod v3 (15 : Int))) ((Int.tdiv v3 (15 : Int)) * (7 : Int)))), .int (jI (shrI (cellX xs L (Int.tmod (v3 + (4 : Int)) (16 : Int))) ((Int.tdiv v3 (16 : Int)) * (6 : Int))))]) (rest := []) hx hb hml hown hts hK hR hS hA (i := 0) rfl (show s.heap.size ≤ _ from hdq1) (c_L_act (shrI_rg _ _) (shrI_rg _ _) hc67) wd607 wd608 wd0 wd609 hyL_act ⟨rfl, rfl⟩ ⟨Nat.le_of_ble_eq_true rfl, Nat.le_of_ble_eq_true rfl⟩ hl.1 (Nat.le_of_ble_eq_true rfl) dL_law_65 ⟨by have := hbu; simp only [room_1]; omega, by have := hbu; simp only [room_1]; omega⟩ rfl (fun hg71 H locs hR hS => ?_)
      have hR : RD g b M69 [(dq1, 3, 6, f70)] H := hR
      obtain ⟨cells, hce⟩ : ∃ z, z = cells + 0 := ⟨_, rfl⟩; obtain ⟨slots, hsl⟩ : ∃ z, z = slots + 0 := ⟨_, rfl⟩; rw [← hce, ← hsl]; have hbu := And.intro hbu (And.intro hce hsl)
      refine x_if_ne (tgt := 73) hx hb hg71 dL_law_68 (by decide) (fun ci72 => ?_) (fun ci72 => ?_)
      · rw [if_neg ci72] at hF
        refine lv_aload_n hx hb dL_law_73 rfl (lv_at hl 3 rfl) ?_
        obtain ⟨y74, hc73, hF⟩ := xb1_some hF
        refine l_cVi (As := []) (rest := []) hx hb hml hown hts hK hR hS hA (c_X3_isDown  hc73) wd321 wd322 wd323 wd1 wd324 hyX3_isDown ⟨rfl, rfl⟩ ⟨Nat.le_of_ble_eq_true rfl, Nat.le_of_ble_eq_true rfl⟩ hl.1 (Nat.le_of_ble_eq_true rfl) dL_law_74 ⟨by have := hbu; simp only [room_1]; omega, by have := hbu; simp only [room_1]; omega⟩ rfl (fun hg75 H locs hR hS => ?_)
        refine x_if_eq (tgt := 108) hx hb hg75 dL_law_77 (by decide) (fun ci76 => ?_) (fun ci76 => ?_)
        · rw [if_pos ci76] at hF
          exact w_L_law_108 C0 (nb := n) hret ih M69 v3 f70 hv3 dq1 hdq1 H locs _ _ (by omega) hR hS ls (lv_sub hl [2, 3, 4, 5] rfl) hF
        · rw [if_neg ci76] at hF
          refine x_bipush hx hb (by decide +kernel) dL_law_80 ?_
          refine e_new (atype := .boolean) (kd := 3) (N := 6) hx hb hts wd845 rfl rfl (fun cA h => Option.some.inj (h.symm.trans (hK.2 3 _ rfl).2)) hR hS (by decide : rg (6 : Int)) rfl (by decide) (show _ ≤ _ from (by have := hbu; simp only [room_1]; omega)) (show _ ≤ _ from (by have := hbu; simp only [room_1]; omega)) dL_law_82 (fun dq2 H hdq2 hR hS => ?_)
          have hR : RD g b M69 [(dq1, 3, 6, f70), (dq2, 3, 6, (fun _ => 0))] H := hR
          obtain ⟨cells, hce⟩ : ∃ z, z = cells + 1 := ⟨_, rfl⟩; obtain ⟨slots, hsl⟩ : ∃ z, z = slots + 6 := ⟨_, rfl⟩; rw [← hce, ← hsl]; have hbu := And.intro hbu (And.intro hce hsl)
          refine lv_astore_n (lv' := [(2, .ref dq2), (5, .int (jI (shrI (cellX xs L (Int.tmod (v3 + (4 : Int)) (16 : Int))) ((Int.tdiv v3 (16 : Int)) * (6 : Int))))), (4, .int (jI (shrI (cellX xs L (Int.tmod v3 (15 : Int))) ((Int.tdiv v3 (15 : Int)) * (7 : Int))))), (0, .ref b0), (1, .ref (adr b 0 0)), (3, .int (jI v3))]) hx hb dL_law_84 rfl hl (by decide) rfl (fun ls hl => ?_)
          refine lv_aload_n hx hb dL_law_85 rfl (lv_at hl 4 rfl) ?_
          obtain ⟨y78, M79, hc77, hF⟩ := xb2_some hF
          refine l_cVi (As := []) (rest := []) hx hb hml hown hts hK hR hS hA (c_X3_mount  hc77) wd289 wd290 wd291 wd1 wd292 hyX3_mount ⟨rfl, rfl⟩ ⟨Nat.le_of_ble_eq_true rfl, Nat.le_of_ble_eq_true rfl⟩ hl.1 (Nat.le_of_ble_eq_true rfl) dL_law_86 ⟨by have := hbu; simp only [room_1]; omega, by have := hbu; simp only [room_1]; omega⟩ rfl (fun hg80 H locs hR hS => ?_)
          refine x_if_ge (tgt := 108) hx hb hg80 dL_law_89 (by decide) (fun ci81 => ?_) (fun ci81 => ?_)
          · rw [if_pos ci81] at hF
            exact w_L_law_108 C0 (nb := n) hret ih M79 v3 (fun _ => 0) hv3 dq2 hdq2 H locs _ _ (by omega) (hR.pick [1] (by decide) rfl) hS ls (lv_sub hl [3, 4, 0, 5] rfl) hF
          · rw [if_neg ci81] at hF
            refine lv_aload_n hx hb dL_law_92 rfl (lv_at hl 4 rfl) ?_
            obtain ⟨y83, hc82, hF⟩ := xb1_some hF
            refine l_cVi (As := []) (rest := []) hx hb hml hown hts hK hR hS hA (c_X3_isDown  hc82) wd321 wd322 wd323 wd1 wd324 hyX3_isDown ⟨rfl, rfl⟩ ⟨Nat.le_of_ble_eq_true rfl, Nat.le_of_ble_eq_true rfl⟩ hl.1 (Nat.le_of_ble_eq_true rfl) dL_law_93 ⟨by have := hbu; simp only [room_1]; omega, by have := hbu; simp only [room_1]; omega⟩ rfl (fun hg84 H locs hR hS => ?_)
            refine x_if_eq (tgt := 106) hx hb hg84 dL_law_96 (by decide) (fun ci85 => ?_) (fun ci85 => ?_)
            · rw [if_pos ci85] at hF
              refine x_iconst hx hb dL_law_106 ?_
              cases hF
              exact hret H locs ls _ _ _ (by have := hbu; omega) (by have := hbu; omega) hS dL_law_107
            · rw [if_neg ci85] at hF
              refine lv_aload_n hx hb dL_law_99 rfl (lv_at hl 4 rfl) ?_
              obtain ⟨y87, M88, hc86, hF⟩ := xb2_some hF
              refine l_cVi (As := []) (rest := []) hx hb hml hown hts hK hR hS hA (c_X3_mount  hc86) wd289 wd290 wd291 wd1 wd292 hyX3_mount ⟨rfl, rfl⟩ ⟨Nat.le_of_ble_eq_true rfl, Nat.le_of_ble_eq_true rfl⟩ hl.1 (Nat.le_of_ble_eq_true rfl) dL_law_100 ⟨by have := hbu; simp only [room_1]; omega, by have := hbu; simp only [room_1]; omega⟩ rfl (fun hg89 H locs hR hS => ?_)
              refine x_if_ge (tgt := 108) hx hb hg89 dL_law_103 (by decide) (fun ci90 => ?_) (fun ci90 => ?_)
              · rw [if_pos ci90] at hF
                exact w_L_law_108 C0 (nb := n) hret ih M88 v3 (fun _ => 0) hv3 dq2 hdq2 H locs _ _ (by omega) (hR.pick [1] (by decide) rfl) hS ls (lv_sub hl [3, 4, 0, 5] rfl) hF
              · rw [if_neg ci90] at hF
                refine x_iconst hx hb dL_law_106 ?_
                cases hF
                exact hret H locs ls _ _ _ (by have := hbu; omega) (by have := hbu; omega) hS dL_law_107
      · rw [if_pos ci72] at hF
        refine x_iconst hx hb dL_law_71 ?_
        cases hF
        exact hret H locs ls _ _ _ (by have := hbu; omega) (by have := hbu; omega) hS dL_law_72
