/-! FROM THE LAW'S ENTRY TO ITS END, for scripts of at most 6 ints -/
theorem mask63 (x : Int32) : ∃ n : Nat, n < 64 ∧ x &&& 63 = jI (n : Int) := by
  refine ⟨x.toBitVec.toNat % 64, Nat.mod_lt _ (by decide), ?_⟩
  apply Int32.toBitVec_inj.1
  apply BitVec.eq_of_toNat_eq
  rw [Int32.toBitVec_and, BitVec.toNat_and, show ((63 : Int32).toBitVec.toNat) = 2 ^ 6 - 1 from by decide, Nat.and_two_pow_sub_one_eq_mod]
  show _ = (BitVec.ofInt 32 _).toNat
  rw [BitVec.ofInt_natCast, BitVec.toNat_ofNat]
  omega
set_option maxHeartbeats 4000000 in
set_option maxRecDepth 100000 in
theorem law_sw {p : Program} {l : Launch} (hst : l.stackTraces = false) {e : Env} {S : State} {m : MethodId} {below : List Frame} {meth : Method} {c : Code} {H : Heap} {locs : List Loc} {Q : State → Prop} {ls : Array Slot} {g : Gx} {b L : Nat} {xs : Nat → Int32} (A0 : LA p S m c b L xs g) {q o d : Nat} (hLW : LW g S.heap.size q o d M0 MR H) (hS : va_S (fun a => S.heap.size ≤ a) S.heap H locs) (hl : lv_has ls 9 [(5, .int (jI 0)), (4, .ref d), (3, .ref o), (2, .ref q), (1, .ref S.heap.size), (0, .ref b)]) (hL : 6 ≤ L)
    (kk : ∀ (H1 : Heap) (locs1 : List Loc) (ls1 : Array Slot) (c1 s1 : Nat), c1 ≤ 600002 → s1 ≤ 7302232 → va_S (fun a => S.heap.size ≤ a) S.heap H1 locs1 → lv_has ls1 9 [(5, .int (jI 0)), (0, .ref b)] → W p l e room_1 S m #[.ref b] below meth c H1 locs1 c1 s1 Q (F0 m 4280 ls1 [])) (n : Nat) (hn : n < 64) : W p l e room_1 S m #[.ref b] below meth c H locs 440 25558 Q (F0 m 45 ls [.int (jI (n : Int))]) := by
  obtain ⟨hx, hb, -⟩ := id A0
  rcases (show n = 0 ∨ n = 1 ∨ n = 2 ∨ n = 3 ∨ n = 4 ∨ n = 5 ∨ n = 6 ∨ n = 7 ∨ n = 8 ∨ n = 9 ∨ n = 10 ∨ n = 11 ∨ n = 12 ∨ n = 13 ∨ n = 14 ∨ n = 15 ∨ n = 16 ∨ n = 17 ∨ n = 18 ∨ n = 19 ∨ n = 20 ∨ n = 21 ∨ n = 22 ∨ n = 23 ∨ n = 24 ∨ n = 25 ∨ n = 26 ∨ n = 27 ∨ n = 28 ∨ n = 29 ∨ n = 30 ∨ n = 31 ∨ n = 32 ∨ n = 33 ∨ n = 34 ∨ n = 35 ∨ n = 36 ∨ n = 37 ∨ n = 38 ∨ n = 39 ∨ n = 40 ∨ n = 41 ∨ n = 42 ∨ n = 43 ∨ n = 44 ∨ n = 45 ∨ n = 46 ∨ n = 47 ∨ n = 48 ∨ n = 49 ∨ n = 50 ∨ n = 51 ∨ n = 52 ∨ n = 53 ∨ n = 54 ∨ n = 55 ∨ n = 56 ∨ n = 57 ∨ n = 58 ∨ n = 59 ∨ n = 60 ∨ n = 61 ∨ n = 62 ∨ n = 63 by omega) with rfl | rfl | rfl | rfl | rfl | rfl | rfl | rfl | rfl | rfl | rfl | rfl | rfl | rfl | rfl | rfl | rfl | rfl | rfl | rfl | rfl | rfl | rfl | rfl | rfl | rfl | rfl | rfl | rfl | rfl | rfl | rfl | rfl | rfl | rfl | rfl | rfl | rfl | rfl | rfl | rfl | rfl | rfl | rfl | rfl | rfl | rfl | rfl | rfl | rfl | rfl | rfl | rfl | rfl | rfl | rfl | rfl | rfl | rfl | rfl | rfl | rfl | rfl | rfl
  · refine lv_tableIn (off := 271) (tgt := 316) hx hb dL_law_45 (by decide +kernel) (by decide +kernel) (by decide +kernel) rfl ?_
    exact q_makeFile hst A0 hLW hS hl hL (fun H1 locs1 ls1 hS1 hl1 => kk H1 locs1 ls1 _ _ (Nat.le_of_ble_eq_true rfl) (Nat.le_of_ble_eq_true rfl) hS1 hl1)
  · refine lv_tableIn (off := 339) (tgt := 384) hx hb dL_law_45 (by decide +kernel) (by decide +kernel) (by decide +kernel) rfl ?_
    exact q_makeFolder hst A0 hLW hS hl hL (fun H1 locs1 ls1 hS1 hl1 => kk H1 locs1 ls1 _ _ (Nat.le_of_ble_eq_true rfl) (Nat.le_of_ble_eq_true rfl) hS1 hl1)
  · refine lv_tableIn (off := 407) (tgt := 452) hx hb dL_law_45 (by decide +kernel) (by decide +kernel) (by decide +kernel) rfl ?_
    exact q_makeLink hst A0 hLW hS hl hL (fun H1 locs1 ls1 hS1 hl1 => kk H1 locs1 ls1 _ _ (Nat.le_of_ble_eq_true rfl) (Nat.le_of_ble_eq_true rfl) hS1 hl1)
  · refine lv_tableIn (off := 511) (tgt := 556) hx hb dL_law_45 (by decide +kernel) (by decide +kernel) (by decide +kernel) rfl ?_
    exact q_cloneFile hst A0 hLW hS hl hL (fun H1 locs1 ls1 hS1 hl1 => kk H1 locs1 ls1 _ _ (Nat.le_of_ble_eq_true rfl) (Nat.le_of_ble_eq_true rfl) hS1 hl1)
  · refine lv_tableIn (off := 591) (tgt := 636) hx hb dL_law_45 (by decide +kernel) (by decide +kernel) (by decide +kernel) rfl ?_
    exact q_addName hst A0 hLW hS hl hL (fun H1 locs1 ls1 hS1 hl1 => kk H1 locs1 ls1 _ _ (Nat.le_of_ble_eq_true rfl) (Nat.le_of_ble_eq_true rfl) hS1 hl1)
  · refine lv_tableIn (off := 671) (tgt := 716) hx hb dL_law_45 (by decide +kernel) (by decide +kernel) (by decide +kernel) rfl ?_
    exact q_unlink hst A0 hLW hS hl hL (fun H1 locs1 ls1 hS1 hl1 => kk H1 locs1 ls1 _ _ (Nat.le_of_ble_eq_true rfl) (Nat.le_of_ble_eq_true rfl) hS1 hl1)
  · refine lv_tableIn (off := 739) (tgt := 784) hx hb dL_law_45 (by decide +kernel) (by decide +kernel) (by decide +kernel) rfl ?_
    exact q_removeFolder hst A0 hLW hS hl hL (fun H1 locs1 ls1 hS1 hl1 => kk H1 locs1 ls1 _ _ (Nat.le_of_ble_eq_true rfl) (Nat.le_of_ble_eq_true rfl) hS1 hl1)
  · refine lv_tableIn (off := 807) (tgt := 852) hx hb dL_law_45 (by decide +kernel) (by decide +kernel) (by decide +kernel) rfl ?_
    exact q_rename hst A0 hLW hS hl hL (fun H1 locs1 ls1 hS1 hl1 => kk H1 locs1 ls1 _ _ (Nat.le_of_ble_eq_true rfl) (Nat.le_of_ble_eq_true rfl) hS1 hl1)
  · refine lv_tableIn (off := 899) (tgt := 944) hx hb dL_law_45 (by decide +kernel) (by decide +kernel) (by decide +kernel) rfl ?_
    exact q_exchange hst A0 hLW hS hl hL (fun H1 locs1 ls1 hS1 hl1 => kk H1 locs1 ls1 _ _ (Nat.le_of_ble_eq_true rfl) (Nat.le_of_ble_eq_true rfl) hS1 hl1)
  · refine lv_tableIn (off := 991) (tgt := 1036) hx hb dL_law_45 (by decide +kernel) (by decide +kernel) (by decide +kernel) rfl ?_
    exact q_write hst A0 hLW hS hl hL (fun H1 locs1 ls1 hS1 hl1 => kk H1 locs1 ls1 _ _ (Nat.le_of_ble_eq_true rfl) (Nat.le_of_ble_eq_true rfl) hS1 hl1)
  · refine lv_tableIn (off := 1071) (tgt := 1116) hx hb dL_law_45 (by decide +kernel) (by decide +kernel) (by decide +kernel) rfl ?_
    exact q_truncate hst A0 hLW hS hl hL (fun H1 locs1 ls1 hS1 hl1 => kk H1 locs1 ls1 _ _ (Nat.le_of_ble_eq_true rfl) (Nat.le_of_ble_eq_true rfl) hS1 hl1)
  · refine lv_tableIn (off := 1139) (tgt := 1184) hx hb dL_law_45 (by decide +kernel) (by decide +kernel) (by decide +kernel) rfl ?_
    exact q_punch hst A0 hLW hS hl hL (fun H1 locs1 ls1 hS1 hl1 => kk H1 locs1 ls1 _ _ (Nat.le_of_ble_eq_true rfl) (Nat.le_of_ble_eq_true rfl) hS1 hl1)
  · refine lv_tableIn (off := 1207) (tgt := 1252) hx hb dL_law_45 (by decide +kernel) (by decide +kernel) (by decide +kernel) rfl ?_
    exact q_share hst A0 hLW hS hl hL (fun H1 locs1 ls1 hS1 hl1 => kk H1 locs1 ls1 _ _ (Nat.le_of_ble_eq_true rfl) (Nat.le_of_ble_eq_true rfl) hS1 hl1)
  · refine lv_tableIn (off := 1299) (tgt := 1344) hx hb dL_law_45 (by decide +kernel) (by decide +kernel) (by decide +kernel) rfl ?_
    exact q_setOwner hst A0 hLW hS hl hL (fun H1 locs1 ls1 hS1 hl1 => kk H1 locs1 ls1 _ _ (Nat.le_of_ble_eq_true rfl) (Nat.le_of_ble_eq_true rfl) hS1 hl1)
  · refine lv_tableIn (off := 1367) (tgt := 1412) hx hb dL_law_45 (by decide +kernel) (by decide +kernel) (by decide +kernel) rfl ?_
    exact q_setQuota hst A0 hLW hS hl hL (fun H1 locs1 ls1 hS1 hl1 => kk H1 locs1 ls1 _ _ (Nat.le_of_ble_eq_true rfl) (Nat.le_of_ble_eq_true rfl) hS1 hl1)
  · refine lv_tableIn (off := 1435) (tgt := 1480) hx hb dL_law_45 (by decide +kernel) (by decide +kernel) (by decide +kernel) rfl ?_
    exact q_open hst A0 hLW hS hl hL (fun H1 locs1 ls1 hS1 hl1 => kk H1 locs1 ls1 _ _ (Nat.le_of_ble_eq_true rfl) (Nat.le_of_ble_eq_true rfl) hS1 hl1)
  · refine lv_tableIn (off := 1491) (tgt := 1536) hx hb dL_law_45 (by decide +kernel) (by decide +kernel) (by decide +kernel) rfl ?_
    exact q_close hst A0 hLW hS hl hL (fun H1 locs1 ls1 hS1 hl1 => kk H1 locs1 ls1 _ _ (Nat.le_of_ble_eq_true rfl) (Nat.le_of_ble_eq_true rfl) hS1 hl1)
  · refine lv_tableIn (off := 1547) (tgt := 1592) hx hb dL_law_45 (by decide +kernel) (by decide +kernel) (by decide +kernel) rfl ?_
    exact q_seek hst A0 hLW hS hl hL (fun H1 locs1 ls1 hS1 hl1 => kk H1 locs1 ls1 _ _ (Nat.le_of_ble_eq_true rfl) (Nat.le_of_ble_eq_true rfl) hS1 hl1)
  · refine lv_tableIn (off := 1615) (tgt := 1660) hx hb dL_law_45 (by decide +kernel) (by decide +kernel) (by decide +kernel) rfl ?_
    exact q_read hst A0 hLW hS hl hL (fun H1 locs1 ls1 hS1 hl1 => kk H1 locs1 ls1 _ _ (Nat.le_of_ble_eq_true rfl) (Nat.le_of_ble_eq_true rfl) hS1 hl1)
  · refine lv_tableIn (off := 1683) (tgt := 1728) hx hb dL_law_45 (by decide +kernel) (by decide +kernel) (by decide +kernel) rfl ?_
    exact q_lock hst A0 hLW hS hl hL (fun H1 locs1 ls1 hS1 hl1 => kk H1 locs1 ls1 _ _ (Nat.le_of_ble_eq_true rfl) (Nat.le_of_ble_eq_true rfl) hS1 hl1)
  · refine lv_tableIn (off := 1798) (tgt := 1843) hx hb dL_law_45 (by decide +kernel) (by decide +kernel) (by decide +kernel) rfl ?_
    exact q_unlock hst A0 hLW hS hl hL (fun H1 locs1 ls1 hS1 hl1 => kk H1 locs1 ls1 _ _ (Nat.le_of_ble_eq_true rfl) (Nat.le_of_ble_eq_true rfl) hS1 hl1)
  · refine lv_tableIn (off := 1878) (tgt := 1923) hx hb dL_law_45 (by decide +kernel) (by decide +kernel) (by decide +kernel) rfl ?_
    exact q_whoHinders hst A0 hLW hS hl hL (fun H1 locs1 ls1 hS1 hl1 => kk H1 locs1 ls1 _ _ (Nat.le_of_ble_eq_true rfl) (Nat.le_of_ble_eq_true rfl) hS1 hl1)
  · refine lv_tableIn (off := 1986) (tgt := 2031) hx hb dL_law_45 (by decide +kernel) (by decide +kernel) (by decide +kernel) rfl ?_
    exact q_lockRows hst A0 hLW hS hl hL (fun H1 locs1 ls1 hS1 hl1 => kk H1 locs1 ls1 _ _ (Nat.le_of_ble_eq_true rfl) (Nat.le_of_ble_eq_true rfl) hS1 hl1)
  · refine lv_tableIn (off := 2042) (tgt := 2087) hx hb dL_law_45 (by decide +kernel) (by decide +kernel) (by decide +kernel) rfl ?_
    exact q_lockAt hst A0 hLW hS hl hL (fun H1 locs1 ls1 hS1 hl1 => kk H1 locs1 ls1 _ _ (Nat.le_of_ble_eq_true rfl) (Nat.le_of_ble_eq_true rfl) hS1 hl1)
  · refine lv_tableIn (off := 2110) (tgt := 2155) hx hb dL_law_45 (by decide +kernel) (by decide +kernel) (by decide +kernel) rfl ?_
    exact q_nodeOf hst A0 hLW hS hl hL (fun H1 locs1 ls1 hS1 hl1 => kk H1 locs1 ls1 _ _ (Nat.le_of_ble_eq_true rfl) (Nat.le_of_ble_eq_true rfl) hS1 hl1)
  · refine lv_tableIn (off := 2166) (tgt := 2211) hx hb dL_law_45 (by decide +kernel) (by decide +kernel) (by decide +kernel) rfl ?_
    exact q_positionOf hst A0 hLW hS hl hL (fun H1 locs1 ls1 hS1 hl1 => kk H1 locs1 ls1 _ _ (Nat.le_of_ble_eq_true rfl) (Nat.le_of_ble_eq_true rfl) hS1 hl1)
  · refine lv_tableIn (off := 2222) (tgt := 2267) hx hb dL_law_45 (by decide +kernel) (by decide +kernel) (by decide +kernel) rfl ?_
    exact q_handles hst A0 hLW hS hl hL (fun H1 locs1 ls1 hS1 hl1 => kk H1 locs1 ls1 _ _ (Nat.le_of_ble_eq_true rfl) (Nat.le_of_ble_eq_true rfl) hS1 hl1)
  · refine lv_tableIn (off := 2266) (tgt := 2311) hx hb dL_law_45 (by decide +kernel) (by decide +kernel) (by decide +kernel) rfl ?_
    exact q_sync hst A0 hLW hS hl hL (fun H1 locs1 ls1 hS1 hl1 => kk H1 locs1 ls1 _ _ (Nat.le_of_ble_eq_true rfl) (Nat.le_of_ble_eq_true rfl) hS1 hl1)
  · refine lv_tableIn (off := 2317) (tgt := 2362) hx hb dL_law_45 (by decide +kernel) (by decide +kernel) (by decide +kernel) rfl ?_
    exact q_flush hst A0 hLW hS hl hL (fun H1 locs1 ls1 hS1 hl1 => kk H1 locs1 ls1 _ _ (Nat.le_of_ble_eq_true rfl) (Nat.le_of_ble_eq_true rfl) hS1 hl1)
  · refine lv_tableIn (off := 2368) (tgt := 2413) hx hb dL_law_45 (by decide +kernel) (by decide +kernel) (by decide +kernel) rfl ?_
    exact q_writeBack hst A0 hLW hS hl hL (fun H1 locs1 ls1 hS1 hl1 => kk H1 locs1 ls1 _ _ (Nat.le_of_ble_eq_true rfl) (Nat.le_of_ble_eq_true rfl) hS1 hl1)
  · refine lv_tableIn (off := 2416) (tgt := 2461) hx hb dL_law_45 (by decide +kernel) (by decide +kernel) (by decide +kernel) rfl ?_
    exact q_cut hst A0 hLW hS hl hL (fun H1 locs1 ls1 hS1 hl1 => kk H1 locs1 ls1 _ _ (Nat.le_of_ble_eq_true rfl) (Nat.le_of_ble_eq_true rfl) hS1 hl1)
  · refine lv_tableIn (off := 2440) (tgt := 2485) hx hb dL_law_45 (by decide +kernel) (by decide +kernel) (by decide +kernel) rfl ?_
    exact q_fail hst A0 hLW hS hl hL (fun H1 locs1 ls1 hS1 hl1 => kk H1 locs1 ls1 _ _ (Nat.le_of_ble_eq_true rfl) (Nat.le_of_ble_eq_true rfl) hS1 hl1)
  · refine lv_tableIn (off := 2500) (tgt := 2545) hx hb dL_law_45 (by decide +kernel) (by decide +kernel) (by decide +kernel) rfl ?_
    exact q_mount hst A0 hLW hS hl hL (fun H1 locs1 ls1 hS1 hl1 => kk H1 locs1 ls1 _ _ (Nat.le_of_ble_eq_true rfl) (Nat.le_of_ble_eq_true rfl) hS1 hl1)
  · refine lv_tableIn (off := 2544) (tgt := 2589) hx hb dL_law_45 (by decide +kernel) (by decide +kernel) (by decide +kernel) rfl ?_
    obtain ⟨r, Mr', h1, h2⟩ := p_isDown
    exact k_isDown A0 hLW hS hl (c_X3_isDown h1) (c_X4_isDown h2) (fun H1 locs1 ls1 hS1 hl1 => kk H1 locs1 ls1 _ _ (Nat.le_of_ble_eq_true rfl) (Nat.le_of_ble_eq_true rfl) hS1 hl1)
  · refine lv_tableIn (off := 2557) (tgt := 2602) hx hb dL_law_45 (by decide +kernel) (by decide +kernel) (by decide +kernel) rfl ?_
    obtain ⟨r, Mr', h1, h2⟩ := p_mounts
    exact k_mounts A0 hLW hS hl (c_X3_mounts h1) (c_X4_mounts h2) (fun H1 locs1 ls1 hS1 hl1 => kk H1 locs1 ls1 _ _ (Nat.le_of_ble_eq_true rfl) (Nat.le_of_ble_eq_true rfl) hS1 hl1)
  · refine lv_tableIn (off := 2570) (tgt := 2615) hx hb dL_law_45 (by decide +kernel) (by decide +kernel) (by decide +kernel) rfl ?_
    exact q_waiting hst A0 hLW hS hl hL (fun H1 locs1 ls1 hS1 hl1 => kk H1 locs1 ls1 _ _ (Nat.le_of_ble_eq_true rfl) (Nat.le_of_ble_eq_true rfl) hS1 hl1)
  · refine lv_tableIn (off := 2614) (tgt := 2659) hx hb dL_law_45 (by decide +kernel) (by decide +kernel) (by decide +kernel) rfl ?_
    exact q_changes hst A0 hLW hS hl hL (fun H1 locs1 ls1 hS1 hl1 => kk H1 locs1 ls1 _ _ (Nat.le_of_ble_eq_true rfl) (Nat.le_of_ble_eq_true rfl) hS1 hl1)
  · refine lv_tableIn (off := 2658) (tgt := 2703) hx hb dL_law_45 (by decide +kernel) (by decide +kernel) (by decide +kernel) rfl ?_
    exact q_nodes hst A0 hLW hS hl hL (fun H1 locs1 ls1 hS1 hl1 => kk H1 locs1 ls1 _ _ (Nat.le_of_ble_eq_true rfl) (Nat.le_of_ble_eq_true rfl) hS1 hl1)
  · refine lv_tableIn (off := 2702) (tgt := 2747) hx hb dL_law_45 (by decide +kernel) (by decide +kernel) (by decide +kernel) rfl ?_
    exact q_typeOf hst A0 hLW hS hl hL (fun H1 locs1 ls1 hS1 hl1 => kk H1 locs1 ls1 _ _ (Nat.le_of_ble_eq_true rfl) (Nat.le_of_ble_eq_true rfl) hS1 hl1)
  · refine lv_tableIn (off := 2758) (tgt := 2803) hx hb dL_law_45 (by decide +kernel) (by decide +kernel) (by decide +kernel) rfl ?_
    exact q_linksOf hst A0 hLW hS hl hL (fun H1 locs1 ls1 hS1 hl1 => kk H1 locs1 ls1 _ _ (Nat.le_of_ble_eq_true rfl) (Nat.le_of_ble_eq_true rfl) hS1 hl1)
  · refine lv_tableIn (off := 2814) (tgt := 2859) hx hb dL_law_45 (by decide +kernel) (by decide +kernel) (by decide +kernel) rfl ?_
    exact q_ownerOf hst A0 hLW hS hl hL (fun H1 locs1 ls1 hS1 hl1 => kk H1 locs1 ls1 _ _ (Nat.le_of_ble_eq_true rfl) (Nat.le_of_ble_eq_true rfl) hS1 hl1)
  · refine lv_tableIn (off := 2870) (tgt := 2915) hx hb dL_law_45 (by decide +kernel) (by decide +kernel) (by decide +kernel) rfl ?_
    exact q_sizeOf hst A0 hLW hS hl hL (fun H1 locs1 ls1 hS1 hl1 => kk H1 locs1 ls1 _ _ (Nat.le_of_ble_eq_true rfl) (Nat.le_of_ble_eq_true rfl) hS1 hl1)
  · refine lv_tableIn (off := 2926) (tgt := 2971) hx hb dL_law_45 (by decide +kernel) (by decide +kernel) (by decide +kernel) rfl ?_
    exact q_blocksOf hst A0 hLW hS hl hL (fun H1 locs1 ls1 hS1 hl1 => kk H1 locs1 ls1 _ _ (Nat.le_of_ble_eq_true rfl) (Nat.le_of_ble_eq_true rfl) hS1 hl1)
  · refine lv_tableIn (off := 2982) (tgt := 3027) hx hb dL_law_45 (by decide +kernel) (by decide +kernel) (by decide +kernel) rfl ?_
    exact q_sharedOf hst A0 hLW hS hl hL (fun H1 locs1 ls1 hS1 hl1 => kk H1 locs1 ls1 _ _ (Nat.le_of_ble_eq_true rfl) (Nat.le_of_ble_eq_true rfl) hS1 hl1)
  · refine lv_tableIn (off := 3038) (tgt := 3083) hx hb dL_law_45 (by decide +kernel) (by decide +kernel) (by decide +kernel) rfl ?_
    exact q_byteAt hst A0 hLW hS hl hL (fun H1 locs1 ls1 hS1 hl1 => kk H1 locs1 ls1 _ _ (Nat.le_of_ble_eq_true rfl) (Nat.le_of_ble_eq_true rfl) hS1 hl1)
  · refine lv_tableIn (off := 3106) (tgt := 3151) hx hb dL_law_45 (by decide +kernel) (by decide +kernel) (by decide +kernel) rfl ?_
    exact q_isHole hst A0 hLW hS hl hL (fun H1 locs1 ls1 hS1 hl1 => kk H1 locs1 ls1 _ _ (Nat.le_of_ble_eq_true rfl) (Nat.le_of_ble_eq_true rfl) hS1 hl1)
  · refine lv_tableIn (off := 3181) (tgt := 3226) hx hb dL_law_45 (by decide +kernel) (by decide +kernel) (by decide +kernel) rfl ?_
    exact q_nextData hst A0 hLW hS hl hL (fun H1 locs1 ls1 hS1 hl1 => kk H1 locs1 ls1 _ _ (Nat.le_of_ble_eq_true rfl) (Nat.le_of_ble_eq_true rfl) hS1 hl1)
  · refine lv_tableIn (off := 3249) (tgt := 3294) hx hb dL_law_45 (by decide +kernel) (by decide +kernel) (by decide +kernel) rfl ?_
    exact q_nextHole hst A0 hLW hS hl hL (fun H1 locs1 ls1 hS1 hl1 => kk H1 locs1 ls1 _ _ (Nat.le_of_ble_eq_true rfl) (Nat.le_of_ble_eq_true rfl) hS1 hl1)
  · refine lv_tableIn (off := 3317) (tgt := 3362) hx hb dL_law_45 (by decide +kernel) (by decide +kernel) (by decide +kernel) rfl ?_
    exact q_sameBytes hst A0 hLW hS hl hL (fun H1 locs1 ls1 hS1 hl1 => kk H1 locs1 ls1 _ _ (Nat.le_of_ble_eq_true rfl) (Nat.le_of_ble_eq_true rfl) hS1 hl1)
  · refine lv_tableIn (off := 3392) (tgt := 3437) hx hb dL_law_45 (by decide +kernel) (by decide +kernel) (by decide +kernel) rfl ?_
    exact q_lookup hst A0 hLW hS hl hL (fun H1 locs1 ls1 hS1 hl1 => kk H1 locs1 ls1 _ _ (Nat.le_of_ble_eq_true rfl) (Nat.le_of_ble_eq_true rfl) hS1 hl1)
  · refine lv_tableIn (off := 3460) (tgt := 3505) hx hb dL_law_45 (by decide +kernel) (by decide +kernel) (by decide +kernel) rfl ?_
    exact q_follow hst A0 hLW hS hl hL (fun H1 locs1 ls1 hS1 hl1 => kk H1 locs1 ls1 _ _ (Nat.le_of_ble_eq_true rfl) (Nat.le_of_ble_eq_true rfl) hS1 hl1)
  · refine lv_tableIn (off := 3528) (tgt := 3573) hx hb dL_law_45 (by decide +kernel) (by decide +kernel) (by decide +kernel) rfl ?_
    exact q_nameAt hst A0 hLW hS hl hL (fun H1 locs1 ls1 hS1 hl1 => kk H1 locs1 ls1 _ _ (Nat.le_of_ble_eq_true rfl) (Nat.le_of_ble_eq_true rfl) hS1 hl1)
  · refine lv_tableIn (off := 3596) (tgt := 3641) hx hb dL_law_45 (by decide +kernel) (by decide +kernel) (by decide +kernel) rfl ?_
    exact q_parentOf hst A0 hLW hS hl hL (fun H1 locs1 ls1 hS1 hl1 => kk H1 locs1 ls1 _ _ (Nat.le_of_ble_eq_true rfl) (Nat.le_of_ble_eq_true rfl) hS1 hl1)
  · refine lv_tableIn (off := 3652) (tgt := 3697) hx hb dL_law_45 (by decide +kernel) (by decide +kernel) (by decide +kernel) rfl ?_
    exact q_depthOf hst A0 hLW hS hl hL (fun H1 locs1 ls1 hS1 hl1 => kk H1 locs1 ls1 _ _ (Nat.le_of_ble_eq_true rfl) (Nat.le_of_ble_eq_true rfl) hS1 hl1)
  · refine lv_tableIn (off := 3708) (tgt := 3753) hx hb dL_law_45 (by decide +kernel) (by decide +kernel) (by decide +kernel) rfl ?_
    exact q_isOrphan hst A0 hLW hS hl hL (fun H1 locs1 ls1 hS1 hl1 => kk H1 locs1 ls1 _ _ (Nat.le_of_ble_eq_true rfl) (Nat.le_of_ble_eq_true rfl) hS1 hl1)
  · refine lv_tableIn (off := 3771) (tgt := 3816) hx hb dL_law_45 (by decide +kernel) (by decide +kernel) (by decide +kernel) rfl ?_
    exact q_blocksUnder hst A0 hLW hS hl hL (fun H1 locs1 ls1 hS1 hl1 => kk H1 locs1 ls1 _ _ (Nat.le_of_ble_eq_true rfl) (Nat.le_of_ble_eq_true rfl) hS1 hl1)
  · refine lv_tableIn (off := 3827) (tgt := 3872) hx hb dL_law_45 (by decide +kernel) (by decide +kernel) (by decide +kernel) rfl ?_
    exact q_wouldFree hst A0 hLW hS hl hL (fun H1 locs1 ls1 hS1 hl1 => kk H1 locs1 ls1 _ _ (Nat.le_of_ble_eq_true rfl) (Nat.le_of_ble_eq_true rfl) hS1 hl1)
  · refine lv_tableIn (off := 3883) (tgt := 3928) hx hb dL_law_45 (by decide +kernel) (by decide +kernel) (by decide +kernel) rfl ?_
    exact q_used hst A0 hLW hS hl hL (fun H1 locs1 ls1 hS1 hl1 => kk H1 locs1 ls1 _ _ (Nat.le_of_ble_eq_true rfl) (Nat.le_of_ble_eq_true rfl) hS1 hl1)
  · refine lv_tableIn (off := 3927) (tgt := 3972) hx hb dL_law_45 (by decide +kernel) (by decide +kernel) (by decide +kernel) rfl ?_
    exact q_usedBy hst A0 hLW hS hl hL (fun H1 locs1 ls1 hS1 hl1 => kk H1 locs1 ls1 _ _ (Nat.le_of_ble_eq_true rfl) (Nat.le_of_ble_eq_true rfl) hS1 hl1)
  · refine lv_tableIn (off := 3983) (tgt := 4028) hx hb dL_law_45 (by decide +kernel) (by decide +kernel) (by decide +kernel) rfl ?_
    exact q_quotaOf hst A0 hLW hS hl hL (fun H1 locs1 ls1 hS1 hl1 => kk H1 locs1 ls1 _ _ (Nat.le_of_ble_eq_true rfl) (Nat.le_of_ble_eq_true rfl) hS1 hl1)
  · refine lv_tableIn (off := 4039) (tgt := 4084) hx hb dL_law_45 (by decide +kernel) (by decide +kernel) (by decide +kernel) rfl ?_
    exact q_greatestFile hst A0 hLW hS hl hL (fun H1 locs1 ls1 hS1 hl1 => kk H1 locs1 ls1 _ _ (Nat.le_of_ble_eq_true rfl) (Nat.le_of_ble_eq_true rfl) hS1 hl1)
  · refine lv_tableIn (off := 4083) (tgt := 4128) hx hb dL_law_45 (by decide +kernel) (by decide +kernel) (by decide +kernel) rfl ?_
    obtain ⟨r, Mr', h1, h2, h3, h4⟩ := p_meanSize
    exact k_meanSize A0 hLW hS hl h4 (nL_meanSize (c_X3_meanSize h1)) (lw_preD hLW) (c_X4_meanSize h2) h3 (fun H1 locs1 ls1 hS1 hl1 => kk H1 locs1 ls1 _ _ (Nat.le_of_ble_eq_true rfl) (Nat.le_of_ble_eq_true rfl) hS1 hl1)
  · refine lv_tableIn (off := 4148) (tgt := 4193) hx hb dL_law_45 (by decide +kernel) (by decide +kernel) (by decide +kernel) rfl ?_
    exact q_flaws hst A0 hLW hS hl hL (fun H1 locs1 ls1 hS1 hl1 => kk H1 locs1 ls1 _ _ (Nat.le_of_ble_eq_true rfl) (Nat.le_of_ble_eq_true rfl) hS1 hl1)
  · refine lv_tableIn (off := 4192) (tgt := 4237) hx hb dL_law_45 (by decide +kernel) (by decide +kernel) (by decide +kernel) rfl ?_
    obtain ⟨r, M', Mr', h1, h2, h3⟩ := okL_digest
    exact k_digest A0 hLW hS hl hL (k := 0) rg_0 (lw_pre hLW) (fun _ _ e h => OL.kept h e) (nL_digest (c_X3_digest h1)) (c_X4_digest h2) h3 (fun _ _ h => h) (fun H1 locs1 ls1 hS1 hl1 => kk H1 locs1 ls1 _ _ (Nat.le_of_ble_eq_true rfl) (Nat.le_of_ble_eq_true rfl) hS1 hl1)
theorem noTraces {l : Launch} (h : l.flags = flags0) : l.stackTraces = false := by
  unfold Launch.stackTraces
  rw [h]
  decide +kernel
theorem strOf {b : Nat} {s : State} {k : Nat} {tx : String} (h1 : (Cond.stringRef RX3 k tx).before #[Value.ref b] s = true) (h2 : (Cond.exactly (Term.string RX3 k) "java/lang/String").before #[Value.ref b] s = true) : ∃ sa : Nat, vk_R RX3 k tx sa s := by
  obtain ⟨a, c, cell, k9, q1, -⟩ := Cond.exactly_spec (args := #[Value.ref b]) (first := s) (o := none) (s := s) (idx := []) (t := Term.string RX3 k) (cls := "java/lang/String") h2
  exact ⟨a, vk_R.of h1 q1⟩
set_option maxHeartbeats 4000000 in
set_option maxRecDepth 100000 in
theorem law_TH {b : Nat} {s : State} (hts : ∀ w ∈ lw_tbl, w.before #[Value.ref b] s = true) (hs : ∀ w ∈ flatC (Jvm.Cond.and given_1 narrow_1), w.before #[Value.ref b] s = true) : TH s.heap.size s := by
  have hA : ∀ a : Nat, a < s.heap.size → ¬ AA s.heap.size s.heap.size a := by
    intro a h
    unfold AA
    omega
  exact ⟨vx_Zqof (hts (.laysStatic Bundle.tN "UNASSIGNED_STACK" Bundle.steD) (by decide +kernel)) (hts (.initialized Bundle.tN) (by decide +kernel)) (hs (.isRef (.static Bundle.tN "UNASSIGNED_STACK" Bundle.steD)) (by decide +kernel)) hA,
    vx_Zqof (hts (.laysStatic Bundle.tN "SUPPRESSED_SENTINEL" Bundle.listD) (by decide +kernel)) (hts (.initialized Bundle.tN) (by decide +kernel)) (hs (.isRef (.static Bundle.tN "SUPPRESSED_SENTINEL" Bundle.listD)) (by decide +kernel)) hA,
    va_Nw.of rfl (hts (.castable "java/lang/IllegalStateException" "java/lang/IllegalStateException") (by decide +kernel)),
    va_Nw.of rfl (hts (.castable "java/lang/IndexOutOfBoundsException" "java/lang/IndexOutOfBoundsException") (by decide +kernel)),
    va_Nw.of rfl (hts (.castable "java/lang/IllegalArgumentException" "java/lang/IllegalArgumentException") (by decide +kernel)),
    va_Nw.of rfl (hts (.declares ⟨"java/lang/RuntimeException", "<init>", "(Ljava/lang/String;)V"⟩) (by decide +kernel)),
    va_Nw.of rfl (hts (.declares ⟨"java/lang/Exception", "<init>", "(Ljava/lang/String;)V"⟩) (by decide +kernel)),
    va_Nw.of rfl (hts (.declares ⟨"java/lang/Throwable", "<init>", "(Ljava/lang/String;)V"⟩) (by decide +kernel)),
    strOf (hts (.stringRef RX3 229 "it is up") (by decide +kernel)) (hs (.exactly (.string RX3 229) "java/lang/String") (by decide +kernel)),
    strOf (hts (.stringRef RX3 375 "it is down") (by decide +kernel)) (hs (.exactly (.string RX3 375) "java/lang/String") (by decide +kernel)),
    strOf (hts (.stringRef RX3 379 "there is no such node") (by decide +kernel)) (hs (.exactly (.string RX3 379) "java/lang/String") (by decide +kernel)),
    strOf (hts (.stringRef RX3 382 "the handle is not open") (by decide +kernel)) (hs (.exactly (.string RX3 382) "java/lang/String") (by decide +kernel)),
    strOf (hts (.stringRef RX3 386 "a number is out of its range") (by decide +kernel)) (hs (.exactly (.string RX3 386) "java/lang/String") (by decide +kernel))⟩
set_option maxHeartbeats 4000000 in
set_option maxRecDepth 100000 in
theorem law_ND {b : Nat} {s : State} (hts : ∀ w ∈ lw_tbl, w.before #[Value.ref b] s = true) : NWd s :=
  ⟨va_Nw.of rfl (hts (.methodLinkNest RX2 17 yX1_init "JournalDisk") (by decide +kernel)),
    va_AO.of (hts (.arrayOver (.object "JournalDisk$Node")) (by decide +kernel)),
    va_Nw.of rfl (hts (.methodLinkNest RX3 45 yX0_init "JournalDisk") (by decide +kernel)),
    va_AO.of (hts (.arrayOver (.object "JournalDisk$Handle")) (by decide +kernel))⟩
set_option maxHeartbeats 4000000 in
set_option maxRecDepth 100000 in
theorem law_LA {p : Program} {s : State} {m : MethodId} {meth : Method} {c : Code} {b L : Nat} {xs : Nat → Int32} (C0 : lw_At p s m meth c b L xs) : ∃ g, LA p s m c b L xs g := by
  obtain ⟨hx, hb, hr, hml, hown, hts, hX, hbl, hlocks, hgv⟩ := C0
  have hs := flat_of_before _ hgv
  have hNW := law_ND hts
  obtain ⟨g, hK⟩ := law_g hts hNW.2.1 hNW.2.2.2
  exact ⟨g, hx, hb, hml, hown, fun w h => hts w (wT_in w h), hX, hbl, hK, law_TH hts hs, ⟨va_Nc.of (hs (.not (.castable (exN 2) (exN 1))) (by decide +kernel)), va_Nc.of (hs (.not (.castable (exN 3) (exN 1))) (by decide +kernel)), va_Nc.of (hs (.not (.castable (exN 3) (exN 2))) (by decide +kernel))⟩, hNW⟩
set_option maxHeartbeats 4000000 in
set_option maxRecDepth 100000 in
theorem whole_start {p : Program} {e : Env} {s : State} {m : MethodId} {below : List Frame} {meth : Method} {c : Code} (l : Launch) (hflags : l.flags = flags0) {b L : Nat} {xs : Nat → Int32} (hL : L ≤ 6) (C0 : lw_At p s m meth c b L xs) : W p l e room_1 s m #[Value.ref b] below meth c s.heap [] 0 0 (lw_Z below #[Value.ref b] s) (entryFrame m ([Value.ref b] : List Value).toArray 9) := by
  obtain ⟨hx, hb, hr, hml, hown, hts0, hX, hbl, hlocks, hgv⟩ := id C0
  obtain ⟨g, A0⟩ := law_LA C0
  have hst : l.stackTraces = false := noTraces hflags
  have hd0 := Drawn.sameBut.refl s.drawn lw_cs
  have hbA : ¬ (fun q : Nat => s.heap.size ≤ q) b := Nat.not_le.mpr hbl
  have hl := lv_entry ([.ref b]) (n := 9) (Nat.le_of_ble_eq_true rfl)
  rw [lg_entry_eq]
  generalize (lg_sl ([.ref b]) ++ List.replicate (9 - (lg_sl ([.ref b])).length) Slot.unset).toArray = ls at hl ⊢
  have hl : lv_has ls 9 [(0, .ref b)] := hl
  have fin : ∀ (H : Heap) (locs : List Loc) (ls : Array Slot) (cells slots : Nat), cells ≤ 600002 → slots ≤ 7302232 → va_S (fun a => s.heap.size ≤ a) s.heap H locs → W p l e room_1 s m #[Value.ref b] below meth c H locs cells slots (lw_Z below #[Value.ref b] s) (F0 m 4286 ls []) := by
    intro H locs ls cells slots h1 h2 hS
    refine lv_iconst (v := 1) hx hb dL_law_4286 rfl ?_
    refine va_forget hS.2.2 ?_
    refine W.widen (k := 600002) (n := 7302232) h1 h2 ?_
    exact lw_ret hd0 hx hb hr hlocks dL_law_4287
  have head : ∀ (H : Heap) (locs : List Loc) (ls : Array Slot) (cells slots : Nat), cells ≤ 600002 → slots ≤ 7302232 → va_S (fun a => s.heap.size ≤ a) s.heap H locs → L = 6 → lv_has ls 9 [(5, .int (jI 0)), (0, .ref b)] → W p l e room_1 s m #[Value.ref b] below meth c H locs cells slots (lw_Z below #[Value.ref b] s) (F0 m 4280 ls []) := by
    intro H locs ls cells slots h1 h2 hS hL6 hl
    subst hL6
    refine lv_iinc (k := 0) (lv' := [(5, .int (jI 6)), (0, .ref b)]) hx hb dL_law_4280 hl rfl (by decide +kernel) (by decide) rfl (fun ls hl => ?_)
    refine lv_goto (tgt := 28) hx hb dL_law_4283 rfl ?_
    refine lv_iload hx hb dL_law_28 (lv_at hl 0 rfl) ?_
    refine lv_aload_n hx hb dL_law_30 rfl (lv_at hl 1 rfl) ?_
    refine va_slen hx hb hX hbl hbA hS dL_law_31 ?_
    refine lv_bipush (v := 6) hx hb dL_law_32 (by decide +kernel) ?_
    refine lv_isub hx hb dL_law_34 ?_
    exact lv_icmp_gt (tgt := 4286) hx hb dL_law_35 rfl (fun _ => fin H locs _ cells slots h1 h2 hS) (fun ci => absurd (show Int32.ofNat 6 - 6 < jI 6 from by decide +kernel) ci)
  refine law_new A0 (mr_init.trans (by rw [mr_eq])) hl (fun H locs ls q o d hLW hS hl => ?_)
  refine lv_iload hx hb dL_law_28 (lv_at hl 0 rfl) ?_
  refine lv_aload_n hx hb dL_law_30 rfl (lv_at hl 5 rfl) ?_
  refine va_slen hx hb hX hbl hbA hS dL_law_31 ?_
  refine lv_bipush (v := 6) hx hb dL_law_32 (by decide +kernel) ?_
  refine lv_isub hx hb dL_law_34 ?_
  refine lv_icmp_gt (tgt := 4286) hx hb dL_law_35 rfl (fun _ => fin H locs _ _ _ (by decide) (by decide) hS) (fun ci => ?_)
  have hL6 : L = 6 := by
    rcases (show L = 0 ∨ L = 1 ∨ L = 2 ∨ L = 3 ∨ L = 4 ∨ L = 5 ∨ L = 6 by omega) with rfl | rfl | rfl | rfl | rfl | rfl | rfl
    · exact absurd (show Int32.ofNat 0 - 6 < jI 0 from by decide +kernel) ci
    · exact absurd (show Int32.ofNat 1 - 6 < jI 0 from by decide +kernel) ci
    · exact absurd (show Int32.ofNat 2 - 6 < jI 0 from by decide +kernel) ci
    · exact absurd (show Int32.ofNat 3 - 6 < jI 0 from by decide +kernel) ci
    · exact absurd (show Int32.ofNat 4 - 6 < jI 0 from by decide +kernel) ci
    · exact absurd (show Int32.ofNat 5 - 6 < jI 0 from by decide +kernel) ci
    · rfl
  have hL6' : 6 ≤ L := by omega
  refine lv_aload_n hx hb dL_law_38 rfl (lv_at hl 5 rfl) ?_
  refine lv_iload hx hb dL_law_39 (lv_at hl 0 rfl) ?_
  refine va_sld hx hb hX hbl hbA hS (jI_in rg_0 ⟨by decide, by omega⟩) dL_law_41 ?_
  rw [show (jI 0).toNatClampNeg = 0 from by decide +kernel]
  refine lv_bipush (v := 63) hx hb dL_law_42 (by decide +kernel) ?_
  refine lv_iand hx hb dL_law_44 ?_
  obtain ⟨n, hn, hxn⟩ := mask63 (xs 0)
  rw [hxn]
  exact law_sw hst A0 hLW hS hl hL6' (fun H1 locs1 ls1 c1 s1 h1 h2 hS1 hl1 => head H1 locs1 ls1 c1 s1 h1 h2 hS1 hL6 hl1) n hn
