/-! ROWS TO RECKON WITH DO NOT MATTER: what only reads -/
def Zm (M : Mm) : Mm := fun K i k => if K = 9 ∨ K = 10 then 0 else M K i k
theorem zm_of {M M' : Mm} (h : ∀ K i k : Nat, K ≠ 9 → K ≠ 10 → M' K i k = M K i k) : Zm M' = Zm M := by
  funext K i k
  unfold Zm
  by_cases z : K = 9 ∨ K = 10
  · rw [if_pos z, if_pos z]
  · rw [if_neg z, if_neg z]
    exact h K i k (by omega) (by omega)
theorem zm_k {M M' : Mm} (h : Zm M' = Zm M) {K : Nat} (i k : Nat) (h9 : K ≠ 9) (h10 : K ≠ 10) : M' K i k = M K i k := by
  have e : Zm M' K i k = Zm M K i k := by rw [h]
  unfold Zm at e
  rw [if_neg (by omega), if_neg (by omega)] at e
  exact e
theorem z_X0_isOn (M : Mm) (o : Nat) (a1 : Int) : F_X0_isOn M o a1 = F_X0_isOn (Zm M) o a1 := by
  unfold F_X0_isOn
  rfl
theorem z_X0_rows_6 (M : Mm)  : ∀ (n : Nat) (v1 : Nat) (v2 : Int) (v3 : Int) (v4 : Int), F_X0_rows_6 M n v1 v2 v3 v4 = F_X0_rows_6 (Zm M) n v1 v2 v3 v4
  | 0, _, _, _, _ => rfl
  | n + 1, v1, v2, v3, v4 => by
    unfold F_X0_rows_6 F_X0_rows_37
    (try simp only [z_X0_rows_6 M n]) <;> rfl
theorem z_X0_rows (M : Mm) (o : Nat) : F_X0_rows M o = F_X0_rows (Zm M) o := by
  unfold F_X0_rows
  (try simp only [z_X0_rows_6 M]) <;> rfl
theorem z_X1_isForsaken (M : Mm) (o : Nat) : F_X1_isForsaken M o = F_X1_isForsaken (Zm M) o := by
  unfold F_X1_isForsaken
  rfl
theorem z_X1_slotOf_2 (M : Mm)  : ∀ (n : Nat) (v1 : Nat) (v2 : Int) (v3 : Int), F_X1_slotOf_2 M n v1 v2 v3 = F_X1_slotOf_2 (Zm M) n v1 v2 v3
  | 0, _, _, _ => rfl
  | n + 1, v1, v2, v3 => by
    unfold F_X1_slotOf_2
    (try simp only [z_X1_slotOf_2 M n]) <;> rfl
theorem z_X1_slotOf (M : Mm) (o : Nat) (a1 : Int) : F_X1_slotOf M o a1 = F_X1_slotOf (Zm M) o a1 := by
  unfold F_X1_slotOf
  (try simp only [z_X1_slotOf_2 M]) <;> rfl
theorem z_X1_nodeIn (M : Mm) (o : Nat) (a1 : Int) : F_X1_nodeIn M o a1 = F_X1_nodeIn (Zm M) o a1 := by
  unfold F_X1_nodeIn
  rfl
theorem z_X1_nodeNamed (M : Mm) (o : Nat) (a1 : Int) : F_X1_nodeNamed M o a1 = F_X1_nodeNamed (Zm M) o a1 := by
  unfold F_X1_nodeNamed
  (try simp only [z_X1_slotOf M, z_X1_nodeIn M]) <;> rfl
theorem z_X1_nameOf (M : Mm) (o : Nat) (a1 : Int) : F_X1_nameOf M o a1 = F_X1_nameOf (Zm M) o a1 := by
  unfold F_X1_nameOf
  rfl
theorem z_X1_blockAt (M : Mm) (o : Nat) (a1 : Int) : F_X1_blockAt M o a1 = F_X1_blockAt (Zm M) o a1 := by
  unfold F_X1_blockAt
  rfl
theorem z_X1_blocksFor (M : Mm) (a1 : Int) : F_X1_blocksFor M a1 = F_X1_blocksFor (Zm M) a1 := by
  unfold F_X1_blocksFor
  rfl
theorem z_X1_ownBlocks_20 (M : Mm)  : ∀ (n : Nat) (v1 : Nat) (v2 : Int) (v3 : Int), F_X1_ownBlocks_20 M n v1 v2 v3 = F_X1_ownBlocks_20 (Zm M) n v1 v2 v3
  | 0, _, _, _ => rfl
  | n + 1, v1, v2, v3 => by
    unfold F_X1_ownBlocks_20
    (try simp only [z_X1_ownBlocks_20 M n]) <;> rfl
theorem z_X1_ownBlocks (M : Mm) (o : Nat) : F_X1_ownBlocks M o = F_X1_ownBlocks (Zm M) o := by
  unfold F_X1_ownBlocks
  (try simp only [z_X1_blocksFor M, z_X1_ownBlocks_20 M]) <;> rfl
theorem z_X1_extent_33 (M : Mm) (v0 : Nat) (s0 : Int) : F_X1_extent_33 M v0 s0 = F_X1_extent_33 (Zm M) v0 s0 := by
  unfold F_X1_extent_33
  rfl
theorem z_X1_extent (M : Mm) (o : Nat) : F_X1_extent M o = F_X1_extent (Zm M) o := by
  unfold F_X1_extent
  (try simp only [z_X1_extent_33 M]) <;> rfl
theorem z_X2_at (M : Mm) (o : Nat) (a1 : Int) : F_X2_at M o a1 = F_X2_at (Zm M) o a1 := by
  unfold F_X2_at
  rfl
theorem z_X2_limitOf (M : Mm) (o : Nat) (a1 : Int) : F_X2_limitOf M o a1 = F_X2_limitOf (Zm M) o a1 := by
  unfold F_X2_limitOf
  rfl
theorem z_X2_count_4 (M : Mm)  : ∀ (n : Nat) (v1 : Nat) (v2 : Int) (v3 : Int), F_X2_count_4 M n v1 v2 v3 = F_X2_count_4 (Zm M) n v1 v2 v3
  | 0, _, _, _ => rfl
  | n + 1, v1, v2, v3 => by
    unfold F_X2_count_4
    (try simp only [z_X2_count_4 M n]) <;> rfl
theorem z_X2_count (M : Mm) (o : Nat) : F_X2_count M o = F_X2_count (Zm M) o := by
  unfold F_X2_count
  (try simp only [z_X2_count_4 M]) <;> rfl
theorem z_X2_isBlock (M : Mm) (a1 : Int) : F_X2_isBlock M a1 = F_X2_isBlock (Zm M) a1 := by
  unfold F_X2_isBlock
  rfl
theorem z_X2_isShared (M : Mm) (o : Nat) (a1 : Int) : F_X2_isShared M o a1 = F_X2_isShared (Zm M) o a1 := by
  unfold F_X2_isShared
  (try simp only [z_X2_isBlock M]) <;> rfl
theorem z_X2_wordOf (M : Mm) (a1 : Int) (a2 : Int) : F_X2_wordOf M a1 a2 = F_X2_wordOf (Zm M) a1 a2 := by
  unfold F_X2_wordOf
  rfl
theorem z_X2_shiftOf (M : Mm) (a1 : Int) : F_X2_shiftOf M a1 = F_X2_shiftOf (Zm M) a1 := by
  unfold F_X2_shiftOf
  rfl
theorem z_X2_byteOf (M : Mm) (o : Nat) (a1 : Nat) (a2 : Int) : F_X2_byteOf M o a1 a2 = F_X2_byteOf (Zm M) o a1 a2 := by
  unfold F_X2_byteOf
  (try simp only [z_X1_blockAt M, z_X2_wordOf M, z_X2_shiftOf M]) <;> rfl
theorem z_X2_sharedPlaces_4 (M : Mm)  : ∀ (n : Nat) (v1 : Nat) (v2 : Nat) (v3 : Int) (v4 : Int), F_X2_sharedPlaces_4 M n v1 v2 v3 v4 = F_X2_sharedPlaces_4 (Zm M) n v1 v2 v3 v4
  | 0, _, _, _, _ => rfl
  | n + 1, v1, v2, v3, v4 => by
    unfold F_X2_sharedPlaces_4
    (try simp only [z_X2_sharedPlaces_4 M n, z_X1_blockAt M, z_X2_isShared M]) <;> rfl
theorem z_X2_sharedPlaces (M : Mm) (o : Nat) (a1 : Nat) : F_X2_sharedPlaces M o a1 = F_X2_sharedPlaces (Zm M) o a1 := by
  unfold F_X2_sharedPlaces
  (try simp only [z_X2_sharedPlaces_4 M]) <;> rfl
theorem z_X2_blocksTaken_33 (M : Mm)  : ∀ (n : Nat) (v1 : Nat) (v2 : Int) (v3 : Int), F_X2_blocksTaken_33 M n v1 v2 v3 = F_X2_blocksTaken_33 (Zm M) n v1 v2 v3
  | 0, _, _, _ => rfl
  | n + 1, v1, v2, v3 => by
    unfold F_X2_blocksTaken_33
    (try simp only [z_X2_blocksTaken_33 M n, z_X1_ownBlocks M]) <;> rfl
theorem z_X2_blocksTaken_4 (M : Mm)  : ∀ (n : Nat) (v1 : Nat) (v2 : Int) (v3 : Int), F_X2_blocksTaken_4 M n v1 v2 v3 = F_X2_blocksTaken_4 (Zm M) n v1 v2 v3
  | 0, _, _, _ => rfl
  | n + 1, v1, v2, v3 => by
    unfold F_X2_blocksTaken_4
    (try simp only [z_X2_blocksTaken_4 M n, z_X2_blocksTaken_33 M]) <;> rfl
theorem z_X2_blocksTaken (M : Mm) (o : Nat) : F_X2_blocksTaken M o = F_X2_blocksTaken (Zm M) o := by
  unfold F_X2_blocksTaken
  (try simp only [z_X2_blocksTaken_4 M]) <;> rfl
theorem z_X2_takenBy_4 (M : Mm)  : ∀ (n : Nat) (v1 : Nat) (v2 : Int) (v3 : Int) (v4 : Int), F_X2_takenBy_4 M n v1 v2 v3 v4 = F_X2_takenBy_4 (Zm M) n v1 v2 v3 v4
  | 0, _, _, _, _ => rfl
  | n + 1, v1, v2, v3, v4 => by
    unfold F_X2_takenBy_4
    (try simp only [z_X2_takenBy_4 M n, z_X1_ownBlocks M]) <;> rfl
theorem z_X2_takenBy (M : Mm) (o : Nat) (a1 : Int) : F_X2_takenBy M o a1 = F_X2_takenBy (Zm M) o a1 := by
  unfold F_X2_takenBy
  (try simp only [z_X2_takenBy_4 M]) <;> rfl
theorem z_X2_greatest_6 (M : Mm)  : ∀ (n : Nat) (v1 : Nat) (v2 : Int) (v3 : Int) (v4 : Int), F_X2_greatest_6 M n v1 v2 v3 v4 = F_X2_greatest_6 (Zm M) n v1 v2 v3 v4
  | 0, _, _, _, _ => rfl
  | n + 1, v1, v2, v3, v4 => by
    unfold F_X2_greatest_6
    (try simp only [z_X2_greatest_6 M n, z_X1_ownBlocks M]) <;> rfl
theorem z_X2_greatest (M : Mm) (o : Nat) : F_X2_greatest M o = F_X2_greatest (Zm M) o := by
  unfold F_X2_greatest
  (try simp only [z_X2_greatest_6 M]) <;> rfl
theorem z_X2_isIn (M : Mm) (a1 : Int64) (a2 : Int) : F_X2_isIn M a1 a2 = F_X2_isIn (Zm M) a1 a2 := by
  unfold F_X2_isIn
  rfl
theorem z_X2_insideOf_4 (M : Mm)  : ∀ (n : Nat) (v1 : Nat) (v2 : Int64) (v3 : Int), F_X2_insideOf_4 M n v1 v2 v3 = F_X2_insideOf_4 (Zm M) n v1 v2 v3
  | 0, _, _, _ => rfl
  | n + 1, v1, v2, v3 => by
    unfold F_X2_insideOf_4
    (try simp only [z_X2_insideOf_4 M n, z_X1_nodeIn M]) <;> rfl
theorem z_X2_insideOf (M : Mm) (a1 : Nat) : F_X2_insideOf M a1 = F_X2_insideOf (Zm M) a1 := by
  unfold F_X2_insideOf
  (try simp only [z_X2_insideOf_4 M]) <;> rfl
theorem z_X2_reach_30 (M : Mm) (rec10 : Nat → Int64 → Int64 → Int → Option (Int64)) : ∀ (n : Nat) (v1 : Nat) (v2 : Int64) (v3 : Int64) (v4 : Int) (v5 : Int64) (v6 : Int), F_X2_reach_30 M rec10 n v1 v2 v3 v4 v5 v6 = F_X2_reach_30 (Zm M) rec10 n v1 v2 v3 v4 v5 v6
  | 0, _, _, _, _, _, _ => rfl
  | n + 1, v1, v2, v3, v4, v5, v6 => by
    unfold F_X2_reach_30
    (try simp only [z_X2_reach_30 M rec10 n, z_X2_isIn M, z_X2_insideOf M]) <;> rfl
theorem z_X2_reach_10 (M : Mm)  : ∀ (n : Nat) (v1 : Nat) (v2 : Int64) (v3 : Int64) (v4 : Int), F_X2_reach_10 M n v1 v2 v3 v4 = F_X2_reach_10 (Zm M) n v1 v2 v3 v4
  | 0, _, _, _, _ => rfl
  | n + 1, v1, v2, v3, v4 => by
    have ih : F_X2_reach_10 M n = F_X2_reach_10 (Zm M) n := by
      funext a b c d
      exact z_X2_reach_10 M n a b c d
    unfold F_X2_reach_10
    rw [ih]
    simp only [z_X2_reach_30 M]
theorem z_X2_reach (M : Mm) (o : Nat) (a1 : Int) : F_X2_reach M o a1 = F_X2_reach (Zm M) o a1 := by
  unfold F_X2_reach
  (try simp only [z_X2_reach_10 M]) <;> rfl
theorem z_X2_entriesOutside_5 (M : Mm)  : ∀ (n : Nat) (v1 : Nat) (v2 : Int64) (v3 : Int) (v4 : Int), F_X2_entriesOutside_5 M n v1 v2 v3 v4 = F_X2_entriesOutside_5 (Zm M) n v1 v2 v3 v4
  | 0, _, _, _, _ => rfl
  | n + 1, v1, v2, v3, v4 => by
    unfold F_X2_entriesOutside_5
    (try simp only [z_X2_entriesOutside_5 M n, z_X1_nodeIn M, z_X2_isIn M]) <;> rfl
theorem z_X2_entriesOutside (M : Mm) (a1 : Nat) (a2 : Int64) : F_X2_entriesOutside M a1 a2 = F_X2_entriesOutside (Zm M) a1 a2 := by
  unfold F_X2_entriesOutside
  (try simp only [z_X2_entriesOutside_5 M]) <;> rfl
theorem z_X2_depth_4 (M : Mm)  : ∀ (n : Nat) (v1 : Nat) (v2 : Int) (v3 : Int), F_X2_depth_4 M n v1 v2 v3 = F_X2_depth_4 (Zm M) n v1 v2 v3
  | 0, _, _, _ => rfl
  | n + 1, v1, v2, v3 => by
    unfold F_X2_depth_4
    (try simp only [z_X2_depth_4 M n, z_X2_at M]) <;> rfl
theorem z_X2_depth (M : Mm) (o : Nat) (a1 : Int) : F_X2_depth M o a1 = F_X2_depth (Zm M) o a1 := by
  unfold F_X2_depth
  (try simp only [z_X2_depth_4 M]) <;> rfl
theorem z_X2_origin_14 (M : Mm)  : ∀ (n : Nat) (v1 : Nat) (v2 : Int) (v3 : Int) (v4 : Int), F_X2_origin_14 M n v1 v2 v3 v4 = F_X2_origin_14 (Zm M) n v1 v2 v3 v4
  | 0, _, _, _, _ => rfl
  | n + 1, v1, v2, v3, v4 => by
    unfold F_X2_origin_14
    (try simp only [z_X2_origin_14 M n, z_X2_at M]) <;> rfl
theorem z_X2_origin (M : Mm) (o : Nat) (a1 : Int) (a2 : Int) : F_X2_origin M o a1 a2 = F_X2_origin (Zm M) o a1 a2 := by
  unfold F_X2_origin
  (try simp only [z_X2_origin_14 M]) <;> rfl
theorem z_X3_needPower (M : Mm)  : F_X3_needPower M  = F_X3_needPower (Zm M)  := by
  unfold F_X3_needPower
  rfl
theorem z_X3_needNode (M : Mm) (a1 : Int) : F_X3_needNode M a1 = F_X3_needNode (Zm M) a1 := by
  unfold F_X3_needNode
  (try simp only [z_X2_at M]) <;> rfl
theorem z_X3_needRange (M : Mm) (a1 : Int) (a2 : Int) (a3 : Int) : F_X3_needRange M a1 a2 a3 = F_X3_needRange (Zm M) a1 a2 a3 := by
  unfold F_X3_needRange
  rfl
theorem z_X3_needEntry (M : Mm) (a1 : Int) (a2 : Int) : F_X3_needEntry M a1 a2 = F_X3_needEntry (Zm M) a1 a2 := by
  unfold F_X3_needEntry
  (try simp only [z_X3_needPower M, z_X3_needNode M, z_X3_needRange M]) <;> rfl
theorem z_X3_needOpen (M : Mm) (a1 : Int) : F_X3_needOpen M a1 = F_X3_needOpen (Zm M) a1 := by
  unfold F_X3_needOpen
  rfl
theorem z_X3_lockRows (M : Mm) (a1 : Int) : F_X3_lockRows M a1 = F_X3_lockRows (Zm M) a1 := by
  unfold F_X3_lockRows
  (try simp only [z_X3_needPower M, z_X3_needOpen M, z_X0_rows M]) <;> rfl
theorem z_X3_nodeOf (M : Mm) (a1 : Int) : F_X3_nodeOf M a1 = F_X3_nodeOf (Zm M) a1 := by
  unfold F_X3_nodeOf
  (try simp only [z_X3_needPower M, z_X3_needOpen M]) <;> rfl
theorem z_X3_positionOf (M : Mm) (a1 : Int) : F_X3_positionOf M a1 = F_X3_positionOf (Zm M) a1 := by
  unfold F_X3_positionOf
  (try simp only [z_X3_needPower M, z_X3_needOpen M]) <;> rfl
theorem z_X3_handles_8 (M : Mm)  : ∀ (n : Nat) (v1 : Int) (v2 : Int), F_X3_handles_8 M n v1 v2 = F_X3_handles_8 (Zm M) n v1 v2
  | 0, _, _ => rfl
  | n + 1, v1, v2 => by
    unfold F_X3_handles_8
    (try simp only [z_X3_handles_8 M n]) <;> rfl
theorem z_X3_handles (M : Mm)  : F_X3_handles M  = F_X3_handles (Zm M)  := by
  unfold F_X3_handles
  (try simp only [z_X3_needPower M, z_X3_handles_8 M]) <;> rfl
theorem z_X3_isDown (M : Mm)  : F_X3_isDown M  = F_X3_isDown (Zm M)  := by
  unfold F_X3_isDown
  rfl
theorem z_X3_mounts (M : Mm)  : F_X3_mounts M  = F_X3_mounts (Zm M)  := by
  unfold F_X3_mounts
  rfl
theorem z_X3_waiting (M : Mm)  : F_X3_waiting M  = F_X3_waiting (Zm M)  := by
  unfold F_X3_waiting
  (try simp only [z_X3_needPower M]) <;> rfl
theorem z_X3_changes (M : Mm)  : F_X3_changes M  = F_X3_changes (Zm M)  := by
  unfold F_X3_changes
  (try simp only [z_X3_needPower M]) <;> rfl
theorem z_X3_nodes (M : Mm)  : F_X3_nodes M  = F_X3_nodes (Zm M)  := by
  unfold F_X3_nodes
  (try simp only [z_X3_needPower M, z_X2_count M]) <;> rfl
theorem z_X3_typeOf (M : Mm) (a1 : Int) : F_X3_typeOf M a1 = F_X3_typeOf (Zm M) a1 := by
  unfold F_X3_typeOf
  (try simp only [z_X3_needPower M, z_X2_at M]) <;> rfl
theorem z_X3_needLive (M : Mm) (a1 : Int) : F_X3_needLive M a1 = F_X3_needLive (Zm M) a1 := by
  unfold F_X3_needLive
  (try simp only [z_X3_needPower M, z_X3_needNode M, z_X2_at M]) <;> rfl
theorem z_X3_linksOf (M : Mm) (a1 : Int) : F_X3_linksOf M a1 = F_X3_linksOf (Zm M) a1 := by
  unfold F_X3_linksOf
  (try simp only [z_X3_needLive M]) <;> rfl
theorem z_X3_ownerOf (M : Mm) (a1 : Int) : F_X3_ownerOf M a1 = F_X3_ownerOf (Zm M) a1 := by
  unfold F_X3_ownerOf
  (try simp only [z_X3_needLive M]) <;> rfl
theorem z_X3_sizeOf (M : Mm) (a1 : Int) : F_X3_sizeOf M a1 = F_X3_sizeOf (Zm M) a1 := by
  unfold F_X3_sizeOf
  (try simp only [z_X3_needLive M, z_X1_extent M]) <;> rfl
theorem z_X3_blocksOf (M : Mm) (a1 : Int) : F_X3_blocksOf M a1 = F_X3_blocksOf (Zm M) a1 := by
  unfold F_X3_blocksOf
  (try simp only [z_X3_needLive M, z_X1_ownBlocks M]) <;> rfl
theorem z_X3_sharedOf (M : Mm) (a1 : Int) : F_X3_sharedOf M a1 = F_X3_sharedOf (Zm M) a1 := by
  unfold F_X3_sharedOf
  (try simp only [z_X3_needLive M, z_X2_sharedPlaces M]) <;> rfl
theorem z_X3_lookup (M : Mm) (a1 : Int) (a2 : Int) : F_X3_lookup M a1 a2 = F_X3_lookup (Zm M) a1 a2 := by
  unfold F_X3_lookup
  (try simp only [z_X3_needEntry M, z_X2_at M, z_X1_nodeNamed M]) <;> rfl
theorem z_X3_nameAt (M : Mm) (a1 : Int) (a2 : Int) : F_X3_nameAt M a1 a2 = F_X3_nameAt (Zm M) a1 a2 := by
  unfold F_X3_nameAt
  (try simp only [z_X3_needLive M, z_X1_nameOf M]) <;> rfl
theorem z_X3_parentOf (M : Mm) (a1 : Int) : F_X3_parentOf M a1 = F_X3_parentOf (Zm M) a1 := by
  unfold F_X3_parentOf
  (try simp only [z_X3_needLive M, z_X2_at M]) <;> rfl
theorem z_X3_depthOf (M : Mm) (a1 : Int) : F_X3_depthOf M a1 = F_X3_depthOf (Zm M) a1 := by
  unfold F_X3_depthOf
  (try simp only [z_X3_needLive M, z_X2_depth M]) <;> rfl
theorem z_X3_isOrphan (M : Mm) (a1 : Int) : F_X3_isOrphan M a1 = F_X3_isOrphan (Zm M) a1 := by
  unfold F_X3_isOrphan
  (try simp only [z_X3_needLive M, z_X1_isForsaken M]) <;> rfl
theorem z_X3_used (M : Mm)  : F_X3_used M  = F_X3_used (Zm M)  := by
  unfold F_X3_used
  (try simp only [z_X3_needPower M, z_X2_blocksTaken M]) <;> rfl
theorem z_X3_usedBy (M : Mm) (a1 : Int) : F_X3_usedBy M a1 = F_X3_usedBy (Zm M) a1 := by
  unfold F_X3_usedBy
  (try simp only [z_X3_needPower M, z_X3_needRange M, z_X2_takenBy M]) <;> rfl
theorem z_X3_quotaOf (M : Mm) (a1 : Int) : F_X3_quotaOf M a1 = F_X3_quotaOf (Zm M) a1 := by
  unfold F_X3_quotaOf
  (try simp only [z_X3_needPower M, z_X3_needRange M, z_X2_limitOf M]) <;> rfl
theorem z_X3_greatestFile (M : Mm)  : F_X3_greatestFile M  = F_X3_greatestFile (Zm M)  := by
  unfold F_X3_greatestFile
  (try simp only [z_X3_needPower M, z_X2_greatest M]) <;> rfl
theorem z_X3_flaws (M : Mm)  : F_X3_flaws M  = F_X3_flaws (Zm M)  := by
  unfold F_X3_flaws
  (try simp only [z_X3_needPower M]) <;> rfl
theorem z_X3_digestHandle (M : Mm) (a1 : Int64) (a2 : Int) : F_X3_digestHandle M a1 a2 = F_X3_digestHandle (Zm M) a1 a2 := by
  unfold F_X3_digestHandle
  (try simp only [z_X3_nodeOf M, z_X3_positionOf M, z_X3_lockRows M]) <;> rfl
/-- two memories that differ in these kinds alone: every reader answers alike -/
theorem zq {α : Type} {F : Mm → α} {M M' : Mm} (z : ∀ M, F M = F (Zm M)) (h : Zm M' = Zm M) : F M' = F M := by rw [z M', h, ← z M]
