/-! THE CHECKSUM: it is there, and it is the same again -/
theorem SY.zm {M M' : Mm} {t w : Int} {l d : Nat} (s : SY M t l d w) (h : Zm M' = Zm M) : SY M' t l d w := by
  obtain ⟨⟨I, w1, p, u, r, la, ag⟩, D, us⟩ := s
  have f : ∀ K i k : Nat, K ≠ 9 → K ≠ 10 → M' K i k = M K i k := fun K i k a b => zm_k h i k a b
  have z : ∀ k, M' 0 0 k = M 0 0 k := fun k => f 0 0 k (by omega) (by omega)
  have ao : ∀ o, Ag M M' o o := fun o => ag_of fun K i k _ _ => f K i k (by omega) (by omega)
  have h11 : ∀ h k, M' 11 h k = M 11 h k := fun h k => f 11 h k (by omega) (by omega)
  refine ⟨⟨⟨(z 0).trans I.1, (z 1).trans I.2.1, I.2.2⟩, ?_, ?_, ?_, fun h h6 => ?_, la.to (ao 2) (f 1 2 5 (by omega) (by omega)), fun w0 => ?_⟩, D.to (ao l) (D.2.1.to (f 1 l 5 (by omega) (by omega))) r (fun h k _ _ => h11 h k), ?_⟩
  · rw [z]; exact w1
  · rw [z]; exact p
  · rw [z]; exact u
  · rw [h11, h11, h11]; exact r h h6
  · rw [z] at w0
    rw [f 1 2 5 (by omega) (by omega), f 1 l 5 (by omega) (by omega)]
    exact ⟨((ao l).symm.trans (ag w0).1).trans (ao 2), (ag w0).2⟩
  · rw [(ao l).usedE]
    exact us
theorem SO.pure {α : Type} {M : Mm} {v : α} : SO M (fun M' => some (v, M')) := ⟨v, fun M' h => ⟨M', rfl, h⟩⟩
theorem SO.congr {α : Type} {M : Mm} {F G : Mm → Option (α × Mm)} (h : ∀ M', Zm M' = Zm M → G M' = F M') (s : SO M F) : SO M G := by
  obtain ⟨v, hv⟩ := s
  refine ⟨v, fun M' hz => ?_⟩
  rw [h M' hz]
  exact hv M' hz
theorem SO.bind {α β : Type} {M : Mm} {F : Mm → Option (α × Mm)} {G : α → Mm → Option (β × Mm)} (hF : SO M F) (hG : ∀ v, SO M (G v)) : SO M (fun M' => xb2 (F M') (G)) := by
  obtain ⟨v, hv⟩ := hF
  obtain ⟨w, hw⟩ := hG v
  refine ⟨w, fun M' hz => ?_⟩
  obtain ⟨N, e, hn⟩ := hv M' hz
  obtain ⟨P, e2, hp⟩ := hw N hn
  refine ⟨P, ?_, hp⟩
  show xb2 (F M') G = _
  rw [e, xb2_s, e2]
theorem SO.ro {α β : Type} {M : Mm} {F : Mm → Option α} {G : α → Mm → Option (β × Mm)} (z : ∀ M, F M = F (Zm M)) (e : ∃ r, F M = some r) (hG : ∀ r, SO M (G r)) : SO M (fun M' => xb1 (F M') fun r => G r M') := by
  obtain ⟨r, hr⟩ := e
  obtain ⟨w, hw⟩ := hG r
  refine ⟨w, fun M' hz => ?_⟩
  show ∃ N, (xb1 (F M') fun r => G r M') = some (w, N) ∧ _
  rw [zq z hz, hr, xb1_s]
  exact hw M' hz
section
variable {M : Mm} {t w : Int} {l d : Nat}
theorem live_ok {n : Nat} (s : SY M t l d w) (hn : n < 32) (hs : M 2 (33 * l + n) 0 ≠ 0) : F_X3_needLive M (n : Int) = some (33 * l + n) := by
  unfold F_X3_needLive
  rw [pw_ok s.pw, xb1_s, nd_ok s.ix hn hs, xb1_s, xk_t s.ix.l01, s.ix.l, at_ok hn, xb1_s]
theorem SY.br5 (s : SY M t l d w) : Br5 M l := fun n p hn hp => s.g2.tb.1 n p hn hp
theorem linksOf_ok {n : Nat} (s : SY M t l d w) (hn : n < 32) (hs : M 2 (33 * l + n) 0 ≠ 0) : F_X3_linksOf M (n : Int) = some (M 2 (33 * l + n) 2) := by
  unfold F_X3_linksOf
  rw [live_ok s hn hs, xb1_s]
theorem ownerOf_ok {n : Nat} (s : SY M t l d w) (hn : n < 32) (hs : M 2 (33 * l + n) 0 ≠ 0) : F_X3_ownerOf M (n : Int) = some (M 2 (33 * l + n) 1) := by
  unfold F_X3_ownerOf
  rw [live_ok s hn hs, xb1_s]
/-- the size that is told -/
def ext (M : Mm) (i : Nat) : Int := if M 2 i 0 = 2 then M 2 i 8 else if M 2 i 0 = 3 then (if M 2 i 6 = 0 then 0 else 1) + (if M 2 i 7 = 0 then 0 else 1) else M 2 i 3
theorem ext_ok {M : Mm} {i : Nat} : F_X1_extent M i = some (ext M i) := by
  unfold F_X1_extent F_X1_extent_33 ext
  by_cases a : M 2 i 0 = 2
  · rw [if_pos a, if_pos a]
  · rw [if_neg a, if_neg a]
    by_cases b : M 2 i 0 = 3
    · rw [if_pos b, if_pos b]
      by_cases c : M 2 i 6 = 0
      · rw [if_pos c, if_pos c]
        by_cases e : M 2 i 7 = 0
        · rw [if_pos e, if_pos e, xk_t (rgk (by omega))]
        · rw [if_neg e, if_neg e, xk_t (rgk (by omega))]
      · rw [if_neg c, if_neg c]
        by_cases e : M 2 i 7 = 0
        · rw [if_pos e, if_pos e, xk_t (rgk (by omega))]
        · rw [if_neg e, if_neg e, xk_t (rgk (by omega))]
    · rw [if_neg b, if_neg b]
theorem sizeOf_ok {n : Nat} (s : SY M t l d w) (hn : n < 32) (hs : M 2 (33 * l + n) 0 ≠ 0) : F_X3_sizeOf M (n : Int) = some (ext M (33 * l + n)) := by
  unfold F_X3_sizeOf
  rw [live_ok s hn hs, xb1_s, ext_ok, xb1_s]
theorem blocksOf_ok {n : Nat} (s : SY M t l d w) (hn : n < 32) (hs : M 2 (33 * l + n) 0 ≠ 0) : F_X3_blocksOf M (n : Int) = some (own M (33 * l + n)) := by
  unfold F_X3_blocksOf
  rw [live_ok s hn hs, xb1_s, own_ok (s.g1.er n hn), xb1_s]
theorem sharedOf_ok {n : Nat} (s : SY M t l d w) (hn : n < 32) (hs : M 2 (33 * l + n) 0 ≠ 0) : F_X3_sharedOf M (n : Int) = some (shr M l (33 * l + n)) := by
  unfold F_X3_sharedOf
  rw [xk_t s.ix.l01, live_ok s hn hs, xb1_s, s.ix.l, shared_ok s.br5 hn, xb1_s]
theorem parentOf_ok {n : Nat} (s : SY M t l d w) (hn : n < 32) (hs : M 2 (33 * l + n) 0 ≠ 0) : F_X3_parentOf M (n : Int) = some (if M 2 (33 * l + n) 0 = 2 then M 2 (33 * l + n) 4 else -1) := by
  unfold F_X3_parentOf
  rw [live_ok s hn hs, xb1_s]
  by_cases z : M 2 (33 * l + n) 0 = 2
  · rw [if_pos z, if_pos z, xk_t s.ix.l01, s.ix.l, at_ok hn, xb1_s]
  · rw [if_neg z, if_neg z]
theorem depthOf_ok {n : Nat} (s : SY M t l d w) (hn : n < 32) (hs : M 2 (33 * l + n) 0 ≠ 0) : ∃ r, F_X3_depthOf M (n : Int) = some r := by
  unfold F_X3_depthOf
  rw [live_ok s hn hs, xb1_s]
  by_cases z : M 2 (33 * l + n) 0 = 2
  · obtain ⟨r, e⟩ := depth_ok (v := (n : Int)) s.g1.se.pr (by omega)
    rw [if_pos z, xk_t s.ix.l01, s.ix.l, e, xb1_s]
    exact ⟨r, rfl⟩
  · rw [if_neg z]
    exact ⟨_, rfl⟩
theorem isOrphan_ok {n : Nat} (s : SY M t l d w) (hn : n < 32) (hs : M 2 (33 * l + n) 0 ≠ 0) : F_X3_isOrphan M (n : Int) = some (if M 2 (33 * l + n) 0 = 1 ∧ M 2 (33 * l + n) 2 = 0 then 1 else 0) := by
  unfold F_X3_isOrphan
  rw [live_ok s hn hs, xb1_s, forsaken_ok, xb1_s, xk_t]
  split
  · exact Or.inr rfl
  · exact Or.inl rfl
theorem lookup_ok {n : Nat} {a : Int} (s : SY M t l d w) (hn : n < 32) (hs : M 2 (33 * l + n) 0 = 2) (ha : 1 ≤ a ∧ a ≤ 99) : F_X3_lookup M (n : Int) a = F_X1_nodeNamed M (33 * l + n) a := by
  unfold F_X3_lookup
  rw [ent_ok s.ix s.pw hn (by omega) ha, xb1_s, xk_t s.ix.l01, s.ix.l, at_ok hn, xb1_s, if_pos hs]
  cases F_X1_nodeNamed M (33 * l + n) a <;> rfl
theorem nameAt_ok {n k : Nat} (s : SY M t l d w) (hn : n < 32) (hs : M 2 (33 * l + n) 0 ≠ 0) (hk : (k : Int) < M 2 (33 * l + n) 8) : F_X3_nameAt M (n : Int) (k : Int) = some (M 3 (33 * l + n) k) := by
  unfold F_X3_nameAt
  rw [live_ok s hn hs, xb1_s, nameOf_ok (s.g1.er n hn) hk, xb1_s]
theorem used3_ok (s : SY M t l d w) : F_X3_used M = some (usedT M l) := by
  unfold F_X3_used
  rw [pw_ok s.pw, xb1_s, xk_t s.ix.l01, s.ix.l, used_ok s.g1.er, xb1_s]
theorem usedBy_ok {u : Nat} (s : SY M t l d w) (hu : u < 4) : F_X3_usedBy M (u : Int) = some (takB M l u) := by
  unfold F_X3_usedBy
  rw [pw_ok s.pw, xb1_s, rn_ok (by omega), xb1_s, xk_t s.ix.l01, s.ix.l, tak_ok s.g1.er, xb1_s]
theorem quotaOf_ok {u : Nat} (s : SY M t l d w) (hu : u < 4) : F_X3_quotaOf M (u : Int) = some (M 6 l u) := by
  unfold F_X3_quotaOf
  rw [pw_ok s.pw, xb1_s, rn_ok (by omega), xb1_s, xk_t s.ix.l01, s.ix.l, limitOf_ok hu, xb1_s]
theorem waiting_ok (s : SY M t l d w) : F_X3_waiting M = some (M 0 0 4) := by
  unfold F_X3_waiting
  rw [pw_ok s.pw, xb1_s]
theorem changes_ok (s : SY M t l d w) : F_X3_changes M = some (M 1 l 5) := by
  unfold F_X3_changes
  rw [pw_ok s.pw, xb1_s, xk_t s.ix.l01, s.ix.l]
theorem nodes_ok (s : SY M t l d w) : F_X3_nodes M = some (cntN M l) := by
  unfold F_X3_nodes
  rw [pw_ok s.pw, xb1_s, xk_t s.ix.l01, s.ix.l, count_ok, xb1_s]
theorem greatest_ok (s : SY M t l d w) : ∃ r, F_X3_greatestFile M = some r := by
  obtain ⟨r, e⟩ := great_ok s.g1.er
  unfold F_X3_greatestFile
  rw [pw_ok s.pw, xb1_s, xk_t s.ix.l01, s.ix.l, e, xb1_s]
  exact ⟨r, rfl⟩
theorem z_bwV {s : Int64} {o : Nat} (M : Mm) : bwV M o s = bwV (Zm M) o s := rfl
theorem z_fwV {s : Int64} {o : Nat} (M : Mm) : fwV M o s = fwV (Zm M) o s := by
  have e : frd M o s = frd (Zm M) o s := by
    funext n
    unfold frd eoV
    rw [z_X2_entriesOutside M]
    rfl
  unfold fwV
  rw [e]
  rfl
theorem under_ok {n : Nat} (s : SY M t l d w) (hn : n < 32) (hs : M 2 (33 * l + n) 0 ≠ 0) : ∃ r, F_X2_reach M l (n : Int) = some r ∧ ∀ M', Zm M' = Zm M → (∃ N, F_X3_blocksUnder M' (n : Int) = some (bwV M l r, N) ∧ Zm N = Zm M) ∧ ∃ N, F_X3_wouldFree M' (n : Int) = some (fwV M l r, N) ∧ Zm N = Zm M := by
  obtain ⟨r, er⟩ := reach_tot (a := (n : Int)) s.g1.se.nr
  refine ⟨r, er, fun M' h => ?_⟩
  have s' := s.zm h
  have er' : F_X2_reach M' l (n : Int) = some r := ro (fun M => z_X2_reach M _ _) h er
  have hs' : M' 2 (33 * l + n) 0 ≠ 0 := by
    rw [zm_k h _ 0 (by decide) (by decide)]
    exact hs
  obtain ⟨N1, e1, h1⟩ := bw_ok s'.g1.er s'.br5 er'
  obtain ⟨N2, e2, h2⟩ := fw_ok s'.g1.se.nr s'.br5 er'
  rw [zq (fun M => z_bwV M) h] at e1
  rw [zq (fun M => z_fwV M) h] at e2
  unfold F_X3_blocksUnder F_X3_wouldFree
  rw [pw_ok s'.pw, xb1_s, nd_ok s'.ix hn hs', xb1_s, xk_t s'.ix.l01, s'.ix.l, e1, xb2_s, xb1_s, xb1_s, xk_t s'.ix.l01, e2, xb2_s]
  exact ⟨⟨N1, rfl, h1.trans h⟩, N2, rfl, h2.trans h⟩
theorem digestNode_so {n : Nat} {a : Int64} (s : SY M t l d w) (hn : n < 32) (hs : M 2 (33 * l + n) 0 ≠ 0) : SO M (fun M' => F_X3_digestNode M' a (n : Int)) := by
  obtain ⟨r, er, hr⟩ := under_ok s hn hs
  unfold F_X3_digestNode
  refine SO.ro (fun M => z_X3_typeOf M _) ⟨_, typeOf_ok s hn⟩ fun y2 => ?_
  refine SO.ro (fun M => z_X3_linksOf M _) ⟨_, linksOf_ok s hn hs⟩ fun y5 => ?_
  refine SO.ro (fun M => z_X3_ownerOf M _) ⟨_, ownerOf_ok s hn hs⟩ fun y8 => ?_
  refine SO.ro (fun M => z_X3_sizeOf M _) ⟨_, sizeOf_ok s hn hs⟩ fun y11 => ?_
  refine SO.ro (fun M => z_X3_blocksOf M _) ⟨_, blocksOf_ok s hn hs⟩ fun y14 => ?_
  refine SO.ro (fun M => z_X3_sharedOf M _) ⟨_, sharedOf_ok s hn hs⟩ fun y17 => ?_
  refine SO.ro (fun M => z_X3_parentOf M _) ⟨_, parentOf_ok s hn hs⟩ fun y20 => ?_
  refine SO.ro (fun M => z_X3_depthOf M _) (depthOf_ok s hn hs) fun y23 => ?_
  refine SO.bind ⟨_, fun M' h => (hr M' h).1⟩ fun y26 => ?_
  refine SO.bind ⟨_, fun M' h => (hr M' h).2⟩ fun y30 => ?_
  exact SO.pure
theorem content56 {n e : Nat} (s : SY M t l d w) (hn : n < 32) (h8 : M 2 (33 * l + n) 8 = e) : ∀ (j q k : Nat) (a : Int64), k + j = e → SO M (fun M' => F_X3_digestContent_56 (q + j + 1) M' (n : Int) (33 * l + n) a (k : Int))
  | 0, q, k, a, hk => by
    refine SO.congr (fun M' h => ?_) (SO.pure (v := a))
    unfold F_X3_digestContent_56
    rw [zm_k h _ 8 (by decide) (by decide), h8, if_pos (by omega)]
  | j + 1, q, k, a, hk => by
    have he := s.g1.er n hn
    have nm := nameOf_ok he (show (k : Int) < M 2 (33 * l + n) 8 by omega)
    have nn : ∃ y, F_X1_nodeNamed M (33 * l + n) (M 3 (33 * l + n) k) = some y := by
      rcases named_ok (M := M) (i := 33 * l + n) (a := M 3 (33 * l + n) k) he with ⟨e1, -⟩ | ⟨i, e1, -⟩
      · exact ⟨_, e1⟩
      · exact ⟨_, e1⟩
    obtain ⟨y, ey⟩ := nn
    refine SO.congr (F := fun M' => xb2 (F_X2_found M' l (n : Int) (M 3 (33 * l + n) k)) fun y12 M13 => F_X3_digestContent_56 (q + j + 1) M13 (n : Int) (33 * l + n) ((((((a * (31 : Int64)) + ((jI (M 3 (33 * l + n) k)).toInt64)) * (31 : Int64)) + ((jI y).toInt64)) * (31 : Int64)) + ((jI y12).toInt64)) ((k + 1 : Nat) : Int)) (fun M' h => ?_) (SO.bind (found_ok s.g1.se.fo hn) fun y12 => content56 s hn h8 j q (k + 1) _ (by omega))
    have s' := s.zm h
    show F_X3_digestContent_56 ((q + j + 1) + 1) M' (n : Int) (33 * l + n) a (k : Int) = _
    unfold F_X3_digestContent_56
    rw [zm_k h _ 8 (by decide) (by decide), h8, if_neg (by omega), ro (fun M => z_X1_nameOf M _ _) h nm, xb1_s, ro (fun M => z_X1_nodeNamed M _ _) h ey, xb1_s, xk_t s'.ix.l01, s'.ix.l, suc]
    have rk : rg ((k + 1 : Nat) : Int) := rgk (by omega)
    simp only [xk_t rk]
    rfl
theorem content16 {n z : Nat} (s : SY M t l d w) (hn : n < 32) (h3 : M 2 (33 * l + n) 3 = z) (hz : z ≤ 320) : ∀ (j q k : Nat) (a : Int64), k + j = z → SO M (fun M' => F_X3_digestContent_16 (q + j + 1) M' (n : Int) (33 * l + n) a (k : Int))
  | 0, q, k, a, hk => by
    have he := s.g1.er n hn
    obtain ⟨e, h8⟩ : ∃ e : Nat, M 2 (33 * l + n) 8 = e := ⟨(M 2 (33 * l + n) 8).toNat, by omega⟩
    refine SO.congr (fun M' h => ?_) (content56 s hn h8 e (FU - (e + 1)) 0 a (by omega))
    unfold F_X3_digestContent_16
    rw [zm_k h _ 3 (by decide) (by decide), h3, if_pos (by omega), show FU - (e + 1) + e + 1 = FU by have := fu_big; omega]
    rfl
  | j + 1, q, k, a, hk => by
    obtain ⟨r, er⟩ := byteOf_ok s.br5 hn (show k < 320 by omega)
    refine SO.congr (fun M' h => ?_) (content16 s hn h3 hz j q (k + 1) ((a * (31 : Int64)) + ((jI r).toInt64)) (by omega))
    have s' := s.zm h
    show F_X3_digestContent_16 ((q + j + 1) + 1) M' (n : Int) (33 * l + n) a (k : Int) = _
    conv => lhs; unfold F_X3_digestContent_16
    rw [zm_k h _ 3 (by decide) (by decide), h3, if_neg (by omega), xk_t s'.ix.l01, s'.ix.l, ro (fun M => z_X2_byteOf M _ _ _) h er, xb1_s, xk_t (rgk (by omega)), suc]
theorem content_so {n : Nat} {a : Int64} (s : SY M t l d w) (hn : n < 32) : SO M (fun M' => F_X3_digestContent M' a (n : Int)) := by
  obtain ⟨b, -⟩ := s.g2.1 n hn
  obtain ⟨z, h3⟩ : ∃ z : Nat, M 2 (33 * l + n) 3 = z := ⟨(M 2 (33 * l + n) 3).toNat, by omega⟩
  refine SO.congr (fun M' h => ?_) (content16 s hn h3 (by omega) z (FU - (z + 1)) 0 a (by omega))
  have s' := s.zm h
  unfold F_X3_digestContent
  rw [xk_t s'.ix.l01, s'.ix.l, at_ok hn, xb1_s, show FU - (z + 1) + z + 1 = FU by have := fu_big; omega]
  rfl
theorem dHandle_ok {h : Nat} {a : Int64} (s : SY M t l d w) (hh : h < 6) (ho : M 11 h 0 ≠ 0) : ∃ r, F_X3_digestHandle M a (h : Int) = some r := by
  obtain ⟨r, er⟩ := rows_ok (M := M) (o := h)
  unfold F_X3_digestHandle F_X3_nodeOf F_X3_positionOf F_X3_lockRows
  rw [pw_ok s.pw, xb1_s, op_ok hh ho, xb1_s, xb1_s, xb1_s, xb1_s, xb1_s, xb1_s, xb1_s, er, xb1_s, xb1_s]
  exact ⟨_, rfl⟩
theorem dig173 (s : SY M t l d w) : ∀ (j q k : Nat) (a : Int64), k + j = 6 → SO M (fun M' => F_X3_digest_173 (q + j + 1) M' a (k : Int))
  | 0, q, k, a, hk => by
    refine SO.congr (fun M' h => ?_) (SO.pure (v := a))
    unfold F_X3_digest_173
    rw [if_pos (by omega)]
  | j + 1, q, k, a, hk => by
    by_cases z : M 11 k 0 = 0
    · refine SO.congr (fun M' h => ?_) (dig173 s j q (k + 1) a (by omega))
      show F_X3_digest_173 ((q + j + 1) + 1) M' a (k : Int) = _
      conv => lhs; unfold F_X3_digest_173
      rw [if_neg (by omega), xk_t (by omega), Int.toNat_natCast, zm_k h _ 0 (by decide) (by decide), if_pos z, xk_t (rgk (by omega)), suc]
    · obtain ⟨r, er⟩ := dHandle_ok (a := a) s (show k < 6 by omega) z
      refine SO.congr (fun M' h => ?_) (dig173 s j q (k + 1) r (by omega))
      show F_X3_digest_173 ((q + j + 1) + 1) M' a (k : Int) = _
      conv => lhs; unfold F_X3_digest_173
      rw [if_neg (by omega), xk_t (by omega), Int.toNat_natCast, zm_k h _ 0 (by decide) (by decide), if_neg z, ro (fun M => z_X3_digestHandle M _ _) h er, xb1_s, xk_t (rgk (by omega)), suc]
theorem dig133 (s : SY M t l d w) : ∀ (j q k : Nat) (a : Int64), k + j = 32 → SO M (fun M' => F_X3_digest_133 (q + j + 1) M' a (k : Int))
  | 0, q, k, a, hk => by
    refine SO.congr (fun M' h => ?_) (dig173 s 6 (FU - 7) 0 a (by decide))
    unfold F_X3_digest_133
    rw [if_pos (by omega)]
    rfl
  | j + 1, q, k, a, hk => by
    by_cases z : M 2 (33 * l + k) 0 = 0
    · refine SO.congr (fun M' h => ?_) (dig133 s j q (k + 1) a (by omega))
      have s' := s.zm h
      show F_X3_digest_133 ((q + j + 1) + 1) M' a (k : Int) = _
      conv => lhs; unfold F_X3_digest_133
      rw [if_neg (by omega), xk_t s'.ix.l01, s'.ix.l, at_ok (by omega), xb1_s, zm_k h _ 0 (by decide) (by decide), if_pos z, xk_t (rgk (by omega)), suc]
    · refine SO.congr (F := fun M' => xb2 (F_X3_digestNode M' a (k : Int)) fun y20 M21 => xb2 (F_X3_digestContent M21 y20 (k : Int)) fun y23 M24 => F_X3_digest_133 (q + j + 1) M24 y23 ((k + 1 : Nat) : Int)) (fun M' h => ?_) (SO.bind (digestNode_so s (by omega) z) fun y20 => SO.bind (content_so s (by omega)) fun y23 => dig133 s j q (k + 1) y23 (by omega))
      have s' := s.zm h
      show F_X3_digest_133 ((q + j + 1) + 1) M' a (k : Int) = _
      conv => lhs; unfold F_X3_digest_133
      rw [if_neg (by omega), xk_t s'.ix.l01, s'.ix.l, at_ok (by omega), xb1_s, zm_k h _ 0 (by decide) (by decide), if_neg z, suc]
      have rk : rg ((k + 1 : Nat) : Int) := rgk (by omega)
      simp only [xk_t rk]
theorem dig82 (s : SY M t l d w) : ∀ (j q k : Nat) (a : Int64), k + j = 4 → SO M (fun M' => F_X3_digest_82 (q + j + 1) M' a (k : Int))
  | 0, q, k, a, hk => by
    obtain ⟨r, er⟩ := greatest_ok s
    refine SO.congr (fun M' h => ?_) (dig133 s 32 (FU - 33) 0 ((a * (31 : Int64)) + ((jI r).toInt64)) (by decide))
    unfold F_X3_digest_82
    rw [if_pos (by omega), ro (fun M => z_X3_greatestFile M) h er, xb1_s]
    rfl
  | j + 1, q, k, a, hk => by
    refine SO.congr (fun M' h => ?_) (dig82 s j q (k + 1) ((((a * (31 : Int64)) + ((jI (takB M l k)).toInt64)) * (31 : Int64)) + ((jI (M 6 l k)).toInt64)) (by omega))
    show F_X3_digest_82 ((q + j + 1) + 1) M' a (k : Int) = _
    conv => lhs; unfold F_X3_digest_82
    rw [if_neg (by omega), ro (fun M => z_X3_usedBy M _) h (usedBy_ok s (by omega)), xb1_s, ro (fun M => z_X3_quotaOf M _) h (quotaOf_ok s (by omega)), xb1_s, xk_t (rgk (by omega)), suc]
theorem digest_so (s : SY M t l d w) : SO M F_X3_digest := by
  show SO M (fun M' => F_X3_digest M')
  unfold F_X3_digest
  refine SO.ro (fun M => z_X3_needPower M) ⟨_, pw_ok s.pw⟩ fun _ => ?_
  refine SO.ro (fun M => z_X3_nodes M) ⟨_, nodes_ok s⟩ fun y3 => ?_
  refine SO.ro (fun M => z_X3_changes M) ⟨_, changes_ok s⟩ fun y6 => ?_
  refine SO.ro (fun M => z_X3_waiting M) ⟨_, waiting_ok s⟩ fun y9 => ?_
  refine SO.ro (fun M => z_X3_handles M) ⟨_, hands_ok s.pw⟩ fun y12 => ?_
  refine SO.ro (fun M => z_X3_mounts M) ⟨_, rfl⟩ fun y15 => ?_
  refine SO.ro (fun M => z_X3_used M) ⟨_, used3_ok s⟩ fun y18 => ?_
  exact dig82 s 4 (FU - 5) 0 _ (by decide)
end
