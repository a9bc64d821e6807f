def M0 : Mm := fun K i k => if K = 2 then (if i % 33 = 0 ∧ k = 0 then 2 else 0) else if K = 6 then (if k < 4 then 120 else 0) else if K = 0 then (if k = 1 then 1 else if k = 7 then -1 else 0) else 0
theorem M0_rg : RG M0 := by
  intro K i k _
  unfold M0
  split
  · split <;> decide
  · split
    · split <;> decide
    · split
      · split
        · decide
        · split <;> decide
      · decide
theorem nd_0 {g : Gx} {s : Int} {Q : Nat} : ndF g s Q Q = some (.inr (1, [.int (jI s), .int (jI 0), .int (jI 0), .int (jI 0), .int (jI 0), .int (jI 0), .int (jI 0), .int (jI 0), .int (jI 0), .ref (Q + 1), .ref (Q + 2), .ref (Q + 3)])) := by unfold ndF; rw [if_pos rfl]
theorem nd_1 {g : Gx} {s : Int} {Q : Nat} : ndF g s Q (Q + 1) = some (.inl (g.2 0, 12, .inl (fun _ => jI 0))) := by unfold ndF; rw [if_neg (by omega), if_pos rfl]
theorem nd_2 {g : Gx} {s : Int} {Q : Nat} : ndF g s Q (Q + 2) = some (.inl (g.2 0, 12, .inl (fun _ => jI 0))) := by unfold ndF; rw [if_neg (by omega), if_neg (by omega), if_pos rfl]
theorem nd_3 {g : Gx} {s : Int} {Q : Nat} : ndF g s Q (Q + 3) = some (.inl (g.2 0, 20, .inl (fun _ => jI 0))) := by unfold ndF; rw [if_neg (by omega), if_neg (by omega), if_neg (by omega), if_pos rfl]
theorem trC_nb {g : Gx} {q a : Nat} (h1 : q + 2 ≤ a) (h2 : a < q + 6) : trC g q a = ndF g 0 (q + 2) a := by unfold trC; rw [if_neg (by omega), if_neg (by omega), if_pos ⟨h1, h2⟩]
theorem trC_nd {g : Gx} {q n a : Nat} (hn : n < 32) (h1 : q + 11 + 4 * n ≤ a) (h2 : a < q + 11 + 4 * n + 4) : trC g q a = ndF g (if n = 0 then 2 else 0) (q + 11 + 4 * n) a := by
  unfold trC
  rw [if_neg (by omega), if_neg (by omega), if_neg (by omega), if_neg (by omega), if_neg (by omega), if_neg (by omega), if_neg (by omega), if_neg (by omega), if_pos ⟨by omega, by omega⟩, show (a - (q + 11)) / 4 = n by omega]
theorem trC_0 {g : Gx} {q : Nat} : trC g q q = some (.inr (2, [.ref (q + 1), .ref (q + 2), .ref (q + 6), .ref (q + 7), .ref (q + 8), .int (jI 0), .ref (q + 9), .ref (q + 10)])) := by unfold trC; rw [if_pos rfl]
theorem trC_1 {g : Gx} {q : Nat} : trC g q (q + 1) = some (.inl (g.2 1, 32, .inr (.inr (.inr (.inr (fun k => if k < 32 then some (q + 11 + 4 * k) else none)))))) := by unfold trC; rw [if_neg (by omega), if_pos rfl]
theorem trC_6 {g : Gx} {q : Nat} : trC g q (q + 6) = some (.inl (g.2 0, 4, .inl (fun k => jI (if k < 4 then 120 else 0)))) := by unfold trC; rw [if_neg (by omega), if_neg (by omega), if_neg (by omega), if_pos rfl]
theorem trC_7 {g : Gx} {q : Nat} : trC g q (q + 7) = some (.inl (g.2 4, 256, .inr (.inl (fun _ => 0)))) := by unfold trC; rw [if_neg (by omega), if_neg (by omega), if_neg (by omega), if_neg (by omega), if_pos rfl]
theorem trC_8 {g : Gx} {q : Nat} : trC g q (q + 8) = some (.inl (g.2 0, 128, .inl (fun _ => jI 0))) := by unfold trC; rw [if_neg (by omega), if_neg (by omega), if_neg (by omega), if_neg (by omega), if_neg (by omega), if_pos rfl]
theorem trC_9 {g : Gx} {q : Nat} : trC g q (q + 9) = some (.inl (g.2 0, 128, .inl (fun _ => jI 0))) := by unfold trC; rw [if_neg (by omega), if_neg (by omega), if_neg (by omega), if_neg (by omega), if_neg (by omega), if_neg (by omega), if_pos rfl]
theorem trC_10 {g : Gx} {q : Nat} : trC g q (q + 10) = some (.inl (g.2 0, 8, .inl (fun _ => jI 0))) := by unfold trC; rw [if_neg (by omega), if_neg (by omega), if_neg (by omega), if_neg (by omega), if_neg (by omega), if_neg (by omega), if_neg (by omega), if_pos rfl]
theorem arrV_congr {cA : ClassId} {n : Nat} {f f' : Nat → Value} (h : ∀ k, k < n → f k = f' k) : arrV cA n f = arrV cA n f' := by
  unfold arrV
  congr 1
  apply Array.ext
  · simp
  · intro i h1 h2
    simp at h1
    simp [h i h1]
theorem vpq_congr {cA : ClassId} {n : Nat} {f f' : Nat → Option Nat} (h : ∀ k, k < n → f k = f' k) : vp_cell cA (n, .inr (.inr (.inr (.inr f)))) = vp_cell cA (n, .inr (.inr (.inr (.inr f')))) := by
  rw [vp_cell_q, vp_cell_q]
  exact arrV_congr fun k hk => by rw [h k hk]
def DkP (g : Gx) (q n : Nat) (f : Nat → Option va_E) : Prop :=
  f q = some (.inr (3, [.ref (q + 1), .ref (q + 140), .ref (q + 279), .ref (q + 418), .int (jI 0), .int (jI 0), .int (jI 0), .int (jI (-1 : Int)), .int (jI 0)])) ∧ (∀ t, t < 3 → ∀ a, q + 1 + 139 * t ≤ a → a < q + 1 + 139 * t + 139 → f a = trC g (q + 1 + 139 * t) a) ∧
  f (q + 418) = some (.inl (g.2 2, 6, .inr (.inr (.inr (.inr (fun k => if k < n then some (q + 419 + 2 * k) else none)))))) ∧ ∀ i, i < n → ∀ a, q + 419 + 2 * i ≤ a → a < q + 419 + 2 * i + 2 → f a = hdF g (q + 419 + 2 * i) a
theorem DkP.nd {g : Gx} {q : Nat} {f : Nat → Option va_E} (h : DkP g q 6 f) {i r : Nat} (hi : i < 99) (hr : r < 4) : f (adN q i + r) = ndF g (if i % 33 = 0 then 2 else 0) (adN q i) (adN q i + r) := by
  have ht := h.2.1 (i / 33) (by omega) (adN q i + r) (by unfold adN; split <;> omega) (by unfold adN; split <;> omega)
  rw [ht]
  by_cases z : i % 33 = 32
  · have e : adN q i = q + 1 + 139 * (i / 33) + 2 := by unfold adN; rw [if_pos z]; omega
    rw [trC_nb (by omega) (by omega), e, if_neg (by omega)]
  · have e : adN q i = q + 1 + 139 * (i / 33) + 11 + 4 * (i % 33) := by unfold adN; rw [if_neg z]; omega
    rw [trC_nd (n := i % 33) (by omega) (by omega) (by omega), e]
theorem DkP.rel {g : Gx} {q : Nat} {f : Nat → Option va_E} {h : Nat} {H : Heap} (hp : DkP g q 6 f) (hC : CW g f h H) : Rel g q M0 H := by
  have key : ∀ K i, okK K i → (K = 13 ∨ K = 14) ∨ f (adr q K i) = some (cellE g q M0 K i) := ?_
  · refine ⟨fun K i ok => ?_, M0_rg⟩
    rcases key K i ok with (rfl | rfl) | h9
    · have hi : i < 3 := by unfold okK at ok; omega
      have h9 : H[q + 2 + 139 * i]? = some (vp_cell (g.2 1) (32, .inr (.inr (.inr (.inr (fun k => if k < 32 then some (q + 1 + 139 * i + 11 + 4 * k) else none)))))) := hC.2 (q + 2 + 139 * i) (.inl (g.2 1, 32, .inr (.inr (.inr (.inr (fun k => if k < 32 then some (q + 1 + 139 * i + 11 + 4 * k) else none)))))) (by rw [hp.2.1 i hi _ (by omega) (by omega), show q + 2 + 139 * i = q + 1 + 139 * i + 1 by omega, trC_1])
      have e9 : vp_cell (g.2 1) (32, .inr (.inr (.inr (.inr (fun k => if k < 32 then some (q + 1 + 139 * i + 11 + 4 * k) else none))))) = vp_cell (g.2 1) (32, .inr (.inr (.inr (.inr (fun k => some (adN q (33 * i + k))))))) := vpq_congr fun k hk => by
        show (if k < 32 then _ else _) = some (adN q (33 * i + k))
        unfold adN
        rw [if_pos hk, if_neg (by omega)]
        congr 1
        omega
      rw [e9] at h9
      exact h9
    · have hi : i = 0 := by unfold okK at ok; omega
      subst hi
      have h9 : H[q + 418]? = some (vp_cell (g.2 2) (6, .inr (.inr (.inr (.inr (fun k => if k < 6 then some (q + 419 + 2 * k) else none)))))) := hC.2 (q + 418) (.inl (g.2 2, 6, .inr (.inr (.inr (.inr (fun k => if k < 6 then some (q + 419 + 2 * k) else none)))))) hp.2.2.1
      have e9 : vp_cell (g.2 2) (6, .inr (.inr (.inr (.inr (fun k => if k < 6 then some (q + 419 + 2 * k) else none))))) = vp_cell (g.2 2) (6, .inr (.inr (.inr (.inr (fun k => some (q + 419 + 2 * k)))))) := vpq_congr fun k hk => by
        show (if k < 6 then _ else _) = some (q + 419 + 2 * k)
        rw [if_pos hk]
      rw [e9] at h9
      exact h9
    · exact hC.2 _ _ h9
  intro K i ok
  unfold okK at ok
  rcases ok with ⟨rfl, rfl⟩ | ⟨rfl, hi⟩ | ⟨rfl, hi⟩ | ⟨rfl, hi⟩ | ⟨rfl, hi⟩ | ⟨rfl, hi⟩ | ⟨rfl, hi⟩ | ⟨rfl, hi⟩ | ⟨rfl, hi⟩ | ⟨rfl, hi⟩ | ⟨rfl, hi⟩ | ⟨rfl, hi⟩ | ⟨rfl, hi⟩ | ⟨rfl, hi⟩ | ⟨rfl, rfl⟩
  · exact Or.inr hp.1
  · right
    show f (q + 1 + 139 * i) = _
    rw [hp.2.1 i hi _ (Nat.le_refl _) (by omega), trC_0]
    simp only [cellE, adr, adN, M0]
    rw [if_pos (by omega)]
    simp only [show (33 * i + 32) / 33 = i by omega, show q + 1 + 139 * i + 1 = q + 2 + 139 * i by omega, show q + 1 + 139 * i + 2 = q + 3 + 139 * i by omega, show q + 1 + 139 * i + 6 = q + 7 + 139 * i by omega, show q + 1 + 139 * i + 7 = q + 8 + 139 * i by omega, show q + 1 + 139 * i + 8 = q + 9 + 139 * i by omega, show q + 1 + 139 * i + 9 = q + 10 + 139 * i by omega, show q + 1 + 139 * i + 10 = q + 11 + 139 * i by omega]
    rfl
  · right
    have e := hp.nd hi (r := 0) (by decide)
    rw [Nat.add_zero, nd_0] at e
    show f (adN q i) = _
    rw [e]
    simp only [cellE, adr, M0]
    by_cases z : i % 33 = 0
    · simp [z]
    · simp [z]
  · right
    have e := hp.nd hi (r := 1) (by decide)
    rw [nd_1] at e
    exact e
  · right
    have e := hp.nd hi (r := 2) (by decide)
    rw [nd_2] at e
    exact e
  · right
    have e := hp.nd hi (r := 3) (by decide)
    rw [nd_3] at e
    exact e
  · right
    show f (q + 7 + 139 * i) = _
    rw [hp.2.1 i hi _ (by omega) (by omega), show q + 7 + 139 * i = q + 1 + 139 * i + 6 by omega, trC_6]
    rfl
  · right
    show f (q + 8 + 139 * i) = _
    rw [hp.2.1 i hi _ (by omega) (by omega), show q + 8 + 139 * i = q + 1 + 139 * i + 7 by omega, trC_7]
    rfl
  · right
    show f (q + 9 + 139 * i) = _
    rw [hp.2.1 i hi _ (by omega) (by omega), show q + 9 + 139 * i = q + 1 + 139 * i + 8 by omega, trC_8]
    rfl
  · right
    show f (q + 10 + 139 * i) = _
    rw [hp.2.1 i hi _ (by omega) (by omega), show q + 10 + 139 * i = q + 1 + 139 * i + 9 by omega, trC_9]
    rfl
  · right
    show f (q + 11 + 139 * i) = _
    rw [hp.2.1 i hi _ (by omega) (by omega), show q + 11 + 139 * i = q + 1 + 139 * i + 10 by omega, trC_10]
    rfl
  · right
    show f (q + 419 + 2 * i) = _
    rw [hp.2.2.2 i hi _ (Nat.le_refl _) (by omega)]
    unfold hdF
    rw [if_pos rfl]
    simp only [cellE, adr, M0]
    rw [show q + 420 + 2 * i = q + 419 + 2 * i + 1 by omega]
    rfl
  · right
    show f (q + 420 + 2 * i) = _
    rw [hp.2.2.2 i hi _ (by omega) (by omega)]
    unfold hdF
    rw [if_neg (by omega), if_pos (by omega)]
    rfl
  · exact Or.inl (Or.inl rfl)
  · exact Or.inl (Or.inr rfl)
def NWd (U : State) : Prop := va_Nw (.methodLinkNest RX2 17 yX1_init "JournalDisk") U ∧ va_AO "JournalDisk$Node" U ∧ va_Nw (.methodLinkNest RX3 45 yX0_init "JournalDisk") U ∧ va_AO "JournalDisk$Handle" U
abbrev rmX3_init : Room := { frames := 3, cells := 430, slots := 9186, locals := 80 }
theorem hyX3_init : yX3_init.cls ≠ "java/lang/invoke/MethodHandle" ∧ yX3_init.cls ≠ "java/lang/invoke/VarHandle" ∧ (parseMethodDescriptor yX3_init.desc).map (fun d => d.parameters.length) = some 0 := by decide +kernel
set_option maxHeartbeats 4000000 in
set_option maxRecDepth 100000 in
theorem dk_h {p : Program} {l : Launch} {e : Env} {s : State} {m : MethodId} {args : Array Value} {below : List Frame} {meth : Method} {c : Code} {g : Gx} {q : Nat} (C0 : XA p s m meth c args RX3 cX3_init 2 none g) (hname : meth.name = "<init>") (hNW : NWd s) : ∀ (k n : Nat) (f : Nat → Option va_E) (H : Heap) (locs : List Loc), n + k = 6 → DkP g q n f → CW g f (q + 419 + 2 * n) H → va_S (fun a => q ≤ a) s.heap H locs → ∀ ls : Array Slot, lv_has ls 2 [(0, .ref q), (1, .int (jI (n : Int)))] → W p l e rmX3_init s m args below meth c H locs (418 + 2 * n) (7242 + 324 * n) (MQ below (va_Qv (fun (_ : Unit) => True) (fun _ t => t.heap.size = q + 431 ∧ Rel g q M0 t.heap) (fun a => q ≤ a)) args s 430 9186 (fun a => q ≤ a)) (F0 m 73 ls []) := by
  obtain ⟨hx, hb, hr, hlocks, hml, hown, hts, hK⟩ := id C0
  intro k
  induction k with
  | zero =>
    intro n f H locs hn hp hC hS ls hl
    obtain rfl : n = 6 := by omega
    refine lv_iload_n hx hb dX3_init_73 rfl (lv_at hl 1 rfl) ?_
    refine lv_aload_n hx hb dX3_init_74 rfl (lv_at hl 0 rfl) ?_
    refine i_get (C := RX3) (T := TX3) (N := 9) (ci := 3) (fs := [.ref (q + 1), .ref (q + 140), .ref (q + 279), .ref (q + 418), .int (jI 0), .int (jI 0), .int (jI 0), .int (jI (-1 : Int)), .int (jI 0)]) (v := .ref (q + 418)) hx hb hts inX3 hown hK hC hp.1 rfl 3 (by decide) wd142 (fun _ h => h) rfl dX3_init_75 ?_
    refine i_alen (n := (6 : Int)) (t0 := 2) hx hb hK hC hp.2.2.1 rfl (show Int32.ofNat 6 = jI 6 by decide +kernel) dX3_init_78 ?_
    refine x_icmp_ge (tgt := 101) hx hb (by decide) (by decide) dX3_init_79 (by decide) (fun ci => ?_) (fun ci => absurd (by decide) ci)
    exact W.widen (by omega) (by omega) (W.vret hx hb hr (fun t ht hW => ⟨⟨(), rfl, trivial, by show t.heap.size = _; rw [ht]; exact hC.1, by show Rel g q M0 t.heap; rw [ht]; exact hp.rel hC⟩, hS.F ht⟩) hS.2.2 dX3_init_101 hlocks)
  | succ k ih =>
    intro n f H locs hn hp hC hS ls hl
    have hrn : rg (n : Int) := by constructor <;> omega
    refine lv_iload_n hx hb dX3_init_73 rfl (lv_at hl 1 rfl) ?_
    refine lv_aload_n hx hb dX3_init_74 rfl (lv_at hl 0 rfl) ?_
    refine i_get (C := RX3) (T := TX3) (N := 9) (ci := 3) (fs := [.ref (q + 1), .ref (q + 140), .ref (q + 279), .ref (q + 418), .int (jI 0), .int (jI 0), .int (jI 0), .int (jI (-1 : Int)), .int (jI 0)]) (v := .ref (q + 418)) hx hb hts inX3 hown hK hC hp.1 rfl 3 (by decide) wd142 (fun _ h => h) rfl dX3_init_75 ?_
    refine i_alen (n := (6 : Int)) (t0 := 2) hx hb hK hC hp.2.2.1 rfl (show Int32.ofNat 6 = jI 6 by decide +kernel) dX3_init_78 ?_
    refine x_icmp_ge (tgt := 101) hx hb hrn (by decide) dX3_init_79 (by decide) (fun ci => absurd ci (by omega)) (fun ci => ?_)
    refine lv_aload_n hx hb dX3_init_82 rfl (lv_at hl 0 rfl) ?_
    refine i_get (C := RX3) (T := TX3) (N := 9) (ci := 3) (fs := [.ref (q + 1), .ref (q + 140), .ref (q + 279), .ref (q + 418), .int (jI 0), .int (jI 0), .int (jI 0), .int (jI (-1 : Int)), .int (jI 0)]) (v := .ref (q + 418)) hx hb hts inX3 hown hK hC hp.1 rfl 3 (by decide) wd142 (fun _ h => h) rfl dX3_init_83 ?_
    refine lv_iload_n hx hb dX3_init_86 rfl (lv_at hl 1 rfl) ?_
    refine i_new (C := RX0) (T := TX0) (N := 4) (ci := 0) (fs := [.int (jI 0), .int (jI 0), .int (jI 0), .null]) hx hb hts inX0 tyX0 tyX0_ok hown wd116 wd118 wd4 hK hC hS rfl (fun j hj => by rcases (show j = 0 ∨ j = 1 ∨ j = 2 ∨ j = 3 by omega) with rfl | rfl | rfl | rfl <;> decide +kernel) (by simp only [rmX3_init]; omega) (by simp only [rmX3_init]; omega) dX3_init_87 (fun H hC hS => ?_)
    refine lv_dup hx hb dX3_init_90 rfl ?_
    refine i_init (q := q + 419 + 2 * n) (index := 45) hx hb hml hown hts hK hC hS (by omega) (c_X0_init (l := l) (g := g)) (by unfold fup; rw [if_pos rfl]) (fun _ _ => trivial) (fun _ _ _ _ _ => trivial) (Or.inr ⟨_, hNW.2.2.1⟩) wd120 wd4 wd121 rfl hyX0_init ⟨rfl, rfl⟩ ⟨Nat.le_of_ble_eq_true rfl, Nat.le_of_ble_eq_true rfl⟩ hl.1 (Nat.le_of_ble_eq_true rfl) dX3_init_91 ⟨by simp only [rmX3_init]; omega, by simp only [rmX3_init]; omega⟩ (fun H locs hC hS => ?_)
    obtain ⟨f2, ef⟩ : ∃ z : Nat → Option va_E, z = (fun a => if q + 419 + 2 * n ≤ a then hdF g (q + 419 + 2 * n) a else fup f (q + 419 + 2 * n) (.inr (0, [.int (jI 0), .int (jI 0), .int (jI 0), .null])) a) := ⟨_, rfl⟩
    rw [← ef] at hC
    have lo2 : ∀ a, a < q + 419 + 2 * n → f2 a = f a := by
      intro a ha
      rw [ef]
      show (if q + 419 + 2 * n ≤ a then _ else _) = _
      rw [if_neg (by omega)]
      unfold fup
      rw [if_neg (by omega)]
    have hi2 : ∀ a, q + 419 + 2 * n ≤ a → f2 a = hdF g (q + 419 + 2 * n) a := by
      intro a ha
      rw [ef]
      show (if q + 419 + 2 * n ≤ a then _ else _) = _
      rw [if_pos ha]
    clear ef
    obtain ⟨h0, h1, h2, hn2⟩ := hp
    refine i_aast (t0 := 2) (ci := 0) (r := (RX0, TX0, 4)) hx hb hK hC hS (by omega) ((lo2 _ (by omega)).trans h2) rfl ((hi2 _ (Nat.le_refl _)).trans (by unfold hdF; rw [if_pos rfl])) rfl hrn (by omega) dX3_init_94 (fun H locs hC hS => ?_)
    obtain ⟨f3, ef⟩ : ∃ z : Nat → Option va_E, z = fup f2 (q + 418) (.inl (g.2 2, 6, .inr (.inr (.inr (.inr (fun k => if k = (n : Int).toNat then some (q + 419 + 2 * n) else if k < n then some (q + 419 + 2 * k) else none)))))) := ⟨_, rfl⟩
    rw [← ef] at hC
    refine x_iinc (lv' := [(1, .int (jI ((n : Int) + 1))), (0, .ref q)]) hx hb dX3_init_95 hl (k := 1) rfl (by decide) rfl (fun ls hl => ?_)
    refine lv_goto (tgt := 73) hx hb dX3_init_98 (by decide) ?_
    refine W.widen (k := 418 + 2 * (n + 1)) (n := 7242 + 324 * (n + 1)) (by omega) (by omega) ?_
    refine ih (n + 1) f3 H locs (by omega) ?_ (by rw [show q + 419 + 2 * (n + 1) = q + 419 + 2 * n + 2 by omega]; exact hC) hS ls (lv_sub hl [1, 0] rfl)
    refine ⟨?_, ?_, ?_, ?_⟩
    · rw [ef]; unfold fup; rw [if_neg (by omega), lo2 _ (by omega)]; exact h0
    · intro t ht a h3 h4; rw [ef]; unfold fup; rw [if_neg (by omega), lo2 _ (by omega)]; exact h1 t ht a h3 h4
    · rw [ef]; unfold fup; rw [if_pos rfl]
      refine congrArg (fun F : Nat → Option Nat => (some (.inl (g.2 2, 6, .inr (.inr (.inr (.inr F))))) : Option va_E)) (funext fun k => ?_)
      by_cases hk : k = (n : Int).toNat
      · rw [if_pos hk, if_pos (by omega), show k = n by omega]
      · rw [if_neg hk]
        by_cases hk2 : k < n
        · rw [if_pos hk2, if_pos (by omega)]
        · rw [if_neg hk2, if_neg (by omega)]
    · intro i hi a h3 h4
      rw [ef]; unfold fup; rw [if_neg (by omega)]
      by_cases hin : i = n
      · rw [hin] at h3 h4 ⊢
        exact hi2 a h3
      · rw [lo2 a (by omega)]; exact hn2 i (by omega) a h3 h4
set_option maxHeartbeats 4000000 in
set_option maxRecDepth 100000 in
theorem c_X3_init {l : Launch} {g : Gx} {q : Nat} : Met l yX3_init (Cond.code yX3_init cX3_init 2 none :: wT) rmX3_init (va_Pc [.ref q] (fun U => U.heap.size = q + 1 ∧ va_at g.1 vwCl (q, .inr (3, [.null, .null, .null, .null, .int (jI 0), .int (jI 0), .int (jI 0), .int (jI 0), .int (jI 0)])) U.heap ∧ va_K g.1 vwCl (tysX g) U ∧ NWd U)) (va_Qv (fun (_ : Unit) => True) (fun _ t => t.heap.size = q + 431 ∧ Rel g q M0 t.heap) (fun a => q ≤ a)) 430 9186 (fun a => q ≤ a) := by
  refine Met.ofW (cc := cX3_init) (maxL := 2) (ret := none) (by decide +kernel) rfl ?_
  intro p e s m args below meth c s₁ B hml hv
  obtain ⟨rfl, hsz, hat, hK, hNW⟩ := hv
  have hts := atoms_spec (ws := Cond.code yX3_init cX3_init 2 none :: wT) B.pre
  rw [lg_entry_eq]
  have C0 : XA p s m meth c #[.ref q] RX3 cX3_init 2 none g := ⟨B.exec, B.bytes, B.returns, B.notSynchronized, hml, findClass_of_methodNamed B.named, fun w hw => hts w (List.mem_cons_of_mem _ hw), hK⟩
  have hname : meth.name = "<init>" := (name_of_methodNamed B.named B.method).1
  clear hts
  obtain ⟨hx, hb, hr, hlocks, hml, hown, hts, hK⟩ := id C0
  have hl0 := lv_entry [.ref q] (n := 2) (Nat.le_of_ble_eq_true rfl)
  generalize (lg_sl [Value.ref q] ++ List.replicate (2 - (lg_sl [Value.ref q]).length) Slot.unset).toArray = ls at hl0 ⊢
  have hl : lv_has ls 2 [(0, .ref q)] := hl0
  have hC : CW g (fup (fun _ => none) q (.inr (3, [.null, .null, .null, .null, .int (jI 0), .int (jI 0), .int (jI 0), .int (jI 0), .int (jI 0)]))) (q + 1) s.heap := by
    refine ⟨hsz, fun a e9 ha => ?_⟩
    unfold fup at ha
    split at ha
    · rename_i h1
      cases ha
      rw [h1]
      exact hat
    · cases ha
  have hS : va_S (fun a => q ≤ a) s.heap s.heap [] := va_S.rf
  obtain ⟨H, hH⟩ : ∃ z, z = s.heap := ⟨_, rfl⟩
  obtain ⟨locs, hlo⟩ : ∃ z : List Loc, z = [] := ⟨_, rfl⟩
  have hC : CW g (fup (fun _ => none) q (.inr (3, [.null, .null, .null, .null, .int (jI 0), .int (jI 0), .int (jI 0), .int (jI 0), .int (jI 0)]))) (q + 1) H := by rw [hH]; exact hC
  have hS : va_S (fun a => q ≤ a) s.heap H locs := by rw [hH, hlo]; exact hS
  suffices hW : W p l e rmX3_init s m #[.ref q] below meth c H locs 0 0 (MQ below (va_Qv (fun (_ : Unit) => True) (fun _ t => t.heap.size = q + 431 ∧ Rel g q M0 t.heap) (fun a => q ≤ a)) #[.ref q] s 430 9186 (fun a => q ≤ a)) (F0 m 0 ls []) by rw [hH, hlo] at hW; exact hW
  clear hH hlo
  obtain ⟨f0, ef⟩ : ∃ z : Nat → Option va_E, z = fup (fun _ => none) q (.inr (3, [.null, .null, .null, .null, .int (jI 0), .int (jI 0), .int (jI 0), .int (jI 0), .int (jI 0)])) := ⟨_, rfl⟩
  rw [← ef] at hC
  have n0 : f0 q = some (.inr (3, [.null, .null, .null, .null, .int (jI 0), .int (jI 0), .int (jI 0), .int (jI 0), .int (jI 0)])) := by rw [ef]; unfold fup; rw [if_pos rfl]
  clear ef
  refine lv_aload_n hx hb dX3_init_0 rfl (lv_at hl 0 rfl) ?_
  refine W.objInit hx hb hown (hts _ wd19) (hts _ wd20) (hts _ wd21) rfl (by rw [hml]; exact hl.1) rfl dX3_init_1 (Nat.le_of_ble_eq_true rfl) (Nat.le_of_ble_eq_true rfl) ?_
  refine W.eq (g2 := F0 m 4 ls []) rfl ?_
  refine lv_aload_n hx hb dX3_init_4 rfl (lv_at hl 0 rfl) ?_
  refine i_new (C := RX2) (T := TX2) (N := 8) (ci := 2) (fs := [.null, .null, .null, .null, .null, .int (jI 0), .null, .null]) hx hb hts inX2 tyX2 tyX2_ok hown wd22 wd23 wd2 hK hC hS rfl (fun j hj => by rcases (show j = 0 ∨ j = 1 ∨ j = 2 ∨ j = 3 ∨ j = 4 ∨ j = 5 ∨ j = 6 ∨ j = 7 by omega) with rfl | rfl | rfl | rfl | rfl | rfl | rfl | rfl <;> decide +kernel) (by simp only [rmX3_init]; omega) (by simp only [rmX3_init]; omega) dX3_init_5 (fun H hC hS => ?_)
  obtain ⟨f1, ef⟩ : ∃ z, z = fup f0 (q + 1) (.inr (2, [.null, .null, .null, .null, .null, .int (jI 0), .null, .null])) := ⟨_, rfl⟩
  rw [← ef] at hC
  have n0 : f1 (q) = some (.inr (3, [.null, .null, .null, .null, .int (jI 0), .int (jI 0), .int (jI 0), .int (jI 0), .int (jI 0)])) := by rw [ef]; unfold fup; rw [if_neg (by omega)]; exact n0
  have n1 : f1 (q + 1) = some (.inr (2, [.null, .null, .null, .null, .null, .int (jI 0), .null, .null])) := by rw [ef]; unfold fup; rw [if_pos rfl]
  clear ef
  have hC : CW g f1 (q + 1 + 1) H := hC
  refine lv_dup hx hb dX3_init_8 rfl ?_
  refine i_init (q := q + 1) (index := 9) hx hb hml hown hts hK hC hS (by omega) (c_X2_init (l := l) (g := g)) n1 (fun U hW => ⟨va_Nw.warmM hW hNW.1, hNW.2.1.moved hW.alike⟩) (fun U fr mk a h => ⟨va_Nw.same (u := U) rfl rfl h.1, h.2.moved (Vm.Alike.refl U.vm)⟩) (Or.inl wd24) wd25 wd2 wd26 rfl hyX2_init ⟨rfl, rfl⟩ ⟨Nat.le_of_ble_eq_true rfl, Nat.le_of_ble_eq_true rfl⟩ hl.1 (Nat.le_of_ble_eq_true rfl) dX3_init_9 ⟨by simp only [rmX3_init]; omega, by simp only [rmX3_init]; omega⟩ (fun H locs hC hS => ?_)
  obtain ⟨f2, ef⟩ : ∃ z : Nat → Option va_E, z = (fun a => if q + 1 ≤ a then trC g (q + 1) a else f1 a) := ⟨_, rfl⟩
  rw [← ef] at hC
  have n0 : f2 (q) = some (.inr (3, [.null, .null, .null, .null, .int (jI 0), .int (jI 0), .int (jI 0), .int (jI 0), .int (jI 0)])) := by rw [ef]; show (if q + 1 ≤ q then _ else _) = _; rw [if_neg (by omega)]; exact n0
  have n21 : ∀ a, q + 1 ≤ a → a < q + 140 → f2 a = trC g (q + 1) a := by intro a ha1 ha2; rw [ef]; show (if q + 1 ≤ a then _ else _) = _; rw [if_pos ha1]
  clear ef
  have hC : CW g f2 (q + 140) H := by have h9 := hC; simpa [Nat.add_assoc] using h9
  refine i_put (C := RX3) (T := TX3) (N := 9) (ci := 3) (fs := [.null, .null, .null, .null, .int (jI 0), .int (jI 0), .int (jI 0), .int (jI 0), .int (jI 0)]) (ty := tyX3 0) (v := .ref (q + 1)) hx hb hts inX3 tyX3 tyX3_ok nmX3 hown hname hK hC hS (by omega) n0 rfl 0 (by decide) wd139 (fun _ h => h) (fun _ => rfl) (by decide +kernel) rfl rfl (show 0 < 9 by decide) dX3_init_12 (fun H locs hC hS => ?_)
  have hC : CW g (fup f2 (q) (.inr (3, [.ref (q + 1), .null, .null, .null, .int (jI 0), .int (jI 0), .int (jI 0), .int (jI 0), .int (jI 0)]))) (q + 140) H := hC
  obtain ⟨f3, ef⟩ : ∃ z, z = fup f2 (q) (.inr (3, [.ref (q + 1), .null, .null, .null, .int (jI 0), .int (jI 0), .int (jI 0), .int (jI 0), .int (jI 0)])) := ⟨_, rfl⟩
  rw [← ef] at hC
  have n0 : f3 (q) = some (.inr (3, [.ref (q + 1), .null, .null, .null, .int (jI 0), .int (jI 0), .int (jI 0), .int (jI 0), .int (jI 0)])) := by rw [ef]; unfold fup; rw [if_pos rfl]
  have n21 : ∀ a, q + 1 ≤ a → a < q + 140 → f3 a = trC g (q + 1) a := by intro a ha1 ha2; rw [ef]; unfold fup; rw [if_neg (by omega)]; exact n21 a ha1 ha2
  clear ef
  refine lv_aload_n hx hb dX3_init_15 rfl (lv_at hl 0 rfl) ?_
  refine i_new (C := RX2) (T := TX2) (N := 8) (ci := 2) (fs := [.null, .null, .null, .null, .null, .int (jI 0), .null, .null]) hx hb hts inX2 tyX2 tyX2_ok hown wd22 wd23 wd2 hK hC hS rfl (fun j hj => by rcases (show j = 0 ∨ j = 1 ∨ j = 2 ∨ j = 3 ∨ j = 4 ∨ j = 5 ∨ j = 6 ∨ j = 7 by omega) with rfl | rfl | rfl | rfl | rfl | rfl | rfl | rfl <;> decide +kernel) (by simp only [rmX3_init]; omega) (by simp only [rmX3_init]; omega) dX3_init_16 (fun H hC hS => ?_)
  obtain ⟨f4, ef⟩ : ∃ z, z = fup f3 (q + 140) (.inr (2, [.null, .null, .null, .null, .null, .int (jI 0), .null, .null])) := ⟨_, rfl⟩
  rw [← ef] at hC
  have n0 : f4 (q) = some (.inr (3, [.ref (q + 1), .null, .null, .null, .int (jI 0), .int (jI 0), .int (jI 0), .int (jI 0), .int (jI 0)])) := by rw [ef]; unfold fup; rw [if_neg (by omega)]; exact n0
  have n21 : ∀ a, q + 1 ≤ a → a < q + 140 → f4 a = trC g (q + 1) a := by intro a ha1 ha2; rw [ef]; unfold fup; rw [if_neg (by omega)]; exact n21 a ha1 ha2
  have n2 : f4 (q + 140) = some (.inr (2, [.null, .null, .null, .null, .null, .int (jI 0), .null, .null])) := by rw [ef]; unfold fup; rw [if_pos rfl]
  clear ef
  have hC : CW g f4 (q + 140 + 1) H := hC
  refine lv_dup hx hb dX3_init_19 rfl ?_
  refine i_init (q := q + 140) (index := 9) hx hb hml hown hts hK hC hS (by omega) (c_X2_init (l := l) (g := g)) n2 (fun U hW => ⟨va_Nw.warmM hW hNW.1, hNW.2.1.moved hW.alike⟩) (fun U fr mk a h => ⟨va_Nw.same (u := U) rfl rfl h.1, h.2.moved (Vm.Alike.refl U.vm)⟩) (Or.inl wd24) wd25 wd2 wd26 rfl hyX2_init ⟨rfl, rfl⟩ ⟨Nat.le_of_ble_eq_true rfl, Nat.le_of_ble_eq_true rfl⟩ hl.1 (Nat.le_of_ble_eq_true rfl) dX3_init_20 ⟨by simp only [rmX3_init]; omega, by simp only [rmX3_init]; omega⟩ (fun H locs hC hS => ?_)
  obtain ⟨f5, ef⟩ : ∃ z : Nat → Option va_E, z = (fun a => if q + 140 ≤ a then trC g (q + 140) a else f4 a) := ⟨_, rfl⟩
  rw [← ef] at hC
  have n0 : f5 (q) = some (.inr (3, [.ref (q + 1), .null, .null, .null, .int (jI 0), .int (jI 0), .int (jI 0), .int (jI 0), .int (jI 0)])) := by rw [ef]; show (if q + 140 ≤ q then _ else _) = _; rw [if_neg (by omega)]; exact n0
  have n21 : ∀ a, q + 1 ≤ a → a < q + 140 → f5 a = trC g (q + 1) a := by intro a ha1 ha2; rw [ef]; show (if q + 140 ≤ a then _ else _) = _; rw [if_neg (by omega)]; exact n21 a ha1 ha2
  have n22 : ∀ a, q + 140 ≤ a → a < q + 279 → f5 a = trC g (q + 140) a := by intro a ha1 ha2; rw [ef]; show (if q + 140 ≤ a then _ else _) = _; rw [if_pos ha1]
  clear ef
  have hC : CW g f5 (q + 279) H := by have h9 := hC; simpa [Nat.add_assoc] using h9
  refine i_put (C := RX3) (T := TX3) (N := 9) (ci := 3) (fs := [.ref (q + 1), .null, .null, .null, .int (jI 0), .int (jI 0), .int (jI 0), .int (jI 0), .int (jI 0)]) (ty := tyX3 1) (v := .ref (q + 140)) hx hb hts inX3 tyX3 tyX3_ok nmX3 hown hname hK hC hS (by omega) n0 rfl 1 (by decide) wd140 (fun _ h => h) (fun _ => rfl) (by decide +kernel) rfl rfl (show 1 < 9 by decide) dX3_init_23 (fun H locs hC hS => ?_)
  have hC : CW g (fup f5 (q) (.inr (3, [.ref (q + 1), .ref (q + 140), .null, .null, .int (jI 0), .int (jI 0), .int (jI 0), .int (jI 0), .int (jI 0)]))) (q + 279) H := hC
  obtain ⟨f6, ef⟩ : ∃ z, z = fup f5 (q) (.inr (3, [.ref (q + 1), .ref (q + 140), .null, .null, .int (jI 0), .int (jI 0), .int (jI 0), .int (jI 0), .int (jI 0)])) := ⟨_, rfl⟩
  rw [← ef] at hC
  have n0 : f6 (q) = some (.inr (3, [.ref (q + 1), .ref (q + 140), .null, .null, .int (jI 0), .int (jI 0), .int (jI 0), .int (jI 0), .int (jI 0)])) := by rw [ef]; unfold fup; rw [if_pos rfl]
  have n21 : ∀ a, q + 1 ≤ a → a < q + 140 → f6 a = trC g (q + 1) a := by intro a ha1 ha2; rw [ef]; unfold fup; rw [if_neg (by omega)]; exact n21 a ha1 ha2
  have n22 : ∀ a, q + 140 ≤ a → a < q + 279 → f6 a = trC g (q + 140) a := by intro a ha1 ha2; rw [ef]; unfold fup; rw [if_neg (by omega)]; exact n22 a ha1 ha2
  clear ef
  refine lv_aload_n hx hb dX3_init_26 rfl (lv_at hl 0 rfl) ?_
  refine i_new (C := RX2) (T := TX2) (N := 8) (ci := 2) (fs := [.null, .null, .null, .null, .null, .int (jI 0), .null, .null]) hx hb hts inX2 tyX2 tyX2_ok hown wd22 wd23 wd2 hK hC hS rfl (fun j hj => by rcases (show j = 0 ∨ j = 1 ∨ j = 2 ∨ j = 3 ∨ j = 4 ∨ j = 5 ∨ j = 6 ∨ j = 7 by omega) with rfl | rfl | rfl | rfl | rfl | rfl | rfl | rfl <;> decide +kernel) (by simp only [rmX3_init]; omega) (by simp only [rmX3_init]; omega) dX3_init_27 (fun H hC hS => ?_)
  obtain ⟨f7, ef⟩ : ∃ z, z = fup f6 (q + 279) (.inr (2, [.null, .null, .null, .null, .null, .int (jI 0), .null, .null])) := ⟨_, rfl⟩
  rw [← ef] at hC
  have n0 : f7 (q) = some (.inr (3, [.ref (q + 1), .ref (q + 140), .null, .null, .int (jI 0), .int (jI 0), .int (jI 0), .int (jI 0), .int (jI 0)])) := by rw [ef]; unfold fup; rw [if_neg (by omega)]; exact n0
  have n21 : ∀ a, q + 1 ≤ a → a < q + 140 → f7 a = trC g (q + 1) a := by intro a ha1 ha2; rw [ef]; unfold fup; rw [if_neg (by omega)]; exact n21 a ha1 ha2
  have n22 : ∀ a, q + 140 ≤ a → a < q + 279 → f7 a = trC g (q + 140) a := by intro a ha1 ha2; rw [ef]; unfold fup; rw [if_neg (by omega)]; exact n22 a ha1 ha2
  have n3 : f7 (q + 279) = some (.inr (2, [.null, .null, .null, .null, .null, .int (jI 0), .null, .null])) := by rw [ef]; unfold fup; rw [if_pos rfl]
  clear ef
  have hC : CW g f7 (q + 279 + 1) H := hC
  refine lv_dup hx hb dX3_init_30 rfl ?_
  refine i_init (q := q + 279) (index := 9) hx hb hml hown hts hK hC hS (by omega) (c_X2_init (l := l) (g := g)) n3 (fun U hW => ⟨va_Nw.warmM hW hNW.1, hNW.2.1.moved hW.alike⟩) (fun U fr mk a h => ⟨va_Nw.same (u := U) rfl rfl h.1, h.2.moved (Vm.Alike.refl U.vm)⟩) (Or.inl wd24) wd25 wd2 wd26 rfl hyX2_init ⟨rfl, rfl⟩ ⟨Nat.le_of_ble_eq_true rfl, Nat.le_of_ble_eq_true rfl⟩ hl.1 (Nat.le_of_ble_eq_true rfl) dX3_init_31 ⟨by simp only [rmX3_init]; omega, by simp only [rmX3_init]; omega⟩ (fun H locs hC hS => ?_)
  obtain ⟨f8, ef⟩ : ∃ z : Nat → Option va_E, z = (fun a => if q + 279 ≤ a then trC g (q + 279) a else f7 a) := ⟨_, rfl⟩
  rw [← ef] at hC
  have n0 : f8 (q) = some (.inr (3, [.ref (q + 1), .ref (q + 140), .null, .null, .int (jI 0), .int (jI 0), .int (jI 0), .int (jI 0), .int (jI 0)])) := by rw [ef]; show (if q + 279 ≤ q then _ else _) = _; rw [if_neg (by omega)]; exact n0
  have n21 : ∀ a, q + 1 ≤ a → a < q + 140 → f8 a = trC g (q + 1) a := by intro a ha1 ha2; rw [ef]; show (if q + 279 ≤ a then _ else _) = _; rw [if_neg (by omega)]; exact n21 a ha1 ha2
  have n22 : ∀ a, q + 140 ≤ a → a < q + 279 → f8 a = trC g (q + 140) a := by intro a ha1 ha2; rw [ef]; show (if q + 279 ≤ a then _ else _) = _; rw [if_neg (by omega)]; exact n22 a ha1 ha2
  have n23 : ∀ a, q + 279 ≤ a → a < q + 418 → f8 a = trC g (q + 279) a := by intro a ha1 ha2; rw [ef]; show (if q + 279 ≤ a then _ else _) = _; rw [if_pos ha1]
  clear ef
  have hC : CW g f8 (q + 418) H := by have h9 := hC; simpa [Nat.add_assoc] using h9
  refine i_put (C := RX3) (T := TX3) (N := 9) (ci := 3) (fs := [.ref (q + 1), .ref (q + 140), .null, .null, .int (jI 0), .int (jI 0), .int (jI 0), .int (jI 0), .int (jI 0)]) (ty := tyX3 2) (v := .ref (q + 279)) hx hb hts inX3 tyX3 tyX3_ok nmX3 hown hname hK hC hS (by omega) n0 rfl 2 (by decide) wd141 (fun _ h => h) (fun _ => rfl) (by decide +kernel) rfl rfl (show 2 < 9 by decide) dX3_init_34 (fun H locs hC hS => ?_)
  have hC : CW g (fup f8 (q) (.inr (3, [.ref (q + 1), .ref (q + 140), .ref (q + 279), .null, .int (jI 0), .int (jI 0), .int (jI 0), .int (jI 0), .int (jI 0)]))) (q + 418) H := hC
  obtain ⟨f9, ef⟩ : ∃ z, z = fup f8 (q) (.inr (3, [.ref (q + 1), .ref (q + 140), .ref (q + 279), .null, .int (jI 0), .int (jI 0), .int (jI 0), .int (jI 0), .int (jI 0)])) := ⟨_, rfl⟩
  rw [← ef] at hC
  have n0 : f9 (q) = some (.inr (3, [.ref (q + 1), .ref (q + 140), .ref (q + 279), .null, .int (jI 0), .int (jI 0), .int (jI 0), .int (jI 0), .int (jI 0)])) := by rw [ef]; unfold fup; rw [if_pos rfl]
  have n21 : ∀ a, q + 1 ≤ a → a < q + 140 → f9 a = trC g (q + 1) a := by intro a ha1 ha2; rw [ef]; unfold fup; rw [if_neg (by omega)]; exact n21 a ha1 ha2
  have n22 : ∀ a, q + 140 ≤ a → a < q + 279 → f9 a = trC g (q + 140) a := by intro a ha1 ha2; rw [ef]; unfold fup; rw [if_neg (by omega)]; exact n22 a ha1 ha2
  have n23 : ∀ a, q + 279 ≤ a → a < q + 418 → f9 a = trC g (q + 279) a := by intro a ha1 ha2; rw [ef]; unfold fup; rw [if_neg (by omega)]; exact n23 a ha1 ha2
  clear ef
  refine lv_aload_n hx hb dX3_init_37 rfl (lv_at hl 0 rfl) ?_
  refine x_bipush hx hb (by decide +kernel) dX3_init_38 ?_
  refine i_newq (C := "JournalDisk$Handle") (t0 := 2) (cA0 := g.2 2) (N := 6) hx hb hts hown wd116 hNW.2.2.2 hK rfl hC hS (by decide) rfl (by decide) (by simp only [rmX3_init]; omega) (by simp only [rmX3_init]; omega) dX3_init_40 (fun H hC hS => ?_)
  obtain ⟨f10, ef⟩ : ∃ z, z = fup f9 (q + 418) (.inl (g.2 2, 6, .inr (.inr (.inr (.inr (fun _ => none)))))) := ⟨_, rfl⟩
  rw [← ef] at hC
  have n0 : f10 (q) = some (.inr (3, [.ref (q + 1), .ref (q + 140), .ref (q + 279), .null, .int (jI 0), .int (jI 0), .int (jI 0), .int (jI 0), .int (jI 0)])) := by rw [ef]; unfold fup; rw [if_neg (by omega)]; exact n0
  have n21 : ∀ a, q + 1 ≤ a → a < q + 140 → f10 a = trC g (q + 1) a := by intro a ha1 ha2; rw [ef]; unfold fup; rw [if_neg (by omega)]; exact n21 a ha1 ha2
  have n22 : ∀ a, q + 140 ≤ a → a < q + 279 → f10 a = trC g (q + 140) a := by intro a ha1 ha2; rw [ef]; unfold fup; rw [if_neg (by omega)]; exact n22 a ha1 ha2
  have n23 : ∀ a, q + 279 ≤ a → a < q + 418 → f10 a = trC g (q + 279) a := by intro a ha1 ha2; rw [ef]; unfold fup; rw [if_neg (by omega)]; exact n23 a ha1 ha2
  have n4 : f10 (q + 418) = some (.inl (g.2 2, 6, .inr (.inr (.inr (.inr (fun _ => none)))))) := by rw [ef]; unfold fup; rw [if_pos rfl]
  clear ef
  have hC : CW g f10 (q + 419) H := hC
  refine i_put (C := RX3) (T := TX3) (N := 9) (ci := 3) (fs := [.ref (q + 1), .ref (q + 140), .ref (q + 279), .null, .int (jI 0), .int (jI 0), .int (jI 0), .int (jI 0), .int (jI 0)]) (ty := tyX3 3) (v := .ref (q + 418)) hx hb hts inX3 tyX3 tyX3_ok nmX3 hown hname hK hC hS (by omega) n0 rfl 3 (by decide) wd142 (fun _ h => h) (fun _ => rfl) (by decide +kernel) rfl rfl (show 3 < 9 by decide) dX3_init_43 (fun H locs hC hS => ?_)
  have hC : CW g (fup f10 (q) (.inr (3, [.ref (q + 1), .ref (q + 140), .ref (q + 279), .ref (q + 418), .int (jI 0), .int (jI 0), .int (jI 0), .int (jI 0), .int (jI 0)]))) (q + 419) H := hC
  obtain ⟨f11, ef⟩ : ∃ z, z = fup f10 (q) (.inr (3, [.ref (q + 1), .ref (q + 140), .ref (q + 279), .ref (q + 418), .int (jI 0), .int (jI 0), .int (jI 0), .int (jI 0), .int (jI 0)])) := ⟨_, rfl⟩
  rw [← ef] at hC
  have n0 : f11 (q) = some (.inr (3, [.ref (q + 1), .ref (q + 140), .ref (q + 279), .ref (q + 418), .int (jI 0), .int (jI 0), .int (jI 0), .int (jI 0), .int (jI 0)])) := by rw [ef]; unfold fup; rw [if_pos rfl]
  have n21 : ∀ a, q + 1 ≤ a → a < q + 140 → f11 a = trC g (q + 1) a := by intro a ha1 ha2; rw [ef]; unfold fup; rw [if_neg (by omega)]; exact n21 a ha1 ha2
  have n22 : ∀ a, q + 140 ≤ a → a < q + 279 → f11 a = trC g (q + 140) a := by intro a ha1 ha2; rw [ef]; unfold fup; rw [if_neg (by omega)]; exact n22 a ha1 ha2
  have n23 : ∀ a, q + 279 ≤ a → a < q + 418 → f11 a = trC g (q + 279) a := by intro a ha1 ha2; rw [ef]; unfold fup; rw [if_neg (by omega)]; exact n23 a ha1 ha2
  have n4 : f11 (q + 418) = some (.inl (g.2 2, 6, .inr (.inr (.inr (.inr (fun _ => none)))))) := by rw [ef]; unfold fup; rw [if_neg (by omega)]; exact n4
  clear ef
  refine lv_aload_n hx hb dX3_init_46 rfl (lv_at hl 0 rfl) ?_
  refine x_iconst hx hb dX3_init_47 ?_
  refine i_put (C := RX3) (T := TX3) (N := 9) (ci := 3) (fs := [.ref (q + 1), .ref (q + 140), .ref (q + 279), .ref (q + 418), .int (jI 0), .int (jI 0), .int (jI 0), .int (jI 0), .int (jI 0)]) (ty := tyX3 4) (v := .int (jI (0 : Int))) hx hb hts inX3 tyX3 tyX3_ok nmX3 hown hname hK hC hS (by omega) n0 rfl 4 (by decide) wd143 (fun _ h => h) (fun _ => rfl) (by decide +kernel) rfl rfl (show 4 < 9 by decide) dX3_init_48 (fun H locs hC hS => ?_)
  have hC : CW g (fup f11 (q) (.inr (3, [.ref (q + 1), .ref (q + 140), .ref (q + 279), .ref (q + 418), .int (jI (0 : Int)), .int (jI 0), .int (jI 0), .int (jI 0), .int (jI 0)]))) (q + 419) H := hC
  obtain ⟨f12, ef⟩ : ∃ z, z = fup f11 (q) (.inr (3, [.ref (q + 1), .ref (q + 140), .ref (q + 279), .ref (q + 418), .int (jI (0 : Int)), .int (jI 0), .int (jI 0), .int (jI 0), .int (jI 0)])) := ⟨_, rfl⟩
  rw [← ef] at hC
  have n0 : f12 (q) = some (.inr (3, [.ref (q + 1), .ref (q + 140), .ref (q + 279), .ref (q + 418), .int (jI (0 : Int)), .int (jI 0), .int (jI 0), .int (jI 0), .int (jI 0)])) := by rw [ef]; unfold fup; rw [if_pos rfl]
  have n21 : ∀ a, q + 1 ≤ a → a < q + 140 → f12 a = trC g (q + 1) a := by intro a ha1 ha2; rw [ef]; unfold fup; rw [if_neg (by omega)]; exact n21 a ha1 ha2
  have n22 : ∀ a, q + 140 ≤ a → a < q + 279 → f12 a = trC g (q + 140) a := by intro a ha1 ha2; rw [ef]; unfold fup; rw [if_neg (by omega)]; exact n22 a ha1 ha2
  have n23 : ∀ a, q + 279 ≤ a → a < q + 418 → f12 a = trC g (q + 279) a := by intro a ha1 ha2; rw [ef]; unfold fup; rw [if_neg (by omega)]; exact n23 a ha1 ha2
  have n4 : f12 (q + 418) = some (.inl (g.2 2, 6, .inr (.inr (.inr (.inr (fun _ => none)))))) := by rw [ef]; unfold fup; rw [if_neg (by omega)]; exact n4
  clear ef
  refine lv_aload_n hx hb dX3_init_51 rfl (lv_at hl 0 rfl) ?_
  refine x_iconst hx hb dX3_init_52 ?_
  refine i_put (C := RX3) (T := TX3) (N := 9) (ci := 3) (fs := [.ref (q + 1), .ref (q + 140), .ref (q + 279), .ref (q + 418), .int (jI (0 : Int)), .int (jI 0), .int (jI 0), .int (jI 0), .int (jI 0)]) (ty := tyX3 5) (v := .int (jI (0 : Int))) hx hb hts inX3 tyX3 tyX3_ok nmX3 hown hname hK hC hS (by omega) n0 rfl 5 (by decide) wd144 (fun _ h => h) (fun _ => rfl) (by decide +kernel) (by decide +kernel) (by decide +kernel) (show 5 < 9 by decide) dX3_init_53 (fun H locs hC hS => ?_)
  have hC : CW g (fup f12 (q) (.inr (3, [.ref (q + 1), .ref (q + 140), .ref (q + 279), .ref (q + 418), .int (jI (0 : Int)), .int (jI (0 : Int)), .int (jI 0), .int (jI 0), .int (jI 0)]))) (q + 419) H := hC
  obtain ⟨f13, ef⟩ : ∃ z, z = fup f12 (q) (.inr (3, [.ref (q + 1), .ref (q + 140), .ref (q + 279), .ref (q + 418), .int (jI (0 : Int)), .int (jI (0 : Int)), .int (jI 0), .int (jI 0), .int (jI 0)])) := ⟨_, rfl⟩
  rw [← ef] at hC
  have n0 : f13 (q) = some (.inr (3, [.ref (q + 1), .ref (q + 140), .ref (q + 279), .ref (q + 418), .int (jI (0 : Int)), .int (jI (0 : Int)), .int (jI 0), .int (jI 0), .int (jI 0)])) := by rw [ef]; unfold fup; rw [if_pos rfl]
  have n21 : ∀ a, q + 1 ≤ a → a < q + 140 → f13 a = trC g (q + 1) a := by intro a ha1 ha2; rw [ef]; unfold fup; rw [if_neg (by omega)]; exact n21 a ha1 ha2
  have n22 : ∀ a, q + 140 ≤ a → a < q + 279 → f13 a = trC g (q + 140) a := by intro a ha1 ha2; rw [ef]; unfold fup; rw [if_neg (by omega)]; exact n22 a ha1 ha2
  have n23 : ∀ a, q + 279 ≤ a → a < q + 418 → f13 a = trC g (q + 279) a := by intro a ha1 ha2; rw [ef]; unfold fup; rw [if_neg (by omega)]; exact n23 a ha1 ha2
  have n4 : f13 (q + 418) = some (.inl (g.2 2, 6, .inr (.inr (.inr (.inr (fun _ => none)))))) := by rw [ef]; unfold fup; rw [if_neg (by omega)]; exact n4
  clear ef
  refine lv_aload_n hx hb dX3_init_56 rfl (lv_at hl 0 rfl) ?_
  refine x_iconst hx hb dX3_init_57 ?_
  refine i_put (C := RX3) (T := TX3) (N := 9) (ci := 3) (fs := [.ref (q + 1), .ref (q + 140), .ref (q + 279), .ref (q + 418), .int (jI (0 : Int)), .int (jI (0 : Int)), .int (jI 0), .int (jI 0), .int (jI 0)]) (ty := tyX3 6) (v := .int (jI (0 : Int))) hx hb hts inX3 tyX3 tyX3_ok nmX3 hown hname hK hC hS (by omega) n0 rfl 6 (by decide) wd145 (fun _ h => h) (fun _ => rfl) (by decide +kernel) rfl rfl (show 6 < 9 by decide) dX3_init_58 (fun H locs hC hS => ?_)
  have hC : CW g (fup f13 (q) (.inr (3, [.ref (q + 1), .ref (q + 140), .ref (q + 279), .ref (q + 418), .int (jI (0 : Int)), .int (jI (0 : Int)), .int (jI (0 : Int)), .int (jI 0), .int (jI 0)]))) (q + 419) H := hC
  obtain ⟨f14, ef⟩ : ∃ z, z = fup f13 (q) (.inr (3, [.ref (q + 1), .ref (q + 140), .ref (q + 279), .ref (q + 418), .int (jI (0 : Int)), .int (jI (0 : Int)), .int (jI (0 : Int)), .int (jI 0), .int (jI 0)])) := ⟨_, rfl⟩
  rw [← ef] at hC
  have n0 : f14 (q) = some (.inr (3, [.ref (q + 1), .ref (q + 140), .ref (q + 279), .ref (q + 418), .int (jI (0 : Int)), .int (jI (0 : Int)), .int (jI (0 : Int)), .int (jI 0), .int (jI 0)])) := by rw [ef]; unfold fup; rw [if_pos rfl]
  have n21 : ∀ a, q + 1 ≤ a → a < q + 140 → f14 a = trC g (q + 1) a := by intro a ha1 ha2; rw [ef]; unfold fup; rw [if_neg (by omega)]; exact n21 a ha1 ha2
  have n22 : ∀ a, q + 140 ≤ a → a < q + 279 → f14 a = trC g (q + 140) a := by intro a ha1 ha2; rw [ef]; unfold fup; rw [if_neg (by omega)]; exact n22 a ha1 ha2
  have n23 : ∀ a, q + 279 ≤ a → a < q + 418 → f14 a = trC g (q + 279) a := by intro a ha1 ha2; rw [ef]; unfold fup; rw [if_neg (by omega)]; exact n23 a ha1 ha2
  have n4 : f14 (q + 418) = some (.inl (g.2 2, 6, .inr (.inr (.inr (.inr (fun _ => none)))))) := by rw [ef]; unfold fup; rw [if_neg (by omega)]; exact n4
  clear ef
  refine lv_aload_n hx hb dX3_init_61 rfl (lv_at hl 0 rfl) ?_
  refine x_iconst hx hb dX3_init_62 ?_
  refine i_put (C := RX3) (T := TX3) (N := 9) (ci := 3) (fs := [.ref (q + 1), .ref (q + 140), .ref (q + 279), .ref (q + 418), .int (jI (0 : Int)), .int (jI (0 : Int)), .int (jI (0 : Int)), .int (jI 0), .int (jI 0)]) (ty := tyX3 7) (v := .int (jI (-1 : Int))) hx hb hts inX3 tyX3 tyX3_ok nmX3 hown hname hK hC hS (by omega) n0 rfl 7 (by decide) wd146 (fun _ h => h) (fun _ => rfl) (by decide +kernel) rfl rfl (show 7 < 9 by decide) dX3_init_63 (fun H locs hC hS => ?_)
  have hC : CW g (fup f14 (q) (.inr (3, [.ref (q + 1), .ref (q + 140), .ref (q + 279), .ref (q + 418), .int (jI (0 : Int)), .int (jI (0 : Int)), .int (jI (0 : Int)), .int (jI (-1 : Int)), .int (jI 0)]))) (q + 419) H := hC
  obtain ⟨f15, ef⟩ : ∃ z, z = fup f14 (q) (.inr (3, [.ref (q + 1), .ref (q + 140), .ref (q + 279), .ref (q + 418), .int (jI (0 : Int)), .int (jI (0 : Int)), .int (jI (0 : Int)), .int (jI (-1 : Int)), .int (jI 0)])) := ⟨_, rfl⟩
  rw [← ef] at hC
  have n0 : f15 (q) = some (.inr (3, [.ref (q + 1), .ref (q + 140), .ref (q + 279), .ref (q + 418), .int (jI (0 : Int)), .int (jI (0 : Int)), .int (jI (0 : Int)), .int (jI (-1 : Int)), .int (jI 0)])) := by rw [ef]; unfold fup; rw [if_pos rfl]
  have n21 : ∀ a, q + 1 ≤ a → a < q + 140 → f15 a = trC g (q + 1) a := by intro a ha1 ha2; rw [ef]; unfold fup; rw [if_neg (by omega)]; exact n21 a ha1 ha2
  have n22 : ∀ a, q + 140 ≤ a → a < q + 279 → f15 a = trC g (q + 140) a := by intro a ha1 ha2; rw [ef]; unfold fup; rw [if_neg (by omega)]; exact n22 a ha1 ha2
  have n23 : ∀ a, q + 279 ≤ a → a < q + 418 → f15 a = trC g (q + 279) a := by intro a ha1 ha2; rw [ef]; unfold fup; rw [if_neg (by omega)]; exact n23 a ha1 ha2
  have n4 : f15 (q + 418) = some (.inl (g.2 2, 6, .inr (.inr (.inr (.inr (fun _ => none)))))) := by rw [ef]; unfold fup; rw [if_neg (by omega)]; exact n4
  clear ef
  refine lv_aload_n hx hb dX3_init_66 rfl (lv_at hl 0 rfl) ?_
  refine x_iconst hx hb dX3_init_67 ?_
  refine i_put (C := RX3) (T := TX3) (N := 9) (ci := 3) (fs := [.ref (q + 1), .ref (q + 140), .ref (q + 279), .ref (q + 418), .int (jI (0 : Int)), .int (jI (0 : Int)), .int (jI (0 : Int)), .int (jI (-1 : Int)), .int (jI 0)]) (ty := tyX3 8) (v := .int (jI (0 : Int))) hx hb hts inX3 tyX3 tyX3_ok nmX3 hown hname hK hC hS (by omega) n0 rfl 8 (by decide) wd147 (fun _ h => h) (fun _ => rfl) (by decide +kernel) rfl rfl (show 8 < 9 by decide) dX3_init_68 (fun H locs hC hS => ?_)
  have hC : CW g (fup f15 (q) (.inr (3, [.ref (q + 1), .ref (q + 140), .ref (q + 279), .ref (q + 418), .int (jI (0 : Int)), .int (jI (0 : Int)), .int (jI (0 : Int)), .int (jI (-1 : Int)), .int (jI (0 : Int))]))) (q + 419) H := hC
  obtain ⟨f16, ef⟩ : ∃ z, z = fup f15 (q) (.inr (3, [.ref (q + 1), .ref (q + 140), .ref (q + 279), .ref (q + 418), .int (jI (0 : Int)), .int (jI (0 : Int)), .int (jI (0 : Int)), .int (jI (-1 : Int)), .int (jI (0 : Int))])) := ⟨_, rfl⟩
  rw [← ef] at hC
  have n0 : f16 (q) = some (.inr (3, [.ref (q + 1), .ref (q + 140), .ref (q + 279), .ref (q + 418), .int (jI (0 : Int)), .int (jI (0 : Int)), .int (jI (0 : Int)), .int (jI (-1 : Int)), .int (jI (0 : Int))])) := by rw [ef]; unfold fup; rw [if_pos rfl]
  have n21 : ∀ a, q + 1 ≤ a → a < q + 140 → f16 a = trC g (q + 1) a := by intro a ha1 ha2; rw [ef]; unfold fup; rw [if_neg (by omega)]; exact n21 a ha1 ha2
  have n22 : ∀ a, q + 140 ≤ a → a < q + 279 → f16 a = trC g (q + 140) a := by intro a ha1 ha2; rw [ef]; unfold fup; rw [if_neg (by omega)]; exact n22 a ha1 ha2
  have n23 : ∀ a, q + 279 ≤ a → a < q + 418 → f16 a = trC g (q + 279) a := by intro a ha1 ha2; rw [ef]; unfold fup; rw [if_neg (by omega)]; exact n23 a ha1 ha2
  have n4 : f16 (q + 418) = some (.inl (g.2 2, 6, .inr (.inr (.inr (.inr (fun _ => none)))))) := by rw [ef]; unfold fup; rw [if_neg (by omega)]; exact n4
  clear ef
  refine x_iconst hx hb dX3_init_71 ?_
  refine lv_istore_n (lv' := [(1, .int (jI 0)), (0, .ref q)]) hx hb dX3_init_72 rfl hl (by decide) rfl (fun ls hl => ?_)
  refine W.widen (k := 418) (n := 7242) (by omega) (by omega) ?_
  refine dk_h C0 hname hNW 6 0 f16 H locs rfl ⟨n0, ?_, n4, fun i hi => absurd hi (Nat.not_lt_zero i)⟩ hC hS ls (lv_sub hl [1, 0] rfl)
  intro t ht a h3 h4
  rcases (show t = 0 ∨ t = 1 ∨ t = 2 by omega) with rfl | rfl | rfl
  · exact n21 a (by omega) (by omega)
  · exact n22 a (by omega) (by omega)
  · exact n23 a (by omega) (by omega)
