/-! SUMS, and what a sound tree is -/
/-- the sum of f over j places from k on -/
def sm (f : Nat → Int) : Nat → Nat → Int
  | _, 0 => 0
  | k, j + 1 => f k + sm f (k + 1) j
theorem sm_congr {f g : Nat → Int} : ∀ {k j : Nat}, (∀ i, k ≤ i → i < k + j → f i = g i) → sm f k j = sm g k j
  | _, 0, _ => rfl
  | k, j + 1, h => by
    show f k + sm f (k + 1) j = g k + sm g (k + 1) j
    rw [h k (Nat.le_refl k) (by omega), sm_congr (k := k + 1) (j := j) (fun i h1 h2 => h i (by omega) (by omega))]
theorem sm_add {f g : Nat → Int} : ∀ {k j : Nat}, sm (fun i => f i + g i) k j = sm f k j + sm g k j
  | _, 0 => rfl
  | k, j + 1 => by
    show f k + g k + sm (fun i => f i + g i) (k + 1) j = f k + sm f (k + 1) j + (g k + sm g (k + 1) j)
    rw [sm_add]
    omega
theorem sm_zero : ∀ {k j : Nat}, sm (fun _ => 0) k j = 0
  | _, 0 => rfl
  | k, j + 1 => by
    show 0 + sm (fun _ => 0) (k + 1) j = 0
    rw [sm_zero]
    rfl
theorem sm_nn {f : Nat → Int} : ∀ {k j : Nat}, (∀ i, k ≤ i → i < k + j → 0 ≤ f i) → 0 ≤ sm f k j
  | _, 0, _ => Int.le_refl 0
  | k, j + 1, h => by
    show 0 ≤ f k + sm f (k + 1) j
    have h1 := h k (Nat.le_refl k) (by omega)
    have h2 := sm_nn (f := f) (k := k + 1) (j := j) (fun i h1 h2 => h i (by omega) (by omega))
    omega
theorem sm_le {f g : Nat → Int} : ∀ {k j : Nat}, (∀ i, k ≤ i → i < k + j → f i ≤ g i) → sm f k j ≤ sm g k j
  | _, 0, _ => Int.le_refl 0
  | k, j + 1, h => by
    show f k + sm f (k + 1) j ≤ g k + sm g (k + 1) j
    have h1 := h k (Nat.le_refl k) (by omega)
    have h2 := sm_le (f := f) (g := g) (k := k + 1) (j := j) (fun i h1 h2 => h i (by omega) (by omega))
    omega
/-- at most c a place -/
theorem sm_bd {f : Nat → Int} {c : Int} : ∀ {k j : Nat}, (∀ i, k ≤ i → i < k + j → f i ≤ c) → sm f k j ≤ c * j
  | _, 0, _ => by
    show (0 : Int) ≤ c * ((0 : Nat) : Int)
    simp
  | k, j + 1, h => by
    show f k + sm f (k + 1) j ≤ c * ((j + 1 : Nat) : Int)
    have h1 := h k (Nat.le_refl k) (by omega)
    have h2 := sm_bd (f := f) (c := c) (k := k + 1) (j := j) (fun i h1 h2 => h i (by omega) (by omega))
    rw [Int.natCast_add, Int.mul_add]
    show _ ≤ c * (j : Int) + c * 1
    omega
/-- one place is changed -/
theorem sm_upd {f g : Nat → Int} {a : Nat} : ∀ {k j : Nat}, k ≤ a → a < k + j → (∀ i, k ≤ i → i < k + j → i ≠ a → g i = f i) → sm g k j = sm f k j - f a + g a
  | k, 0, h1, h2, _ => by omega
  | k, j + 1, h1, h2, h => by
    show g k + sm g (k + 1) j = f k + sm f (k + 1) j - f a + g a
    by_cases q : k = a
    · subst q
      rw [sm_congr (f := g) (g := f) (k := k + 1) (j := j) (fun i h3 h4 => h i (by omega) (by omega) (by omega))]
      omega
    · rw [h k (Nat.le_refl k) (by omega) q, sm_upd (f := f) (g := g) (k := k + 1) (j := j) (by omega) (by omega) (fun i h3 h4 h5 => h i (by omega) (by omega) h5)]
      omega
theorem sm_snoc {f : Nat → Int} : ∀ {k j : Nat}, sm f k (j + 1) = sm f k j + f (k + j)
  | k, 0 => by
    show f k + 0 = 0 + f k
    omega
  | k, j + 1 => by
    show f k + sm f (k + 1) (j + 1) = f k + sm f (k + 1) j + f (k + (j + 1))
    rw [sm_snoc, show k + 1 + j = k + (j + 1) by omega]
    omega
theorem sm_swap {f : Nat → Nat → Int} {a b : Nat} : ∀ {k j : Nat}, sm (fun i => sm (fun q => f i q) a b) k j = sm (fun q => sm (fun i => f i q) k j) a b
  | k, 0 => by
    show (0 : Int) = sm (fun _ => 0) a b
    rw [sm_zero]
  | k, j + 1 => by
    show sm (fun q => f k q) a b + sm (fun i => sm (fun q => f i q) a b) (k + 1) j = sm (fun q => f k q + sm (fun i => f i q) (k + 1) j) a b
    rw [sm_swap, sm_add]
/-- a sum that isn't 0 has a place that isn't -/
theorem sm_ex {f : Nat → Int} : ∀ {k j : Nat}, sm f k j ≠ 0 → ∃ i, k ≤ i ∧ i < k + j ∧ f i ≠ 0
  | _, 0, h => absurd rfl h
  | k, j + 1, h => by
    by_cases q : f k = 0
    · obtain ⟨i, h1, h2, h3⟩ := sm_ex (f := f) (k := k + 1) (j := j) (fun z => h (by show f k + sm f (k + 1) j = 0; omega))
      exact ⟨i, by omega, by omega, h3⟩
    · exact ⟨k, Nat.le_refl k, by omega, q⟩
theorem sm_ge {f : Nat → Int} {a k j : Nat} (h : ∀ i, k ≤ i → i < k + j → 0 ≤ f i) (h1 : k ≤ a) (h2 : a < k + j) : f a ≤ sm f k j := by
  have e := sm_upd (f := f) (g := fun i => if i = a then 0 else f i) (a := a) h1 h2 (fun i _ _ h5 => if_neg h5)
  have n := sm_nn (f := fun i => if i = a then 0 else f i) (k := k) (j := j) (fun i h3 h4 => by
    show 0 ≤ if i = a then 0 else f i
    split
    · exact Int.le_refl 0
    · exact h i h3 h4)
  rw [if_pos rfl] at e
  omega
/-- two different places -/
theorem sm_ge2 {f : Nat → Int} {a c k j : Nat} (h : ∀ i, k ≤ i → i < k + j → 0 ≤ f i) (h1 : k ≤ a) (h2 : a < k + j) (h3 : k ≤ c) (h4 : c < k + j) (hac : a ≠ c) : f a + f c ≤ sm f k j := by
  have e := sm_upd (f := f) (g := fun i => if i = a then 0 else f i) (a := a) h1 h2 (fun i _ _ h5 => if_neg h5)
  have n := sm_ge (f := fun i => if i = a then 0 else f i) (a := c) (k := k) (j := j) (fun i h3 h4 => by
    show 0 ≤ if i = a then 0 else f i
    split
    · exact Int.le_refl 0
    · exact h i h3 h4) h3 h4
  rw [if_pos rfl] at e
  have e2 : (if c = a then (0 : Int) else f c) = f c := if_neg (fun z => hac z.symm)
  have n2 : f c ≤ sm (fun i => if i = a then 0 else f i) k j := by rw [← e2]; exact n
  omega
/-! the tree -/
/-- how often the node x stands in the folder's cell i -/
def occ (M : Mm) (i : Nat) (x : Int) : Int := sm (fun k => if (k : Int) < M 2 i 8 ∧ M 4 i k = x then 1 else 0) 0 12
def lnk (M : Mm) (o : Nat) (x : Int) : Int := sm (fun f => occ M (33 * o + f) x) 0 32
/-- in how many places of a node, and of all, the block b is -/
def plc (M : Mm) (i : Nat) (b : Int) : Int := sm (fun p => if M 5 i p = b then 1 else 0) 0 20
def cntB (M : Mm) (o : Nat) (b : Int) : Int := sm (fun n => plc M (33 * o + n) b) 0 32
def own (M : Mm) (i : Nat) : Int := if M 2 i 0 = 2 then (M 2 i 8 + 3) / 4 else sm (fun p => if M 5 i p = 0 then 0 else 1) 0 20
def usedT (M : Mm) (o : Nat) : Int := sm (fun b => if 0 < M 8 o b then 1 else 0) 0 128 + sm (fun n => if M 2 (33 * o + n) 0 = 2 then own M (33 * o + n) else 0) 0 32
def takB (M : Mm) (o : Nat) (u : Int) : Int := sm (fun n => if M 2 (33 * o + n) 1 = u then own M (33 * o + n) else 0) 0 32
/-- j steps up from the node n -/
def upN (M : Mm) (o : Nat) : Nat → Nat → Nat
  | 0, n => n
  | j + 1, n => upN M o j (M 2 (33 * o + n) 4).toNat
/-- the names and nodes of one folder's cell -/
def Ents (M : Mm) (i : Nat) : Prop := (0 ≤ M 2 i 8 ∧ M 2 i 8 ≤ 12) ∧ (∀ k : Nat, (k : Int) < M 2 i 8 → 1 ≤ M 3 i k ∧ M 3 i k ≤ 99 ∧ 1 ≤ M 4 i k ∧ M 4 i k ≤ 31) ∧ (∀ k : Nat, (k : Int) + 1 < M 2 i 8 → M 3 i k < M 3 i (k + 1))
def Rgs (M : Mm) (i : Nat) : Prop := (0 ≤ M 2 i 0 ∧ M 2 i 0 ≤ 3) ∧ (0 ≤ M 2 i 1 ∧ M 2 i 1 ≤ 3) ∧ (0 ≤ M 2 i 2 ∧ M 2 i 2 ≤ 6) ∧ (0 ≤ M 2 i 4 ∧ M 2 i 4 ≤ 31) ∧ (-1 ≤ M 2 i 5 ∧ M 2 i 5 ≤ 3) ∧ (M 2 i 0 ≠ 2 → M 2 i 8 = 0)
/-- sorts and links: n is the node, i its cell -/
def Lks (M : Mm) (o n : Nat) : Prop := M 2 (33 * o + n) 2 = lnk M o n ∧ (n ≠ 0 → M 2 (33 * o + n) 0 = 2 → M 2 (33 * o + n) 2 = 1) ∧ (M 2 (33 * o + n) 0 = 3 → 1 ≤ M 2 (33 * o + n) 2) ∧ (M 2 (33 * o + n) 0 = 0 → M 2 (33 * o + n) 2 = 0)
/-- what stands in a folder is there, and a folder in it has it as its parent -/
def Ins (M : Mm) (o n : Nat) : Prop := ∀ k : Nat, (k : Int) < M 2 (33 * o + n) 8 → M 2 (33 * o + (M 4 (33 * o + n) k).toNat) 0 ≠ 0 ∧ (M 2 (33 * o + (M 4 (33 * o + n) k).toNat) 0 = 2 → M 2 (33 * o + (M 4 (33 * o + n) k).toNat) 4 = n)
def G1 (M : Mm) (o : Nat) : Prop :=
  (M 2 (33 * o) 0 = 2 ∧ M 2 (33 * o) 2 = 0) ∧ (∀ n, n < 32 → Rgs M (33 * o + n)) ∧ (∀ n, n < 32 → Ents M (33 * o + n)) ∧ (∀ n, n < 32 → Lks M o n) ∧ (∀ n, n < 32 → Ins M o n) ∧ (∀ n, n < 32 → M 2 (33 * o + n) 0 = 2 → ∃ j, upN M o j n = 0)
def Blk (M : Mm) (i : Nat) : Prop := (0 ≤ M 2 i 3 ∧ M 2 i 3 ≤ 320) ∧ (M 2 i 0 ≠ 1 → M 2 i 3 = 0) ∧ ∀ p, p < 20 → (0 ≤ M 5 i p ∧ M 5 i p < 128) ∧ (M 2 i 0 ≠ 1 → M 5 i p = 0) ∧ (M 5 i p ≠ 0 → 16 * (p : Int) < M 2 i 3)
def Hld (M : Mm) (o : Nat) : Prop := M 8 o 0 = 0 ∧ ∀ b : Nat, 1 ≤ b → b < 128 → M 8 o b = cntB M o b
def G2 (M : Mm) (o : Nat) : Prop := (∀ n, n < 32 → Blk M (33 * o + n)) ∧ Hld M o
def G3 (M : Mm) (o : Nat) : Prop := ∀ u : Nat, u < 4 → 0 ≤ M 6 o u ∧ M 6 o u ≤ 120
def GG (M : Mm) (o : Nat) : Prop := G1 M o ∧ G2 M o ∧ G3 M o
/-! the two agree on a tree -/
def Ag1 (M M' : Mm) (o o' : Nat) : Prop := ∀ n, n < 32 → (∀ k, k < 9 → k ≠ 3 → M' 2 (33 * o' + n) k = M 2 (33 * o + n) k) ∧ (∀ k, k < 12 → M' 3 (33 * o' + n) k = M 3 (33 * o + n) k) ∧ (∀ k, k < 12 → M' 4 (33 * o' + n) k = M 4 (33 * o + n) k)
def Ag2 (M M' : Mm) (o o' : Nat) : Prop := (∀ n, n < 32 → M' 2 (33 * o' + n) 3 = M 2 (33 * o + n) 3 ∧ M' 2 (33 * o' + n) 0 = M 2 (33 * o + n) 0 ∧ ∀ k, k < 20 → M' 5 (33 * o' + n) k = M 5 (33 * o + n) k) ∧ ∀ k, k < 128 → M' 8 o' k = M 8 o k
def Ag3 (M M' : Mm) (o o' : Nat) : Prop := ∀ k, k < 4 → M' 6 o' k = M 6 o k
def Ag (M M' : Mm) (o o' : Nat) : Prop := Ag1 M M' o o' ∧ Ag2 M M' o o' ∧ Ag3 M M' o o'
theorem Ag1.occE {M M' : Mm} {o o' : Nat} (h : Ag1 M M' o o') {n : Nat} (hn : n < 32) (x : Int) : occ M' (33 * o' + n) x = occ M (33 * o + n) x := by
  obtain ⟨h2, -, h4⟩ := h n hn
  exact sm_congr fun k _ hk => by rw [h2 8 (by decide) (by decide), h4 k (by omega)]
theorem Ag1.lnkE {M M' : Mm} {o o' : Nat} (h : Ag1 M M' o o') (x : Int) : lnk M' o' x = lnk M o x := sm_congr fun _ _ hf => h.occE (by omega) x
theorem G1.ag {M M' : Mm} {o o' : Nat} (g : G1 M o) (h : Ag1 M M' o o') : G1 M' o' := by
  obtain ⟨g0, gr, ge, gl, gi, gu⟩ := g
  have c2 : ∀ n, n < 32 → ∀ k, k < 9 → k ≠ 3 → M' 2 (33 * o' + n) k = M 2 (33 * o + n) k := fun n hn => (h n hn).1
  have c3 : ∀ n, n < 32 → ∀ k, k < 12 → M' 3 (33 * o' + n) k = M 3 (33 * o + n) k := fun n hn => (h n hn).2.1
  have c4 : ∀ n, n < 32 → ∀ k, k < 12 → M' 4 (33 * o' + n) k = M 4 (33 * o + n) k := fun n hn => (h n hn).2.2
  refine ⟨?_, fun n hn => ?_, fun n hn => ?_, fun n hn => ?_, fun n hn => ?_, fun n hn hs => ?_⟩
  · have a := c2 0 (by decide) 0 (by decide) (by decide)
    have b := c2 0 (by decide) 2 (by decide) (by decide)
    rw [Nat.add_zero, Nat.add_zero] at a b
    rw [a, b]
    exact g0
  · unfold Rgs
    rw [c2 n hn 0 (by decide) (by decide), c2 n hn 1 (by decide) (by decide), c2 n hn 2 (by decide) (by decide), c2 n hn 4 (by decide) (by decide), c2 n hn 5 (by decide) (by decide), c2 n hn 8 (by decide) (by decide)]
    exact gr n hn
  · obtain ⟨e1, e2, e3⟩ := ge n hn
    unfold Ents
    rw [c2 n hn 8 (by decide) (by decide)]
    refine ⟨e1, fun k hk => ?_, fun k hk => ?_⟩
    · rw [c3 n hn k (by omega), c4 n hn k (by omega)]
      exact e2 k hk
    · rw [c3 n hn k (by omega), c3 n hn (k + 1) (by omega)]
      exact e3 k hk
  · unfold Lks
    rw [c2 n hn 0 (by decide) (by decide), c2 n hn 2 (by decide) (by decide), h.lnkE]
    exact gl n hn
  · intro k hk
    rw [c2 n hn 8 (by decide) (by decide)] at hk
    obtain ⟨e1, e2, -⟩ := ge n hn
    have e4 := e2 k hk
    rw [c4 n hn k (by omega), c2 _ (by omega) 0 (by decide) (by decide), c2 _ (by omega) 4 (by decide) (by decide)]
    exact gi n hn k hk
  · rw [c2 n hn 0 (by decide) (by decide)] at hs
    obtain ⟨j, hj⟩ := gu n hn hs
    refine ⟨j, ?_⟩
    have key : ∀ (j n : Nat), n < 32 → upN M' o' j n = upN M o j n := by
      intro j
      induction j with
      | zero => intro n _; rfl
      | succ j ih =>
        intro n hn
        show upN M' o' j (M' 2 (33 * o' + n) 4).toNat = upN M o j (M 2 (33 * o + n) 4).toNat
        rw [c2 n hn 4 (by decide) (by decide)]
        have := (gr n hn).2.2.2.1
        exact ih _ (by omega)
    rw [key j n hn]
    exact hj
theorem Ag2.plcE {M M' : Mm} {o o' : Nat} (h : Ag2 M M' o o') {n : Nat} (hn : n < 32) (x : Int) : plc M' (33 * o' + n) x = plc M (33 * o + n) x := sm_congr fun k _ hk => by rw [(h.1 n hn).2.2 k (by omega)]
theorem Ag2.cntE {M M' : Mm} {o o' : Nat} (h : Ag2 M M' o o') (x : Int) : cntB M' o' x = cntB M o x := sm_congr fun _ _ hf => h.plcE (by omega) x
theorem G2.ag {M M' : Mm} {o o' : Nat} (g : G2 M o) (h : Ag2 M M' o o') : G2 M' o' := by
  refine ⟨fun n hn => ?_, ?_, fun b h1 h2 => ?_⟩
  · obtain ⟨c3, c0, c5⟩ := h.1 n hn
    obtain ⟨b1, b2, b3⟩ := g.1 n hn
    unfold Blk
    rw [c3, c0]
    refine ⟨b1, b2, fun p hp => ?_⟩
    rw [c5 p hp]
    exact b3 p hp
  · rw [h.2 0 (by decide)]
    exact g.2.1
  · rw [h.2 b h2, h.cntE]
    exact g.2.2 b h1 h2
theorem G3.ag {M M' : Mm} {o o' : Nat} (g : G3 M o) (h : Ag3 M M' o o') : G3 M' o' := fun u hu => by
  rw [h u hu]
  exact g u hu
theorem GG.ag {M M' : Mm} {o o' : Nat} (g : GG M o) (h : Ag M M' o o') : GG M' o' := ⟨g.1.ag h.1, g.2.1.ag h.2.1, g.2.2.ag h.2.2⟩
theorem own_ag {M M' : Mm} {i i' : Nat} (h0 : M' 2 i' 0 = M 2 i 0) (h8 : M' 2 i' 8 = M 2 i 8) (h5 : ∀ k, k < 20 → M' 5 i' k = M 5 i k) : own M' i' = own M i := by
  unfold own
  rw [h0, h8, sm_congr (g := fun p => if M 5 i p = 0 then 0 else 1) fun k _ hk => by rw [h5 k (by omega)]]
theorem Ag.ownE {M M' : Mm} {o o' : Nat} (h : Ag M M' o o') {n : Nat} (hn : n < 32) : own M' (33 * o' + n) = own M (33 * o + n) := own_ag ((h.1 n hn).1 0 (by decide) (by decide)) ((h.1 n hn).1 8 (by decide) (by decide)) ((h.2.1.1 n hn).2.2)
theorem Ag.usedE {M M' : Mm} {o o' : Nat} (h : Ag M M' o o') : usedT M' o' = usedT M o := by
  have e1 : sm (fun b => if 0 < M' 8 o' b then 1 else 0) 0 128 = sm (fun b => if 0 < M 8 o b then 1 else 0) 0 128 := sm_congr fun b _ hb => by rw [h.2.1.2 b (by omega)]
  have e2 : sm (fun n => if M' 2 (33 * o' + n) 0 = 2 then own M' (33 * o' + n) else 0) 0 32 = sm (fun n => if M 2 (33 * o + n) 0 = 2 then own M (33 * o + n) else 0) 0 32 := sm_congr fun n _ hn => by rw [h.ownE (by omega), (h.1 n (by omega)).1 0 (by decide) (by decide)]
  unfold usedT
  rw [e1, e2]
theorem Ag.takE {M M' : Mm} {o o' : Nat} (h : Ag M M' o o') (u : Int) : takB M' o' u = takB M o u := by
  show sm _ 0 32 = sm _ 0 32
  exact sm_congr fun n _ hn => by rw [h.ownE (by omega), (h.1 n (by omega)).1 1 (by decide) (by decide)]
