/-- array classes that this claim has beside int[], Node[], Handle[], boolean[] -/
abbrev tysE (g2 : Nat → ClassId) : List (ClassId × FieldType) := [(g2 4, .long)]
/-! MEMORY: what the class's cells hold, as numbers: kind, which one, which place. The cells lie in one block from the object on. -/
abbrev Mm : Type := Nat → Nat → Nat → Int
abbrev rg (x : Int) : Prop := -2147483648 ≤ x ∧ x ≤ 2147483647
def jI (x : Int) : Int32 := Int32.ofInt x
theorem jI_toInt {x : Int} (h : rg x) : (jI x).toInt = x := Int32.toInt_ofInt_of_le (by have := h.1; omega) (by have := h.2; omega)
theorem jI_le {x y : Int} (hx : rg x) (hy : rg y) : jI x ≤ jI y ↔ x ≤ y := by rw [Int32.le_iff_toInt_le, jI_toInt hx, jI_toInt hy]
theorem jI_lt {x y : Int} (hx : rg x) (hy : rg y) : jI x < jI y ↔ x < y := by rw [Int32.lt_iff_toInt_lt, jI_toInt hx, jI_toInt hy]
theorem jI_eq {x y : Int} (hx : rg x) (hy : rg y) : jI x = jI y ↔ x = y := by rw [← Int32.toInt_inj, jI_toInt hx, jI_toInt hy]
theorem jI_0 : jI 0 = 0 := by decide +kernel
theorem rg_0 : rg 0 := by decide
theorem jI_cl {x : Int} (h : rg x) : (jI x).toNatClampNeg = x.toNat := by
  show (jI x).toInt.toNat = x.toNat
  rw [jI_toInt h]
theorem jI_in {x : Int} {n : Nat} (h : rg x) (h1 : 0 ≤ x ∧ x < (n : Int)) : vp_in (jI x) n := by
  intro q
  rcases q with q | q
  · rw [← jI_0, jI_lt h rg_0] at q
    omega
  · rw [jI_cl h] at q
    omega
theorem jI_add (x y : Int) : jI x + jI y = jI (x + y) := (Int32.ofInt_add x y).symm
theorem jI_sub (x y : Int) : jI x - jI y = jI (x - y) := (Int32.ofInt_sub x y).symm
theorem jI_mul (x y : Int) : jI x * jI y = jI (x * y) := (Int32.ofInt_mul x y).symm
theorem jI_div {x y : Int} (hx : rg x) (hy : rg y) : jI x / jI y = jI (x.tdiv y) := by
  have e1 : Int32.minValue.toInt = -2147483648 := by decide +kernel
  have e2 : Int32.maxValue.toInt = 2147483647 := by decide +kernel
  exact (Int32.ofInt_tdiv (by rw [e1]; exact hx.1) (by rw [e2]; exact hx.2) (by rw [e1]; exact hy.1) (by rw [e2]; exact hy.2)).symm
theorem jI_rem {x y : Int} (hx : rg x) (hy : rg y) : jI x - jI x / jI y * jI y = jI (x.tmod y) := by
  rw [jI_div hx hy, jI_mul, jI_sub]
  congr 1
  have := Int.tmod_add_tdiv_mul x y
  have h2 : x.tdiv y * y = y * x.tdiv y := Int.mul_comm _ _
  have h3 := Int.tmod_add_mul_tdiv x y
  omega
def mup (M : Mm) (K i k : Nat) (v : Int) : Mm := fun K' i' k' => if K' = K ∧ i' = i ∧ k' = k then v else M K' i' k'
/-- every number but those of kind 7 (the words, long) is an int -/
abbrev RG (M : Mm) : Prop := ∀ K i k, K ≠ 7 → rg (M K i k)
theorem mup_rg {M : Mm} {K i k : Nat} {v : Int} (h : RG M) (hv : rg v) : RG (mup M K i k v) := by
  intro K' i' k' h7
  unfold mup
  split
  · exact hv
  · exact h _ _ _ h7
theorem mup_rg7 {M : Mm} {i k : Nat} {v : Int} (h : RG M) : RG (mup M 7 i k v) := by
  intro K' i' k' h7
  unfold mup
  rw [if_neg (fun q => h7 q.1)]
  exact h _ _ _ h7
def mcp (M : Mm) (K i sp K2 i2 dp n : Nat) : Mm := fun K' i' k' => if K' = K2 ∧ i' = i2 ∧ dp ≤ k' ∧ k' < dp + n then M K i (sp + (k' - dp)) else M K' i' k'
theorem mcp_rg {M : Mm} {K i sp K2 i2 dp n : Nat} (h : RG M) (hK : K = 7 → K2 = 7) : RG (mcp M K i sp K2 i2 dp n) := by
  intro K' i' k' h7
  unfold mcp
  split
  · rename_i q
    exact h _ _ _ (fun z => h7 (q.1.trans (hK z)))
  · exact h _ _ _ h7
def lenK (K : Nat) : Nat := match K with
  | 3 => 12
  | 4 => 12
  | 5 => 20
  | 6 => 4
  | 8 => 128
  | 9 => 128
  | 10 => 8
  | 12 => 320
  | _ => 0
def adN (b i : Nat) : Nat := if i % 33 = 32 then b + 3 + 139 * (i / 33) else b + 12 + 139 * (i / 33) + 4 * (i % 33)
/-- where the cell of kind K, number i, lies: 0 the object, 1 trees, 2 nodes (33 a tree, the last is nobody), 3 names, 4 inside, 5 blocks, 6 quotas, 7 bytes, 8 holders, 9 counted, 10 awaited, 11 handles, 12 locks, 13 a tree's row of nodes, 14 the row of handles -/
def adr (b K i : Nat) : Nat := match K with
  | 0 => b
  | 1 => b + 1 + 139 * i
  | 2 => adN b i
  | 3 => adN b i + 1
  | 4 => adN b i + 2
  | 5 => adN b i + 3
  | 6 => b + 7 + 139 * i
  | 7 => b + 8 + 139 * i
  | 8 => b + 9 + 139 * i
  | 9 => b + 10 + 139 * i
  | 10 => b + 11 + 139 * i
  | 11 => b + 419 + 2 * i
  | 12 => b + 420 + 2 * i
  | 13 => b + 2 + 139 * i
  | _ => b + 418
def okK (K i : Nat) : Prop := (K = 0 ∧ i = 0) ∨ (K = 1 ∧ i < 3) ∨ (K = 2 ∧ i < 99) ∨ (K = 3 ∧ i < 99) ∨ (K = 4 ∧ i < 99) ∨ (K = 5 ∧ i < 99) ∨ (K = 6 ∧ i < 3) ∨ (K = 7 ∧ i < 3) ∨ (K = 8 ∧ i < 3) ∨ (K = 9 ∧ i < 3) ∨ (K = 10 ∧ i < 3) ∨ (K = 11 ∧ i < 6) ∨ (K = 12 ∧ i < 6) ∨ (K = 13 ∧ i < 3) ∨ (K = 14 ∧ i = 0)
theorem ok0 : okK 0 0 := Or.inl ⟨rfl, rfl⟩
theorem ok1 {i : Nat} (h : i < 3) : okK 1 i := by unfold okK; omega
theorem ok2 {i : Nat} (h : i < 99) : okK 2 i := by unfold okK; omega
theorem ok3 {i : Nat} (h : i < 99) : okK 3 i := by unfold okK; omega
theorem ok4 {i : Nat} (h : i < 99) : okK 4 i := by unfold okK; omega
theorem ok5 {i : Nat} (h : i < 99) : okK 5 i := by unfold okK; omega
theorem ok6 {i : Nat} (h : i < 3) : okK 6 i := by unfold okK; omega
theorem ok7 {i : Nat} (h : i < 3) : okK 7 i := by unfold okK; omega
theorem ok8 {i : Nat} (h : i < 3) : okK 8 i := by unfold okK; omega
theorem ok9 {i : Nat} (h : i < 3) : okK 9 i := by unfold okK; omega
theorem ok10 {i : Nat} (h : i < 3) : okK 10 i := by unfold okK; omega
theorem ok11 {i : Nat} (h : i < 6) : okK 11 i := by unfold okK; omega
theorem ok12 {i : Nat} (h : i < 6) : okK 12 i := by unfold okK; omega
theorem ok13 {i : Nat} (h : i < 3) : okK 13 i := by unfold okK; omega
theorem ok14 : okK 14 0 := by unfold okK; omega
theorem adr_inj {b K i K' i' : Nat} (h : okK K i) (h' : okK K' i') (e : adr b K i = adr b K' i') : K = K' ∧ i = i' := by
  unfold okK at h h'
  rcases h with ⟨rfl, hi⟩ | ⟨rfl, hi⟩ | ⟨rfl, hi⟩ | ⟨rfl, hi⟩ | ⟨rfl, hi⟩ | ⟨rfl, hi⟩ | ⟨rfl, hi⟩ | ⟨rfl, hi⟩ | ⟨rfl, hi⟩ | ⟨rfl, hi⟩ | ⟨rfl, hi⟩ | ⟨rfl, hi⟩ | ⟨rfl, hi⟩ | ⟨rfl, hi⟩ | ⟨rfl, hi⟩ <;>
  rcases h' with ⟨rfl, hi'⟩ | ⟨rfl, hi'⟩ | ⟨rfl, hi'⟩ | ⟨rfl, hi'⟩ | ⟨rfl, hi'⟩ | ⟨rfl, hi'⟩ | ⟨rfl, hi'⟩ | ⟨rfl, hi'⟩ | ⟨rfl, hi'⟩ | ⟨rfl, hi'⟩ | ⟨rfl, hi'⟩ | ⟨rfl, hi'⟩ | ⟨rfl, hi'⟩ | ⟨rfl, hi'⟩ | ⟨rfl, hi'⟩ <;>
  simp only [adr, adN] at e <;> (try split at e) <;> (try split at e) <;> first | omega | (rcases (show i / 33 = 0 ∨ i / 33 = 1 ∨ i / 33 = 2 by omega) with q | q | q <;> omega) | (rcases (show i' / 33 = 0 ∨ i' / 33 = 1 ∨ i' / 33 = 2 by omega) with q | q | q <;> omega)
theorem adr_bd {b K i : Nat} (h : okK K i) : b ≤ adr b K i ∧ adr b K i < b + 431 := by
  unfold okK at h
  rcases h with ⟨rfl, hi⟩ | ⟨rfl, hi⟩ | ⟨rfl, hi⟩ | ⟨rfl, hi⟩ | ⟨rfl, hi⟩ | ⟨rfl, hi⟩ | ⟨rfl, hi⟩ | ⟨rfl, hi⟩ | ⟨rfl, hi⟩ | ⟨rfl, hi⟩ | ⟨rfl, hi⟩ | ⟨rfl, hi⟩ | ⟨rfl, hi⟩ | ⟨rfl, hi⟩ | ⟨rfl, hi⟩ <;> simp only [adr, adN] <;> (try split) <;> omega
/-- the classes' numbers at a launch: va_G, and those of int[], Node[], Handle[], boolean[], and what more a claim has -/
abbrev Gx : Type := va_G × (Nat → ClassId)
abbrev tysX (g : Gx) : List (ClassId × FieldType) := [(g.2 0, .int), (g.2 1, .object RX1), (g.2 2, .object RX0), (g.2 3, .boolean)] ++ tysE g.2
def cellE (g : Gx) (b : Nat) (M : Mm) (K i : Nat) : va_E := match K with
  | 0 => .inr (3, [.ref (adr b 1 (M 0 0 0).toNat), .ref (adr b 1 (M 0 0 1).toNat), .ref (adr b 1 2), .ref (adr b 14 0), .int (jI (M 0 0 4)), .int (jI (M 0 0 5)), .int (jI (M 0 0 6)), .int (jI (M 0 0 7)), .int (jI (M 0 0 8))])
  | 1 => .inr (2, [.ref (adr b 13 i), .ref (adr b 2 (33 * i + 32)), .ref (adr b 6 i), .ref (adr b 7 i), .ref (adr b 8 i), .int (jI (M 1 i 5)), .ref (adr b 9 i), .ref (adr b 10 i)])
  | 2 => .inr (1, [.int (jI (M 2 i 0)), .int (jI (M 2 i 1)), .int (jI (M 2 i 2)), .int (jI (M 2 i 3)), .int (jI (M 2 i 4)), .int (jI (M 2 i 5)), .int (jI (M 2 i 6)), .int (jI (M 2 i 7)), .int (jI (M 2 i 8)), .ref (adr b 3 i), .ref (adr b 4 i), .ref (adr b 5 i)])
  | 11 => .inr (0, [.int (jI (M 11 i 0)), .int (jI (M 11 i 1)), .int (jI (M 11 i 2)), .ref (adr b 12 i)])
  | 13 => .inl ((g.2 1), 32, .inr (.inr (.inr (.inr (fun k => some (adr b 2 (33 * i + k)))))))
  | 14 => .inl ((g.2 2), 6, .inr (.inr (.inr (.inr (fun k => some (adr b 11 k))))))
  | 7 => .inl ((g.2 4), 256, .inr (.inl (fun k => Int64.ofInt (M 7 i k))))
  | K => .inl ((g.2 0), lenK K, .inl (fun k => jI (M K i k)))
theorem cellE_congr {g : Gx} {b : Nat} {M M' : Mm} {K i : Nat} (ok : okK K i) (h : ∀ k, M' K i k = M K i k) : cellE g b M' K i = cellE g b M K i := by
  unfold okK at ok
  rcases ok with ⟨rfl, rfl⟩ | ⟨rfl, hi⟩ | ⟨rfl, hi⟩ | ⟨rfl, hi⟩ | ⟨rfl, hi⟩ | ⟨rfl, hi⟩ | ⟨rfl, hi⟩ | ⟨rfl, hi⟩ | ⟨rfl, hi⟩ | ⟨rfl, hi⟩ | ⟨rfl, hi⟩ | ⟨rfl, hi⟩ | ⟨rfl, hi⟩ | ⟨rfl, hi⟩ | ⟨rfl, hi⟩ <;> simp only [cellE, h]
def Rel (g : Gx) (b : Nat) (M : Mm) (H : Heap) : Prop := (∀ K i, okK K i → va_at g.1 vwCl (adr b K i, cellE g b M K i) H) ∧ RG M
theorem Rel.P1 {g : Gx} {b : Nat} {M : Mm} {H : Heap} (h : Rel g b M H) {K i : Nat} (ok : okK K i) : va_P g.1 vwCl [(adr b K i, cellE g b M K i)] H := by
  intro k q hq
  match k, hq with
  | 0, hq => cases hq; exact h.1 K i ok
  | k + 1, hq => simp at hq
theorem Rel.set {g : Gx} {b : Nat} {M M' : Mm} {H H1 : Heap} {K i : Nat} (h : Rel g b M H) (ok : okK K i) (hat : va_at g.1 vwCl (adr b K i, cellE g b M' K i) H1) (oq : ∀ q : Nat, q ≠ adr b K i → H1[q]? = H[q]?) (hM : ∀ K' i' k', ¬ (K' = K ∧ i' = i) → M' K' i' k' = M K' i' k') (hr : RG M') : Rel g b M' H1 := by
  refine ⟨fun K' i' ok' => ?_, hr⟩
  by_cases hq : K' = K ∧ i' = i
  · obtain ⟨rfl, rfl⟩ := hq
    exact hat
  · rw [cellE_congr ok' (fun k => hM K' i' k hq)]
    exact (h.1 K' i' ok').kept (oq _ (fun e => hq (adr_inj ok' ok e)))
theorem mup_ne {M : Mm} {K i k : Nat} {v : Int} : ∀ K' i' k', ¬ (K' = K ∧ i' = i) → mup M K i k v K' i' k' = M K' i' k' := by
  intro K' i' k' h
  unfold mup
  rw [if_neg (fun q => h ⟨q.1, q.2.1⟩)]
theorem mcp_ne {M : Mm} {K i sp K2 i2 dp n : Nat} : ∀ K' i' k', ¬ (K' = K2 ∧ i' = i2) → mcp M K i sp K2 i2 dp n K' i' k' = M K' i' k' := by
  intro K' i' k' h
  unfold mcp
  rw [if_neg (fun q => h ⟨q.1, q.2.1⟩)]
def AA (b sz : Nat) : Nat → Prop := fun q => (b ≤ q ∧ q < b + 431) ∨ sz ≤ q
theorem AA_ok {b sz K i : Nat} (h : okK K i) : AA b sz (adr b K i) := Or.inl (adr_bd h)
theorem AA_mono {b sz sz' : Nat} (h : sz ≤ sz') : ∀ q, AA b sz' q → AA b sz q := fun q hq => hq.elim Or.inl (fun z => Or.inr (Nat.le_trans h z))
def Wd (g : Gx) (b : Nat) (M : Mm) (U : State) : Prop := Rel g b M U.heap ∧ va_K g.1 vwCl (tysX g) U
abbrev qI (g : Gx) (b : Nat) (r : Int) (M : Mm) (sz : Nat) : Array Value → State → Outcome → State → Prop := va_Qi (fun (x : Int32) (_ : Unit) => x = jI r ∧ rg r) (fun _ t => Wd g b M t) (AA b sz)
abbrev qL (g : Gx) (b : Nat) (r : Int64) (M : Mm) (sz : Nat) : Array Value → State → Outcome → State → Prop := va_Ql (fun (x : Int64) (_ : Unit) => x = r) (fun _ t => Wd g b M t) (AA b sz)
abbrev qD (g : Gx) (b : Nat) (r : UInt64) (M : Mm) (sz : Nat) : Array Value → State → Outcome → State → Prop := va_Qd (fun (x : UInt64) (_ : Unit) => x = r) (fun _ t => Wd g b M t) (AA b sz)
abbrev qV (g : Gx) (b : Nat) (M : Mm) (sz : Nat) : Array Value → State → Outcome → State → Prop := va_Qv (fun (_ : Unit) => True) (fun _ t => Wd g b M t) (AA b sz)
abbrev qR (g : Gx) (b K : Nat) (r : Nat) (M : Mm) (sz : Nat) : Array Value → State → Outcome → State → Prop := va_Qr (fun (_ : Unit) => okK K r) (fun _ a t => a = adr b K r ∧ Wd g b M t) (AA b sz)
/-- a contract: method y, over the memory M -/
def Ct (l : Launch) (y : MethodName) (bytes : ByteArray) (maxL : Nat) (ret : Option FieldType) (rm : Room) (g : Gx) (b : Nat) (av : List Value) (M : Mm) (Qf : Nat → Array Value → State → Outcome → State → Prop) : Prop :=
  ∀ sz : Nat, Met l y (Cond.code y bytes maxL ret :: wT) rm (va_Pc av (fun U => U.heap.size = sz ∧ Wd g b M U)) (Qf sz) 0 0 (AA b sz)
theorem Wd.moved {g : Gx} {b : Nat} {M : Mm} {U V : State} (hh : V.heap = U.heap) (hvm : U.vm.Alike V.vm) (h : Wd g b M U) : Wd g b M V := ⟨by rw [hh]; exact h.1, va_K.moved hvm h.2⟩
theorem ct_blind {g : Gx} {b : Nat} {M : Mm} {av : List Value} {sz : Nat} : FrameBlind (va_Pc av (fun U => U.heap.size = sz ∧ Wd g b M U)) :=
  fun a U fr mk q => by obtain ⟨q0, q1, q2⟩ := q; exact ⟨q0, q1, Wd.moved (U := U) (V := U.calling fr mk a) rfl (Vm.Alike.refl U.vm) q2⟩
def xk (P : Prop) [Decidable P] {α : Type} (k : Option α) : Option α := if P then k else none
theorem xk_some {P : Prop} [Decidable P] {α : Type} {k : Option α} {o : α} (h : xk P k = some o) : P ∧ k = some o := by
  unfold xk at h
  split at h
  · exact ⟨by assumption, h⟩
  · cases h
theorem xb_some {α β : Type} {x : Option α} {f : α → Option β} {o : β} (h : x.bind f = some o) : ∃ a, x = some a ∧ f a = some o := by
  cases x with
  | none => cases h
  | some a => exact ⟨a, rfl, h⟩
