/-! THE TWO AT THE START, ASKED: what each check says on both sides -/
theorem xt_n {k : Option Nat} : xt none k = k := rfl
theorem xt_s {e : Nat} {k : Option Nat} : xt (some e) k = some e := rfl
theorem xb1_s {α β : Type} {a : α} {f : α → Option β} : xb1 (some a) f = f a := rfl
theorem xb2_s {α γ β : Type} {a : α} {b : γ} {f : α → γ → Option β} : xb2 (some (a, b)) f = f a b := rfl
theorem xl_e {α β : Type} {a : α} {f : α → Option β} : xl a f = f a := rfl
theorem xk_t {P : Prop} [Decidable P] {α : Type} {k : Option α} (h : P) : xk P k = k := if_pos h
theorem t3_pow : T_X3_needPower M0 = none := rfl
theorem f3_pow : F_X3_needPower M0 = some () := rfl
theorem at_in {M : Mm} {o : Nat} {n : Int} (h : 0 ≤ n ∧ n < 32) : F_X2_at M o n = some (33 * o + n.toNat) := by
  unfold F_X2_at
  rw [if_neg (by omega), if_neg (by omega)]
  unfold xk
  rw [if_pos h]
theorem at_out {M : Mm} {o : Nat} {n : Int} (h : ¬ (0 ≤ n ∧ n < 32)) : F_X2_at M o n = some (33 * o + 32) := by
  unfold F_X2_at
  by_cases h0 : n < 0
  · rw [if_pos h0]
  · rw [if_neg h0, if_pos (by omega)]
theorem m0_sort {n : Nat} (h : n % 33 ≠ 0) : M0 2 n 0 = 0 := by
  unfold M0
  rw [if_pos rfl, if_neg (by omega)]
theorem m0_l : M0 0 0 0 = 0 := rfl
theorem at_sort {n : Int} (h : n ≠ 0) : ∃ y, F_X2_at M0 0 n = some y ∧ M0 2 y 0 = 0 := by
  by_cases q : 0 ≤ n ∧ n < 32
  · exact ⟨_, at_in q, m0_sort (by omega)⟩
  · exact ⟨_, at_out q, m0_sort (by omega)⟩
theorem t3_node {n : Int} (h : n ≠ 0) : T_X3_needNode M0 n = some 2 := by
  obtain ⟨y, h1, h2⟩ := at_sort h
  unfold T_X3_needNode xk xb1
  rw [if_pos (by decide), show ((M0 0 0 0).toNat) = 0 from rfl, h1]
  show (if M0 2 y 0 = 0 then _ else _) = _
  rw [if_pos h2]
theorem t3_node0 : T_X3_needNode M0 0 = none := rfl
theorem f3_node0 : F_X3_needNode M0 0 = some () := rfl
theorem t3_open {h : Int} : T_X3_needOpen M0 h = some 2 := by
  unfold T_X3_needOpen
  by_cases h0 : h < 0
  · rw [if_pos h0]
  · rw [if_neg h0]
    by_cases h1 : (6 : Int) ≤ h
    · rw [if_pos h1]
    · rw [if_neg h1]
      unfold xk
      rw [if_pos (by omega)]
      exact if_pos rfl
theorem t3_in {M : Mm} {v lo hi : Int} (h : lo ≤ v ∧ v ≤ hi) : T_X3_needRange M v lo hi = none := by
  unfold T_X3_needRange
  rw [if_neg (by omega), if_pos h.2]
theorem f3_in {M : Mm} {v lo hi : Int} (h : lo ≤ v ∧ v ≤ hi) : F_X3_needRange M v lo hi = some () := by
  unfold F_X3_needRange
  rw [if_neg (by omega), if_pos h.2]
theorem t3_inx {M : Mm} {v lo hi : Int} (h : ¬ (lo ≤ v ∧ v ≤ hi)) : T_X3_needRange M v lo hi = some 3 := by
  unfold T_X3_needRange
  by_cases h0 : v < lo
  · rw [if_pos h0]
  · rw [if_neg h0, if_neg (by omega)]
theorem mr12 : mup MR 0 0 12 0 = MR := by
  funext K i k
  unfold mup
  split
  · rename_i h
    obtain ⟨rfl, rfl, rfl⟩ := h
    rfl
  · rfl
theorem f4_off : F_X4_isOff MR = some (0, MR) := by
  unfold F_X4_isOff xl
  show (if (mup MR 0 0 12 0) 0 0 8 = 0 then some ((0 : Int), mup MR 0 0 12 0) else _) = _
  rw [mr12]
  exact if_pos rfl
theorem f4_ref {M : Mm} {k : Int} : F_X4_refuse M k = some (1, mup M 0 0 12 k) := rfl
theorem f4_in {M : Mm} {v lo hi : Int} (h : lo ≤ v ∧ v ≤ hi) : F_X4_isIn M v lo hi = some 1 := by
  unfold F_X4_isIn
  rw [if_neg (by omega), if_neg (by omega)]
theorem f4_inx {M : Mm} {v lo hi : Int} (h : ¬ (lo ≤ v ∧ v ≤ hi)) : F_X4_isIn M v lo hi = some 0 := by
  unfold F_X4_isIn
  by_cases h0 : v < lo
  · rw [if_pos h0]
  · rw [if_neg h0, if_pos (by omega)]
theorem f4_node0 : F_X4_isNode MR 0 = some 1 := rfl
theorem f4_node {n : Int} (h : n ≠ 0) : F_X4_isNode MR n = some 0 := by
  unfold F_X4_isNode
  by_cases q : 0 ≤ n ∧ n ≤ 31
  · rw [f4_in q, xb1_s, if_neg (by decide)]
    unfold xk
    rw [if_pos (by constructor <;> omega), if_pos (by omega)]
    have e : MR 1 0 ((0 : Int) + n).toNat = 0 := by
      unfold MR
      rw [if_neg (by decide), if_neg (by omega), if_pos (Or.inl ⟨rfl, rfl⟩), if_neg (by omega), if_neg (by omega)]
    rw [if_pos e]
  · rw [f4_inx q]
    rfl
theorem f4_open {h : Int} : F_X4_isOpen MR h = some 0 := by
  unfold F_X4_isOpen
  by_cases q : 0 ≤ h ∧ h ≤ 5
  · rw [f4_in q, xb1_s, if_neg (by decide)]
    unfold xk
    rw [if_pos (by omega)]
    have e : MR 4 0 h.toNat = -1 := by
      unfold MR
      rw [if_neg (by decide), if_pos ⟨rfl, rfl, by omega⟩]
    rw [e]
    rfl
  · rw [f4_inx q]
    rfl
theorem thr_k {M : Mm} {k : Int} : F_X4_thrown (mup M 0 0 12 k) = some k := rfl
theorem thr_0 : F_X4_thrown MR = some 0 := rfl
theorem mup12 {M : Mm} {k : Int} : (mup M 0 0 12 k) 0 0 12 = k := rfl
/-- what is to be shown of a call: both answer alike, or the class throws and the reference says so -/
def okI (F3 : Option (Int × Mm)) (T3 : Option Nat) (F4 : Option (Int × Mm)) (f : Nat → Int) : Prop :=
  (∃ r M' Mr', F3 = some (r, M') ∧ F4 = some (r, Mr') ∧ F_X4_thrown Mr' = some 0) ∨ ∃ E r Mr', T3 = some E ∧ F4 = some (r, Mr') ∧ F_X4_thrown Mr' = some (f E) ∧ f E ≠ 0
def okP (F3 : Option Int) (T3 : Option Nat) (F4 : Option (Int × Mm)) (f : Nat → Int) : Prop :=
  (∃ r Mr', F3 = some r ∧ F4 = some (r, Mr') ∧ F_X4_thrown Mr' = some 0) ∨ ∃ E r Mr', T3 = some E ∧ F4 = some (r, Mr') ∧ F_X4_thrown Mr' = some (f E) ∧ f E ≠ 0
def okV (F3 : Option Mm) (T3 : Option Nat) (F4 : Option Mm) (f : Nat → Int) : Prop :=
  (∃ M' Mr', F3 = some M' ∧ F4 = some Mr' ∧ F_X4_thrown Mr' = some 0) ∨ ∃ E Mr', T3 = some E ∧ F4 = some Mr' ∧ F_X4_thrown Mr' = some (f E) ∧ f E ≠ 0
def okU (F3 : Option Unit) (T3 : Option Nat) (F4 : Option Mm) (f : Nat → Int) : Prop :=
  (∃ Mr', F3 = some () ∧ F4 = some Mr' ∧ F_X4_thrown Mr' = some 0) ∨ ∃ E Mr', T3 = some E ∧ F4 = some Mr' ∧ F_X4_thrown Mr' = some (f E) ∧ f E ≠ 0
theorem okI.n {F3 : Option (Int × Mm)} {T3 : Option Nat} {F4 : Option (Int × Mm)} {f : Nat → Int} {r : Int} {M' Mr' : Mm} (h1 : F3 = some (r, M')) (h2 : F4 = some (r, Mr')) (h3 : F_X4_thrown Mr' = some 0) : okI F3 T3 F4 f := Or.inl ⟨r, M', Mr', h1, h2, h3⟩
theorem okP.n {F3 : Option Int} {T3 : Option Nat} {F4 : Option (Int × Mm)} {f : Nat → Int} {r : Int} {Mr' : Mm} (h1 : F3 = some r) (h2 : F4 = some (r, Mr')) (h3 : F_X4_thrown Mr' = some 0) : okP F3 T3 F4 f := Or.inl ⟨r, Mr', h1, h2, h3⟩
theorem okV.n {F3 : Option Mm} {T3 : Option Nat} {F4 : Option Mm} {f : Nat → Int} {M' Mr' : Mm} (h1 : F3 = some M') (h2 : F4 = some Mr') (h3 : F_X4_thrown Mr' = some 0) : okV F3 T3 F4 f := Or.inl ⟨M', Mr', h1, h2, h3⟩
theorem okU.n {F3 : Option Unit} {T3 : Option Nat} {F4 : Option Mm} {f : Nat → Int} {Mr' : Mm} (h1 : F3 = some ()) (h2 : F4 = some Mr') (h3 : F_X4_thrown Mr' = some 0) : okU F3 T3 F4 f := Or.inl ⟨Mr', h1, h2, h3⟩
theorem okI.t {F3 : Option (Int × Mm)} {T3 : Option Nat} {F4 : Option (Int × Mm)} {f : Nat → Int} {E : Nat} {r k : Int} {Mr' : Mm} (h1 : T3 = some E) (h2 : F4 = some (r, Mr')) (h3 : F_X4_thrown Mr' = some k) (h4 : k = f E) (h5 : f E ≠ 0) : okI F3 T3 F4 f := Or.inr ⟨E, r, Mr', h1, h2, h4 ▸ h3, h5⟩
theorem okP.t {F3 : Option Int} {T3 : Option Nat} {F4 : Option (Int × Mm)} {f : Nat → Int} {E : Nat} {r k : Int} {Mr' : Mm} (h1 : T3 = some E) (h2 : F4 = some (r, Mr')) (h3 : F_X4_thrown Mr' = some k) (h4 : k = f E) (h5 : f E ≠ 0) : okP F3 T3 F4 f := Or.inr ⟨E, r, Mr', h1, h2, h4 ▸ h3, h5⟩
theorem okV.t {F3 : Option Mm} {T3 : Option Nat} {F4 : Option Mm} {f : Nat → Int} {E : Nat} {k : Int} {Mr' : Mm} (h1 : T3 = some E) (h2 : F4 = some Mr') (h3 : F_X4_thrown Mr' = some k) (h4 : k = f E) (h5 : f E ≠ 0) : okV F3 T3 F4 f := Or.inr ⟨E, Mr', h1, h2, h4 ▸ h3, h5⟩
theorem okU.t {F3 : Option Unit} {T3 : Option Nat} {F4 : Option Mm} {f : Nat → Int} {E : Nat} {k : Int} {Mr' : Mm} (h1 : T3 = some E) (h2 : F4 = some Mr') (h3 : F_X4_thrown Mr' = some k) (h4 : k = f E) (h5 : f E ≠ 0) : okU F3 T3 F4 f := Or.inr ⟨E, Mr', h1, h2, h4 ▸ h3, h5⟩
/-- both answers, as the kernel reckons them -/
def ckI (F3 F4 : Option (Int × Mm)) : Bool := match F3, F4 with
  | some y, some z => decide (y.1 = z.1) && decide (F_X4_thrown z.2 = some 0)
  | _, _ => false
def ckP (F3 : Option Int) (F4 : Option (Int × Mm)) : Bool := match F3, F4 with
  | some y, some z => decide (y = z.1) && decide (F_X4_thrown z.2 = some 0)
  | _, _ => false
def ckV (F3 F4 : Option Mm) : Bool := match F3, F4 with
  | some _, some z => decide (F_X4_thrown z = some 0)
  | _, _ => false
theorem ckI.ok {F3 : Option (Int × Mm)} {T3 : Option Nat} {F4 : Option (Int × Mm)} {f : Nat → Int} (h : ckI F3 F4 = true) : okI F3 T3 F4 f := by
  match F3, F4, h with
  | some (a, M), some (b, N), h =>
    have h2 := Bool.and_eq_true_iff.mp h
    have e : a = b := of_decide_eq_true h2.1
    subst e
    exact Or.inl ⟨a, M, N, rfl, rfl, of_decide_eq_true h2.2⟩
  | none, _, h => exact Bool.noConfusion h
  | some _, none, h => exact Bool.noConfusion h
theorem ckP.ok {F3 : Option Int} {T3 : Option Nat} {F4 : Option (Int × Mm)} {f : Nat → Int} (h : ckP F3 F4 = true) : okP F3 T3 F4 f := by
  match F3, F4, h with
  | some a, some (b, N), h =>
    have h2 := Bool.and_eq_true_iff.mp h
    have e : a = b := of_decide_eq_true h2.1
    subst e
    exact Or.inl ⟨a, N, rfl, rfl, of_decide_eq_true h2.2⟩
  | none, _, h => exact Bool.noConfusion h
  | some _, none, h => exact Bool.noConfusion h
theorem ckV.ok {F3 : Option Mm} {T3 : Option Nat} {F4 : Option Mm} {f : Nat → Int} (h : ckV F3 F4 = true) : okV F3 T3 F4 f := by
  match F3, F4, h with
  | some M, some N, h => exact Or.inl ⟨M, N, rfl, rfl, of_decide_eq_true h⟩
  | none, _, h => exact Bool.noConfusion h
  | some _, none, h => exact Bool.noConfusion h
/-- a number between two bounds is the lower one and so many more -/
theorem in_nat {v lo hi : Int} {n : Nat} (h : lo ≤ v ∧ v ≤ hi) (hn : hi - lo < n) : ∃ i : Nat, i < n ∧ v = lo + (i : Int) := ⟨(v - lo).toNat, by omega, by omega⟩
