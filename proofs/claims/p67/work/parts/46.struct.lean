/-! THE STRUCTURE: nodes, names, parents -/
def LkE (M : Mm) (o n : Nat) : Prop := M 2 (33 * o + n) 2 = lnk M o n ∧ (M 2 (33 * o + n) 0 = 0 → M 2 (33 * o + n) 2 = 0)
/-- as many names as the sort asks for -/
def LkC (M : Mm) (o n : Nat) : Prop := (n ≠ 0 → M 2 (33 * o + n) 0 = 2 → M 2 (33 * o + n) 2 = 1) ∧ (M 2 (33 * o + n) 0 = 3 → 1 ≤ M 2 (33 * o + n) 2)
/-- all of G1 but how many names a node has -/
def SE (M : Mm) (o : Nat) : Prop :=
  (M 2 (33 * o) 0 = 2 ∧ M 2 (33 * o) 2 = 0) ∧ (∀ n, n < 32 → Rgs M (33 * o + n)) ∧ (∀ n, n < 32 → Ents M (33 * o + n)) ∧ (∀ n, n < 32 → LkE M o n) ∧ (∀ n, n < 32 → Ins M o n) ∧ (∀ n, n < 32 → M 2 (33 * o + n) 0 = 2 → ∃ j, upN M o j n = 0)
theorem G1.se {M : Mm} {o : Nat} (g : G1 M o) : SE M o := ⟨g.1, g.2.1, g.2.2.1, fun n hn => ⟨(g.2.2.2.1 n hn).1, (g.2.2.2.1 n hn).2.2.2⟩, g.2.2.2.2.1, g.2.2.2.2.2⟩
theorem G1.lc {M : Mm} {o n : Nat} (g : G1 M o) (hn : n < 32) : LkC M o n := ⟨(g.2.2.2.1 n hn).2.1, (g.2.2.2.1 n hn).2.2.1⟩
theorem SE.g1 {M : Mm} {o : Nat} (g : SE M o) (h : ∀ n, n < 32 → LkC M o n) : G1 M o := ⟨g.1, g.2.1, g.2.2.1, fun n hn => ⟨(g.2.2.2.1 n hn).1, (h n hn).1, (h n hn).2, (g.2.2.2.1 n hn).2⟩, g.2.2.2.2.1, g.2.2.2.2.2⟩
theorem SE.er {M : Mm} {o : Nat} (g : SE M o) : Er M o := fun n hn => (g.2.2.1 n hn).1
theorem SE.rg {M : Mm} {o n : Nat} (g : SE M o) (hn : n < 32) : Rgs M (33 * o + n) := g.2.1 n hn
theorem SE.en {M : Mm} {o n : Nat} (g : SE M o) (hn : n < 32) : Ents M (33 * o + n) := g.2.2.1 n hn
theorem SE.lk {M : Mm} {o n : Nat} (g : SE M o) (hn : n < 32) : LkE M o n := g.2.2.2.1 n hn
theorem SE.is {M : Mm} {o n : Nat} (g : SE M o) (hn : n < 32) : Ins M o n := g.2.2.2.2.1 n hn
theorem SE.up {M : Mm} {o n : Nat} (g : SE M o) (hn : n < 32) (hs : M 2 (33 * o + n) 0 = 2) : ∃ j, upN M o j n = 0 := g.2.2.2.2.2 n hn hs
/-- where parents go is in the tree -/
def Pr (M : Mm) (o : Nat) : Prop := ∀ n, n < 32 → 0 ≤ M 2 (33 * o + n) 4 ∧ M 2 (33 * o + n) 4 ≤ 31
theorem SE.pr {M : Mm} {o : Nat} (g : SE M o) : Pr M o := fun n hn => (g.rg hn).2.2.2.1
theorem upN_lt {M : Mm} {o : Nat} (h : Pr M o) : ∀ (j n : Nat), n < 32 → upN M o j n < 32
  | 0, n, hn => hn
  | j + 1, n, hn => upN_lt h j _ (by have := h n hn; omega)
theorem acyc_upd {M M' : Mm} {o : Nat} {P : Nat → Prop} (hr : Pr M o) (hp : ∀ n, n < 32 → ¬ P n → M' 2 (33 * o + n) 4 = M 2 (33 * o + n) 4) (hP : ∀ n, n < 32 → P n → ∃ j, upN M' o j n = 0) : ∀ (j n : Nat), n < 32 → upN M o j n = 0 → ∃ j', upN M' o j' n = 0
  | 0, n, hn, h => ⟨0, h⟩
  | j + 1, n, hn, h => by
    by_cases q : P n
    · exact hP n hn q
    · obtain ⟨j', h'⟩ := acyc_upd hr hp hP j (M 2 (33 * o + n) 4).toNat (by have := hr n hn; omega) h
      refine ⟨j' + 1, ?_⟩
      show upN M' o j' (M' 2 (33 * o + n) 4).toNat = 0
      rw [hp n hn q]
      exact h'
theorem upN_same {M M' : Mm} {o : Nat} {P : Nat → Prop} (hr : Pr M o) (hp : ∀ n, n < 32 → ¬ P n → M' 2 (33 * o + n) 4 = M 2 (33 * o + n) 4) : ∀ (j n : Nat), n < 32 → (∀ i, i < j → ¬ P (upN M o i n)) → upN M' o j n = upN M o j n
  | 0, n, hn, h => rfl
  | j + 1, n, hn, h => by
    show upN M' o j (M' 2 (33 * o + n) 4).toNat = upN M o j (M 2 (33 * o + n) 4).toNat
    rw [hp n hn (h 0 (by omega))]
    exact upN_same hr hp j _ (by have := hr n hn; omega) (fun i hi => h (i + 1) (by omega))
/-- the way up from f comes to the first node, and not over x -/
def AC (M : Mm) (o f x : Nat) : Prop := ∃ j, upN M o j f = 0 ∧ ∀ i, i ≤ j → upN M o i f ≠ x
theorem AC.to {M M' : Mm} {o f x : Nat} (h : AC M o f x) (hr : Pr M o) (hf : f < 32) (hp : ∀ n, n < 32 → n ≠ x → M' 2 (33 * o + n) 4 = M 2 (33 * o + n) 4) : ∃ j, upN M' o j f = 0 := by
  obtain ⟨j, h1, h2⟩ := h
  exact ⟨j, (upN_same (P := fun n => n = x) hr hp j f hf (fun i hi => h2 i (by omega))).trans h1⟩
/-- y's parent is the first node now -/
theorem AC.drop {M M' : Mm} {o x y : Nat} (hr : Pr M o) (hp : ∀ n, n < 32 → n ≠ y → M' 2 (33 * o + n) 4 = M 2 (33 * o + n) 4) (h0 : M' 2 (33 * o + y) 4 = 0) (hx0 : x ≠ 0) : ∀ (j f : Nat), f < 32 → upN M o j f = 0 → (∀ i, i ≤ j → upN M o i f ≠ x) → AC M' o f x
  | 0, f, hf, h1, h2 => ⟨0, h1, fun i hi => by
    rw [show i = 0 by omega]
    exact h2 0 (Nat.le_refl 0)⟩
  | j + 1, f, hf, h1, h2 => by
    have hfx : f ≠ x := h2 0 (by omega)
    by_cases q : f = y
    · subst q
      refine ⟨1, ?_, fun i hi => ?_⟩
      · show (M' 2 (33 * o + f) 4).toNat = 0
        rw [h0]
        rfl
      · rcases (show i = 0 ∨ i = 1 by omega) with rfl | rfl
        · exact hfx
        · show (M' 2 (33 * o + f) 4).toNat ≠ x
          rw [h0]
          exact fun z => hx0 z.symm
    · obtain ⟨k, k1, k2⟩ := AC.drop hr hp h0 hx0 j (M 2 (33 * o + f) 4).toNat (by have := hr f hf; omega) h1 (fun i hi => h2 (i + 1) (by omega))
      refine ⟨k + 1, ?_, fun i hi => ?_⟩
      · show upN M' o k (M' 2 (33 * o + f) 4).toNat = 0
        rw [hp f hf q]
        exact k1
      · rcases i with _ | i
        · exact hfx
        · show upN M' o i (M' 2 (33 * o + f) 4).toNat ≠ x
          rw [hp f hf q]
          exact k2 i (by omega)
/-- parents stay: the way stays -/
theorem AC.same {M M' : Mm} {o f x : Nat} (h : AC M o f x) (hr : Pr M o) (hf : f < 32) (hp : ∀ n, n < 32 → M' 2 (33 * o + n) 4 = M 2 (33 * o + n) 4) : AC M' o f x := by
  obtain ⟨j, h1, h2⟩ := h
  have e : ∀ i, upN M' o i f = upN M o i f := fun i => upN_same (P := fun _ => False) hr (fun n hn _ => hp n hn) i f hf (fun _ _ => id)
  exact ⟨j, (e j).trans h1, fun i hi => by rw [e]; exact h2 i hi⟩
theorem Ents.ag {M M' : Mm} {i : Nat} (g : Ents M i) (h8 : M' 2 i 8 = M 2 i 8) (h3 : ∀ k, k < 12 → M' 3 i k = M 3 i k) (h4 : ∀ k, k < 12 → M' 4 i k = M 4 i k) : Ents M' i := by
  obtain ⟨e1, e2, e3⟩ := g
  unfold Ents
  rw [h8]
  refine ⟨e1, fun k hk => ?_, fun k hk => ?_⟩
  · rw [h3 k (by omega), h4 k (by omega)]
    exact e2 k hk
  · rw [h3 k (by omega), h3 (k + 1) (by omega)]
    exact e3 k hk
theorem InsC.to {M M1 M2 : Mm} {i s e : Nat} {a x : Int} (h : InsC M M1 i s a x e) (h8 : M2 2 i 8 = M1 2 i 8) (h3 : ∀ k, M2 3 i k = M1 3 i k) (h4 : ∀ k, M2 4 i k = M1 4 i k) : InsC M M2 i s a x e := by
  obtain ⟨a1, a2, a3, a4, a5⟩ := h
  refine ⟨h8.trans a1, fun k hk => ?_, ?_, fun k k1 k2 => ?_, a5⟩
  · rw [h3, h4]
    exact a2 k hk
  · rw [h3, h4]
    exact a3
  · rw [h3, h4]
    exact a4 k k1 k2
theorem TakC.to {M M1 M2 : Mm} {i q e : Nat} (h : TakC M M1 i q e) (h8 : M2 2 i 8 = M1 2 i 8) (h3 : ∀ k, M2 3 i k = M1 3 i k) (h4 : ∀ k, M2 4 i k = M1 4 i k) : TakC M M2 i q e := by
  obtain ⟨a1, a2, a3⟩ := h
  refine ⟨h8.trans a1, fun k hk => ?_, fun k k1 k2 => ?_⟩
  · rw [h3, h4]
    exact a2 k hk
  · rw [h3, h4]
    exact a3 k k1 k2
/-- the cells that a road over the names of f and the node x may write -/
def Sf (M M' : Mm) (f x : Nat) : Prop := ∀ K j k : Nat, ¬ (K = 3 ∧ j = f) → ¬ (K = 4 ∧ j = f) → ¬ (K = 2 ∧ j = f ∧ k = 8) → ¬ (K = 2 ∧ j = x ∧ k = 2) → ¬ (K = 2 ∧ j = x ∧ k = 4) → M' K j k = M K j k
theorem Sf.fr {M M' : Mm} {o f x : Nat} (h : Sf M M' (33 * o + f) (33 * o + x)) (hf : f < 32) (hx : x < 32) : Fr M M' o := fun K j k hk => h K j k (by omega) (by omega) (by omega) (by omega) (by omega)
theorem Sf.ag2 {M M' : Mm} {o f x : Nat} (h : Sf M M' f x) : Ag2 M M' o o := ⟨fun n hn => ⟨h 2 _ _ (by omega) (by omega) (by omega) (by omega) (by omega), h 2 _ _ (by omega) (by omega) (by omega) (by omega) (by omega), fun k _ => h 5 _ _ (by omega) (by omega) (by omega) (by omega) (by omega)⟩, fun k _ => h 8 _ _ (by omega) (by omega) (by omega) (by omega) (by omega)⟩
theorem Sf.ag3 {M M' : Mm} {o f x : Nat} (h : Sf M M' f x) : Ag3 M M' o o := fun k _ => h 6 _ _ (by omega) (by omega) (by omega) (by omega) (by omega)
/-- a name more: what attach leaves -/
def AttE (M M' : Mm) (o f x : Nat) (a : Int) : Prop := (∃ s e : Nat, M 2 (33 * o + f) 8 = e ∧ e < 12 ∧ InsC M M' (33 * o + f) s a x e) ∧ M' 2 (33 * o + x) 2 = M 2 (33 * o + x) 2 + 1 ∧ (M 2 (33 * o + x) 0 = 2 → M' 2 (33 * o + x) 4 = f) ∧ (M 2 (33 * o + x) 0 ≠ 2 → M' 2 (33 * o + x) 4 = M 2 (33 * o + x) 4) ∧ Sf M M' (33 * o + f) (33 * o + x)
theorem attach_e {M : Mm} {o f x : Nat} {a : Int} (hf : f < 32) (hx : x < 32) (he : 0 ≤ M 2 (33 * o + f) 8 ∧ M 2 (33 * o + f) 8 < 12) (hl : 0 ≤ M 2 (33 * o + x) 2 ∧ M 2 (33 * o + x) 2 ≤ 6) : ∃ M', F_X2_attach M o (f : Int) a (x : Int) = some M' ∧ AttE M M' o f x a := by
  obtain ⟨e, h8⟩ : ∃ e : Nat, M 2 (33 * o + f) 8 = e := ⟨(M 2 (33 * o + f) 8).toNat, by omega⟩
  obtain ⟨M1, s, e1, c1, n1⟩ := insert_ok (M := M) (i := 33 * o + f) (e := e) (a := a) (x := (x : Int)) (by omega) h8
  have l1 : M1 2 (33 * o + x) 2 = M 2 (33 * o + x) 2 := n1 2 _ _ (by omega) (by omega) (by omega)
  unfold F_X2_attach
  rw [at_ok hf, xb1_s, e1, xb1_s, at_ok hx, xb1_s, l1, xk_t (rgk (by omega)), xl_e]
  have f2 : ∀ K j k : Nat, ¬ (K = 2 ∧ j = 33 * o + x ∧ k = 2) → mup M1 2 (33 * o + x) 2 (M 2 (33 * o + x) 2 + 1) K j k = M1 K j k := fun K j k h => mup_off h
  have a2 : mup M1 2 (33 * o + x) 2 (M 2 (33 * o + x) 2 + 1) 2 (33 * o + x) 2 = M 2 (33 * o + x) 2 + 1 := mup_at
  generalize mup M1 2 (33 * o + x) 2 (M 2 (33 * o + x) 2 + 1) = M2 at f2 a2
  have s2 : M2 2 (33 * o + x) 0 = M 2 (33 * o + x) 0 := (f2 2 _ _ (by omega)).trans (n1 2 _ _ (by omega) (by omega) (by omega))
  rw [s2]
  by_cases q : M 2 (33 * o + x) 0 = 2
  · rw [if_pos q, xl_e]
    have f3 : ∀ K j k : Nat, ¬ (K = 2 ∧ j = 33 * o + x ∧ k = 4) → mup M2 2 (33 * o + x) 4 (f : Int) K j k = M2 K j k := fun K j k h => mup_off h
    have a3 : mup M2 2 (33 * o + x) 4 (f : Int) 2 (33 * o + x) 4 = f := mup_at
    generalize mup M2 2 (33 * o + x) 4 (f : Int) = M3 at f3 a3
    refine ⟨M3, rfl, ⟨s, e, h8, by omega, c1.to ?_ (fun k => ?_) (fun k => ?_)⟩, ?_, fun _ => a3, fun h => absurd q h, fun K j k h1 h2 h3 h4 h5 => ?_⟩
    · rw [f3 2 _ _ (by omega), f2 2 _ _ (by omega)]
    · rw [f3 3 _ _ (by omega), f2 3 _ _ (by omega)]
    · rw [f3 4 _ _ (by omega), f2 4 _ _ (by omega)]
    · rw [f3 2 _ _ (by omega), a2]
    · rw [f3 K j k h5, f2 K j k h4, n1 K j k h1 h2 h3]
  · rw [if_neg q]
    refine ⟨M2, rfl, ⟨s, e, h8, by omega, c1.to ?_ (fun k => ?_) (fun k => ?_)⟩, a2, fun h => absurd h q, fun _ => ?_, fun K j k h1 h2 h3 h4 h5 => ?_⟩
    · rw [f2 2 _ _ (by omega)]
    · rw [f2 3 _ _ (by omega)]
    · rw [f2 4 _ _ (by omega)]
    · rw [f2 2 _ _ (by omega), n1 2 _ _ (by omega) (by omega) (by omega)]
    · rw [f2 K j k h4, n1 K j k h1 h2 h3]
theorem AttE.se {M M' : Mm} {o f x : Nat} {a : Int} (h : AttE M M' o f x a) (g : SE M o) (hf : f < 32) (sf : M 2 (33 * o + f) 0 = 2) (ha : 1 ≤ a ∧ a ≤ 99) (hna : ∀ q : Nat, (q : Int) < M 2 (33 * o + f) 8 → M 3 (33 * o + f) q ≠ a) (hx : 1 ≤ x ∧ x < 32) (sx : M 2 (33 * o + x) 0 ≠ 0) (lx : M 2 (33 * o + x) 2 ≤ 5) (hfo : M 2 (33 * o + x) 0 = 2 → M 2 (33 * o + x) 2 = 0 ∧ AC M o f x) : SE M' o := by
  obtain ⟨⟨s, e, h8, he, c⟩, hl, hp, hp2, fr⟩ := h
  have hfx : f ≠ x := fun z => by
    subst z
    obtain ⟨-, j, -, h2⟩ := hfo sf
    exact h2 0 (Nat.zero_le j) rfl
  have k0 : ∀ n k, n < 32 → k ≠ 2 → k ≠ 4 → k ≠ 8 → M' 2 (33 * o + n) k = M 2 (33 * o + n) k := fun n k hn h2 h4 h8 => fr 2 _ _ (by omega) (by omega) (by omega) (by omega) (by omega)
  have kn : ∀ n k, n < 32 → n ≠ x → k ≠ 8 → M' 2 (33 * o + n) k = M 2 (33 * o + n) k := fun n k hn h2 h8 => fr 2 _ _ (by omega) (by omega) (by omega) (by omega) (by omega)
  have k8 : ∀ n, n < 32 → n ≠ f → M' 2 (33 * o + n) 8 = M 2 (33 * o + n) 8 := fun n hn h => fr 2 _ _ (by omega) (by omega) (by omega) (by omega) (by omega)
  have k34 : ∀ n k, n < 32 → n ≠ f → M' 3 (33 * o + n) k = M 3 (33 * o + n) k ∧ M' 4 (33 * o + n) k = M 4 (33 * o + n) k := fun n k hn h => ⟨fr 3 _ _ (by omega) (by omega) (by omega) (by omega) (by omega), fr 4 _ _ (by omega) (by omega) (by omega) (by omega) (by omega)⟩
  have lnkE : ∀ z : Int, lnk M' o z = lnk M o z + if (x : Int) = z then 1 else 0 := fun z => by
    rw [lnk_upd hf (fun n hn hnf => occ_same (k8 n hn hnf) (fun k _ => (k34 n k hn hnf).2)), c.occE he h8 z]
    omega
  have hx1 : 1 ≤ (x : Int) ∧ (x : Int) ≤ 31 := by omega
  have listed : ∀ n k : Nat, n < 32 → (k : Int) < M' 2 (33 * o + n) 8 → (n = f ∧ M' 4 (33 * o + n) k = x) ∨ ∃ j : Nat, (j : Int) < M 2 (33 * o + n) 8 ∧ M' 4 (33 * o + n) k = M 4 (33 * o + n) j := by
    intro n k hn hk
    by_cases z : n = f
    · subst z
      rcases c.old hk with ⟨-, e2⟩ | ⟨j, j1, -, e2⟩
      · exact Or.inl ⟨rfl, e2⟩
      · exact Or.inr ⟨j, by omega, e2⟩
    · rw [k8 n hn z] at hk
      exact Or.inr ⟨k, hk, (k34 n k hn z).2⟩
  refine ⟨?_, fun n hn => ?_, fun n hn => ?_, fun n hn => ?_, fun n hn k hk => ?_, fun n hn hs => ?_⟩
  · have a0 := kn 0 0 (by omega) (by omega) (by omega)
    have a2 := kn 0 2 (by omega) (by omega) (by omega)
    rw [Nat.add_zero] at a0 a2
    rw [a0, a2]
    exact g.1
  · obtain ⟨r0, r1, r2, r4, r5, r8⟩ := g.rg hn
    unfold Rgs
    rw [k0 n 0 hn (by omega) (by omega) (by omega), k0 n 1 hn (by omega) (by omega) (by omega), k0 n 5 hn (by omega) (by omega) (by omega)]
    refine ⟨r0, r1, ?_, ?_, r5, fun h => ?_⟩
    · by_cases z : n = x
      · subst z
        rw [hl]
        omega
      · rw [kn n 2 hn z (by omega)]
        exact r2
    · by_cases z : n = x
      · subst z
        by_cases y : M 2 (33 * o + n) 0 = 2
        · rw [hp y]
          omega
        · rw [hp2 y]
          exact r4
      · rw [kn n 4 hn z (by omega)]
        exact r4
    · by_cases z : n = f
      · subst z
        exact absurd sf h
      · rw [k8 n hn z]
        exact r8 h
  · by_cases z : n = f
    · subst z
      exact c.ents (g.en hn) he h8 ha hx1 hna
    · exact (g.en hn).ag (k8 n hn z) (fun k _ => (k34 n k hn z).1) (fun k _ => (k34 n k hn z).2)
  · obtain ⟨l1, l2⟩ := g.lk hn
    unfold LkE
    rw [lnkE, k0 n 0 hn (by omega) (by omega) (by omega)]
    by_cases z : n = x
    · subst z
      rw [if_pos rfl, hl]
      exact ⟨by omega, fun h => absurd h sx⟩
    · rw [if_neg (by omega), kn n 2 hn z (by omega)]
      exact ⟨by omega, l2⟩
  · rcases listed n k hn hk with ⟨e1, e2⟩ | ⟨j, j1, e2⟩
    · rw [e2, Int.toNat_natCast, k0 x 0 hx.2 (by omega) (by omega) (by omega), e1]
      exact ⟨sx, hp⟩
    · have jr := (g.en hn).2.1 j j1
      obtain ⟨i1, i2⟩ := g.is hn j j1
      rw [e2, k0 _ 0 (by omega) (by omega) (by omega) (by omega)]
      refine ⟨i1, fun h => ?_⟩
      have hne : (M 4 (33 * o + n) j).toNat ≠ x := fun z => by
        rw [z] at h
        have y := (hfo h).1
        have w := lnk_pos g.er hn j1
        have v := (g.lk hx.2).1
        rw [show M 4 (33 * o + n) j = (x : Int) by omega] at w
        omega
      rw [kn _ 4 (by omega) hne (by omega)]
      exact i2 h
  · rw [k0 n 0 hn (by omega) (by omega) (by omega)] at hs
    obtain ⟨j, hj⟩ := g.up hn hs
    refine acyc_upd (P := fun n => n = x ∧ M 2 (33 * o + x) 0 = 2) g.pr (fun n hn z => ?_) (fun n hn z => ?_) j n hn hj
    · by_cases w : n = x
      · subst w
        exact hp2 (fun y => z ⟨rfl, y⟩)
      · exact kn n 4 hn w (by omega)
    · obtain ⟨z1, y⟩ := z
      subst z1
      obtain ⟨i, hi⟩ := (hfo y).2.to (M' := M') g.pr hf (fun m hm hz => kn m 4 hm hz (by omega))
      refine ⟨i + 1, ?_⟩
      show upN M' o i (M' 2 (33 * o + n) 4).toNat = 0
      rw [hp y, Int.toNat_natCast]
      exact hi
/-- a road inside the tree o that keeps its quotas and its count -/
def Fx (M M' : Mm) (o : Nat) : Prop := ∀ K i k : Nat, ¬ (2 ≤ K ∧ K ≤ 5 ∧ 33 * o ≤ i ∧ i < 33 * o + 33) → ¬ ((K = 7 ∨ K = 8) ∧ i = o) → M' K i k = M K i k
theorem Fx.refl {M : Mm} {o : Nat} : Fx M M o := fun _ _ _ _ _ => rfl
theorem Fx.trans {M M1 M2 : Mm} {o : Nat} (h : Fx M M1 o) (h2 : Fx M1 M2 o) : Fx M M2 o := fun K i k a b => (h2 K i k a b).trans (h K i k a b)
theorem Fx.fr {M M' : Mm} {o : Nat} (h : Fx M M' o) : Fr M M' o := fun K i k hk => h K i k (by omega) (by omega)
theorem Fx.ag3 {M M' : Mm} {o : Nat} (h : Fx M M' o) : Ag3 M M' o o := fun k _ => h 6 _ _ (by omega) (by omega)
theorem Fx.made {M M' : Mm} {o : Nat} (h : Fx M M' o) : M' 1 o 5 = M 1 o 5 := h 1 _ _ (by omega) (by omega)
theorem Bs.fx {M M' : Mm} {o n : Nat} (h : Bs M M' o (33 * o + n)) (hn : n < 32) : Fx M M' o := fun K j k a b => h K j k (by omega) (by omega) (by omega) (by omega)
theorem DropE.fx {M M' : Mm} {o n : Nat} (h : DropE M M' o n) (hn : n < 32) : Fx M M' o := fun K j k a b => h.2.2.2 K j k (by omega) (by omega) (by omega)
theorem Sf.fx {M M' : Mm} {o f x : Nat} (h : Sf M M' (33 * o + f) (33 * o + x)) (hf : f < 32) (hx : x < 32) : Fx M M' o := fun K j k a b => h K j k (by omega) (by omega) (by omega) (by omega) (by omega)
/-- a name fewer -/
def DetE (M M' : Mm) (o f q x : Nat) : Prop := (∃ e : Nat, M 2 (33 * o + f) 8 = e ∧ e ≤ 12 ∧ q < e ∧ TakC M M' (33 * o + f) q e) ∧ M 4 (33 * o + f) q = x ∧ M' 2 (33 * o + x) 2 = M 2 (33 * o + x) 2 - 1 ∧ ∀ K j k : Nat, ¬ (K = 3 ∧ j = 33 * o + f) → ¬ (K = 4 ∧ j = 33 * o + f) → ¬ (K = 2 ∧ j = 33 * o + f ∧ k = 8) → ¬ (K = 2 ∧ j = 33 * o + x ∧ k = 2) → M' K j k = M K j k
theorem detach_e {M : Mm} {o f q x : Nat} {a : Int} (hf : f < 32) (hx : x < 32) (he : 0 ≤ M 2 (33 * o + f) 8 ∧ M 2 (33 * o + f) 8 ≤ 12) (hq : (q : Int) < M 2 (33 * o + f) 8) (hs : F_X1_slotOf M (33 * o + f) a = some (q : Int)) (h4 : M 4 (33 * o + f) q = x) (hl : 0 ≤ M 2 (33 * o + x) 2 ∧ M 2 (33 * o + x) 2 ≤ 6) : ∃ M', F_X2_detach M o (f : Int) a = some ((x : Int), M') ∧ DetE M M' o f q x := by
  obtain ⟨e, h8⟩ : ∃ e : Nat, M 2 (33 * o + f) 8 = e := ⟨(M 2 (33 * o + f) 8).toNat, by omega⟩
  obtain ⟨M1, e1, c1, n1⟩ := takeOut_ok (M := M) (i := 33 * o + f) (e := e) (q := q) (by omega) h8 (by omega)
  have l1 : M1 2 (33 * o + x) 2 = M 2 (33 * o + x) 2 := n1 2 _ _ (by omega) (by omega) (by omega)
  unfold F_X2_detach
  rw [at_ok hf, xb1_s, hs, xb1_s, nodeIn_ok he hq, xb1_s, h4, if_neg (by omega), e1, xb1_s, at_ok hx, xb1_s, l1, xk_t (rgk (by omega)), xl_e]
  have f2 : ∀ K j k : Nat, ¬ (K = 2 ∧ j = 33 * o + x ∧ k = 2) → mup M1 2 (33 * o + x) 2 (M 2 (33 * o + x) 2 - 1) K j k = M1 K j k := fun K j k h => mup_off h
  have a2 : mup M1 2 (33 * o + x) 2 (M 2 (33 * o + x) 2 - 1) 2 (33 * o + x) 2 = M 2 (33 * o + x) 2 - 1 := mup_at
  generalize mup M1 2 (33 * o + x) 2 (M 2 (33 * o + x) 2 - 1) = M2 at f2 a2
  refine ⟨M2, rfl, ⟨e, h8, by omega, by omega, c1.to ?_ (fun k => ?_) (fun k => ?_)⟩, h4, a2, fun K j k h1 h2 h3 h4 => ?_⟩
  · rw [f2 2 _ _ (by omega)]
  · rw [f2 3 _ _ (by omega)]
  · rw [f2 4 _ _ (by omega)]
  · rw [f2 K j k h4, n1 K j k h1 h2 h3]
theorem DetE.fx {M M' : Mm} {o f q x : Nat} (h : DetE M M' o f q x) (hf : f < 32) (hx : x < 32) : Fx M M' o := fun K j k a b => h.2.2.2 K j k (by omega) (by omega) (by omega) (by omega)
theorem DetE.ag2 {M M' : Mm} {o f q x : Nat} (h : DetE M M' o f q x) : Ag2 M M' o o := ⟨fun n hn => ⟨h.2.2.2 2 _ _ (by omega) (by omega) (by omega) (by omega), h.2.2.2 2 _ _ (by omega) (by omega) (by omega) (by omega), fun k _ => h.2.2.2 5 _ _ (by omega) (by omega) (by omega) (by omega)⟩, fun k _ => h.2.2.2 8 _ _ (by omega) (by omega) (by omega) (by omega)⟩
theorem DetE.k {M M' : Mm} {o f q x : Nat} (h : DetE M M' o f q x) {n k : Nat} (h2 : ¬ (n = x ∧ k = 2)) (h8 : ¬ (n = f ∧ k = 8)) : M' 2 (33 * o + n) k = M 2 (33 * o + n) k := h.2.2.2 2 _ _ (by omega) (by omega) (by omega) (by omega)
theorem DetE.k34 {M M' : Mm} {o f q x : Nat} (h : DetE M M' o f q x) {n k : Nat} (hn : n ≠ f) : M' 3 (33 * o + n) k = M 3 (33 * o + n) k ∧ M' 4 (33 * o + n) k = M 4 (33 * o + n) k := ⟨h.2.2.2 3 _ _ (by omega) (by omega) (by omega) (by omega), h.2.2.2 4 _ _ (by omega) (by omega) (by omega) (by omega)⟩
theorem DetE.listed {M M' : Mm} {o f q x : Nat} (h : DetE M M' o f q x) {n k : Nat} (hk : (k : Int) < M' 2 (33 * o + n) 8) : ∃ j : Nat, (j : Int) < M 2 (33 * o + n) 8 ∧ ¬ (n = f ∧ j = q) ∧ M' 3 (33 * o + n) k = M 3 (33 * o + n) j ∧ M' 4 (33 * o + n) k = M 4 (33 * o + n) j := by
  by_cases z : n = f
  · subst z
    obtain ⟨⟨e, h8, -, -, c⟩, -⟩ := h
    obtain ⟨j, j1, j2, e3, e4⟩ := c.old hk
    exact ⟨j, by omega, fun y => j2 y.2, e3, e4⟩
  · have hh := h.k34 (k := k) z
    rw [h.k (n := n) (k := 8) (by omega) (by omega)] at hk
    exact ⟨k, hk, fun y => z y.1, hh.1, hh.2⟩
theorem DetE.se {M M' : Mm} {o f q x : Nat} (h : DetE M M' o f q x) (g : SE M o) (hf : f < 32) (hx : x < 32) : SE M' o := by
  have hh := h
  obtain ⟨⟨e, h8, e12, hq, c⟩, h4, hl, fr⟩ := h
  have xr := (g.en hf).2.1 q (by omega)
  have sx := (g.is hf q (by omega)).1
  have lp := lnk_pos g.er hf (show (q : Int) < M 2 (33 * o + f) 8 by omega)
  rw [h4] at xr lp
  rw [h4, Int.toNat_natCast] at sx
  have lnkE : ∀ z : Int, lnk M' o z = lnk M o z - if (x : Int) = z then 1 else 0 := fun z => by
    rw [lnk_upd hf (fun n hn hnf => occ_same (hh.k (by omega) (by omega)) (fun k _ => (hh.k34 hnf).2)), c.occE e12 hq h8 z, h4]
    omega
  refine ⟨?_, fun n hn => ?_, fun n hn => ?_, fun n hn => ?_, fun n hn k hk => ?_, fun n hn hs => ?_⟩
  · have a0 := hh.k (n := 0) (k := 0) (by omega) (by omega)
    have a2 := hh.k (n := 0) (k := 2) (by omega) (by omega)
    rw [Nat.add_zero] at a0 a2
    rw [a0, a2]
    exact g.1
  · obtain ⟨r0, r1, r2, r4, r5, r8⟩ := g.rg hn
    unfold Rgs
    rw [hh.k (n := n) (k := 0) (by omega) (by omega), hh.k (n := n) (k := 1) (by omega) (by omega), hh.k (n := n) (k := 4) (by omega) (by omega), hh.k (n := n) (k := 5) (by omega) (by omega)]
    refine ⟨r0, r1, ?_, r4, r5, fun h => ?_⟩
    · by_cases z : n = x
      · subst z
        have v := (g.lk hn).1
        rw [hl]
        omega
      · rw [hh.k (n := n) (k := 2) (by omega) (by omega)]
        exact r2
    · by_cases z : n = f
      · subst z
        have := r8 h
        omega
      · rw [hh.k (n := n) (k := 8) (by omega) (by omega)]
        exact r8 h
  · by_cases z : n = f
    · subst z
      exact c.ents (g.en hn) hq h8
    · exact (g.en hn).ag (hh.k (by omega) (by omega)) (fun k _ => (hh.k34 z).1) (fun k _ => (hh.k34 z).2)
  · obtain ⟨l1, l2⟩ := g.lk hn
    unfold LkE
    rw [lnkE, hh.k (n := n) (k := 0) (by omega) (by omega)]
    by_cases z : n = x
    · subst z
      rw [if_pos rfl, hl]
      exact ⟨by omega, fun h => absurd h sx⟩
    · rw [if_neg (by omega), hh.k (n := n) (k := 2) (by omega) (by omega)]
      exact ⟨by omega, l2⟩
  · obtain ⟨j, j1, -, -, e2⟩ := hh.listed hk
    have jr := (g.en hn).2.1 j j1
    rw [e2, hh.k (k := 0) (by omega) (by omega), hh.k (k := 4) (by omega) (by omega)]
    exact g.is hn j j1
  · rw [hh.k (n := n) (k := 0) (by omega) (by omega)] at hs
    obtain ⟨j, hj⟩ := g.up hn hs
    exact acyc_upd (P := fun _ => False) g.pr (fun m _ _ => hh.k (by omega) (by omega)) (fun _ _ z => z.elim) j n hn hj
/-- a node that no one names gets a sort, and is empty -/
def ZE (M M' : Mm) (o x : Nat) (s u : Int) : Prop := (M' 2 (33 * o + x) 0 = s ∧ M' 2 (33 * o + x) 1 = u ∧ ∀ k, 2 ≤ k → k < 9 → M' 2 (33 * o + x) k = 0) ∧ ∀ K j k : Nat, 2 ≤ K → K ≤ 4 → ¬ (K = 2 ∧ j = 33 * o + x) → M' K j k = M K j k
theorem DropE.ze {M M' : Mm} {o x : Nat} (h : DropE M M' o x) : ZE M M' o x 0 0 := ⟨⟨h.1 0 (by omega), h.1 1 (by omega), fun k _ hk => h.1 k hk⟩, fun K j k h1 h2 h3 => h.2.2.2 K j k h3 (by omega) (by omega)⟩
theorem ZE.k {M M' : Mm} {o x : Nat} {s u : Int} (h : ZE M M' o x s u) {n k : Nat} (hn : n ≠ x) : M' 2 (33 * o + n) k = M 2 (33 * o + n) k := h.2 2 _ _ (by omega) (by omega) (by omega)
theorem ZE.se {M M' : Mm} {o x : Nat} {s u : Int} (h : ZE M M' o x s u) (g : SE M o) (hx : 1 ≤ x ∧ x < 32) (hl : M 2 (33 * o + x) 2 = 0) (he : M 2 (33 * o + x) 8 = 0) (hs : 0 ≤ s ∧ s ≤ 3) (hu : 0 ≤ u ∧ u ≤ 3) : SE M' o := by
  have hh := h
  obtain ⟨⟨z0, z1, z2⟩, fr⟩ := h
  have k34 : ∀ n k : Nat, M' 3 (33 * o + n) k = M 3 (33 * o + n) k ∧ M' 4 (33 * o + n) k = M 4 (33 * o + n) k := fun n k => ⟨fr 3 _ _ (by omega) (by omega) (by omega), fr 4 _ _ (by omega) (by omega) (by omega)⟩
  have k8 : ∀ n, M' 2 (33 * o + n) 8 = M 2 (33 * o + n) 8 := fun n => by
    by_cases z : n = x
    · rw [z, he]
      exact z2 8 (by omega) (by omega)
    · exact hh.k z
  have lnkE : ∀ z : Int, lnk M' o z = lnk M o z := fun z => sm_congr fun n _ _ => occ_same (k8 n) (fun k _ => (k34 n k).2)
  have l0 : lnk M o x = 0 := by rw [← (g.lk hx.2).1]; exact hl
  refine ⟨?_, fun n hn => ?_, fun n hn => ?_, fun n hn => ?_, fun n hn k hk => ?_, fun n hn hs => ?_⟩
  · have a0 := hh.k (n := 0) (k := 0) (by omega)
    have a2 := hh.k (n := 0) (k := 2) (by omega)
    rw [Nat.add_zero] at a0 a2
    rw [a0, a2]
    exact g.1
  · unfold Rgs
    by_cases z : n = x
    · rw [z, z0, z1, z2 2 (by omega) (by omega), z2 4 (by omega) (by omega), z2 5 (by omega) (by omega), z2 8 (by omega) (by omega)]
      exact ⟨hs, hu, by decide, by decide, by decide, fun _ => rfl⟩
    · rw [hh.k z, hh.k z, hh.k z, hh.k z, hh.k z, hh.k z]
      exact g.rg hn
  · exact (g.en hn).ag (k8 n) (fun k _ => (k34 n k).1) (fun k _ => (k34 n k).2)
  · unfold LkE
    rw [lnkE]
    by_cases z : n = x
    · subst z
      rw [z2 2 (by omega) (by omega)]
      exact ⟨l0.symm, fun _ => rfl⟩
    · rw [hh.k z, hh.k z]
      exact g.lk hn
  · rw [k8] at hk
    have jr := (g.en hn).2.1 k hk
    have lp := lnk_pos g.er hn hk
    have hne : (M 4 (33 * o + n) k).toNat ≠ x := fun z => by
      rw [show M 4 (33 * o + n) k = (x : Int) by omega, l0] at lp
      omega
    rw [(k34 n k).2, hh.k hne, hh.k hne]
    exact g.is hn k hk
  · by_cases z : n = x
    · subst z
      refine ⟨1, ?_⟩
      show (M' 2 (33 * o + n) 4).toNat = 0
      rw [z2 4 (by omega) (by omega)]
      rfl
    · rw [hh.k z] at hs
      obtain ⟨j, hj⟩ := g.up hn hs
      refine acyc_upd (P := fun n => n = x) g.pr (fun m _ y => hh.k y) (fun m _ y => ⟨1, ?_⟩) j n hn hj
      show (M' 2 (33 * o + m) 4).toNat = 0
      rw [y, z2 4 (by omega) (by omega)]
      rfl
/-- the parent of a folder is a folder -/
theorem G1.par {M : Mm} {o n : Nat} (g : G1 M o) (hn : n < 32) (h0 : n ≠ 0) (hs : M 2 (33 * o + n) 0 = 2) : M 2 (33 * o + (M 2 (33 * o + n) 4).toNat) 0 = 2 := by
  have l1 := (g.lc hn).1 h0 hs
  have l2 := (g.se.lk hn).1
  obtain ⟨f, k, hf, hk, e⟩ := lnk_ex (x := (n : Int)) g.er (by omega)
  have i := (g.se.is hf k hk).2
  rw [e, Int.toNat_natCast] at i
  have r := (g.se.rg hf).2.2.2.2.2
  have p := i hs
  rw [p, Int.toNat_natCast]
  by_cases z : M 2 (33 * o + f) 0 = 2
  · exact z
  · have := r z
    omega
/-- the way up goes over folders alone -/
theorem G1.chain {M : Mm} {o : Nat} (g : G1 M o) : ∀ (j n : Nat), n < 32 → M 2 (33 * o + n) 0 = 2 → upN M o j n = 0 → ∃ j', upN M o j' n = 0 ∧ ∀ i, i ≤ j' → M 2 (33 * o + upN M o i n) 0 = 2
  | 0, n, hn, hs, h => ⟨0, h, fun i hi => by rw [show i = 0 by omega]; exact hs⟩
  | j + 1, n, hn, hs, h => by
    by_cases z : n = 0
    · exact ⟨0, z, fun i hi => by rw [show i = 0 by omega]; exact hs⟩
    · obtain ⟨k, k1, k2⟩ := G1.chain g j (M 2 (33 * o + n) 4).toNat (by have := g.se.pr n hn; omega) (g.par hn z hs) h
      refine ⟨k + 1, k1, fun i hi => ?_⟩
      rcases i with _ | i
      · exact hs
      · exact k2 i (by omega)
theorem G1.ac {M : Mm} {o f x : Nat} (g : G1 M o) (hf : f < 32) (sf : M 2 (33 * o + f) 0 = 2) (sx : M 2 (33 * o + x) 0 ≠ 2) : AC M o f x := by
  obtain ⟨j, hj⟩ := g.se.up hf sf
  obtain ⟨k, k1, k2⟩ := g.chain j f hf sf hj
  exact ⟨k, k1, fun i hi z => sx (by rw [← z]; exact k2 i hi)⟩
theorem AC.off {M M' : Mm} {o f x : Nat} (h : AC M o f x) (hr : Pr M o) (hf : f < 32) (hp : ∀ n, n < 32 → n ≠ x → M' 2 (33 * o + n) 4 = M 2 (33 * o + n) 4) : AC M' o f x := by
  obtain ⟨j, h1, h2⟩ := h
  have e : ∀ i, i ≤ j → upN M' o i f = upN M o i f := fun i hi => upN_same (P := fun n => n = x) hr hp i f hf (fun k hk => h2 k (by omega))
  exact ⟨j, (e j (Nat.le_refl j)).trans h1, fun i hi => by rw [e i hi]; exact h2 i hi⟩
/-- what make leaves: x was free -/
def MkE (M M' : Mm) (o f x : Nat) (s : Int) : Prop := x < 32 ∧ x ≠ 0 ∧ x ≠ f ∧ M 2 (33 * o + x) 0 = 0 ∧ (M' 2 (33 * o + x) 0 = s ∧ M' 2 (33 * o + x) 2 = 1 ∧ M' 2 (33 * o + x) 8 = 0) ∧ (∀ n k, n < 32 → n ≠ x → k ≠ 8 → M' 2 (33 * o + n) k = M 2 (33 * o + n) k) ∧ Fx M M' o
theorem make_ok {M : Mm} {o f : Nat} {a s : Int} (g1 : G1 M o) (g2 : G2 M o) (hc : cntN M o < 32) (hf : f < 32) (sf : M 2 (33 * o + f) 0 = 2) (he : M 2 (33 * o + f) 8 < 12) (ha : 1 ≤ a ∧ a ≤ 99) (hna : ∀ q : Nat, (q : Int) < M 2 (33 * o + f) 8 → M 3 (33 * o + f) q ≠ a) (hs : 1 ≤ s ∧ s ≤ 3) : ∃ (x : Nat) (M' : Mm), F_X2_make M o s (f : Int) a = some ((x : Int), M') ∧ MkE M M' o f x s ∧ G1 M' o ∧ G2 M' o := by
  obtain ⟨x, hx, ef, s0⟩ := free_ok hc
  have x0 : x ≠ 0 := fun z => by
    have := g1.1.1
    rw [z, Nat.add_zero] at s0
    omega
  have xf : x ≠ f := fun z => by
    rw [z] at s0
    omega
  have lx := (g1.se.lk hx).2 s0
  have ex := (g1.se.rg hx).2.2.2.2.2 (by omega)
  have ow := (g1.se.rg hf).2.1
  have bz : ∀ p, p < 20 → M 5 (33 * o + x) p = 0 := fun p hp => ((g2.1 x hx).2.2 p hp).2.1 (by omega)
  obtain ⟨M1, e1, b1, b2⟩ := become_ok (M := M) (i := 33 * o + x) (s := s) (u := M 2 (33 * o + f) 1) bz
  have z1 : ZE M M1 o x s (M 2 (33 * o + f) 1) := ⟨b1, fun K j k h1 h2 h3 => b2 K j k h3⟩
  have se1 := z1.se g1.se ⟨by omega, hx⟩ lx ex ⟨by omega, hs.2⟩ ow
  have l1 : M1 2 (33 * o + x) 2 = 0 := b1.2.2 2 (by omega) (by omega)
  have k1 : ∀ n k, n ≠ x → M1 2 (33 * o + n) k = M 2 (33 * o + n) k := fun n k h => z1.k h
  have en1 := se1.er f hf
  rw [k1 f 8 (by omega)] at en1
  obtain ⟨M2, e2, a2⟩ := attach_e (M := M1) (o := o) (a := a) hf hx (by rw [k1 f 8 (by omega)]; omega) (by omega)
  have se2 := a2.se se1 hf (by rw [k1 f 0 (by omega)]; exact sf) ha (fun q hq => by
    rw [k1 f 8 (by omega)] at hq
    rw [z1.2 3 _ _ (by omega) (by omega) (by omega)]
    exact hna q hq) ⟨by omega, hx⟩ (by rw [b1.1]; omega) (by omega) (fun _ => ⟨l1, (g1.ac hf sf (by omega)).off g1.se.pr hf (fun n _ h => k1 n 4 h)⟩)
  have c2 : ∀ n k, n < 32 → k ≠ 2 → k ≠ 4 → k ≠ 8 → M2 2 (33 * o + n) k = M1 2 (33 * o + n) k := fun n k hn h2 h4 h8 => a2.2.2.2.2 2 _ _ (by omega) (by omega) (by omega) (by omega) (by omega)
  have cn : ∀ n k, n < 32 → n ≠ x → k ≠ 8 → M2 2 (33 * o + n) k = M 2 (33 * o + n) k := fun n k hn h2 h8 => (a2.2.2.2.2 2 _ _ (by omega) (by omega) (by omega) (by omega) (by omega)).trans (k1 n k h2)
  have s2 : M2 2 (33 * o + x) 0 = s := (c2 x 0 hx (by omega) (by omega) (by omega)).trans b1.1
  have l2 : M2 2 (33 * o + x) 2 = 1 := by rw [a2.2.1, l1]; rfl
  have e8 : M2 2 (33 * o + x) 8 = 0 := (a2.2.2.2.2 2 _ _ (by omega) (by omega) (by omega) (by omega) (by omega)).trans (b1.2.2 8 (by omega) (by omega))
  unfold F_X2_make
  rw [ef, xb1_s, at_ok hx, xb1_s, at_ok hf, xb1_s, e1, xb1_s, e2, xb1_s]
  refine ⟨x, M2, rfl, ⟨hx, x0, xf, s0, ⟨s2, l2, e8⟩, cn, ?_⟩, se2.g1 (fun n hn => ?_), ?_⟩
  · exact (show Fx M M1 o from fun K j k h1 h2 => b2 K j k (by omega)).trans (a2.2.2.2.2.fx hf hx)
  · by_cases z : n = x
    · subst z
      exact ⟨fun _ _ => l2, fun _ => by omega⟩
    · unfold LkC
      rw [cn n 0 hn z (by omega), cn n 2 hn z (by omega)]
      exact g1.lc hn
  · refine G2.ag (M := M1) ?_ a2.2.2.2.2.ag2
    refine ⟨fun m hm => ?_, ?_⟩
    · by_cases z : m = x
      · subst z
        unfold Blk
        rw [b1.2.2 3 (by omega) (by omega), b1.1]
        refine ⟨by decide, fun _ => rfl, fun p hp => ?_⟩
        rw [b2 5 _ _ (by omega), bz p hp]
        exact ⟨by decide, fun _ => rfl, fun h => absurd rfl h⟩
      · exact (g2.1 m hm).ag (k1 m 3 z) (k1 m 0 z) (fun p _ => b2 5 _ _ (by omega))
    · exact (g2.tb.ag (fun n p _ _ => b2 5 _ _ (by omega)) (fun b _ => b2 8 _ _ (by omega))).2
