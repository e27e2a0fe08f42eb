/-- a labelling of the places of a graph by its parts, told in the order of their first places -/
def gLab (D : Int → Prop) (A : Int → Int → Prop) (L : Int → Int) (N : Int) (F : Int → Int) : Prop :=
  (0 ≤ N) ∧
  (∀ a, D a → 0 ≤ L a ∧ L a < N) ∧
  (∀ a b, D a → D b → A a b → L a = L b) ∧
  (∀ k, 0 ≤ k → k < N → D (F k) ∧ L (F k) = k) ∧
  (∀ a, D a → F (L a) ≤ a) ∧
  (∀ k, 0 ≤ k → k < N → ∀ S : Int → Prop, S (F k) → (∀ a b, S a → D a → D b → A a b → S b) → ∀ a, D a → L a = k → S a) ∧
  (∀ j k, 0 ≤ j → j < k → k < N → F j < F k)
theorem gLab.nn {D : Int → Prop} {A : Int → Int → Prop} {L : Int → Int} {N : Int} {F : Int → Int} (h : gLab D A L N F) : 0 ≤ N := h.1
theorem gLab.rng {D : Int → Prop} {A : Int → Int → Prop} {L : Int → Int} {N : Int} {F : Int → Int} (h : gLab D A L N F) : ∀ a, D a → 0 ≤ L a ∧ L a < N := h.2.1
theorem gLab.adj {D : Int → Prop} {A : Int → Int → Prop} {L : Int → Int} {N : Int} {F : Int → Int} (h : gLab D A L N F) : ∀ a b, D a → D b → A a b → L a = L b := h.2.2.1
theorem gLab.fst {D : Int → Prop} {A : Int → Int → Prop} {L : Int → Int} {N : Int} {F : Int → Int} (h : gLab D A L N F) : ∀ k, 0 ≤ k → k < N → D (F k) ∧ L (F k) = k := h.2.2.2.1
theorem gLab.low {D : Int → Prop} {A : Int → Int → Prop} {L : Int → Int} {N : Int} {F : Int → Int} (h : gLab D A L N F) : ∀ a, D a → F (L a) ≤ a := h.2.2.2.2.1
theorem gLab.con {D : Int → Prop} {A : Int → Int → Prop} {L : Int → Int} {N : Int} {F : Int → Int} (h : gLab D A L N F) : ∀ k, 0 ≤ k → k < N → ∀ S : Int → Prop, S (F k) → (∀ a b, S a → D a → D b → A a b → S b) → ∀ a, D a → L a = k → S a := h.2.2.2.2.2.1
theorem gLab.inc {D : Int → Prop} {A : Int → Int → Prop} {L : Int → Int} {N : Int} {F : Int → Int} (h : gLab D A L N F) : ∀ j k, 0 ≤ j → j < k → k < N → F j < F k := h.2.2.2.2.2.2
theorem gLab.part {D A L N F L' N' F'} (h : gLab D A L N F) (h' : gLab D A L' N' F') {a b} (da : D a) (db : D b) (e : L a = L b) : L' a = L' b := by
  have r := h.rng a da
  have k := h.con (L a) r.1 r.2 (fun x => L' x = L' (F (L a))) rfl (fun x y s dx dy axy => (h'.adj x y dx dy axy).symm.trans s)
  exact (k a da rfl).trans (k b db e.symm).symm
theorem gLab.lab {D A L N F L' N' F'} (h0 : ∀ a, D a → 0 ≤ a) (h : gLab D A L N F) (h' : gLab D A L' N' F') : ∀ n : Nat, ∀ a, a = (n : Int) → D a → L a = L' a := by
  intro n
  induction n using Nat.strongRecOn with
  | ind n ih =>
    intro a ea da
    have IH : ∀ b, D b → b < a → L b = L' b := fun b db hb => by
      have := h0 b db
      exact ih b.toNat (by omega) b (by omega) db
    have r := h.rng a da
    have r' := h'.rng a da
    have f := h.fst _ r.1 r.2
    have f' := h'.fst _ r'.1 r'.2
    by_cases c1 : F (L a) < a
    · have e1 := IH _ f.1 c1
      have e2 := h.part h' f.1 da f.2
      omega
    by_cases c2 : F' (L' a) < a
    · have e1 := IH _ f'.1 c2
      have e2 := h'.part h f'.1 da f'.2
      omega
    have l := h.low a da
    have l' := h'.low a da
    by_cases c3 : L a < L' a
    · have i := h'.inc (L a) (L' a) r.1 c3 r'.2
      have g := h'.fst (L a) r.1 (by omega)
      have e1 := IH _ g.1 (by omega)
      have e2 := h.low _ g.1
      rw [e1, g.2] at e2
      omega
    by_cases c4 : L' a < L a
    · have i := h.inc (L' a) (L a) r'.1 c4 r.2
      have g := h.fst (L' a) r'.1 (by omega)
      have e1 := IH _ g.1 (by omega)
      have e2 := h'.low _ g.1
      rw [← e1, g.2] at e2
      omega
    omega
theorem gLab.uniq {D A L N F L' N' F'} (h0 : ∀ a, D a → 0 ≤ a) (h : gLab D A L N F) (h' : gLab D A L' N' F') : (∀ a, D a → L a = L' a) ∧ N = N' ∧ ∀ k, 0 ≤ k → k < N → F k = F' k := by
  have e : ∀ a, D a → L a = L' a := fun a da => gLab.lab h0 h h' a.toNat a (by have := h0 a da; omega) da
  have n1 := h.nn
  have n2 := h'.nn
  have eN : N = N' := by
    by_cases c : N < N'
    · have g := h'.fst N n1 c
      have := h.rng _ g.1
      have := e _ g.1
      omega
    by_cases c : N' < N
    · have g := h.fst N' n2 c
      have := h'.rng _ g.1
      have := e _ g.1
      omega
    omega
  refine ⟨e, eN, fun k k1 k2 => ?_⟩
  have g := h.fst k k1 k2
  have g' := h'.fst k k1 (by omega)
  have a1 := h'.low _ g.1
  have a2 := h.low _ g'.1
  rw [← e _ g.1, g.2] at a1
  rw [e _ g'.1, g'.2] at a2
  omega
/-- a labelling under way: parts 0 to N - 1 are whole, every place below a is in one -/
def gPar (D : Int → Prop) (A : Int → Int → Prop) (L : Int → Int) (N : Int) (F : Int → Int) (a : Int) : Prop :=
  (0 ≤ N) ∧
  (∀ x, D x → -1 ≤ L x ∧ L x < N) ∧
  (∀ x y, D x → D y → A x y → 0 ≤ L x → L y = L x) ∧
  (∀ k, 0 ≤ k → k < N → D (F k) ∧ L (F k) = k ∧ F k < a) ∧
  (∀ x, D x → 0 ≤ L x → F (L x) ≤ x) ∧
  (∀ k, 0 ≤ k → k < N → ∀ S : Int → Prop, S (F k) → (∀ a b, S a → D a → D b → A a b → S b) → ∀ a, D a → L a = k → S a) ∧
  (∀ j k, 0 ≤ j → j < k → k < N → F j < F k) ∧
  (∀ x, D x → x < a → 0 ≤ L x)
theorem gPar.nn {D : Int → Prop} {A : Int → Int → Prop} {L : Int → Int} {N : Int} {F : Int → Int} {a : Int} (h : gPar D A L N F a) : 0 ≤ N := h.1
theorem gPar.rng {D : Int → Prop} {A : Int → Int → Prop} {L : Int → Int} {N : Int} {F : Int → Int} {a : Int} (h : gPar D A L N F a) : ∀ x, D x → -1 ≤ L x ∧ L x < N := h.2.1
theorem gPar.adj {D : Int → Prop} {A : Int → Int → Prop} {L : Int → Int} {N : Int} {F : Int → Int} {a : Int} (h : gPar D A L N F a) : ∀ x y, D x → D y → A x y → 0 ≤ L x → L y = L x := h.2.2.1
theorem gPar.fst {D : Int → Prop} {A : Int → Int → Prop} {L : Int → Int} {N : Int} {F : Int → Int} {a : Int} (h : gPar D A L N F a) : ∀ k, 0 ≤ k → k < N → D (F k) ∧ L (F k) = k ∧ F k < a := h.2.2.2.1
theorem gPar.low {D : Int → Prop} {A : Int → Int → Prop} {L : Int → Int} {N : Int} {F : Int → Int} {a : Int} (h : gPar D A L N F a) : ∀ x, D x → 0 ≤ L x → F (L x) ≤ x := h.2.2.2.2.1
theorem gPar.con {D : Int → Prop} {A : Int → Int → Prop} {L : Int → Int} {N : Int} {F : Int → Int} {a : Int} (h : gPar D A L N F a) : ∀ k, 0 ≤ k → k < N → ∀ S : Int → Prop, S (F k) → (∀ a b, S a → D a → D b → A a b → S b) → ∀ a, D a → L a = k → S a := h.2.2.2.2.2.1
theorem gPar.inc {D : Int → Prop} {A : Int → Int → Prop} {L : Int → Int} {N : Int} {F : Int → Int} {a : Int} (h : gPar D A L N F a) : ∀ j k, 0 ≤ j → j < k → k < N → F j < F k := h.2.2.2.2.2.2.1
theorem gPar.don {D : Int → Prop} {A : Int → Int → Prop} {L : Int → Int} {N : Int} {F : Int → Int} {a : Int} (h : gPar D A L N F a) : ∀ x, D x → x < a → 0 ≤ L x := h.2.2.2.2.2.2.2
theorem gPar.lab {D A L N F a} (h : gPar D A L N F a) (e : ∀ x, D x → x < a) : gLab D A L N F := by
  refine ⟨?_, ?_, ?_, ?_, ?_, ?_, ?_⟩
  · exact h.nn
  · intro x d
    exact ⟨h.don x d (e x d), (h.rng x d).2⟩
  · intro x y dx dy p
    exact (h.adj x y dx dy p (h.don x dx (e x dx))).symm
  · intro k k1 k2
    exact ⟨(h.fst k k1 k2).1, (h.fst k k1 k2).2.1⟩
  · intro x d
    exact h.low x d (h.don x d (e x d))
  · exact h.con
  · exact h.inc
theorem gPar.skip {D A L N F a} (h : gPar D A L N F a) (e : D a → 0 ≤ L a) : gPar D A L N F (a + 1) := by
  refine ⟨?_, ?_, ?_, ?_, ?_, ?_, ?_, ?_⟩
  · exact h.nn
  · exact h.rng
  · exact h.adj
  · intro k k1 k2
    have := h.fst k k1 k2; exact ⟨this.1, this.2.1, by omega⟩
  · exact h.low
  · exact h.con
  · exact h.inc
  · intro x d g
    by_cases c : x = a
    · subst c; exact e d
    · exact h.don x d (by omega)
/-- a part under way: it is N, and began at a -/
def gGro (D : Int → Prop) (A : Int → Int → Prop) (L0 : Int → Int) (N : Int) (F : Int → Int) (a : Int) (L : Int → Int) : Prop :=
  (gPar D A L0 N F a) ∧
  (D a) ∧
  (L0 a = -1) ∧
  (∀ x, D x → L x = L0 x ∨ (L0 x = -1 ∧ L x = N)) ∧
  (L a = N) ∧
  (∀ S : Int → Prop, S a → (∀ a b, S a → D a → D b → A a b → S b) → ∀ x, D x → L x = N → S x)
theorem gGro.par {D : Int → Prop} {A : Int → Int → Prop} {L0 : Int → Int} {N : Int} {F : Int → Int} {a : Int} {L : Int → Int} (h : gGro D A L0 N F a L) : gPar D A L0 N F a := h.1
theorem gGro.da {D : Int → Prop} {A : Int → Int → Prop} {L0 : Int → Int} {N : Int} {F : Int → Int} {a : Int} {L : Int → Int} (h : gGro D A L0 N F a L) : D a := h.2.1
theorem gGro.na {D : Int → Prop} {A : Int → Int → Prop} {L0 : Int → Int} {N : Int} {F : Int → Int} {a : Int} {L : Int → Int} (h : gGro D A L0 N F a L) : L0 a = -1 := h.2.2.1
theorem gGro.old {D : Int → Prop} {A : Int → Int → Prop} {L0 : Int → Int} {N : Int} {F : Int → Int} {a : Int} {L : Int → Int} (h : gGro D A L0 N F a L) : ∀ x, D x → L x = L0 x ∨ (L0 x = -1 ∧ L x = N) := h.2.2.2.1
theorem gGro.seed {D : Int → Prop} {A : Int → Int → Prop} {L0 : Int → Int} {N : Int} {F : Int → Int} {a : Int} {L : Int → Int} (h : gGro D A L0 N F a L) : L a = N := h.2.2.2.2.1
theorem gGro.con {D : Int → Prop} {A : Int → Int → Prop} {L0 : Int → Int} {N : Int} {F : Int → Int} {a : Int} {L : Int → Int} (h : gGro D A L0 N F a L) : ∀ S : Int → Prop, S a → (∀ a b, S a → D a → D b → A a b → S b) → ∀ x, D x → L x = N → S x := h.2.2.2.2.2
theorem gPar.start {D A L0 N F a} (h : gPar D A L0 N F a) (da : D a) (e : L0 a = -1) {L} (hL : ∀ x, D x → x ≠ a → L x = L0 x) (ha : L a = N) : gGro D A L0 N F a L := by
  refine ⟨?_, ?_, ?_, ?_, ?_, ?_⟩
  · exact h
  · exact da
  · exact e
  · intro x d
    by_cases c : x = a
    · subst c; exact .inr ⟨e, ha⟩
    · exact .inl (hL x d c)
  · exact ha
  · intro S s _ x d l
    by_cases c : x = a
    · subst c; exact s
    · have := hL x d c
      have := h.rng x d
      omega
theorem gGro.rng {D A L0 N F a L} (h : gGro D A L0 N F a L) {x} (d : D x) : -1 ≤ L x ∧ L x ≤ N := by
  have := h.par.rng x d
  have := h.par.nn
  rcases h.old x d with e | e <;> omega
theorem gGro.more {D A L0 N F a L} (h : gGro D A L0 N F a L) {x y} (dx : D x) (dy : D y) (p : A x y) (lx : L x = N) (ly : L y < 0) {L'} (hL : ∀ z, D z → z ≠ y → L' z = L z) (hy : L' y = N) : gGro D A L0 N F a L' := by
  refine ⟨?_, ?_, ?_, ?_, ?_, ?_⟩
  · exact h.par
  · exact h.da
  · exact h.na
  · intro z d
    by_cases c : z = y
    · subst c
      have r := h.par.rng z d
      have := h.par.nn
      refine .inr ⟨?_, hy⟩
      rcases h.old z d with e | e <;> omega
    · rw [hL z d c]; exact h.old z d
  · have := h.par.nn
    rw [hL a h.da (fun e => by have := h.seed; rw [e] at this; omega)]
    exact h.seed
  · intro S s cl z d l
    by_cases c : z = y
    · subst c; exact cl x z (h.con S s cl x dx lx) dx d p
    · rw [hL z d c] at l; exact h.con S s cl z d l
theorem gGro.done {D A L0 N F a L} (h : gGro D A L0 N F a L) (sym : ∀ x y, A x y → A y x) (cl : ∀ x y, D x → D y → A x y → L x = N → 0 ≤ L y) {F'} (hF : ∀ k, 0 ≤ k → k < N → F' k = F k) (hN : F' N = a) : gPar D A L (N + 1) F' (a + 1) := by
  refine ⟨?_, ?_, ?_, ?_, ?_, ?_, ?_, ?_⟩
  · have := h.par.nn; omega
  · intro x d
    have := h.rng d
    omega
  · intro x y dx dy p lx
    have rx := h.par.rng x dx
    have ry := h.par.rng y dy
    have ox := h.old x dx
    have oy := h.old y dy
    by_cases c : L x = N
    · have l := cl x y dx dy p c
      rcases oy with oy | oy
      · have := h.par.adj y x dy dx (sym _ _ p) (by omega)
        omega
      · omega
    · have := h.par.adj x y dx dy p (by omega)
      omega
  · intro k k1 k2
    by_cases c : k = N
    · subst c; rw [hN]; exact ⟨h.da, h.seed, by omega⟩
    · rw [hF k k1 (by omega)]
      have g := h.par.fst k k1 (by omega)
      have := h.old _ g.1
      exact ⟨g.1, by omega, by omega⟩
  · intro x d l
    have ox := h.old x d
    have rx := h.par.rng x d
    by_cases c : L x = N
    · rw [c, hN]
      have := h.par.don x d
      omega
    · have e : L x = L0 x := by omega
      rw [e, hF _ (by omega) (by omega)]
      exact h.par.low x d (by omega)
  · intro k k1 k2 S s cs x d l
    by_cases c : k = N
    · subst c; rw [hN] at s; exact h.con S s cs x d l
    · rw [hF k k1 (by omega)] at s
      have ox := h.old x d
      exact h.par.con k k1 (by omega) S s cs x d (by omega)
  · intro j k j1 jk k2
    by_cases c : k = N
    · subst c
      rw [hN, hF j j1 jk]
      exact (h.par.fst j j1 jk).2.2
    · rw [hF j j1 (by omega), hF k (by omega) (by omega)]
      exact h.par.inc j k j1 jk (by omega)
  · intro x d l
    have ox := h.old x d
    have := h.par.nn
    by_cases c : x = a
    · rw [c, h.seed]; omega
    · have := h.par.don x d (by omega)
      omega
theorem gPar.nil {D A L F} (e : ∀ x, D x → L x = -1) (p : ∀ x, D x → 0 ≤ x) : gPar D A L 0 F 0 := by
  refine ⟨?_, ?_, ?_, ?_, ?_, ?_, ?_, ?_⟩
  · omega
  · intro x d
    have := e x d; omega
  · intro x y dx dy _ l
    have := e x dx; omega
  · intro k k1 k2
    exfalso; omega
  · intro x d l
    have := e x d; omega
  · intro k k1 k2
    exfalso; omega
  · intro j k j1 jk k2
    exfalso; omega
  · intro x d l
    have := p x d; omega
theorem gPar.cong {D A L N F a L' F'} (h : gPar D A L N F a) (eL : ∀ x, D x → L' x = L x) (eF : ∀ k, 0 ≤ k → k < N → F' k = F k) : gPar D A L' N F' a := by
  refine ⟨?_, ?_, ?_, ?_, ?_, ?_, ?_, ?_⟩
  · exact h.nn
  · intro x d
    rw [eL x d]; exact h.rng x d
  · intro x y dx dy p l
    rw [eL x dx] at l ⊢
    rw [eL y dy]
    exact h.adj x y dx dy p l
  · intro k k1 k2
    have q := h.fst k k1 k2
    rw [eF k k1 k2]
    exact ⟨q.1, (eL _ q.1).trans q.2.1, q.2.2⟩
  · intro x d l
    rw [eL x d] at l ⊢
    rw [eF _ l (h.rng x d).2]
    exact h.low x d l
  · intro k k1 k2 S s cs x d l
    rw [eF k k1 k2] at s
    rw [eL x d] at l
    exact h.con k k1 k2 S s cs x d l
  · intro j k j1 jk k2
    rw [eF j j1 (by omega), eF k (by omega) k2]
    exact h.inc j k j1 jk k2
  · intro x d l
    rw [eL x d]; exact h.don x d l
theorem gGro.col {D : Int → Prop} {A : Int → Int → Prop} {L0 : Int → Int} {N : Int} {F : Int → Int} {a : Int} {L : Int → Int} {c : Int → Int} (h : gGro D A L0 N F a L) (hA : ∀ x y, D x → D y → A x y → c x = c y) {x : Int} (d : D x) (l : L x = N) : c x = c a :=
  h.con (fun z => c z = c a) rfl (fun u v s du dv p => (hA u v du dv p).symm.trans s) x d l
