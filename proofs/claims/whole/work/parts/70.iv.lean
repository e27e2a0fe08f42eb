abbrev bWk (c i : Int) : Prop := c = 4 ∨ (c = 1 ∧ (i = 7 ∨ i = 8)) ∨ (5 ≤ c ∧ c ≤ 24) ∨ (42 ≤ c ∧ c ≤ 56) ∨ c = 74 ∨ c = 76
abbrev mWk (c i : Int) : Prop := (c = 103 ∧ (i = 0 ∨ 21 ≤ i)) ∨ (113 ≤ c ∧ c ≤ 133) ∨ c = 143
abbrev bKc (c i : Int) : Prop := (c = 1 ∧ 0 ≤ i ∧ i ≤ 3) ∨ c = 2 ∨ c = 4 ∨ (c = 5 ∧ (i = 1 ∨ i = 2)) ∨ (6 ≤ c ∧ c ≤ 12) ∨ (c = 17 ∧ (i = 1 ∨ i = 6 ∨ i = 7 ∨ i = 8)) ∨ (18 ≤ c ∧ c ≤ 20) ∨ c = 22 ∨ c = 42 ∨ c = 43
def bW (M M' : zM) : Prop := ∀ c i, ¬ bWk c i → M' c i = M c i
def mW (M M' : zM) : Prop := ∀ c i, ¬ mWk c i → M' c i = M c i
theorem bW.tr {A B C : zM} (h : bW A B) (g : bW B C) : bW A C := fun c i k => (g c i k).trans (h c i k)
theorem mW.tr {A B C : zM} (h : mW A B) (g : mW B C) : mW A C := fun c i k => (g c i k).trans (h c i k)
theorem bW.r {A : zM} : bW A A := fun _ _ _ => rfl
theorem mW.r {A : zM} : mW A A := fun _ _ _ => rfl
def bK (M : zM) : Prop := (∀ i, 0 ≤ i → i < 192 → 0 ≤ M 4 i ∧ M 4 i ≤ 15) ∧ (M 5 1 ≤ M 1 3 ∧ M 17 6 ≤ M 1 3 ∧ M 42 3 ≤ M 1 3) ∧ (M 5 1 = M 1 3 → bFok M) ∧
  (M 17 6 = M 1 3 → M 5 1 = M 1 3 ∧ bBk M (M 17 7)) ∧ (M 42 3 = M 1 3 → M 5 1 = M 1 3 ∧ bPk M (M 42 4) (M 42 5))
def bQ (M : zM) : Prop := bK M ∧ M 5 1 = M 1 3
theorem bK.fr {M M' : zM} (H : bK M) (e : ∀ c i, bKc c i → M' c i = M c i) : bK M' := by
  have q2 : M' 2 = M 2 := funext fun i => e 2 i (by omega)
  have q12 : M' 12 = M 12 := funext fun i => e 12 i (by omega)
  have q10 := e 1 0 (by omega)
  have q11 := e 1 1 (by omega)
  have q1 := e 1 2 (by omega)
  have q3 := e 1 3 (by omega)
  have q51 := e 5 1 (by omega)
  have q52 := e 5 2 (by omega)
  have q76 := e 17 6 (by omega)
  have q77 := e 17 7 (by omega)
  have q423 := e 42 3 (by omega)
  have q424 := e 42 4 (by omega)
  have q425 := e 42 5 (by omega)
  obtain ⟨h1, h2, h3, h4, h5⟩ := H
  refine ⟨fun i i0 i1 => by rw [e 4 i (by omega)]; exact h1 i i0 i1, by omega, fun k => ?_, fun k => ?_, fun k => ?_⟩
  · exact (h3 (by omega)).mem q10 q11 q1 q2 q52 (fun c i a b => e c i (by omega))
  · have := h4 (by omega)
    refine ⟨by omega, ?_⟩
    rw [q77]
    exact this.2.mem q10 q11 q1 (e 7 _ (by omega)) q12 (e 17 1 (by omega)) (e 17 8 (by omega)) (funext fun i => e 18 i (by omega)) (funext fun i => e 19 i (by omega)) (funext fun i => e 20 i (by omega)) (funext fun i => e 22 i (by omega))
  · have := h5 (by omega)
    refine ⟨by omega, ?_⟩
    rw [q424, q425]
    exact this.2.mem q10 q11 q1 (e 7 _ (by omega)) q12 (e 42 1 (by omega)) (funext fun i => e 43 i (by omega))
theorem bQ.fr {M M' : zM} (H : bQ M) (e : ∀ c i, bKc c i → M' c i = M c i) : bQ M' :=
  ⟨H.1.fr e, by rw [e 5 1 (by omega), e 1 3 (by omega)]; exact H.2⟩
theorem bQ.ok {M : zM} (H : bQ M) : bFok M := H.1.2.2.1 H.2
theorem bQ.bk {M : zM} {f : Int} (H : bQ M) : M 17 6 = M 5 1 → M 17 7 = f → bBk M f := fun a b => by
  have := (H.1.2.2.2.1 (by rw [a]; exact H.2)).2
  rw [b] at this; exact this
theorem bQ.pk {M : zM} {f m : Int} (H : bQ M) : M 42 3 = M 5 1 → M 42 4 = f → M 42 5 = m → bPk M f m := fun a b c => by
  have := (H.1.2.2.2.2 (by rw [a]; exact H.2)).2
  rw [b, c] at this; exact this
theorem bK.refresh {M M' : zM} (H : bK M) (hf : ∀ c i, ¬ (6 ≤ c ∧ c ≤ 13) → ¬ (c = 5 ∧ (i = 1 ∨ i = 2)) → M' c i = M c i) (h51 : M' 5 1 = M 1 3) (hok : bFok M') (hs : M 5 1 = M 1 3 → M' = M) : bQ M' := by
  have q3 := hf 1 3 (by omega) (by omega)
  refine ⟨?_, by omega⟩
  by_cases k : M 5 1 = M 1 3
  · rw [hs k]; exact H
  · have q76 := hf 17 6 (by omega) (by omega)
    have q423 := hf 42 3 (by omega) (by omega)
    obtain ⟨h1, h2, h3, h4, h5⟩ := H
    refine ⟨fun i i0 i1 => by rw [hf 4 i (by omega) (by omega)]; exact h1 i i0 i1, by omega, fun _ => hok, fun c => ?_, fun c => ?_⟩
    · exact absurd (h4 (by omega)).1 k
    · exact absurd (h5 (by omega)).1 k
theorem bQ.trace {M M' : zM} {f : Int} (H : bQ M) (hf : ∀ c i, c ≠ 18 → c ≠ 19 → c ≠ 20 → c ≠ 22 → ¬ (c = 17 ∧ (i = 1 ∨ 6 ≤ i ∧ i ≤ 8)) → M' c i = M c i) (h6 : M' 17 6 = M 5 1) (h7 : M' 17 7 = f) (hB : bBk M' f) : bQ M' := by
  have e : ∀ c i, c < 17 ∨ 42 ≤ c → M' c i = M c i := fun c i k => hf c i (by omega) (by omega) (by omega) (by omega) (by omega)
  have q51 := e 5 1 (by omega)
  have q13 := e 1 3 (by omega)
  have q423 := e 42 3 (by omega)
  obtain ⟨⟨h1, h2, h3, h4, h5⟩, h⟩ := H
  refine ⟨⟨fun i i0 i1 => by rw [e 4 i (by omega)]; exact h1 i i0 i1, by omega, fun k => ?_, fun k => ⟨by omega, by rw [h7]; exact hB⟩, fun k => ⟨by omega, ?_⟩⟩, by omega⟩
  · exact (h3 h).mem (e 1 0 (by omega)) (e 1 1 (by omega)) (e 1 2 (by omega)) (funext fun i => e 2 i (by omega)) (e 5 2 (by omega)) (fun c i a b => e c i (by omega))
  · rw [e 42 4 (by omega), e 42 5 (by omega)]
    exact (h5 (by omega)).2.mem (e 1 0 (by omega)) (e 1 1 (by omega)) (e 1 2 (by omega)) (e 7 _ (by omega)) (funext fun i => e 12 i (by omega)) (e 42 1 (by omega)) (funext fun i => e 43 i (by omega))
theorem bQ.find {M M' : zM} {f m : Int} (H : bQ M) (hf : ∀ c i, ¬ (17 ≤ c ∧ c ≤ 22) → ¬ (42 ≤ c ∧ c ≤ 47) → M' c i = M c i) (h6 : M' 17 6 = M 5 1) (h7 : M' 17 7 = f) (hB : bBk M' f) (p3 : M' 42 3 = M 5 1) (p4 : M' 42 4 = f) (p5 : M' 42 5 = m) (hP : bPk M' f m) : bQ M' := by
  have e : ∀ c i, c < 17 → M' c i = M c i := fun c i k => hf c i (by omega) (by omega)
  have q51 := e 5 1 (by omega)
  have q13 := e 1 3 (by omega)
  obtain ⟨⟨h1, h2, h3, h4, h5⟩, h⟩ := H
  refine ⟨⟨fun i i0 i1 => by rw [e 4 i (by omega)]; exact h1 i i0 i1, by omega, fun k => ?_, fun k => ⟨by omega, by rw [h7]; exact hB⟩, fun k => ⟨by omega, by rw [p4, p5]; exact hP⟩⟩, by omega⟩
  exact (h3 h).mem (e 1 0 (by omega)) (e 1 1 (by omega)) (e 1 2 (by omega)) (funext fun i => e 2 i (by omega)) (e 5 2 (by omega)) (fun c i a b => e c i (by omega))
def bI (M : zM) : Prop := bDim M ∧ (M 1 2 = 0 ∨ M 1 2 = 1) ∧ (0 ≤ M 1 3 ∧ M 1 3 < 1000000000) ∧ bCo M ∧ (∀ c, 0 ≤ c → c < 16 → 0 ≤ M 3 c ∧ M 3 c ≤ 255) ∧
  ((0 ≤ M 77 0 ∧ 0 ≤ M 77 1 ∧ M 77 1 + M 77 0 ≤ 20) ∧ (0 ≤ M 77 2 ∧ M 77 2 < 20) ∧ (∀ k i, 0 ≤ k → k < 20 → 0 ≤ i → i < 192 → 0 ≤ M (79 + k) i ∧ M (79 + k) i ≤ 15)) ∧
  ((0 ≤ M 99 3 ∧ M 99 3 < 1000000000) ∧ (M 0 12 ≠ 0 → (1 ≤ M 99 0 ∧ M 99 0 ≤ 16) ∧ (1 ≤ M 99 1 ∧ M 99 1 ≤ 12)) ∧ (∀ i, 0 ≤ i → i < 192 → 0 ≤ M 100 i ∧ M 100 i ≤ 15) ∧ (∀ c, 0 ≤ c → c < 16 → 0 ≤ M 101 c ∧ M 101 c ≤ 255) ∧ (M 99 2 = 0 ∨ M 99 2 = 1)) ∧
  ((0 ≤ M 57 0 ∧ M 57 0 ≤ 12) ∧ (0 ≤ M 57 4 ∧ M 57 4 ≤ 12) ∧ (∀ k, 0 ≤ k → k < 12 → M 72 k = 0 ∨ M 72 k = 1) ∧ (∀ k, 0 ≤ k → k < 12 → M 73 k = 0 ∨ M 73 k = 1) ∧ ∀ k, 0 ≤ k → k < 12 → 0 ≤ M 71 k ∧ M 71 k ≤ 120) ∧
  ∀ d, 0 ≤ d → d < 8 → (0 ≤ M (26 + 2 * d) 2 ∧ M (26 + 2 * d) 2 ≤ 120) ∧ (0 ≤ M (26 + 2 * d) 6 ∧ M (26 + 2 * d) 6 ≤ 16) ∧ (0 ≤ M (26 + 2 * d) 7 ∧ M (26 + 2 * d) 7 ≤ 12) ∧ (0 ≤ M (26 + 2 * d) 8 ∧ M (26 + 2 * d) 8 ≤ 12) ∧ (0 ≤ M (26 + 2 * d) 5 ∧ M (26 + 2 * d) 5 ≤ 192)
theorem bI.d {M : zM} (h : bI M) : bDim M := h.1
theorem bI.t {M : zM} (h : bI M) : M 1 2 = 0 ∨ M 1 2 = 1 := h.2.1
theorem bI.v {M : zM} (h : bI M) : 0 ≤ M 1 3 ∧ M 1 3 < 1000000000 := h.2.2.1
theorem bI.c {M : zM} (h : bI M) : bCo M := h.2.2.2.1
theorem bI.tn {M : zM} (h : bI M) : ∀ c, 0 ≤ c → c < 16 → 0 ≤ M 3 c ∧ M 3 c ≤ 255 := h.2.2.2.2.1
theorem bI.h {M : zM} (h : bI M) : (0 ≤ M 77 0 ∧ 0 ≤ M 77 1 ∧ M 77 1 + M 77 0 ≤ 20) ∧ (0 ≤ M 77 2 ∧ M 77 2 < 20) ∧ (∀ k i, 0 ≤ k → k < 20 → 0 ≤ i → i < 192 → 0 ≤ M (79 + k) i ∧ M (79 + k) i ≤ 15) := h.2.2.2.2.2.1
theorem bI.i {M : zM} (h : bI M) : (0 ≤ M 99 3 ∧ M 99 3 < 1000000000) ∧ (M 0 12 ≠ 0 → (1 ≤ M 99 0 ∧ M 99 0 ≤ 16) ∧ (1 ≤ M 99 1 ∧ M 99 1 ≤ 12)) ∧ (∀ i, 0 ≤ i → i < 192 → 0 ≤ M 100 i ∧ M 100 i ≤ 15) ∧ (∀ c, 0 ≤ c → c < 16 → 0 ≤ M 101 c ∧ M 101 c ≤ 255) ∧ (M 99 2 = 0 ∨ M 99 2 = 1) := h.2.2.2.2.2.2.1
theorem bI.r {M : zM} (h : bI M) : (0 ≤ M 57 0 ∧ M 57 0 ≤ 12) ∧ (0 ≤ M 57 4 ∧ M 57 4 ≤ 12) ∧ (∀ k, 0 ≤ k → k < 12 → M 72 k = 0 ∨ M 72 k = 1) ∧ (∀ k, 0 ≤ k → k < 12 → M 73 k = 0 ∨ M 73 k = 1) ∧ ∀ k, 0 ≤ k → k < 12 → 0 ≤ M 71 k ∧ M 71 k ≤ 120 := h.2.2.2.2.2.2.2.1
theorem bI.s {M : zM} (h : bI M) : ∀ d, 0 ≤ d → d < 8 → (0 ≤ M (26 + 2 * d) 2 ∧ M (26 + 2 * d) 2 ≤ 120) ∧ (0 ≤ M (26 + 2 * d) 6 ∧ M (26 + 2 * d) 6 ≤ 16) ∧ (0 ≤ M (26 + 2 * d) 7 ∧ M (26 + 2 * d) 7 ≤ 12) ∧ (0 ≤ M (26 + 2 * d) 8 ∧ M (26 + 2 * d) 8 ≤ 12) ∧ (0 ≤ M (26 + 2 * d) 5 ∧ M (26 + 2 * d) 5 ≤ 192) := h.2.2.2.2.2.2.2.2
theorem bI.fr {M M' : zM} (H : bI M) (w : ∀ c i, ¬ bWk c i → c ≤ 102 → M' c i = M c i) : bI M' := by
  obtain ⟨h1, h2, h3, h4, h5, ⟨h6, h7, h8⟩, ⟨h9, h10, h11, h12, h12b⟩, ⟨h13, h14, h15, h16, h17⟩, h18⟩ := H
  have a0 := w 1 0 (by omega) (by omega)
  have a1 := w 1 1 (by omega) (by omega)
  have a2 := w 1 2 (by omega) (by omega)
  have a3 := w 1 3 (by omega) (by omega)
  have a4 := w 77 0 (by omega) (by omega)
  have a5 := w 77 1 (by omega) (by omega)
  have a6 := w 77 2 (by omega) (by omega)
  have a7 := w 99 0 (by omega) (by omega)
  have a8 := w 99 1 (by omega) (by omega)
  have a9 := w 99 3 (by omega) (by omega)
  have a9b := w 99 2 (by omega) (by omega)
  have a10 := w 57 0 (by omega) (by omega)
  have a11 := w 57 4 (by omega) (by omega)
  have a12 := w 0 12 (by omega) (by omega)
  refine ⟨by unfold bDim; rw [a0, a1]; exact h1, by rw [a2]; exact h2, by rw [a3]; exact h3, fun i i0 i1 => by rw [w 2 i (by omega) (by omega)]; exact h4 i i0 i1, fun i i0 i1 => by rw [w 3 i (by omega) (by omega)]; exact h5 i i0 i1,
    ⟨by rw [a4, a5]; exact h6, by rw [a6]; exact h7, fun k i k0 k1 i0 i1 => by rw [w (79 + k) i (by omega) (by omega)]; exact h8 k i k0 k1 i0 i1⟩,
    ⟨by rw [a9]; exact h9, by rw [a12, a7, a8]; exact h10, fun i i0 i1 => by rw [w 100 i (by omega) (by omega)]; exact h11 i i0 i1, fun i i0 i1 => by rw [w 101 i (by omega) (by omega)]; exact h12 i i0 i1, by rw [a9b]; exact h12b⟩,
    ⟨by rw [a10]; exact h13, by rw [a11]; exact h14, fun i i0 i1 => by rw [w 72 i (by omega) (by omega)]; exact h15 i i0 i1, fun i i0 i1 => by rw [w 73 i (by omega) (by omega)]; exact h16 i i0 i1, fun i i0 i1 => by rw [w 71 i (by omega) (by omega)]; exact h17 i i0 i1⟩,
    fun d d0 d1 => ?_⟩
  rw [w (26 + 2 * d) 2 (by omega) (by omega), w (26 + 2 * d) 5 (by omega) (by omega), w (26 + 2 * d) 6 (by omega) (by omega), w (26 + 2 * d) 7 (by omega) (by omega), w (26 + 2 * d) 8 (by omega) (by omega)]
  exact h18 d d0 d1
theorem bI.w {M M' : zM} (H : bI M) (w : bW M M') : bI M' := H.fr (fun c i a _ => w c i a)
def mI (M : zM) : Prop := mDim M ∧ (M 103 5 = 0 ∨ M 103 5 = 1) ∧ mCo M ∧ (∀ c, 0 ≤ c → c < 16 → 0 ≤ M 105 c ∧ M 105 c ≤ 255) ∧
  ((0 ≤ M 103 8 ∧ M 103 8 ≤ M 103 7 ∧ M 103 7 ≤ 20) ∧ ∀ i, 0 ≤ i → i < 192 * M 103 7 → 0 ≤ M 106 i ∧ M 106 i ≤ 15) ∧
  ((M 103 13 ≠ 0 → (1 ≤ M 103 14 ∧ M 103 14 ≤ 16) ∧ (1 ≤ M 103 15 ∧ M 103 15 ≤ 12)) ∧ (∀ i, 0 ≤ i → i < 192 → 0 ≤ M 110 i ∧ M 110 i ≤ 15) ∧ (∀ c, 0 ≤ c → c < 16 → 0 ≤ M 111 c ∧ M 111 c ≤ 255) ∧ (M 103 18 = 0 ∨ M 103 18 = 1)) ∧
  ((0 ≤ M 103 9 ∧ M 103 9 ≤ 12) ∧ (0 ≤ M 103 19 ∧ M 103 19 ≤ 12) ∧ (∀ k, 0 ≤ k → k < 12 → M 109 k = 0 ∨ M 109 k = 1) ∧ (∀ k, 0 ≤ k → k < 12 → M 112 k = 0 ∨ M 112 k = 1) ∧ ∀ k, 0 ≤ k → k < 12 → 0 ≤ M 108 k ∧ M 108 k ≤ 120) ∧
  ∀ d, 0 ≤ d → d < 8 → (0 ≤ M 141 d ∧ M 141 d ≤ 120) ∧ (0 ≤ M 137 d ∧ M 137 d ≤ 16) ∧ (0 ≤ M 138 d ∧ M 138 d ≤ 12) ∧ (0 ≤ M 139 d ∧ M 139 d ≤ 12) ∧ (0 ≤ M 136 d ∧ M 136 d ≤ 192)
theorem mI.d {M : zM} (h : mI M) : mDim M := h.1
theorem mI.t {M : zM} (h : mI M) : M 103 5 = 0 ∨ M 103 5 = 1 := h.2.1
theorem mI.c {M : zM} (h : mI M) : mCo M := h.2.2.1
theorem mI.tn {M : zM} (h : mI M) : ∀ c, 0 ≤ c → c < 16 → 0 ≤ M 105 c ∧ M 105 c ≤ 255 := h.2.2.2.1
theorem mI.h {M : zM} (h : mI M) : (0 ≤ M 103 8 ∧ M 103 8 ≤ M 103 7 ∧ M 103 7 ≤ 20) ∧ ∀ i, 0 ≤ i → i < 192 * M 103 7 → 0 ≤ M 106 i ∧ M 106 i ≤ 15 := h.2.2.2.2.1
theorem mI.i {M : zM} (h : mI M) : (M 103 13 ≠ 0 → (1 ≤ M 103 14 ∧ M 103 14 ≤ 16) ∧ (1 ≤ M 103 15 ∧ M 103 15 ≤ 12)) ∧ (∀ i, 0 ≤ i → i < 192 → 0 ≤ M 110 i ∧ M 110 i ≤ 15) ∧ (∀ c, 0 ≤ c → c < 16 → 0 ≤ M 111 c ∧ M 111 c ≤ 255) ∧ (M 103 18 = 0 ∨ M 103 18 = 1) := h.2.2.2.2.2.1
theorem mI.r {M : zM} (h : mI M) : (0 ≤ M 103 9 ∧ M 103 9 ≤ 12) ∧ (0 ≤ M 103 19 ∧ M 103 19 ≤ 12) ∧ (∀ k, 0 ≤ k → k < 12 → M 109 k = 0 ∨ M 109 k = 1) ∧ (∀ k, 0 ≤ k → k < 12 → M 112 k = 0 ∨ M 112 k = 1) ∧ ∀ k, 0 ≤ k → k < 12 → 0 ≤ M 108 k ∧ M 108 k ≤ 120 := h.2.2.2.2.2.2.1
theorem mI.s {M : zM} (h : mI M) : ∀ d, 0 ≤ d → d < 8 → (0 ≤ M 141 d ∧ M 141 d ≤ 120) ∧ (0 ≤ M 137 d ∧ M 137 d ≤ 16) ∧ (0 ≤ M 138 d ∧ M 138 d ≤ 12) ∧ (0 ≤ M 139 d ∧ M 139 d ≤ 12) ∧ (0 ≤ M 136 d ∧ M 136 d ≤ 192) := h.2.2.2.2.2.2.2
theorem mI.fr {M M' : zM} (H : mI M) (w : ∀ c i, ¬ mWk c i → 103 ≤ c → M' c i = M c i) : mI M' := by
  obtain ⟨h1, h2, h4, h5, ⟨h6, h8⟩, ⟨h10, h11, h12, h12b⟩, ⟨h13, h14, h15, h16, h17⟩, h18⟩ := H
  have a0 := w 103 1 (by omega) (by omega)
  have a1 := w 103 2 (by omega) (by omega)
  have a2 := w 103 5 (by omega) (by omega)
  have a4 := w 103 7 (by omega) (by omega)
  have a5 := w 103 8 (by omega) (by omega)
  have a6 := w 103 9 (by omega) (by omega)
  have a7 := w 103 13 (by omega) (by omega)
  have a8 := w 103 14 (by omega) (by omega)
  have a9 := w 103 15 (by omega) (by omega)
  have a10 := w 103 18 (by omega) (by omega)
  have a11 := w 103 19 (by omega) (by omega)
  refine ⟨by unfold mDim; rw [a0, a1]; exact h1, by rw [a2]; exact h2, fun i i0 i1 => by rw [w 104 i (by omega) (by omega)]; exact h4 i i0 i1, fun i i0 i1 => by rw [w 105 i (by omega) (by omega)]; exact h5 i i0 i1,
    ⟨by rw [a4, a5]; exact h6, fun i i0 i1 => by rw [w 106 i (by omega) (by omega)]; exact h8 i i0 (by rw [a4] at i1; exact i1)⟩,
    ⟨by rw [a7, a8, a9]; exact h10, fun i i0 i1 => by rw [w 110 i (by omega) (by omega)]; exact h11 i i0 i1, fun i i0 i1 => by rw [w 111 i (by omega) (by omega)]; exact h12 i i0 i1, by rw [a10]; exact h12b⟩,
    ⟨by rw [a6]; exact h13, by rw [a11]; exact h14, fun i i0 i1 => by rw [w 109 i (by omega) (by omega)]; exact h15 i i0 i1, fun i i0 i1 => by rw [w 112 i (by omega) (by omega)]; exact h16 i i0 i1, fun i i0 i1 => by rw [w 108 i (by omega) (by omega)]; exact h17 i i0 i1⟩,
    fun d d0 d1 => ?_⟩
  rw [w 141 d (by omega) (by omega), w 136 d (by omega) (by omega), w 137 d (by omega) (by omega), w 138 d (by omega) (by omega), w 139 d (by omega) (by omega)]
  exact h18 d d0 d1
theorem mI.w {M M' : zM} (H : mI M) (w : mW M M') : mI M' := H.fr (fun c i a _ => w c i a)
abbrev pr_X11_asNumber (b : Int) (M : zM) : Prop := (b = 0 ∨ b = 1)
abbrev po_X11_asNumber (b : Int) (M : zM) (r : Int) (M' : zM) : Prop := M' = M ∧ r = b
set_option maxHeartbeats 1000000 in
theorem ok_X11_asNumber : zSnd zS 145 0 0 yX11_asNumber cX11_asNumber 1 (some .int) 0 [0] (F_X11_asNumber pr_X11_asNumber po_X11_asNumber) := by
  refine (sn_X11_asNumber).mono ?_
  rintro xs P M hz hR ⟨b, rfl, hb, hP⟩
  refine ⟨_, rfl, ?_⟩
  have z_b := zall_h hz (by decide)
  change vc_X11_asNumber b P M
  unfold vc_X11_asNumber
  refine ⟨fun b1 => ?_, fun b1 => ?_⟩
  · -- b1.1
    refine hP _ _ ⟨rfl, ?_⟩
    · omega  -- p1
  · -- b1.2
    refine hP _ _ ⟨rfl, ?_⟩
    · omega  -- p2

abbrev pr_X11_isCost (c : Int) (M : zM) : Prop := True
abbrev po_X11_isCost (c : Int) (M : zM) (r : Int) (M' : zM) : Prop := M' = M ∧ r = if 0 ≤ c ∧ c ≤ 99 then 1 else 0
set_option maxHeartbeats 1000000 in
theorem ok_X11_isCost : zSnd zS 145 0 0 yX11_isCost cX11_isCost 1 (some .boolean) 0 [0] (F_X11_isCost pr_X11_isCost po_X11_isCost) := by
  refine (sn_X11_isCost).mono ?_
  rintro xs P M hz hR ⟨c, rfl, _, hP⟩
  refine ⟨_, rfl, ?_⟩
  have z_c := zall_h hz (by decide)
  change vc_X11_isCost c P M
  unfold vc_X11_isCost
  refine ⟨fun b1 => ?_, fun b1 => ?_⟩
  · -- b1.1
    refine hP _ _ ⟨rfl, ?_⟩
    · rw [if_neg (by omega)]  -- p1
  · -- b1.2
    refine ⟨fun b2 => ?_, fun b2 => ?_⟩
    · -- b2.1
      refine hP _ _ ⟨rfl, ?_⟩
      · rw [if_neg (by omega)]  -- p2
    · -- b2.2
      refine hP _ _ ⟨rfl, ?_⟩
      · rw [if_pos (by omega)]  -- p3

abbrev pr_X11_isMiss (c : Int) (M : zM) : Prop := True
abbrev po_X11_isMiss (c : Int) (M : zM) (r : Int) (M' : zM) : Prop := M' = M ∧ r = if 0 ≤ c ∧ c ≤ 400 then 1 else 0
set_option maxHeartbeats 1000000 in
theorem ok_X11_isMiss : zSnd zS 145 0 0 yX11_isMiss cX11_isMiss 1 (some .boolean) 0 [0] (F_X11_isMiss pr_X11_isMiss po_X11_isMiss) := by
  refine (sn_X11_isMiss).mono ?_
  rintro xs P M hz hR ⟨c, rfl, _, hP⟩
  refine ⟨_, rfl, ?_⟩
  have z_c := zall_h hz (by decide)
  change vc_X11_isMiss c P M
  unfold vc_X11_isMiss
  refine ⟨fun b1 => ?_, fun b1 => ?_⟩
  · -- b1.1
    refine hP _ _ ⟨rfl, ?_⟩
    · rw [if_neg (by omega)]  -- p1
  · -- b1.2
    refine ⟨fun b2 => ?_, fun b2 => ?_⟩
    · -- b2.1
      refine hP _ _ ⟨rfl, ?_⟩
      · rw [if_neg (by omega)]  -- p2
    · -- b2.2
      refine hP _ _ ⟨rfl, ?_⟩
      · rw [if_pos (by omega)]  -- p3

abbrev pr_X11_isFace (f : Int) (M : zM) : Prop := (bI M) ∧ (bK M)
abbrev po_X11_isFace (f : Int) (M : zM) (r : Int) (M' : zM) : Prop := (∀ c i, ¬ (6 ≤ c ∧ c ≤ 13) → ¬ (c = 5 ∧ (i = 1 ∨ i = 2)) → M' c i = M c i) ∧ (bQ M') ∧ (bQ M → M' = M) ∧ (zB r (0 ≤ f ∧ f < M' 5 2))
set_option maxHeartbeats 1000000 in
theorem ok_X11_isFace : zSnd zS 145 0 0 yX11_isFace cX11_isFace 2 (some .boolean) 4 [2, 0] (F_X11_isFace pr_X11_isFace po_X11_isFace) := by
  refine (sn_X11_isFace ok_X2_refresh ok_X2_has).mono ?_
  rintro xs P M hz hR ⟨f, rfl, ⟨hI, hK⟩, hP⟩
  refine ⟨_, rfl, ?_⟩
  have z_f := zall_h (zall_t hz) (by decide)
  change vc_X11_isFace pr_X2_refresh po_X2_refresh pr_X2_has po_X2_has f P M
  unfold vc_X11_isFace
  have gc1 : pr_X2_refresh M := by
    refine ⟨?_, ?_, ?_, ?_⟩
    · show bDim M  -- c1.hd
      exact hI.d
    · show M 1 2 = 0 ∨ M 1 2 = 1  -- c1.ht
      exact hI.t
    · show ∀ i, gD (M 1 0) (M 1 1) i → 0 ≤ M 2 i  -- c1.hc
      intro i d; have := hI.d; exact (hI.c i d.1 (by omega)).1
    · show M 5 1 = M 1 3 → bFok M  -- c1.hk
      exact hK.2.2.1
  refine ⟨gc1, ?_⟩
  rintro M1 ⟨pc1_hf, pc1_h51, pc1_hok, pc1_hs⟩ z_M1
  have gc2 : pr_X2_has f M1 := trivial
  refine ⟨gc2, ?_⟩
  rintro r6 M7 ⟨q_rfl, e_r6⟩ z_r6 z_M7
  have q_rfl := q_rfl.symm
  subst q_rfl
  have o1 : (r6 = 0 ∨ r6 = 1) := by
    split at e_r6 <;> omega
  refine ⟨o1, ?_⟩
  refine hP _ _ ⟨?_, ?_, ?_, ?_⟩
  · show ∀ c i, ¬ (6 ≤ c ∧ c ≤ 13) → ¬ (c = 5 ∧ (i = 1 ∨ i = 2)) → M1 c i = M c i  -- p1.hf
    exact pc1_hf
  · show bQ M1  -- p1.hQ
    exact hK.refresh pc1_hf pc1_h51 pc1_hok pc1_hs
  · show bQ M → M1 = M  -- p1.hs
    intro q; exact pc1_hs q.2
  · show zB r6 (0 ≤ f ∧ f < M1 5 2)  -- p1.hr
    exact zif01 e_r6

theorem bI.face {M M' : zM} (H : bI M) (hf : ∀ c i, ¬ (6 ≤ c ∧ c ≤ 13) → ¬ (c = 5 ∧ (i = 1 ∨ i = 2)) → M' c i = M c i) : bI M' := H.fr (fun c i k _ => hf c i (by omega) (by omega))
