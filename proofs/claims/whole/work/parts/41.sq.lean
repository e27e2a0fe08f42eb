/-- the square of k times k dots from x, y on is all of f -/
def gSqr (G : Int → Int → Int) (f x y k : Int) : Prop := ∀ i j, 0 ≤ i → i < k → 0 ≤ j → j < k → G (x + i) (y + j) = f
/-- s: how wide the greatest square is whose last dot is x, y -/
def gQv (G : Int → Int → Int) (f x y s : Int) : Prop := 0 ≤ s ∧ ∀ k, 0 ≤ k → (k ≤ s ↔ gSqr G f (x - k + 1) (y - k + 1) k)
theorem gSqr_0 {G : Int → Int → Int} {f x y k : Int} (h : k ≤ 0) : gSqr G f x y k := fun i j a b _ _ => by omega
theorem gQv_0 {G : Int → Int → Int} {f x y : Int} (h : G x y ≠ f) : gQv G f x y 0 := by
  refine ⟨by omega, fun k k0 => ⟨fun l => gSqr_0 l, fun s => ?_⟩⟩
  apply Classical.byContradiction
  intro c
  have := s (k - 1) (k - 1) (by omega) (by omega) (by omega) (by omega)
  rw [show x - k + 1 + (k - 1) = x by omega, show y - k + 1 + (k - 1) = y by omega] at this
  exact h this
theorem gQv_s {G : Int → Int → Int} {f x y a b c : Int} (h : G x y = f) (ha : gQv G f (x - 1) (y - 1) a) (hb : gQv G f (x - 1) y b) (hc : gQv G f x (y - 1) c) : gQv G f x y (1 + min a (min b c)) := by
  have a0 := ha.1
  have b0 := hb.1
  have c0 := hc.1
  refine ⟨by omega, fun k k0 => ?_⟩
  by_cases kz : k = 0
  · subst kz
    exact ⟨fun _ => gSqr_0 (by omega), fun _ => by omega⟩
  have A := ha.2 (k - 1) (by omega)
  have B := hb.2 (k - 1) (by omega)
  have C := hc.2 (k - 1) (by omega)
  constructor
  · intro l
    have sa := A.1 (by omega)
    have sb := B.1 (by omega)
    have sc := C.1 (by omega)
    intro i j i0 i1 j0 j1
    by_cases ci : i = k - 1
    · by_cases cj : j = k - 1
      · rw [show x - k + 1 + i = x by omega, show y - k + 1 + j = y by omega]; exact h
      · have := sc (i - 1) j (by omega) (by omega) j0 (by omega)
        rw [show x - (k - 1) + 1 + (i - 1) = x - k + 1 + i by omega, show y - 1 - (k - 1) + 1 + j = y - k + 1 + j by omega] at this
        exact this
    · by_cases cj : j = k - 1
      · have := sb i (j - 1) i0 (by omega) (by omega) (by omega)
        rw [show x - 1 - (k - 1) + 1 + i = x - k + 1 + i by omega, show y - (k - 1) + 1 + (j - 1) = y - k + 1 + j by omega] at this
        exact this
      · have := sa i j i0 (by omega) j0 (by omega)
        rw [show x - 1 - (k - 1) + 1 + i = x - k + 1 + i by omega, show y - 1 - (k - 1) + 1 + j = y - k + 1 + j by omega] at this
        exact this
  · intro s
    have l1 := A.2 (fun i j i0 i1 j0 j1 => by
      have := s i j i0 (by omega) j0 (by omega)
      rw [show x - 1 - (k - 1) + 1 + i = x - k + 1 + i by omega, show y - 1 - (k - 1) + 1 + j = y - k + 1 + j by omega]
      exact this)
    have l2 := B.2 (fun i j i0 i1 j0 j1 => by
      have := s i (j + 1) i0 (by omega) (by omega) (by omega)
      rw [show x - 1 - (k - 1) + 1 + i = x - k + 1 + i by omega, show y - (k - 1) + 1 + j = y - k + 1 + (j + 1) by omega]
      exact this)
    have l3 := C.2 (fun i j i0 i1 j0 j1 => by
      have := s (i + 1) j (by omega) (by omega) j0 (by omega)
      rw [show x - (k - 1) + 1 + i = x - k + 1 + (i + 1) by omega, show y - 1 - (k - 1) + 1 + j = y - k + 1 + j by omega]
      exact this)
    omega
/-- a row of numbers as a field, 0 outside -/
def zs (w h : Int) (S : Int → Int) (x y : Int) : Int := if 0 ≤ x ∧ x < w ∧ 0 ≤ y ∧ y < h then S (16 * y + x) else 0
theorem zs_i {w h x y : Int} {S : Int → Int} (c : 0 ≤ x ∧ x < w ∧ 0 ≤ y ∧ y < h) : zs w h S x y = S (16 * y + x) := if_pos c
theorem zs_o {w h x y : Int} {S : Int → Int} (c : ¬ (0 ≤ x ∧ x < w ∧ 0 ≤ y ∧ y < h)) : zs w h S x y = 0 := if_neg c
section
variable {w h f : Int} {L : Int → Int}
theorem gSqr_in {x y k : Int} (hf : 0 ≤ f) (s : gSqr (zg w h L) f x y k) (k1 : 1 ≤ k) : 0 ≤ x ∧ x + k ≤ w ∧ 0 ≤ y ∧ y + k ≤ h := by
  have a := zg_ge (s 0 0 (by omega) (by omega) (by omega) (by omega)) hf
  have b := zg_ge (s (k - 1) (k - 1) (by omega) (by omega) (by omega) (by omega)) hf
  omega
theorem gQv_b {x y s : Int} (hf : 0 ≤ f) (q : gQv (zg w h L) f x y s) (hh : h ≤ 12) (h0 : 0 ≤ h) : s ≤ 12 := by
  apply Classical.byContradiction
  intro c
  have a := (q.2 s q.1).1 (by omega)
  have b := gSqr_in hf a (by omega)
  omega
/-- the greatest breadth -/
def gGb (G : Int → Int → Int) (f r : Int) : Prop := 0 ≤ r ∧ (∃ x y, gSqr G f x y r) ∧ ∀ k x y, 0 ≤ k → gSqr G f x y k → k ≤ r
theorem gGb.uq {G : Int → Int → Int} {r q : Int} (a : gGb G f r) (b : gGb G f q) : r = q := by
  obtain ⟨x, y, s⟩ := a.2.1
  obtain ⟨x', y', s'⟩ := b.2.1
  have := a.2.2 q x' y' b.1 s'
  have := b.2.2 r x y a.1 s
  omega
/-- the breadth of a dot -/
def gBr (G : Int → Int → Int) (f x y r : Int) : Prop := 1 ≤ r ∧ (∃ a b, gSqr G f a b r ∧ a ≤ x ∧ x < a + r ∧ b ≤ y ∧ y < b + r) ∧ ∀ k a b, gSqr G f a b k → a ≤ x → x < a + k → b ≤ y → y < b + k → k ≤ r
theorem gBr.uq {G : Int → Int → Int} {x y r q : Int} (h : gBr G f x y r) (g : gBr G f x y q) : r = q := by
  obtain ⟨a, b, s, s1, s2, s3, s4⟩ := h.2.1
  obtain ⟨a', b', t, t1, t2, t3, t4⟩ := g.2.1
  have := h.2.2 q a' b' t t1 t2 t3 t4
  have := g.2.2 r a b s s1 s2 s3 s4
  omega
/-- the room round a dot -/
def gRad (G : Int → Int → Int) (f x y r : Int) : Prop := 0 ≤ r ∧ (∀ q, 1 ≤ q → q ≤ r → gSqr G f (x - q) (y - q) (2 * q + 1)) ∧ ¬ gSqr G f (x - r - 1) (y - r - 1) (2 * r + 3)
theorem gRad.uq {G : Int → Int → Int} {x y r q : Int} (h : gRad G f x y r) (g : gRad G f x y q) : r = q := by
  apply Classical.byContradiction
  intro c
  rcases Int.lt_or_gt_of_ne c with k | k
  · have := g.2.1 (r + 1) (by have := h.1; omega) (by omega)
    rw [show x - (r + 1) = x - r - 1 by omega, show y - (r + 1) = y - r - 1 by omega, show 2 * (r + 1) + 1 = 2 * r + 3 by omega] at this
    exact h.2.2 this
  · have := h.2.1 (q + 1) (by have := g.1; omega) (by omega)
    rw [show x - (q + 1) = x - q - 1 by omega, show y - (q + 1) = y - q - 1 by omega, show 2 * (q + 1) + 1 = 2 * q + 3 by omega] at this
    exact g.2.2 this
/-- a dot of the middle -/
def gMid (G : Int → Int → Int) (f x y : Int) : Prop := ∀ dx dy, gOff 0 dx dy → G (x + dx) (y + dy) = f → ∀ r q, gRad G f x y r → gRad G f (x + dx) (y + dy) q → q ≤ r
theorem gMid4 {G : Int → Int → Int} {x y r : Int} (hr : gRad G f x y r) : gMid G f x y ↔ ∀ d, 0 ≤ d → d < 4 → G (x + zdx d) (y + zdy d) = f → ∀ q, gRad G f (x + zdx d) (y + zdy d) q → q ≤ r := by
  constructor
  · intro g d d0 d1 e q hq
    exact g _ _ (gOff_m d0 (by rw [if_pos rfl]; exact d1)) e r q hr hq
  · intro g dx dy o e r' q hr' hq
    obtain ⟨d, d0, d1, e1, e2⟩ := gOff_m' o
    rw [if_pos rfl] at d1
    rw [← e1, ← e2] at e hq
    have := g d d0 d1 e q hq
    have := hr.uq hr'
    omega
end
abbrev pr_X9_squareAt (x : Int) (y : Int) (M : zM) : Prop := (bDim M)
abbrev po_X9_squareAt (x : Int) (y : Int) (M : zM) (r : Int) (M' : zM) : Prop := M' = M ∧ r = zs (M 1 0) (M 1 1) (M 49) x y
set_option maxHeartbeats 1000000 in
theorem ok_X9_squareAt : zSnd zS 145 0 0 yX9_squareAt cX9_squareAt 3 (some .int) 0 [2, 0, 0] (F_X9_squareAt pr_X9_squareAt po_X9_squareAt) := by
  refine (sn_X9_squareAt).mono ?_
  rintro xs P M hz hR ⟨x, y, rfl, hd, hP⟩
  refine ⟨_, _, rfl, ?_⟩
  have z_x := zall_h (zall_t hz) (by decide)
  have z_y := zall_h (zall_t (zall_t hz)) (by decide)
  change vc_X9_squareAt x y P M
  unfold vc_X9_squareAt
  refine ⟨fun b1 => ?_, fun b1 => ?_⟩
  · -- b1.1
    refine hP _ _ ⟨rfl, ?_⟩
    · exact (zs_o (by omega)).symm  -- p1
  · -- b1.2
    refine ⟨fun b2 => ?_, fun b2 => ?_⟩
    · -- b2.1
      refine hP _ _ ⟨rfl, ?_⟩
      · exact (zs_o (by omega)).symm  -- p2
    · -- b2.2
      refine ⟨fun b3 => ?_, fun b3 => ?_⟩
      · -- b3.1
        refine hP _ _ ⟨rfl, ?_⟩
        · exact (zs_o (by omega)).symm  -- p3
      · -- b3.2
        refine ⟨fun b4 => ?_, fun b4 => ?_⟩
        · -- b4.1
          refine hP _ _ ⟨rfl, ?_⟩
          · exact (zs_o (by omega)).symm  -- p4
        · -- b4.2
          have o1 : ((0 : Int) ≤ ((16 * y) + x) ∧ ((16 * y) + x) < 192) := by
            first | with_reducible assumption | omega | exact trivial | with_reducible rfl  -- o1
          refine ⟨o1, ?_⟩
          refine hP _ _ ⟨rfl, ?_⟩
          · exact (zs_i (S := M 49) (by omega)).symm  -- p5

/-- the squares of face f are grown -/
def bSq (M : zM) (f : Int) : Prop := M 48 2 = f ∧ ∀ x y, gQv (zg (M 1 0) (M 1 1) (M 12)) f x y (zs (M 1 0) (M 1 1) (M 49) x y)
abbrev pr_X9_growSquares (f : Int) (M : zM) : Prop := (bDim M) ∧ (0 ≤ f)
abbrev po_X9_growSquares (f : Int) (M : zM) (M' : zM) : Prop := (∀ c i, c ≠ 49 → ¬ (c = 48 ∧ i = 2) → M' c i = M c i) ∧ (bSq M' f)
set_option maxHeartbeats 1000000 in
theorem ok_X9_growSquares : zSnd zS 145 0 0 yX9_growSquares cX9_growSquares 5 none 1 [2, 0] (F_X9_growSquares pr_X9_growSquares po_X9_growSquares) := by
  refine (sn_X9_growSquares ok_X9_squareAt ok_X2_faceAt).mono ?_
  rintro xs P M hz hR ⟨f, rfl, ⟨hd, hf0⟩, hP⟩
  refine ⟨_, rfl, ?_⟩
  have z_f := zall_h (zall_t hz) (by decide)
  change vc_X9_growSquares pr_X9_squareAt po_X9_squareAt pr_X2_faceAt po_X2_faceAt f P M
  unfold vc_X9_growSquares
  intro M1 e_M1
  refine ⟨fun v4 M6 n8 => (n8 : Int) = (20 - v4) ∧ (0 ≤ v4 ∧ v4 ≤ M 1 1) ∧ (∀ c i, c ≠ 49 → ¬ (c = 48 ∧ i = 2) → M6 c i = M c i) ∧ (M6 48 2 = f) ∧ (∀ x y, y < v4 → gQv (zg (M 1 0) (M 1 1) (M 12)) f x y (zs (M 1 0) (M 1 1) (M6 49) x y)), ⟨Int.toNat (20 - 0), by omega, ?_, ?_, ?_, ?_⟩, ?_⟩
  · show 0 ≤ 0 ∧ 0 ≤ M 1 1  -- I7.0.hv
    first | with_reducible assumption | omega | exact trivial | with_reducible rfl
  · show ∀ c i, c ≠ 49 → ¬ (c = 48 ∧ i = 2) → M1 c i = M c i  -- I7.0.hf
    intro c i _ h; rw [e_M1, zset_n _ (by omega)]
  · show M1 48 2 = f  -- I7.0.h2
    rw [e_M1, zset_s]
  · show ∀ x y, y < 0 → gQv (zg (M 1 0) (M 1 1) (M 12)) f x y (zs (M 1 0) (M 1 1) (M1 49) x y)  -- I7.0.hq
    intro x y y0; rw [zs_o (by omega)]; exact gQv_0 (by rw [zg_o (by omega)]; omega)
  rintro v4 M6 n8 ⟨h_n8, hv, hf, h2, hq⟩ z_v4 z_M6
  have w0 := hf 1 0 (by decide) (by decide)
  have w1 := hf 1 1 (by decide) (by decide)
  have w12 : M6 12 = M 12 := funext fun i => hf 12 i (by decide) (by omega)
  refine ⟨fun b1 => ?_, fun b1 => ?_⟩
  · -- b1.1
    refine hP _ ⟨?_, ?_⟩
    · show ∀ c i, c ≠ 49 → ¬ (c = 48 ∧ i = 2) → M6 c i = M c i  -- p1.hf
      first | with_reducible assumption | omega | exact trivial | with_reducible rfl
    · show bSq M6 f  -- p1.hs
      refine ⟨h2, fun x y => ?_⟩
      rw [w0, w1, w12]
      by_cases c : y < v4
      · exact hq x y c
      · rw [zs_o (by omega)]; exact gQv_0 (by rw [zg_o (by omega)]; omega)
  · -- b1.2
    refine ⟨fun v16 M18 n20 => (n20 : Int) = (20 - v16) ∧ (0 ≤ v16 ∧ v16 ≤ M 1 0) ∧ (∀ c i, c ≠ 49 → ¬ (c = 48 ∧ i = 2) → M18 c i = M c i) ∧ (M18 48 2 = f) ∧ (∀ x y, (y < v4 ∨ (y = v4 ∧ x < v16)) → gQv (zg (M 1 0) (M 1 1) (M 12)) f x y (zs (M 1 0) (M 1 1) (M18 49) x y)), ⟨Int.toNat (20 - 0), by omega, ?_, ?_, ?_, ?_⟩, ?_⟩
    · show 0 ≤ 0 ∧ 0 ≤ M 1 0  -- I23.0.hv2
      first | with_reducible assumption | omega | exact trivial | with_reducible rfl
    · show ∀ c i, c ≠ 49 → ¬ (c = 48 ∧ i = 2) → M6 c i = M c i  -- I23.0.hf2
      first | with_reducible assumption | omega | exact trivial | with_reducible rfl
    · show M6 48 2 = f  -- I23.0.h22
      first | with_reducible assumption | omega | exact trivial | with_reducible rfl
    · show ∀ x y, (y < v4 ∨ (y = v4 ∧ x < 0)) → gQv (zg (M 1 0) (M 1 1) (M 12)) f x y (zs (M 1 0) (M 1 1) (M6 49) x y)  -- I23.0.hq2
      intro x y k
      rcases k with k | k
      · exact hq x y k
      · rw [zs_o (by omega)]; exact gQv_0 (by rw [zg_o (by omega)]; omega)
    rintro v16 M18 n20 ⟨h_n20, hv2, hf2, h22, hq2⟩ z_v16 z_M18
    have y0 := hf2 1 0 (by decide) (by decide)
    have y1 := hf2 1 1 (by decide) (by decide)
    have y12 : M18 12 = M 12 := funext fun i => hf2 12 i (by decide) (by omega)
    refine ⟨fun b2 => ?_, fun b2 => ?_⟩
    · -- b2.1
      have o1 : zin (v4 + 1) := by
        first | with_reducible assumption | omega | exact trivial | with_reducible rfl  -- o1
      refine ⟨o1, ?_⟩
      refine ⟨Int.toNat (20 - (v4 + 1)), by omega, by omega, ?_, ?_, ?_, ?_⟩
      · show 0 ≤ (v4 + 1) ∧ (v4 + 1) ≤ M 1 1  -- I7.1.hv
        first | with_reducible assumption | omega | exact trivial | with_reducible rfl
      · show ∀ c i, c ≠ 49 → ¬ (c = 48 ∧ i = 2) → M18 c i = M c i  -- I7.1.hf
        first | with_reducible assumption | omega | exact trivial | with_reducible rfl
      · show M18 48 2 = f  -- I7.1.h2
        first | with_reducible assumption | omega | exact trivial | with_reducible rfl
      · show ∀ x y, y < (v4 + 1) → gQv (zg (M 1 0) (M 1 1) (M 12)) f x y (zs (M 1 0) (M 1 1) (M18 49) x y)  -- I7.1.hq
        intro x y k
        by_cases c : y < v4
        · exact hq2 x y (.inl c)
        · by_cases c2 : x < v16
          · exact hq2 x y (.inr ⟨by omega, c2⟩)
          · rw [zs_o (by omega)]; exact gQv_0 (by rw [zg_o (by omega)]; omega)
    · -- b2.2
      have o2 : zin (v4 - 1) := by
        first | with_reducible assumption | omega | exact trivial | with_reducible rfl  -- o2
      refine ⟨o2, ?_⟩
      have o3 : zin (v16 - 1) := by
        first | with_reducible assumption | omega | exact trivial | with_reducible rfl  -- o3
      refine ⟨o3, ?_⟩
      have gc1 : pr_X9_squareAt (v16 - 1) (v4 - 1) M18 := by
        show bDim M18
        unfold bDim; omega
      refine ⟨gc1, ?_⟩
      rintro r34 M35 ⟨q_rfl, e_r34⟩ z_r34 z_M35
      have q_rfl := q_rfl.symm
      subst q_rfl
      have gc2 : pr_X9_squareAt (v16 - 1) v4 M18 := by
        show bDim M18
        unfold bDim; omega
      refine ⟨gc2, ?_⟩
      rintro r40 M41 ⟨q_rfl, e_r40⟩ z_r40 z_M41
      have q_rfl := q_rfl.symm
      subst q_rfl
      have gc3 : pr_X9_squareAt v16 (v4 - 1) M18 := by
        show bDim M18
        unfold bDim; omega
      refine ⟨gc3, ?_⟩
      rintro r46 M47 ⟨q_rfl, e_r46⟩ z_r46 z_M47
      have q_rfl := q_rfl.symm
      subst q_rfl
      have gc4 : pr_X2_faceAt v16 v4 M18 := by
        show bDim M18
        unfold bDim; omega
      refine ⟨gc4, ?_⟩
      rintro r54 M55 ⟨q_rfl, e_r54⟩ z_r54 z_M55
      have q_rfl := q_rfl.symm
      subst q_rfl
      rw [y0, y1] at e_r34 e_r40 e_r46
      have e54 : r54 = zg (M 1 0) (M 1 1) (M 12) v16 v4 := by rw [e_r54, y0, y1, y12]; rfl
      have qa := hq2 (v16 - 1) (v4 - 1) (.inl (by omega))
      have qb := hq2 (v16 - 1) v4 (.inr ⟨rfl, by omega⟩)
      have qc := hq2 v16 (v4 - 1) (.inl (by omega))
      rw [← e_r34] at qa
      rw [← e_r40] at qb
      rw [← e_r46] at qc
      have ba := gQv_b hf0 qa (by omega) (by omega)
      have nx : ∀ (M9 : zM) (v : Int), M9 = zset M18 49 (16 * v4 + v16) v → gQv (zg (M 1 0) (M 1 1) (M 12)) f v16 v4 v → ∀ x y, (y < v4 ∨ (y = v4 ∧ x < v16 + 1)) → gQv (zg (M 1 0) (M 1 1) (M 12)) f x y (zs (M 1 0) (M 1 1) (M9 49) x y) := by
        intro M9 v e hv9 x y k
        by_cases c : x = v16 ∧ y = v4
        · rw [c.1, c.2, zs_i (by omega), e, zset_s]; exact hv9
        · have e3 : zs (M 1 0) (M 1 1) (M9 49) x y = zs (M 1 0) (M 1 1) (M18 49) x y := by
            unfold zs
            by_cases c2 : 0 ≤ x ∧ x < M 1 0 ∧ 0 ≤ y ∧ y < M 1 1
            · rw [if_pos c2, if_pos c2, e, zset_n _ (by omega)]
            · rw [if_neg c2, if_neg c2]
          rw [e3]
          exact hq2 x y (by omega)
      refine ⟨fun b3 => ?_, fun b3 => ?_⟩
      · -- b3.1
        have o4 : ((0 : Int) ≤ ((16 * v4) + v16) ∧ ((16 * v4) + v16) < 192) := by
          first | with_reducible assumption | omega | exact trivial | with_reducible rfl  -- o4
        refine ⟨o4, ?_⟩
        intro M62 e_M62
        have o5 : zin (v16 + 1) := by
          first | with_reducible assumption | omega | exact trivial | with_reducible rfl  -- o5
        refine ⟨o5, ?_⟩
        refine ⟨Int.toNat (20 - (v16 + 1)), by omega, by omega, ?_, ?_, ?_, ?_⟩
        · show 0 ≤ (v16 + 1) ∧ (v16 + 1) ≤ M 1 0  -- I23.1.hv2
          first | with_reducible assumption | omega | exact trivial | with_reducible rfl
        · show ∀ c i, c ≠ 49 → ¬ (c = 48 ∧ i = 2) → M62 c i = M c i  -- I23.1.hf2
          intro c i h1 h2; rw [e_M62, zset_n _ (.inl h1)]; exact hf2 c i h1 h2
        · show M62 48 2 = f  -- I23.1.h22
          rw [e_M62, zset_n _ (.inl (by decide))]; exact h22
        · show ∀ x y, (y < v4 ∨ (y = v4 ∧ x < (v16 + 1))) → gQv (zg (M 1 0) (M 1 1) (M 12)) f x y (zs (M 1 0) (M 1 1) (M62 49) x y)  -- I23.1.hq2
          exact nx _ _ e_M62 (gQv_0 (by rw [← e54]; exact b3))
      · -- b3.2
        have o6 : ((0 : Int) ≤ ((16 * v4) + v16) ∧ ((16 * v4) + v16) < 192) := by
          first | with_reducible assumption | omega | exact trivial | with_reducible rfl  -- o6
        refine ⟨o6, ?_⟩
        have o7 : zin (1 + (min r34 (min r40 r46))) := by
          have := qa.1; have := qb.1; have := qc.1; omega
        refine ⟨o7, ?_⟩
        intro M71 e_M71
        have o8 : zin (v16 + 1) := by
          first | with_reducible assumption | omega | exact trivial | with_reducible rfl  -- o8
        refine ⟨o8, ?_⟩
        refine ⟨Int.toNat (20 - (v16 + 1)), by omega, by omega, ?_, ?_, ?_, ?_⟩
        · show 0 ≤ (v16 + 1) ∧ (v16 + 1) ≤ M 1 0  -- I23.2.hv2
          first | with_reducible assumption | omega | exact trivial | with_reducible rfl
        · show ∀ c i, c ≠ 49 → ¬ (c = 48 ∧ i = 2) → M71 c i = M c i  -- I23.2.hf2
          intro c i h1 h2; rw [e_M71, zset_n _ (.inl h1)]; exact hf2 c i h1 h2
        · show M71 48 2 = f  -- I23.2.h22
          rw [e_M71, zset_n _ (.inl (by decide))]; exact h22
        · show ∀ x y, (y < v4 ∨ (y = v4 ∧ x < (v16 + 1))) → gQv (zg (M 1 0) (M 1 1) (M 12)) f x y (zs (M 1 0) (M 1 1) (M71 49) x y)  -- I23.2.hq2
          exact nx _ _ e_M71 (gQv_s (by rw [← e54]; exact b3) qa qb qc)

abbrev pr_X9_greatestBreadth (f : Int) (M : zM) : Prop := (bDim M) ∧ (0 ≤ f)
abbrev po_X9_greatestBreadth (f : Int) (M : zM) (r : Int) (M' : zM) : Prop := (∀ c i, c ≠ 49 → ¬ (c = 48 ∧ i = 2) → M' c i = M c i) ∧ (gGb (zg (M 1 0) (M 1 1) (M 12)) f r) ∧ (0 ≤ r ∧ r ≤ 12)
set_option maxHeartbeats 1000000 in
theorem ok_X9_greatestBreadth : zSnd zS 145 0 0 yX9_greatestBreadth cX9_greatestBreadth 5 (some .int) 2 [2, 0] (F_X9_greatestBreadth pr_X9_greatestBreadth po_X9_greatestBreadth) := by
  refine (sn_X9_greatestBreadth ok_X9_growSquares ok_X9_squareAt).mono ?_
  rintro xs P M hz hR ⟨f, rfl, ⟨hd, hf0⟩, hP⟩
  refine ⟨_, rfl, ?_⟩
  have z_f := zall_h (zall_t hz) (by decide)
  change vc_X9_greatestBreadth pr_X9_growSquares po_X9_growSquares pr_X9_squareAt po_X9_squareAt f P M
  unfold vc_X9_greatestBreadth
  have gc1 : pr_X9_growSquares f M := by
    refine ⟨?_, ?_⟩
    · show bDim M  -- c1.hd
      first | with_reducible assumption | omega | exact trivial | with_reducible rfl
    · show 0 ≤ f  -- c1.hf0
      first | with_reducible assumption | omega | exact trivial | with_reducible rfl
  refine ⟨gc1, ?_⟩
  rintro M1 ⟨pc1_hf, pc1_hs⟩ z_M1
  have w0 := pc1_hf 1 0 (by decide) (by decide)
  have w1 := pc1_hf 1 1 (by decide) (by decide)
  have w12 : M1 12 = M 12 := funext fun i => pc1_hf 12 i (by decide) (by omega)
  have Q := pc1_hs.2
  rw [w0, w1, w12] at Q
  have Qb := fun x y => gQv_b hf0 (Q x y) (by omega) (by omega)
  refine ⟨fun v6 v7 M10 n12 => (n12 : Int) = (20 - v7) ∧ (0 ≤ v7 ∧ v7 ≤ M 1 1) ∧ (M10 = M1) ∧ (0 ≤ v6 ∧ v6 ≤ 12) ∧ (∃ x y, gSqr (zg (M 1 0) (M 1 1) (M 12)) f x y v6) ∧ (∀ x y, y < v7 → zs (M 1 0) (M 1 1) (M1 49) x y ≤ v6), ⟨Int.toNat (20 - 0), by omega, ?_, ?_, ?_, ?_, ?_⟩, ?_⟩
  · show 0 ≤ 0 ∧ 0 ≤ M 1 1  -- I9.0.hv
    first | with_reducible assumption | omega | exact trivial | with_reducible rfl
  · first | with_reducible assumption | omega | exact trivial | with_reducible rfl  -- I9.0.rfl
  · show 0 ≤ 0 ∧ 0 ≤ 12  -- I9.0.h6
    first | with_reducible assumption | omega | exact trivial | with_reducible rfl
  · show ∃ x y, gSqr (zg (M 1 0) (M 1 1) (M 12)) f x y 0  -- I9.0.he
    exact ⟨0, 0, gSqr_0 (by omega)⟩
  · show ∀ x y, y < 0 → zs (M 1 0) (M 1 1) (M1 49) x y ≤ 0  -- I9.0.hm
    intro x y y0; rw [zs_o (by omega)]; omega
  rintro v6 v7 M10 n12 ⟨h_n12, hv, q_rfl, h6, he, hm⟩ z_v6 z_v7 z_M10
  have q_rfl := q_rfl.symm
  subst q_rfl
  refine ⟨fun b1 => ?_, fun b1 => ?_⟩
  · -- b1.1
    refine hP _ _ ⟨?_, ?_, ?_⟩
    · show ∀ c i, c ≠ 49 → ¬ (c = 48 ∧ i = 2) → M1 c i = M c i  -- p1.hf
      first | with_reducible assumption | omega | exact trivial | with_reducible rfl
    · show gGb (zg (M 1 0) (M 1 1) (M 12)) f v6  -- p1.hr
      refine ⟨h6.1, he, fun k x y k0 s => ?_⟩
      by_cases k1 : k = 0
      · omega
      · have b := gSqr_in hf0 s (by omega)
        have := hm (x + k - 1) (y + k - 1) (by omega)
        have q := ((Q (x + k - 1) (y + k - 1)).2 k k0).2 (by rw [show x + k - 1 - k + 1 = x by omega, show y + k - 1 - k + 1 = y by omega]; exact s)
        omega
    · show 0 ≤ v6 ∧ v6 ≤ 12  -- p1.hb
      first | with_reducible assumption | omega | exact trivial | with_reducible rfl
  · -- b1.2
    refine ⟨fun v20 v21 M24 n26 => (n26 : Int) = (20 - v21) ∧ (0 ≤ v21 ∧ v21 ≤ M 1 0) ∧ (M24 = M1) ∧ (0 ≤ v20 ∧ v20 ≤ 12) ∧ (∃ x y, gSqr (zg (M 1 0) (M 1 1) (M 12)) f x y v20) ∧ (∀ x y, (y < v7 ∨ (y = v7 ∧ x < v21)) → zs (M 1 0) (M 1 1) (M1 49) x y ≤ v20), ⟨Int.toNat (20 - 0), by omega, ?_, ?_, ?_, ?_, ?_⟩, ?_⟩
    · show 0 ≤ 0 ∧ 0 ≤ M 1 0  -- I26.0.hv2
      first | with_reducible assumption | omega | exact trivial | with_reducible rfl
    · first | with_reducible assumption | omega | exact trivial | with_reducible rfl  -- I26.0.rfl
    · show 0 ≤ v6 ∧ v6 ≤ 12  -- I26.0.h62
      first | with_reducible assumption | omega | exact trivial | with_reducible rfl
    · show ∃ x y, gSqr (zg (M 1 0) (M 1 1) (M 12)) f x y v6  -- I26.0.he2
      first | with_reducible assumption | omega | exact trivial | with_reducible rfl
    · show ∀ x y, (y < v7 ∨ (y = v7 ∧ x < 0)) → zs (M 1 0) (M 1 1) (M1 49) x y ≤ v6  -- I26.0.hm2
      intro x y k
      rcases k with k | k
      · exact hm x y k
      · rw [zs_o (by omega)]; omega
    rintro v20 v21 M24 n26 ⟨h_n26, hv2, q_rfl, h62, he2, hm2⟩ z_v20 z_v21 z_M24
    have q_rfl := q_rfl.symm
    subst q_rfl
    refine ⟨fun b2 => ?_, fun b2 => ?_⟩
    · -- b2.1
      have o1 : zin (v7 + 1) := by
        first | with_reducible assumption | omega | exact trivial | with_reducible rfl  -- o1
      refine ⟨o1, ?_⟩
      refine ⟨Int.toNat (20 - (v7 + 1)), by omega, by omega, ?_, ?_, ?_, ?_, ?_⟩
      · show 0 ≤ (v7 + 1) ∧ (v7 + 1) ≤ M 1 1  -- I9.1.hv
        first | with_reducible assumption | omega | exact trivial | with_reducible rfl
      · first | with_reducible assumption | omega | exact trivial | with_reducible rfl  -- I9.1.rfl
      · show 0 ≤ v20 ∧ v20 ≤ 12  -- I9.1.h6
        first | with_reducible assumption | omega | exact trivial | with_reducible rfl
      · show ∃ x y, gSqr (zg (M 1 0) (M 1 1) (M 12)) f x y v20  -- I9.1.he
        first | with_reducible assumption | omega | exact trivial | with_reducible rfl
      · show ∀ x y, y < (v7 + 1) → zs (M 1 0) (M 1 1) (M1 49) x y ≤ v20  -- I9.1.hm
        intro x y k
        by_cases c : y < v7 ∨ (y = v7 ∧ x < v21)
        · exact hm2 x y c
        · rw [zs_o (by omega)]; omega
    · -- b2.2
      have gc2 : pr_X9_squareAt v21 v7 M1 := by
        show bDim M1
        unfold bDim; omega
      refine ⟨gc2, ?_⟩
      rintro r38 M39 ⟨q_rfl, e_r38⟩ z_r38 z_M39
      have q_rfl := q_rfl.symm
      subst q_rfl
      rw [w0, w1] at e_r38
      have q38 := Q v21 v7
      rw [← e_r38] at q38
      have b38 := Qb v21 v7
      rw [← e_r38] at b38
      have o2 : zin (v21 + 1) := by
        first | with_reducible assumption | omega | exact trivial | with_reducible rfl  -- o2
      refine ⟨o2, ?_⟩
      refine ⟨Int.toNat (20 - (v21 + 1)), by omega, by omega, ?_, ?_, ?_, ?_, ?_⟩
      · show 0 ≤ (v21 + 1) ∧ (v21 + 1) ≤ M 1 0  -- I26.1.hv2
        first | with_reducible assumption | omega | exact trivial | with_reducible rfl
      · first | with_reducible assumption | omega | exact trivial | with_reducible rfl  -- I26.1.rfl
      · show 0 ≤ (max v20 r38) ∧ (max v20 r38) ≤ 12  -- I26.1.h62
        have := q38.1; omega
      · show ∃ x y, gSqr (zg (M 1 0) (M 1 1) (M 12)) f x y (max v20 r38)  -- I26.1.he2
        by_cases c : r38 ≤ v20
        · rw [show max v20 r38 = v20 by omega]; exact he2
        · rw [show max v20 r38 = r38 by omega]; exact ⟨_, _, (q38.2 r38 q38.1).1 (by omega)⟩
      · show ∀ x y, (y < v7 ∨ (y = v7 ∧ x < (v21 + 1))) → zs (M 1 0) (M 1 1) (M1 49) x y ≤ (max v20 r38)  -- I26.1.hm2
        intro x y k
        by_cases c : x = v21 ∧ y = v7
        · rw [c.1, c.2, ← e_r38]; omega
        · have := hm2 x y (by omega); omega

abbrev pr_X9_breadthAt (x : Int) (y : Int) (M : zM) : Prop := (bDim M) ∧ (∃ f, 0 ≤ f ∧ bSq M f ∧ zg (M 1 0) (M 1 1) (M 12) x y = f) ∧ (0 ≤ x ∧ x < M 1 0) ∧ (0 ≤ y ∧ y < M 1 1)
abbrev po_X9_breadthAt (x : Int) (y : Int) (M : zM) (r : Int) (M' : zM) : Prop := (M' = M) ∧ (gBr (zg (M 1 0) (M 1 1) (M 12)) (zg (M 1 0) (M 1 1) (M 12) x y) x y r)
set_option maxHeartbeats 1000000 in
theorem ok_X9_breadthAt : zSnd zS 145 0 0 yX9_breadthAt cX9_breadthAt 7 (some .int) 1 [2, 0, 0] (F_X9_breadthAt pr_X9_breadthAt po_X9_breadthAt) := by
  refine (sn_X9_breadthAt ok_X9_squareAt).mono ?_
  rintro xs P M hz hR ⟨x, y, rfl, ⟨hd, hs, hx, hy⟩, hP⟩
  refine ⟨_, _, rfl, ?_⟩
  have z_x := zall_h (zall_t hz) (by decide)
  have z_y := zall_h (zall_t (zall_t hz)) (by decide)
  change vc_X9_breadthAt pr_X9_squareAt po_X9_squareAt x y P M
  unfold vc_X9_breadthAt
  obtain ⟨f, hf0, ⟨hs2, Q⟩, ef⟩ := hs
  have Qb := fun x y => gQv_b hf0 (Q x y) (by omega) (by omega)
  refine ⟨fun v1 v2 M5 n7 => (n7 : Int) = (12 - v2) ∧ (0 ≤ v2 ∧ v2 ≤ 12) ∧ (M5 = M) ∧ (0 ≤ v1 ∧ v1 ≤ 12) ∧ (v1 = 0 ∨ ∃ a b, gSqr (zg (M 1 0) (M 1 1) (M 12)) f a b v1 ∧ a ≤ x ∧ x < a + v1 ∧ b ≤ y ∧ y < b + v1) ∧ (∀ p q, 0 ≤ p → p < 16 → 0 ≤ q → q < v2 → p < zs (M 1 0) (M 1 1) (M 49) (x + p) (y + q) → q < zs (M 1 0) (M 1 1) (M 49) (x + p) (y + q) → zs (M 1 0) (M 1 1) (M 49) (x + p) (y + q) ≤ v1), ⟨Int.toNat (12 - 0), by omega, ?_, ?_, ?_, ?_, ?_⟩, ?_⟩
  · show 0 ≤ 0 ∧ 0 ≤ 12  -- I5.0.hv
    first | with_reducible assumption | omega | exact trivial | with_reducible rfl
  · first | with_reducible assumption | omega | exact trivial | with_reducible rfl  -- I5.0.rfl
  · show 0 ≤ 0 ∧ 0 ≤ 12  -- I5.0.h1
    first | with_reducible assumption | omega | exact trivial | with_reducible rfl
  · show 0 = 0 ∨ ∃ a b, gSqr (zg (M 1 0) (M 1 1) (M 12)) f a b 0 ∧ a ≤ x ∧ x < a + 0 ∧ b ≤ y ∧ y < b + 0  -- I5.0.he
    exact .inl rfl
  · show ∀ p q, 0 ≤ p → p < 16 → 0 ≤ q → q < 0 → p < zs (M 1 0) (M 1 1) (M 49) (x + p) (y + q) → q < zs (M 1 0) (M 1 1) (M 49) (x + p) (y + q) → zs (M 1 0) (M 1 1) (M 49) (x + p) (y + q) ≤ 0  -- I5.0.hm
    intro p q _ _ q0 q1; omega
  rintro v1 v2 M5 n7 ⟨h_n7, hv, q_rfl, h1, he, hm⟩ z_v1 z_v2 z_M5
  have q_rfl := q_rfl.symm
  subst q_rfl
  refine ⟨fun b1 => ?_, fun b1 => ?_⟩
  · -- b1.1
    refine hP _ _ ⟨?_, ?_⟩
    · show M = M  -- p1.rfl
      first | with_reducible assumption | omega | exact trivial | with_reducible rfl
    · show gBr (zg (M 1 0) (M 1 1) (M 12)) (zg (M 1 0) (M 1 1) (M 12) x y) x y v1  -- p1.hr
      show gBr _ (zg (M 1 0) (M 1 1) (M 12) x y) x y v1
      rw [ef]
      have all : ∀ k a b, gSqr (zg (M 1 0) (M 1 1) (M 12)) f a b k → a ≤ x → x < a + k → b ≤ y → y < b + k → k ≤ v1 := by
        intro k a b s a0 a1 b0 b1
        have bb := gSqr_in hf0 s (by omega)
        have q := ((Q (a + k - 1) (b + k - 1)).2 k (by omega)).2 (by rw [show a + k - 1 - k + 1 = a by omega, show b + k - 1 - k + 1 = b by omega]; exact s)
        have m := hm (a + k - 1 - x) (b + k - 1 - y) (by omega) (by omega) (by omega) (by omega)
        rw [show x + (a + k - 1 - x) = a + k - 1 by omega, show y + (b + k - 1 - y) = b + k - 1 by omega] at m
        have := m (by omega) (by omega)
        omega
      have one := all 1 x y (fun i j i0 i1 j0 j1 => by rw [show x + i = x by omega, show y + j = y by omega]; exact ef) (by omega) (by omega) (by omega) (by omega)
      refine ⟨one, ?_, all⟩
      rcases he with e | e
      · omega
      · exact e
  · -- b1.2
    refine ⟨fun v15 v16 M19 n21 => (n21 : Int) = (16 - v16) ∧ (0 ≤ v16 ∧ v16 ≤ 16) ∧ (M19 = M) ∧ (0 ≤ v15 ∧ v15 ≤ 12) ∧ (v15 = 0 ∨ ∃ a b, gSqr (zg (M 1 0) (M 1 1) (M 12)) f a b v15 ∧ a ≤ x ∧ x < a + v15 ∧ b ≤ y ∧ y < b + v15) ∧ (∀ p q, 0 ≤ p → p < 16 → 0 ≤ q → (q < v2 ∨ (q = v2 ∧ p < v16)) → p < zs (M 1 0) (M 1 1) (M 49) (x + p) (y + q) → q < zs (M 1 0) (M 1 1) (M 49) (x + p) (y + q) → zs (M 1 0) (M 1 1) (M 49) (x + p) (y + q) ≤ v15), ⟨Int.toNat (16 - 0), by omega, ?_, ?_, ?_, ?_, ?_⟩, ?_⟩
    · show 0 ≤ 0 ∧ 0 ≤ 16  -- I15.0.hv2
      first | with_reducible assumption | omega | exact trivial | with_reducible rfl
    · first | with_reducible assumption | omega | exact trivial | with_reducible rfl  -- I15.0.rfl
    · show 0 ≤ v1 ∧ v1 ≤ 12  -- I15.0.h12
      first | with_reducible assumption | omega | exact trivial | with_reducible rfl
    · show v1 = 0 ∨ ∃ a b, gSqr (zg (M 1 0) (M 1 1) (M 12)) f a b v1 ∧ a ≤ x ∧ x < a + v1 ∧ b ≤ y ∧ y < b + v1  -- I15.0.he2
      first | with_reducible assumption | omega | exact trivial | with_reducible rfl
    · show ∀ p q, 0 ≤ p → p < 16 → 0 ≤ q → (q < v2 ∨ (q = v2 ∧ p < 0)) → p < zs (M 1 0) (M 1 1) (M 49) (x + p) (y + q) → q < zs (M 1 0) (M 1 1) (M 49) (x + p) (y + q) → zs (M 1 0) (M 1 1) (M 49) (x + p) (y + q) ≤ v1  -- I15.0.hm2
      intro p q p0 p1 q0 k
      exact hm p q p0 p1 q0 (by omega)
    rintro v15 v16 M19 n21 ⟨h_n21, hv2, q_rfl, h12, he2, hm2⟩ z_v15 z_v16 z_M19
    have q_rfl := q_rfl.symm
    subst q_rfl
    refine ⟨fun b2 => ?_, fun b2 => ?_⟩
    · -- b2.1
      have o1 : zin (v2 + 1) := by
        first | with_reducible assumption | omega | exact trivial | with_reducible rfl  -- o1
      refine ⟨o1, ?_⟩
      refine ⟨Int.toNat (12 - (v2 + 1)), by omega, by omega, ?_, ?_, ?_, ?_, ?_⟩
      · show 0 ≤ (v2 + 1) ∧ (v2 + 1) ≤ 12  -- I5.1.hv
        first | with_reducible assumption | omega | exact trivial | with_reducible rfl
      · first | with_reducible assumption | omega | exact trivial | with_reducible rfl  -- I5.1.rfl
      · show 0 ≤ v15 ∧ v15 ≤ 12  -- I5.1.h1
        first | with_reducible assumption | omega | exact trivial | with_reducible rfl
      · show v15 = 0 ∨ ∃ a b, gSqr (zg (M 1 0) (M 1 1) (M 12)) f a b v15 ∧ a ≤ x ∧ x < a + v15 ∧ b ≤ y ∧ y < b + v15  -- I5.1.he
        first | with_reducible assumption | omega | exact trivial | with_reducible rfl
      · show ∀ p q, 0 ≤ p → p < 16 → 0 ≤ q → q < (v2 + 1) → p < zs (M 1 0) (M 1 1) (M 49) (x + p) (y + q) → q < zs (M 1 0) (M 1 1) (M 49) (x + p) (y + q) → zs (M 1 0) (M 1 1) (M 49) (x + p) (y + q) ≤ v15  -- I5.1.hm
        intro p q p0 p1 q0 k
        exact hm2 p q p0 p1 q0 (by omega)
    · -- b2.2
      have o2 : zin (y + v2) := by
        first | with_reducible assumption | omega | exact trivial | with_reducible rfl  -- o2
      refine ⟨o2, ?_⟩
      have o3 : zin (x + v16) := by
        first | with_reducible assumption | omega | exact trivial | with_reducible rfl  -- o3
      refine ⟨o3, ?_⟩
      have gc1 : pr_X9_squareAt (x + v16) (y + v2) M := by
        show bDim M
        first | with_reducible assumption | omega | exact trivial | with_reducible rfl  -- c1.hd
      refine ⟨gc1, ?_⟩
      rintro r35 M36 ⟨q_rfl, e_r35⟩ z_r35 z_M36
      have q_rfl := q_rfl.symm
      subst q_rfl
      have q35 := Q (x + v16) (y + v2)
      rw [← e_r35] at q35
      have b35 := Qb (x + v16) (y + v2)
      rw [← e_r35] at b35
      refine ⟨fun b3 => ?_, fun b3 => ?_⟩
      · -- b3.1
        have o4 : zin (v16 + 1) := by
          first | with_reducible assumption | omega | exact trivial | with_reducible rfl  -- o4
        refine ⟨o4, ?_⟩
        refine ⟨Int.toNat (16 - (v16 + 1)), by omega, by omega, ?_, ?_, ?_, ?_, ?_⟩
        · show 0 ≤ (v16 + 1) ∧ (v16 + 1) ≤ 16  -- I15.1.hv2
          first | with_reducible assumption | omega | exact trivial | with_reducible rfl
        · first | with_reducible assumption | omega | exact trivial | with_reducible rfl  -- I15.1.rfl
        · show 0 ≤ v15 ∧ v15 ≤ 12  -- I15.1.h12
          first | with_reducible assumption | omega | exact trivial | with_reducible rfl
        · show v15 = 0 ∨ ∃ a b, gSqr (zg (M 1 0) (M 1 1) (M 12)) f a b v15 ∧ a ≤ x ∧ x < a + v15 ∧ b ≤ y ∧ y < b + v15  -- I15.1.he2
          first | with_reducible assumption | omega | exact trivial | with_reducible rfl
        · show ∀ p q, 0 ≤ p → p < 16 → 0 ≤ q → (q < v2 ∨ (q = v2 ∧ p < (v16 + 1))) → p < zs (M 1 0) (M 1 1) (M 49) (x + p) (y + q) → q < zs (M 1 0) (M 1 1) (M 49) (x + p) (y + q) → zs (M 1 0) (M 1 1) (M 49) (x + p) (y + q) ≤ v15  -- I15.1.hm2
          intro p q p0 p1 q0 k
          by_cases c : p = v16 ∧ q = v2
          · rw [c.1, c.2, ← e_r35]; omega
          · exact hm2 p q p0 p1 q0 (by omega)
      · -- b3.2
        refine ⟨fun b4 => ?_, fun b4 => ?_⟩
        · -- b4.1
          have o5 : zin (v16 + 1) := by
            first | with_reducible assumption | omega | exact trivial | with_reducible rfl  -- o5
          refine ⟨o5, ?_⟩
          refine ⟨Int.toNat (16 - (v16 + 1)), by omega, by omega, ?_, ?_, ?_, ?_, ?_⟩
          · show 0 ≤ (v16 + 1) ∧ (v16 + 1) ≤ 16  -- I15.2.hv2
            first | with_reducible assumption | omega | exact trivial | with_reducible rfl
          · first | with_reducible assumption | omega | exact trivial | with_reducible rfl  -- I15.2.rfl
          · show 0 ≤ v15 ∧ v15 ≤ 12  -- I15.2.h12
            first | with_reducible assumption | omega | exact trivial | with_reducible rfl
          · show v15 = 0 ∨ ∃ a b, gSqr (zg (M 1 0) (M 1 1) (M 12)) f a b v15 ∧ a ≤ x ∧ x < a + v15 ∧ b ≤ y ∧ y < b + v15  -- I15.2.he2
            first | with_reducible assumption | omega | exact trivial | with_reducible rfl
          · show ∀ p q, 0 ≤ p → p < 16 → 0 ≤ q → (q < v2 ∨ (q = v2 ∧ p < (v16 + 1))) → p < zs (M 1 0) (M 1 1) (M 49) (x + p) (y + q) → q < zs (M 1 0) (M 1 1) (M 49) (x + p) (y + q) → zs (M 1 0) (M 1 1) (M 49) (x + p) (y + q) ≤ v15  -- I15.2.hm2
            intro p q p0 p1 q0 k
            by_cases c : p = v16 ∧ q = v2
            · rw [c.1, c.2, ← e_r35]; omega
            · exact hm2 p q p0 p1 q0 (by omega)
        · -- b4.2
          have o6 : zin (v16 + 1) := by
            first | with_reducible assumption | omega | exact trivial | with_reducible rfl  -- o6
          refine ⟨o6, ?_⟩
          refine ⟨Int.toNat (16 - (v16 + 1)), by omega, by omega, ?_, ?_, ?_, ?_, ?_⟩
          · show 0 ≤ (v16 + 1) ∧ (v16 + 1) ≤ 16  -- I15.3.hv2
            first | with_reducible assumption | omega | exact trivial | with_reducible rfl
          · first | with_reducible assumption | omega | exact trivial | with_reducible rfl  -- I15.3.rfl
          · show 0 ≤ (max v15 r35) ∧ (max v15 r35) ≤ 12  -- I15.3.h12
            first | with_reducible assumption | omega | exact trivial | with_reducible rfl
          · show (max v15 r35) = 0 ∨ ∃ a b, gSqr (zg (M 1 0) (M 1 1) (M 12)) f a b (max v15 r35) ∧ a ≤ x ∧ x < a + (max v15 r35) ∧ b ≤ y ∧ y < b + (max v15 r35)  -- I15.3.he2
            by_cases c : r35 ≤ v15
            · rw [show max v15 r35 = v15 by omega]; exact he2
            · rw [show max v15 r35 = r35 by omega]; exact .inr ⟨_, _, (q35.2 r35 q35.1).1 (by omega), by omega, by omega, by omega, by omega⟩
          · show ∀ p q, 0 ≤ p → p < 16 → 0 ≤ q → (q < v2 ∨ (q = v2 ∧ p < (v16 + 1))) → p < zs (M 1 0) (M 1 1) (M 49) (x + p) (y + q) → q < zs (M 1 0) (M 1 1) (M 49) (x + p) (y + q) → zs (M 1 0) (M 1 1) (M 49) (x + p) (y + q) ≤ (max v15 r35)  -- I15.3.hm2
            intro p q p0 p1 q0 k a b
            by_cases c : p = v16 ∧ q = v2
            · rw [c.1, c.2, ← e_r35]; omega
            · have := hm2 p q p0 p1 q0 (by omega) a b; omega

abbrev pr_X9_roomAround (x : Int) (y : Int) (M : zM) : Prop := (bDim M) ∧ (∃ f, 0 ≤ f ∧ bSq M f) ∧ (-1 ≤ x ∧ x ≤ 16) ∧ (-1 ≤ y ∧ y ≤ 12)
abbrev po_X9_roomAround (x : Int) (y : Int) (M : zM) (r : Int) (M' : zM) : Prop := (M' = M) ∧ (gRad (zg (M 1 0) (M 1 1) (M 12)) (M 48 2) x y r)
set_option maxHeartbeats 1000000 in
theorem ok_X9_roomAround : zSnd zS 145 0 0 yX9_roomAround cX9_roomAround 5 (some .int) 1 [2, 0, 0] (F_X9_roomAround pr_X9_roomAround po_X9_roomAround) := by
  refine (sn_X9_roomAround ok_X9_squareAt).mono ?_
  rintro xs P M hz hR ⟨x, y, rfl, ⟨hd, hs, hx, hy⟩, hP⟩
  refine ⟨_, _, rfl, ?_⟩
  have z_x := zall_h (zall_t hz) (by decide)
  have z_y := zall_h (zall_t (zall_t hz)) (by decide)
  change vc_X9_roomAround pr_X9_squareAt po_X9_squareAt x y P M
  unfold vc_X9_roomAround
  obtain ⟨f, hf0, hs2, Q⟩ := hs
  have Qb := fun x y => gQv_b hf0 (Q x y) (by omega) (by omega)
  refine ⟨fun v1 v2 M5 n7 => (n7 : Int) = (12 - v2) ∧ (1 ≤ v2 ∧ v2 ≤ 12) ∧ (M5 = M) ∧ (v1 = v2 - 1) ∧ (∀ q, 1 ≤ q → q < v2 → gSqr (zg (M 1 0) (M 1 1) (M 12)) f (x - q) (y - q) (2 * q + 1)), ⟨Int.toNat (12 - 1), by omega, ?_, ?_, ?_, ?_⟩, ?_⟩
  · show 1 ≤ 1 ∧ 1 ≤ 12  -- I5.0.hv
    first | with_reducible assumption | omega | exact trivial | with_reducible rfl
  · first | with_reducible assumption | omega | exact trivial | with_reducible rfl  -- I5.0.rfl
  · show 0 = 1 - 1  -- I5.0.h1
    first | with_reducible assumption | omega | exact trivial | with_reducible rfl
  · show ∀ q, 1 ≤ q → q < 1 → gSqr (zg (M 1 0) (M 1 1) (M 12)) f (x - q) (y - q) (2 * q + 1)  -- I5.0.hq
    intro q q0 q1; omega
  rintro v1 v2 M5 n7 ⟨h_n7, hv, q_rfl, h1, hq⟩ z_v1 z_v2 z_M5
  have q_rfl := q_rfl.symm
  subst q_rfl
  refine ⟨fun b1 => ?_, fun b1 => ?_⟩
  · -- b1.1
    exfalso
    have b := gSqr_in hf0 (hq 11 (by omega) (by omega)) (by omega)
    omega
  · -- b1.2
    have o1 : zin (y + v2) := by
      first | with_reducible assumption | omega | exact trivial | with_reducible rfl  -- o1
    refine ⟨o1, ?_⟩
    have o2 : zin (x + v2) := by
      first | with_reducible assumption | omega | exact trivial | with_reducible rfl  -- o2
    refine ⟨o2, ?_⟩
    have gc1 : pr_X9_squareAt (x + v2) (y + v2) M := by
      show bDim M
      first | with_reducible assumption | omega | exact trivial | with_reducible rfl  -- c1.hd
    refine ⟨gc1, ?_⟩
    rintro r17 M18 ⟨q_rfl, e_r17⟩ z_r17 z_M18
    have q_rfl := q_rfl.symm
    subst q_rfl
    have q17 := (Q (x + v2) (y + v2)).2 (2 * v2 + 1) (by omega)
    rw [← e_r17, show x + v2 - (2 * v2 + 1) + 1 = x - v2 by omega, show y + v2 - (2 * v2 + 1) + 1 = y - v2 by omega] at q17
    have o3 : zin ((2 * v2) + 1) := by
      first | with_reducible assumption | omega | exact trivial | with_reducible rfl  -- o3
    refine ⟨o3, ?_⟩
    refine ⟨fun b2 => ?_, fun b2 => ?_⟩
    · -- b2.1
      have o4 : zin (v2 + 1) := by
        first | with_reducible assumption | omega | exact trivial | with_reducible rfl  -- o4
      refine ⟨o4, ?_⟩
      refine ⟨Int.toNat (12 - (v2 + 1)), by omega, by omega, ?_, ?_, ?_, ?_⟩
      · show 1 ≤ (v2 + 1) ∧ (v2 + 1) ≤ 12  -- I5.1.hv
        first | with_reducible assumption | omega | exact trivial | with_reducible rfl
      · first | with_reducible assumption | omega | exact trivial | with_reducible rfl  -- I5.1.rfl
      · show v2 = (v2 + 1) - 1  -- I5.1.h1
        first | with_reducible assumption | omega | exact trivial | with_reducible rfl
      · show ∀ q, 1 ≤ q → q < (v2 + 1) → gSqr (zg (M 1 0) (M 1 1) (M 12)) f (x - q) (y - q) (2 * q + 1)  -- I5.1.hq
        intro q q0 q1
        by_cases c : q = v2
        · rw [c]; exact q17.1 b2
        · exact hq q q0 (by omega)
    · -- b2.2
      refine hP _ _ ⟨?_, ?_⟩
      · show M = M  -- p2.rfl
        first | with_reducible assumption | omega | exact trivial | with_reducible rfl
      · show gRad (zg (M 1 0) (M 1 1) (M 12)) (M 48 2) x y v1  -- p2.hr
        rw [hs2]
        refine ⟨by omega, fun q q0 q1 => hq q q0 (by omega), ?_⟩
        rw [h1, show x - (v2 - 1) - 1 = x - v2 by omega, show y - (v2 - 1) - 1 = y - v2 by omega, show 2 * (v2 - 1) + 3 = 2 * v2 + 1 by omega]
        exact fun s => b2 (q17.2 s)

abbrev pr_X9_isMiddle (x : Int) (y : Int) (M : zM) : Prop := (bDim M) ∧ (∃ f, 0 ≤ f ∧ bSq M f) ∧ (0 ≤ x ∧ x < 16) ∧ (0 ≤ y ∧ y < 12)
abbrev po_X9_isMiddle (x : Int) (y : Int) (M : zM) (r : Int) (M' : zM) : Prop := (M' = M) ∧ (zB r (gMid (zg (M 1 0) (M 1 1) (M 12)) (M 48 2) x y))
set_option maxHeartbeats 1000000 in
theorem ok_X9_isMiddle : zSnd zS 145 0 0 yX9_isMiddle cX9_isMiddle 7 (some .boolean) 2 [2, 0, 0] (F_X9_isMiddle pr_X9_isMiddle po_X9_isMiddle) := by
  refine (sn_X9_isMiddle ok_X9_roomAround ok_X2_faceAt).mono ?_
  rintro xs P M hz hR ⟨x, y, rfl, ⟨hd, hs, hx, hy⟩, hP⟩
  refine ⟨_, _, rfl, ?_⟩
  have z_x := zall_h (zall_t hz) (by decide)
  have z_y := zall_h (zall_t (zall_t hz)) (by decide)
  change vc_X9_isMiddle pr_X9_roomAround po_X9_roomAround pr_X2_faceAt po_X2_faceAt x y P M
  unfold vc_X9_isMiddle
  have gc1 : pr_X9_roomAround x y M := by
    refine ⟨?_, ?_, ?_, ?_⟩
    · show bDim M  -- c1.hd
      first | with_reducible assumption | omega | exact trivial | with_reducible rfl
    · show ∃ f, 0 ≤ f ∧ bSq M f  -- c1.hs
      first | with_reducible assumption | omega | exact trivial | with_reducible rfl
    · show -1 ≤ x ∧ x ≤ 16  -- c1.hx
      first | with_reducible assumption | omega | exact trivial | with_reducible rfl
    · show -1 ≤ y ∧ y ≤ 12  -- c1.hy
      first | with_reducible assumption | omega | exact trivial | with_reducible rfl
  refine ⟨gc1, ?_⟩
  rintro r1 M2 ⟨q_rfl, pc1_hr⟩ z_r1 z_M2
  have q_rfl := q_rfl.symm
  subst q_rfl
  have E := gMid4 pc1_hr
  refine ⟨fun v7 M9 n11 => (n11 : Int) = (4 - v7) ∧ (0 ≤ v7 ∧ v7 ≤ 4) ∧ (M9 = M) ∧ (∀ d, 0 ≤ d → d < v7 → zg (M 1 0) (M 1 1) (M 12) (x + zdx d) (y + zdy d) = M 48 2 → ∀ q, gRad (zg (M 1 0) (M 1 1) (M 12)) (M 48 2) (x + zdx d) (y + zdy d) q → q ≤ r1), ⟨Int.toNat (4 - 0), by omega, ?_, ?_, ?_⟩, ?_⟩
  · show 0 ≤ 0 ∧ 0 ≤ 4  -- I10.0.hv
    first | with_reducible assumption | omega | exact trivial | with_reducible rfl
  · first | with_reducible assumption | omega | exact trivial | with_reducible rfl  -- I10.0.rfl
  · show ∀ d, 0 ≤ d → d < 0 → zg (M 1 0) (M 1 1) (M 12) (x + zdx d) (y + zdy d) = M 48 2 → ∀ q, gRad (zg (M 1 0) (M 1 1) (M 12)) (M 48 2) (x + zdx d) (y + zdy d) q → q ≤ r1  -- I10.0.hq
    intro d d0 d1; omega
  rintro v7 M9 n11 ⟨h_n11, hv, q_rfl, hq⟩ z_v7 z_M9
  have q_rfl := q_rfl.symm
  subst q_rfl
  refine ⟨fun b1 => ?_, fun b1 => ?_⟩
  · -- b1.1
    refine hP _ _ ⟨?_, ?_⟩
    · show M = M  -- p1.rfl
      first | with_reducible assumption | omega | exact trivial | with_reducible rfl
    · show zB 1 (gMid (zg (M 1 0) (M 1 1) (M 12)) (M 48 2) x y)  -- p1.pb
      exact zB.t (E.2 (fun d d0 d1 => hq d d0 (by omega)))
  · -- b1.2
    have zz := zac_b hv.1 (show v7 < 8 by omega)
    have z4 := zdx4 hv.1 (show v7 < 4 by omega)
    have o1 : ((0 : Int) ≤ v7 ∧ v7 < 8) := by
      first | with_reducible assumption | omega | exact trivial | with_reducible rfl  -- o1
    refine ⟨o1, ?_⟩
    have o2 : zin (y + (zdn (Int.toNat v7))) := by
      first | with_reducible assumption | omega | exact trivial | with_reducible rfl  -- o2
    refine ⟨o2, ?_⟩
    have o3 : zin (x + (zac (Int.toNat v7))) := by
      first | with_reducible assumption | omega | exact trivial | with_reducible rfl  -- o3
    refine ⟨o3, ?_⟩
    have gc2 : pr_X2_faceAt (x + (zac (Int.toNat v7))) (y + (zdn (Int.toNat v7))) M := by
      show bDim M
      first | with_reducible assumption | omega | exact trivial | with_reducible rfl  -- c2.hd
    refine ⟨gc2, ?_⟩
    rintro r22 M23 ⟨q_rfl, e_r22⟩ z_r22 z_M23
    have q_rfl := q_rfl.symm
    subst q_rfl
    have e22 : r22 = zg (M 1 0) (M 1 1) (M 12) (x + zdx v7) (y + zdy v7) := by rw [← z4.1, ← z4.2]; exact e_r22
    refine ⟨fun b2 => ?_, fun b2 => ?_⟩
    · -- b2.1
      have o4 : zin (v7 + 1) := by
        first | with_reducible assumption | omega | exact trivial | with_reducible rfl  -- o4
      refine ⟨o4, ?_⟩
      refine ⟨Int.toNat (4 - (v7 + 1)), by omega, by omega, ?_, ?_, ?_⟩
      · show 0 ≤ (v7 + 1) ∧ (v7 + 1) ≤ 4  -- I10.1.hv
        first | with_reducible assumption | omega | exact trivial | with_reducible rfl
      · first | with_reducible assumption | omega | exact trivial | with_reducible rfl  -- I10.1.rfl
      · show ∀ d, 0 ≤ d → d < (v7 + 1) → zg (M 1 0) (M 1 1) (M 12) (x + zdx d) (y + zdy d) = M 48 2 → ∀ q, gRad (zg (M 1 0) (M 1 1) (M 12)) (M 48 2) (x + zdx d) (y + zdy d) q → q ≤ r1  -- I10.1.hq
        intro d d0 d1 e
        by_cases c : d = v7
        · subst c; exact absurd (e22.trans e) b2
        · exact hq d d0 (by omega) e
    · -- b2.2
      have gc3 : pr_X9_roomAround (x + (zac (Int.toNat v7))) (y + (zdn (Int.toNat v7))) M := by
        refine ⟨?_, ?_, ?_, ?_⟩
        · show bDim M  -- c3.hd
          first | with_reducible assumption | omega | exact trivial | with_reducible rfl
        · show ∃ f, 0 ≤ f ∧ bSq M f  -- c3.hs
          first | with_reducible assumption | omega | exact trivial | with_reducible rfl
        · show -1 ≤ (x + (zac (Int.toNat v7))) ∧ (x + (zac (Int.toNat v7))) ≤ 16  -- c3.hx
          first | with_reducible assumption | omega | exact trivial | with_reducible rfl
        · show -1 ≤ (y + (zdn (Int.toNat v7))) ∧ (y + (zdn (Int.toNat v7))) ≤ 12  -- c3.hy
          first | with_reducible assumption | omega | exact trivial | with_reducible rfl
      refine ⟨gc3, ?_⟩
      rintro r33 M34 ⟨q_rfl, pc3_hr⟩ z_r33 z_M34
      have q_rfl := q_rfl.symm
      subst q_rfl
      rw [z4.1, z4.2] at pc3_hr
      refine ⟨fun b3 => ?_, fun b3 => ?_⟩
      · -- b3.1
        have o5 : zin (v7 + 1) := by
          first | with_reducible assumption | omega | exact trivial | with_reducible rfl  -- o5
        refine ⟨o5, ?_⟩
        refine ⟨Int.toNat (4 - (v7 + 1)), by omega, by omega, ?_, ?_, ?_⟩
        · show 0 ≤ (v7 + 1) ∧ (v7 + 1) ≤ 4  -- I10.2.hv
          first | with_reducible assumption | omega | exact trivial | with_reducible rfl
        · first | with_reducible assumption | omega | exact trivial | with_reducible rfl  -- I10.2.rfl
        · show ∀ d, 0 ≤ d → d < (v7 + 1) → zg (M 1 0) (M 1 1) (M 12) (x + zdx d) (y + zdy d) = M 48 2 → ∀ q, gRad (zg (M 1 0) (M 1 1) (M 12)) (M 48 2) (x + zdx d) (y + zdy d) q → q ≤ r1  -- I10.2.hq
          intro d d0 d1 e q g
          by_cases c : d = v7
          · subst c; have := g.uq pc3_hr; omega
          · exact hq d d0 (by omega) e q g
      · -- b3.2
        refine hP _ _ ⟨?_, ?_⟩
        · show M = M  -- p2.rfl
          first | with_reducible assumption | omega | exact trivial | with_reducible rfl
        · show zB 0 (gMid (zg (M 1 0) (M 1 1) (M 12)) (M 48 2) x y)  -- p2.pb
          exact zB.f (fun h => by
            have := E.1 h v7 hv.1 (by omega) (e22.symm.trans b2) r33 pc3_hr
            omega)

