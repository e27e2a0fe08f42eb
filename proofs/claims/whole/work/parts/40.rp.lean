abbrev pr_X12_isNear (x : Int) (y : Int) (dx : Int) (dy : Int) (m : Int) (M : zM) : Prop := (-16 ≤ x ∧ x ≤ 16) ∧ (-16 ≤ y ∧ y ≤ 16) ∧ (-16 ≤ dx ∧ dx ≤ 16) ∧ (-16 ≤ dy ∧ dy ≤ 16) ∧ (0 ≤ m ∧ m ≤ 400)
abbrev po_X12_isNear (x : Int) (y : Int) (dx : Int) (dy : Int) (m : Int) (M : zM) (r : Int) (M' : zM) : Prop := (M' = M) ∧ (zB r (gNr x y dx dy m))
set_option maxHeartbeats 1000000 in
theorem ok_X12_isNear : zSnd zS 145 0 0 yX12_isNear cX12_isNear 13 (some .boolean) 0 [1, 1, 1, 1, 0] (F_X12_isNear pr_X12_isNear po_X12_isNear) := by
  refine (sn_X12_isNear).mono ?_
  rintro xs P M hz hR ⟨x, y, dx, dy, m, rfl, ⟨hx, hy, hdx, hdy, hm⟩, hP⟩
  refine ⟨_, _, _, _, _, rfl, ?_⟩
  have z_x := zall_h hz (by decide)
  have z_y := zall_h (zall_t hz) (by decide)
  have z_dx := zall_h (zall_t (zall_t hz)) (by decide)
  have z_dy := zall_h (zall_t (zall_t (zall_t hz))) (by decide)
  have z_m := zall_h (zall_t (zall_t (zall_t (zall_t hz)))) (by decide)
  change vc_X12_isNear x y dx dy m P M
  unfold vc_X12_isNear
  have bn := zn_b (x := x) (y := y) (dx := dx) (dy := dy) (m := m) hx hy hdx hdy hm
  have o1 : zin64 ((dx * dx) + (dy * dy)) := by
    first | with_reducible assumption | omega | exact trivial | with_reducible rfl  -- o1
  refine ⟨o1, ?_⟩
  refine ⟨fun b1 => ?_, fun b1 => ?_⟩
  · -- b1.1
    have o2 : zin64 ((((x * dy) - (y * dx)) * ((x * dy) - (y * dx))) * 10000) := by
      first | with_reducible assumption | omega | exact trivial | with_reducible rfl  -- o2
    refine ⟨o2, ?_⟩
    have o3 : zin64 ((m * m) * ((dx * dx) + (dy * dy))) := by
      first | with_reducible assumption | omega | exact trivial | with_reducible rfl  -- o3
    refine ⟨o3, ?_⟩
    refine ⟨fun b2 => ?_, fun b2 => ?_⟩
    · -- b2.1
      refine hP _ _ ⟨?_, ?_⟩
      · show M = M  -- p1.rfl
        first | with_reducible assumption | omega | exact trivial | with_reducible rfl
      · show zB 0 (gNr x y dx dy m)  -- p1.pb
        exact zB.f (by unfold gNr; rw [if_neg b1]; omega)
    · -- b2.2
      refine hP _ _ ⟨?_, ?_⟩
      · show M = M  -- p2.rfl
        first | with_reducible assumption | omega | exact trivial | with_reducible rfl
      · show zB 1 (gNr x y dx dy m)  -- p2.pb
        exact zB.t (by unfold gNr; rw [if_neg b1]; omega)
  · -- b1.2
    have o4 : zin64 (((x * x) + (y * y)) * 10000) := by
      first | with_reducible assumption | omega | exact trivial | with_reducible rfl  -- o4
    refine ⟨o4, ?_⟩
    have o5 : zin64 (m * m) := by
      first | with_reducible assumption | omega | exact trivial | with_reducible rfl  -- o5
    refine ⟨o5, ?_⟩
    refine ⟨fun b3 => ?_, fun b3 => ?_⟩
    · -- b3.1
      refine hP _ _ ⟨?_, ?_⟩
      · show M = M  -- p3.rfl
        first | with_reducible assumption | omega | exact trivial | with_reducible rfl
      · show zB 0 (gNr x y dx dy m)  -- p3.pb
        exact zB.f (by unfold gNr; rw [if_pos b1]; omega)
    · -- b3.2
      refine hP _ _ ⟨?_, ?_⟩
      · show M = M  -- p4.rfl
        first | with_reducible assumption | omega | exact trivial | with_reducible rfl
      · show zB 1 (gNr x y dx dy m)  -- p4.pb
        exact zB.t (by unfold gNr; rw [if_pos b1]; omega)

/-- the points are on the picture -/
def mXY (M : zM) : Prop := ∀ k, 0 ≤ k → k ≤ M 103 38 → 0 ≤ M 119 k ∧ M 119 k ≤ 16 ∧ 0 ≤ M 120 k ∧ M 120 k ≤ 12
theorem mXY.mem {M M' : zM} (H : mXY M) (e1 : M' 103 38 = M 103 38) (e19 : M' 119 = M 119) (e20 : M' 120 = M 120) : mXY M' := by
  unfold mXY at H ⊢
  rw [e1, e19, e20]
  exact H
abbrev pr_X12_isStraight (i : Int) (j : Int) (m : Int) (M : zM) : Prop := (M 103 38 ≤ 412) ∧ (mXY M) ∧ (0 ≤ i ∧ i ≤ M 103 38) ∧ (0 ≤ j ∧ j ≤ M 103 38) ∧ (0 ≤ m ∧ m ≤ 400)
abbrev po_X12_isStraight (i : Int) (j : Int) (m : Int) (M : zM) (r : Int) (M' : zM) : Prop := (M' = M) ∧ (zB r (gStr (M 119) (M 120) m i j))
set_option maxHeartbeats 1000000 in
theorem ok_X12_isStraight : zSnd zS 145 0 0 yX12_isStraight cX12_isStraight 6 (some .boolean) 1 [2, 0, 0, 0] (F_X12_isStraight pr_X12_isStraight po_X12_isStraight) := by
  refine (sn_X12_isStraight ok_X12_isNear).mono ?_
  rintro xs P M hz hR ⟨i, j, m, rfl, ⟨hn, hX, hi, hj, hm⟩, hP⟩
  refine ⟨_, _, _, rfl, ?_⟩
  have z_i := zall_h (zall_t hz) (by decide)
  have z_j := zall_h (zall_t (zall_t hz)) (by decide)
  have z_m := zall_h (zall_t (zall_t (zall_t hz))) (by decide)
  change vc_X12_isStraight pr_X12_isNear po_X12_isNear i j m P M
  unfold vc_X12_isStraight
  have xi := hX i hi.1 hi.2
  have xj := hX j hj.1 hj.2
  have o1 : zin (i + 1) := by
    first | with_reducible assumption | omega | exact trivial | with_reducible rfl  -- o1
  refine ⟨o1, ?_⟩
  refine ⟨fun v1 v2 M6 n8 => (n8 : Int) = (1000 - v2) ∧ (i < v2 ∧ v2 ≤ 413) ∧ (M6 = M) ∧ (zB v1 (∀ k, i < k → k < v2 → k < j → gNr (M 119 k - M 119 i) (M 120 k - M 120 i) (M 119 j - M 119 i) (M 120 j - M 120 i) m)), ⟨Int.toNat (1000 - (i + 1)), by omega, ?_, ?_, ?_⟩, ?_⟩
  · show i < (i + 1) ∧ (i + 1) ≤ 413  -- I8.0.hv
    first | with_reducible assumption | omega | exact trivial | with_reducible rfl
  · first | with_reducible assumption | omega | exact trivial | with_reducible rfl  -- I8.0.rfl
  · show zB 1 (∀ k, i < k → k < (i + 1) → k < j → gNr (M 119 k - M 119 i) (M 120 k - M 120 i) (M 119 j - M 119 i) (M 120 j - M 120 i) m)  -- I8.0.ha
    exact zB.t (fun k k0 k1 => by omega)
  rintro v1 v2 M6 n8 ⟨h_n8, hv, q_rfl, ha⟩ z_v1 z_v2 z_M6
  have q_rfl := q_rfl.symm
  subst q_rfl
  refine ⟨fun b1 => ?_, fun b1 => ?_⟩
  · -- b1.1
    have o2 : (v1 = 0 ∨ v1 = 1) := by
      exact ha.b
    refine ⟨o2, ?_⟩
    refine hP _ _ ⟨?_, ?_⟩
    · show M = M  -- p1.rfl
      first | with_reducible assumption | omega | exact trivial | with_reducible rfl
    · show zB v1 (gStr (M 119) (M 120) m i j)  -- p1.pb
      exact ha.iff ⟨fun h k k0 k1 => h k k0 (by omega) k1, fun h k k0 _ k1 => h k k0 k1⟩
  · -- b1.2
    refine ⟨fun b2 => ?_, fun b2 => ?_⟩
    · -- b2.1
      have o3 : (v1 = 0 ∨ v1 = 1) := by
        exact ha.b
      refine ⟨o3, ?_⟩
      refine hP _ _ ⟨?_, ?_⟩
      · show M = M  -- p2.rfl
        first | with_reducible assumption | omega | exact trivial | with_reducible rfl
      · show zB v1 (gStr (M 119) (M 120) m i j)  -- p2.pb
        rw [b2]; exact zB.f (fun h => ha.z.1 b2 (fun k k0 _ k1 => h k k0 k1))
    · -- b2.2
      have xk := hX v2 (by omega) (by omega)
      have o4 : ((0 : Int) ≤ v2 ∧ v2 < 901) := by
        first | with_reducible assumption | omega | exact trivial | with_reducible rfl  -- o4
      refine ⟨o4, ?_⟩
      have o5 : ((0 : Int) ≤ i ∧ i < 901) := by
        first | with_reducible assumption | omega | exact trivial | with_reducible rfl  -- o5
      refine ⟨o5, ?_⟩
      have o6 : zin ((M 119 v2) - (M 119 i)) := by
        first | with_reducible assumption | omega | exact trivial | with_reducible rfl  -- o6
      refine ⟨o6, ?_⟩
      have o7 : zin ((M 120 v2) - (M 120 i)) := by
        first | with_reducible assumption | omega | exact trivial | with_reducible rfl  -- o7
      refine ⟨o7, ?_⟩
      have o8 : ((0 : Int) ≤ j ∧ j < 901) := by
        first | with_reducible assumption | omega | exact trivial | with_reducible rfl  -- o8
      refine ⟨o8, ?_⟩
      have o9 : zin ((M 119 j) - (M 119 i)) := by
        first | with_reducible assumption | omega | exact trivial | with_reducible rfl  -- o9
      refine ⟨o9, ?_⟩
      have o10 : zin ((M 120 j) - (M 120 i)) := by
        first | with_reducible assumption | omega | exact trivial | with_reducible rfl  -- o10
      refine ⟨o10, ?_⟩
      have gc1 : pr_X12_isNear ((M 119 v2) - (M 119 i)) ((M 120 v2) - (M 120 i)) ((M 119 j) - (M 119 i)) ((M 120 j) - (M 120 i)) m M := by
        refine ⟨?_, ?_, ?_, ?_, ?_⟩
        · show -16 ≤ ((M 119 v2) - (M 119 i)) ∧ ((M 119 v2) - (M 119 i)) ≤ 16  -- c1.hx
          first | with_reducible assumption | omega | exact trivial | with_reducible rfl
        · show -16 ≤ ((M 120 v2) - (M 120 i)) ∧ ((M 120 v2) - (M 120 i)) ≤ 16  -- c1.hy
          first | with_reducible assumption | omega | exact trivial | with_reducible rfl
        · show -16 ≤ ((M 119 j) - (M 119 i)) ∧ ((M 119 j) - (M 119 i)) ≤ 16  -- c1.hdx
          first | with_reducible assumption | omega | exact trivial | with_reducible rfl
        · show -16 ≤ ((M 120 j) - (M 120 i)) ∧ ((M 120 j) - (M 120 i)) ≤ 16  -- c1.hdy
          first | with_reducible assumption | omega | exact trivial | with_reducible rfl
        · show 0 ≤ m ∧ m ≤ 400  -- c1.hm
          first | with_reducible assumption | omega | exact trivial | with_reducible rfl
      refine ⟨gc1, ?_⟩
      rintro r26 M27 ⟨q_rfl, pc1_pb⟩ z_r26 z_M27
      have q_rfl := q_rfl.symm
      subst q_rfl
      have o11 : zin (v2 + 1) := by
        first | with_reducible assumption | omega | exact trivial | with_reducible rfl  -- o11
      refine ⟨o11, ?_⟩
      refine ⟨Int.toNat (1000 - (v2 + 1)), by omega, by omega, ?_, ?_, ?_⟩
      · show i < (v2 + 1) ∧ (v2 + 1) ≤ 413  -- I8.1.hv
        first | with_reducible assumption | omega | exact trivial | with_reducible rfl
      · first | with_reducible assumption | omega | exact trivial | with_reducible rfl  -- I8.1.rfl
      · show zB r26 (∀ k, i < k → k < (v2 + 1) → k < j → gNr (M 119 k - M 119 i) (M 120 k - M 120 i) (M 119 j - M 119 i) (M 120 j - M 120 i) m)  -- I8.1.ha
        refine pc1_pb.iff ⟨fun h k k0 k1 k2 => ?_, fun h => h v2 hv.1 (by omega) (by omega)⟩
        by_cases c : k = v2
        · subst c; exact h
        · exact ha.ne.1 b2 k k0 (by omega) k2

abbrev pr_X12_findPieces (m : Int) (M : zM) : Prop := (3 ≤ M 103 38 ∧ M 103 38 ≤ 412) ∧ (mXY M) ∧ (0 ≤ m ∧ m ≤ 400)
abbrev po_X12_findPieces (m : Int) (M : zM) (M' : zM) : Prop := (∀ c i, c ≠ 125 → c ≠ 126 → c ≠ 127 → ¬ (c = 103 ∧ i = 50) → M' c i = M c i) ∧ (gPie (gStr (M 119) (M 120) m) (M 103 38) (M' 103 50) (M' 127))
set_option maxHeartbeats 8000000 in
theorem ok_X12_findPieces : zSnd zS 145 0 0 yX12_findPieces cX12_findPieces 8 none 2 [2, 0] (F_X12_findPieces pr_X12_findPieces po_X12_findPieces) := by
  refine (sn_X12_findPieces ok_X12_isStraight).mono ?_
  rintro xs P M hz hR ⟨m, rfl, ⟨hn, hX, hm⟩, hP⟩
  refine ⟨_, rfl, ?_⟩
  have z_m := zall_h (zall_t hz) (by decide)
  change vc_X12_findPieces pr_X12_isStraight po_X12_isStraight m P M
  unfold vc_X12_findPieces
  generalize hSe : gStr (M 119) (M 120) m = S
  have hS1 : ∀ i, S i (i + 1) := fun i => by rw [← hSe]; exact gStr_1
  have ne : ∀ p i p' i' : Int, 0 ≤ i → i ≤ M 103 38 → 0 ≤ i' → i' ≤ M 103 38 → ¬ (p = p' ∧ i = i') → (M 103 38 + 1) * p + i ≠ (M 103 38 + 1) * p' + i' := fun p i p' i' a b c d h e => h (zidx ⟨a, b⟩ ⟨c, d⟩ e)
  have ib : ∀ p i : Int, 0 ≤ p → p ≤ 412 → 0 ≤ i → i ≤ M 103 38 → (0 ≤ (M 103 38 + 1) * p + i ∧ (M 103 38 + 1) * p + i < 600000) := fun p i a b c d => zidx_b hn.2 ⟨a, b⟩ ⟨c, d⟩
  have i0e : ∀ p : Int, (M 103 38 + 1) * p + 0 = (M 103 38 + 1) * p := fun p => by omega
  refine ⟨fun v1 M3 n5 => (n5 : Int) = (412 - v1) ∧ (0 ≤ v1 ∧ v1 ≤ M 103 38) ∧ (∀ c i, c ≠ 125 → M3 c i = M c i) ∧ (∀ i j, 0 ≤ i → i < v1 → i < j → j ≤ M 103 38 → zB (M3 125 ((M 103 38 + 1) * i + j)) (S i j)), ⟨Int.toNat (412 - 0), by omega, ?_, ?_, ?_⟩, ?_⟩
  · show 0 ≤ 0 ∧ 0 ≤ M 103 38  -- I12.0.hv
    first | with_reducible assumption | omega | exact trivial | with_reducible rfl
  · show ∀ c i, c ≠ 125 → M c i = M c i  -- I12.0.hf
    first | with_reducible assumption | omega | exact trivial | with_reducible rfl
  · show ∀ i j, 0 ≤ i → i < 0 → i < j → j ≤ M 103 38 → zB (M 125 ((M 103 38 + 1) * i + j)) (S i j)  -- I12.0.hs
    intro i j i0 i1; omega
  rintro v1 M3 n5 ⟨h_n5, hv, hf, hs⟩ z_v1 z_M3
  refine ⟨fun b1 => ?_, fun b1 => ?_⟩
  · -- b1.1
    refine ⟨fun v13 M15 n17 => (n17 : Int) = (413 - v13) ∧ (0 ≤ v13 ∧ v13 ≤ M 103 38 + 1) ∧ (∀ c i, c ≠ 126 → M15 c i = M3 c i) ∧ (∀ i, 0 ≤ i → i < v13 → zB (M15 126 i) (i = M 103 38)), ⟨Int.toNat (413 - 0), by omega, ?_, ?_, ?_⟩, ?_⟩
    · show 0 ≤ 0 ∧ 0 ≤ M 103 38 + 1  -- I66.0.hv2
      first | with_reducible assumption | omega | exact trivial | with_reducible rfl
    · show ∀ c i, c ≠ 126 → M3 c i = M3 c i  -- I66.0.hf2
      first | with_reducible assumption | omega | exact trivial | with_reducible rfl
    · show ∀ i, 0 ≤ i → i < 0 → zB (M3 126 i) (i = M 103 38)  -- I66.0.hr0
      intro i i0 i1; omega
    rintro v13 M15 n17 ⟨h_n17, hv2, hf2, hr0⟩ z_v13 z_M15
    refine ⟨fun b2 => ?_, fun b2 => ?_⟩
    · -- b2.1
      intro M25 e_M25
      have q : ∀ c i, ¬ (c = 103 ∧ i = 50) → M25 c i = M15 c i := fun c i h => by rw [e_M25, zset_n _ (by omega)]
      have q50 : M25 103 50 = 0 := by rw [e_M25, zset_s]
      refine ⟨fun M28 n30 => (n30 : Int) = (M 103 38 - M28 103 50) ∧ (0 ≤ M28 103 50 ∧ M28 103 50 ≤ M 103 38) ∧ (∀ c i, c ≠ 126 → ¬ (c = 103 ∧ i = 50) → M28 c i = M15 c i) ∧ (∀ p i, 0 ≤ p → p ≤ M28 103 50 → 0 ≤ i → i ≤ M 103 38 → zB (M28 126 ((M 103 38 + 1) * p + i)) (gR S (M 103 38) p.toNat i)) ∧ (∀ p : Nat, 3 ≤ p → (p : Int) < M28 103 50 → ¬ gR S (M 103 38) p 0), ⟨Int.toNat (M 103 38 - M25 103 50), by omega, ?_, ?_, ?_, ?_⟩, ?_⟩
      · show 0 ≤ M25 103 50 ∧ M25 103 50 ≤ M 103 38  -- I101.0.hpc
        first | with_reducible assumption | omega | exact trivial | with_reducible rfl
      · show ∀ c i, c ≠ 126 → ¬ (c = 103 ∧ i = 50) → M25 c i = M15 c i  -- I101.0.hf3
        intro c i _ h; exact q c i h
      · show ∀ p i, 0 ≤ p → p ≤ M25 103 50 → 0 ≤ i → i ≤ M 103 38 → zB (M25 126 ((M 103 38 + 1) * p + i)) (gR S (M 103 38) p.toNat i)  -- I101.0.hrr
        rw [q50]; intro p i p0 p1 i0 i1
        have e : p = 0 := by omega
        rw [e, Int.mul_zero, Int.zero_add, q 126 i (by omega)]
        exact hr0 i i0 (by omega)
      · show ∀ p : Nat, 3 ≤ p → (p : Int) < M25 103 50 → ¬ gR S (M 103 38) p 0  -- I101.0.hmin
        rw [q50]; intro p p3 p0; omega
      rintro M28 n30 ⟨h_n30, hpc, hf3, hrr, hmin⟩ z_M28
      have e125 : M28 125 = M3 125 := funext fun i => (hf3 125 i (by decide) (by omega)).trans (hf2 125 i (by decide))
      refine ⟨fun b3 => ?_, fun b3 => ?_⟩
      · -- b3.1
        have lt : M28 103 50 < M 103 38 := by omega
        have o1 : zin ((M28 103 50) + 1) := by
          first | with_reducible assumption | omega | exact trivial | with_reducible rfl  -- o1
        refine ⟨o1, ?_⟩
        intro M39 e_M39
        have y : ∀ c i, ¬ (c = 103 ∧ i = 50) → M39 c i = M28 c i := fun c i h => by rw [e_M39, zset_n _ (by omega)]
        have y50 : M39 103 50 = M28 103 50 + 1 := by rw [e_M39, zset_s]
        refine ⟨fun v42 M44 n46 => (n46 : Int) = (413 - v42) ∧ (0 ≤ v42 ∧ v42 ≤ M 103 38 + 1) ∧ (∀ c i, c ≠ 126 → ¬ (c = 103 ∧ i = 50) → M44 c i = M28 c i) ∧ (M44 103 50 = M28 103 50 + 1) ∧ (∀ p i, 0 ≤ p → p ≤ M28 103 50 → 0 ≤ i → i ≤ M 103 38 → zB (M44 126 ((M 103 38 + 1) * p + i)) (gR S (M 103 38) p.toNat i)) ∧ (∀ i, 0 ≤ i → i < v42 → zB (M44 126 ((M 103 38 + 1) * (M28 103 50 + 1) + i)) (gR S (M 103 38) (M28 103 50 + 1).toNat i)), ⟨Int.toNat (413 - 0), by omega, ?_, ?_, ?_, ?_, ?_⟩, ?_⟩
        · show 0 ≤ 0 ∧ 0 ≤ M 103 38 + 1  -- I136.0.hv3
          first | with_reducible assumption | omega | exact trivial | with_reducible rfl
        · show ∀ c i, c ≠ 126 → ¬ (c = 103 ∧ i = 50) → M39 c i = M28 c i  -- I136.0.hf4
          intro c i _ h; exact y c i h
        · show M39 103 50 = M28 103 50 + 1  -- I136.0.h50
          first | with_reducible assumption | omega | exact trivial | with_reducible rfl
        · show ∀ p i, 0 ≤ p → p ≤ M28 103 50 → 0 ≤ i → i ≤ M 103 38 → zB (M39 126 ((M 103 38 + 1) * p + i)) (gR S (M 103 38) p.toNat i)  -- I136.0.hr4
          intro p i p0 p1 i0 i1; rw [y 126 _ (by omega)]; exact hrr p i p0 p1 i0 i1
        · show ∀ i, 0 ≤ i → i < 0 → zB (M39 126 ((M 103 38 + 1) * (M28 103 50 + 1) + i)) (gR S (M 103 38) (M28 103 50 + 1).toNat i)  -- I136.0.hrow
          intro i i0 i1; omega
        rintro v42 M44 n46 ⟨h_n46, hv3, hf4, h50, hr4, hrow⟩ z_v42 z_M44
        refine ⟨fun b4 => ?_, fun b4 => ?_⟩
        · -- b4.1
          refine ⟨Int.toNat (M 103 38 - M44 103 50), by omega, by omega, ?_, ?_, ?_, ?_⟩
          · show 0 ≤ M44 103 50 ∧ M44 103 50 ≤ M 103 38  -- I101.1.hpc
            first | with_reducible assumption | omega | exact trivial | with_reducible rfl
          · show ∀ c i, c ≠ 126 → ¬ (c = 103 ∧ i = 50) → M44 c i = M15 c i  -- I101.1.hf3
            intro c i h1 h2; rw [hf4 c i h1 h2]; exact hf3 c i h1 h2
          · show ∀ p i, 0 ≤ p → p ≤ M44 103 50 → 0 ≤ i → i ≤ M 103 38 → zB (M44 126 ((M 103 38 + 1) * p + i)) (gR S (M 103 38) p.toNat i)  -- I101.1.hrr
            rw [h50]; intro p i p0 p1 i0 i1
            by_cases c : p = M28 103 50 + 1
            · rw [c]; exact hrow i i0 (by omega)
            · exact hr4 p i p0 (by omega) i0 i1
          · show ∀ p : Nat, 3 ≤ p → (p : Int) < M44 103 50 → ¬ gR S (M 103 38) p 0  -- I101.1.hmin
            rw [h50]; intro p p3 p0
            by_cases c : (p : Int) = M28 103 50
            · omega
            · exact hmin p p3 (by omega)
        · -- b4.2
          have x125 : M44 125 = M3 125 := by rw [← e125]; exact funext fun i => hf4 125 i (by decide) (by omega)
          have dec : gR S (M 103 38) (M28 103 50 + 1).toNat v42 ↔ ∃ j, v42 < j ∧ j ≤ M 103 38 ∧ S v42 j ∧ gR S (M 103 38) (M28 103 50).toNat j := by
            rw [show (M28 103 50 + 1).toNat = (M28 103 50).toNat + 1 by omega]
            exact Iff.rfl
          have o2 : zin (v42 + 1) := by
            first | with_reducible assumption | omega | exact trivial | with_reducible rfl  -- o2
          refine ⟨o2, ?_⟩
          refine ⟨fun v57 v58 n62 => (n62 : Int) = (413 - v58) ∧ (v57 = 0 ∨ v57 = 1) ∧ (v42 < v58 ∧ v58 ≤ M 103 38 + 1) ∧ (zB v57 (∃ j, v42 < j ∧ j < v58 ∧ S v42 j ∧ gR S (M 103 38) (M28 103 50).toNat j)), ⟨Int.toNat (413 - (v42 + 1)), by omega, ?_, ?_, ?_⟩, ?_⟩
          · show 0 = 0 ∨ 0 = 1  -- I151.0.h01
            first | with_reducible assumption | omega | exact trivial | with_reducible rfl
          · show v42 < (v42 + 1) ∧ (v42 + 1) ≤ M 103 38 + 1  -- I151.0.hj
            first | with_reducible assumption | omega | exact trivial | with_reducible rfl
          · show zB 0 (∃ j, v42 < j ∧ j < (v42 + 1) ∧ S v42 j ∧ gR S (M 103 38) (M28 103 50).toNat j)  -- I151.0.hz
            exact zB.f (by rintro ⟨j, j0, j1, _⟩; omega)
          rintro v57 v58 n62 ⟨h_n62, h01, hj, hz⟩ z_v57 z_v58
          intro K209 h_K209
          have k_K209 : (zB v57 (gR S (M 103 38) (M28 103 50 + 1).toNat v42)) → K209  := by
            intro  hk9
            refine h_K209 ?_
            rw [h50]
            have o3 : ((0 : Int) ≤ ((((M 103 38) + 1) * (M28 103 50 + 1)) + v42) ∧ ((((M 103 38) + 1) * (M28 103 50 + 1)) + v42) < 600000) := by
              exact ib (M28 103 50 + 1) v42 (by omega) (by omega) (by omega) (by omega)
            refine ⟨o3, ?_⟩
            have o4 : (v57 = 0 ∨ v57 = 1) := by
              first | with_reducible assumption | omega | exact trivial | with_reducible rfl  -- o4
            refine ⟨o4, ?_⟩
            intro M71 e_M71
            refine ⟨Int.toNat (413 - (v42 + 1)), by omega, by omega, ?_, ?_, ?_, ?_, ?_⟩
            · show 0 ≤ (v42 + 1) ∧ (v42 + 1) ≤ M 103 38 + 1  -- I136.1.hv3
              first | with_reducible assumption | omega | exact trivial | with_reducible rfl
            · show ∀ c i, c ≠ 126 → ¬ (c = 103 ∧ i = 50) → M71 c i = M28 c i  -- I136.1.hf4
              intro c i h1 h2; rw [e_M71, zset_n _ (.inl h1)]; exact hf4 c i h1 h2
            · show M71 103 50 = M28 103 50 + 1  -- I136.1.h50
              rw [e_M71, zset_n _ (.inl (by decide))]; exact h50
            · show ∀ p i, 0 ≤ p → p ≤ M28 103 50 → 0 ≤ i → i ≤ M 103 38 → zB (M71 126 ((M 103 38 + 1) * p + i)) (gR S (M 103 38) p.toNat i)  -- I136.1.hr4
              intro p i p0 p1 i0 i1; rw [e_M71, zset_n _ (.inr (ne p i (M28 103 50 + 1) v42 i0 i1 (by omega) (by omega) (by omega)))]; exact hr4 p i p0 p1 i0 i1
            · show ∀ i, 0 ≤ i → i < (v42 + 1) → zB (M71 126 ((M 103 38 + 1) * (M28 103 50 + 1) + i)) (gR S (M 103 38) (M28 103 50 + 1).toNat i)  -- I136.1.hrow
              intro i i0 i1
              by_cases c : i = v42
              · rw [e_M71, c, zset_s]; exact hk9
              · rw [e_M71, zset_n _ (.inr (ne _ i _ v42 i0 (by omega) (by omega) (by omega) (by omega)))]; exact hrow i i0 (by omega)
          refine ⟨fun b5 => ?_, fun b5 => ?_⟩
          · -- b5.1
            refine k_K209 ?_
            · show zB v57 (gR S (M 103 38) (M28 103 50 + 1).toNat v42)  -- K209.1.hk9
              refine hz.iff ?_
              rw [dec]
              exact ⟨fun ⟨j, j0, j1, s, r⟩ => ⟨j, j0, by omega, s, r⟩, fun ⟨j, j0, j1, s, r⟩ => ⟨j, j0, by omega, s, r⟩⟩
          · -- b5.2
            refine ⟨fun b6 => ?_, fun b6 => ?_⟩
            · -- b6.1
              refine k_K209 ?_
              · show zB v57 (gR S (M 103 38) (M28 103 50 + 1).toNat v42)  -- K209.2.hk9
                obtain ⟨j, j0, j1, s, r⟩ := hz.ne.1 b6
                rw [show v57 = 1 by omega]
                exact zB.t (dec.2 ⟨j, j0, by omega, s, r⟩)
            · -- b6.2
              have hm1 := hs v42 v58 (by omega) (by omega) hj.1 (by omega)
              rw [← x125] at hm1
              have hr1 := hr4 (M28 103 50) v58 hpc.1 (by omega) (by omega) (by omega)
              have e51 : M44 103 50 - 1 = M28 103 50 := by omega
              have o5 : ((0 : Int) ≤ ((((M 103 38) + 1) * v42) + v58) ∧ ((((M 103 38) + 1) * v42) + v58) < 600000) := by
                exact ib v42 v58 (by omega) (by omega) (by omega) (by omega)
              refine ⟨o5, ?_⟩
              refine ⟨fun b7 => ?_, fun b7 => ?_⟩
              · -- b7.1
                have o6 : zin (v58 + 1) := by
                  first | with_reducible assumption | omega | exact trivial | with_reducible rfl  -- o6
                refine ⟨o6, ?_⟩
                refine ⟨Int.toNat (413 - (v58 + 1)), by omega, by omega, ?_, ?_, ?_⟩
                · show 0 = 0 ∨ 0 = 1  -- I151.1.h01
                  first | with_reducible assumption | omega | exact trivial | with_reducible rfl
                · show v42 < (v58 + 1) ∧ (v58 + 1) ≤ M 103 38 + 1  -- I151.1.hj
                  first | with_reducible assumption | omega | exact trivial | with_reducible rfl
                · show zB 0 (∃ j, v42 < j ∧ j < (v58 + 1) ∧ S v42 j ∧ gR S (M 103 38) (M28 103 50).toNat j)  -- I151.1.hz
                  refine zB.f ?_
                  rintro ⟨j, j0, j1, s, r⟩
                  by_cases c : j = v58
                  · subst c; exact hm1.z.1 b7 s
                  · exact hz.z.1 b6 ⟨j, j0, by omega, s, r⟩
              · -- b7.2
                have o7 : ((0 : Int) ≤ ((((M 103 38) + 1) * ((M44 103 50) - 1)) + v58) ∧ ((((M 103 38) + 1) * ((M44 103 50) - 1)) + v58) < 600000) := by
                  rw [h50, show M28 103 50 + 1 - 1 = M28 103 50 by omega]; exact ib (M28 103 50) v58 (by omega) (by omega) (by omega) (by omega)
                refine ⟨o7, ?_⟩
                refine ⟨fun b8 => ?_, fun b8 => ?_⟩
                · -- b8.1
                  have o8 : zin (v58 + 1) := by
                    first | with_reducible assumption | omega | exact trivial | with_reducible rfl  -- o8
                  refine ⟨o8, ?_⟩
                  refine ⟨Int.toNat (413 - (v58 + 1)), by omega, by omega, ?_, ?_, ?_⟩
                  · show 0 = 0 ∨ 0 = 1  -- I151.2.h01
                    first | with_reducible assumption | omega | exact trivial | with_reducible rfl
                  · show v42 < (v58 + 1) ∧ (v58 + 1) ≤ M 103 38 + 1  -- I151.2.hj
                    first | with_reducible assumption | omega | exact trivial | with_reducible rfl
                  · show zB 0 (∃ j, v42 < j ∧ j < (v58 + 1) ∧ S v42 j ∧ gR S (M 103 38) (M28 103 50).toNat j)  -- I151.2.hz
                    refine zB.f ?_
                    rw [e51] at b8
                    rintro ⟨j, j0, j1, s, r⟩
                    by_cases c : j = v58
                    · subst c; exact hr1.z.1 b8 r
                    · exact hz.z.1 b6 ⟨j, j0, by omega, s, r⟩
                · -- b8.2
                  have o9 : zin (v58 + 1) := by
                    first | with_reducible assumption | omega | exact trivial | with_reducible rfl  -- o9
                  refine ⟨o9, ?_⟩
                  refine ⟨Int.toNat (413 - (v58 + 1)), by omega, by omega, ?_, ?_, ?_⟩
                  · show 1 = 0 ∨ 1 = 1  -- I151.3.h01
                    first | with_reducible assumption | omega | exact trivial | with_reducible rfl
                  · show v42 < (v58 + 1) ∧ (v58 + 1) ≤ M 103 38 + 1  -- I151.3.hj
                    first | with_reducible assumption | omega | exact trivial | with_reducible rfl
                  · show zB 1 (∃ j, v42 < j ∧ j < (v58 + 1) ∧ S v42 j ∧ gR S (M 103 38) (M28 103 50).toNat j)  -- I151.3.hz
                    rw [e51] at b8
                    exact zB.t ⟨v58, hj.1, by omega, hm1.ne.1 b7, hr1.ne.1 b8⟩
      · -- b3.2
        have o10 : ((0 : Int) ≤ (((M 103 38) + 1) * (M28 103 50)) ∧ (((M 103 38) + 1) * (M28 103 50)) < 600000) := by
          have := ib (M28 103 50) 0 hpc.1 (by omega) (by omega) (by omega); omega
        refine ⟨o10, ?_⟩
        refine ⟨fun b9 => ?_, fun b9 => ?_⟩
        · -- b9.1
          have fin := (hrr (M28 103 50) 0 hpc.1 (by omega) (by omega) (by omega)).ne.1 (by rw [i0e]; exact b9)
          refine ⟨fun v97 v98 M101 n103 => (n103 : Int) = (413 - v98) ∧ (0 ≤ v98 ∧ v98 ≤ M28 103 50) ∧ (0 ≤ v97 ∧ v97 ≤ M 103 38) ∧ (∀ c i, c ≠ 127 → M101 c i = M28 c i) ∧ (gR S (M 103 38) (M28 103 50 - v98).toNat v97) ∧ (v98 = 0 → v97 = 0) ∧ (0 < v98 → M101 127 0 = 0) ∧ (∀ p, 0 ≤ p → p + 1 < v98 → gNx S (M 103 38) (M28 103 50 - p) (M101 127 p) (M101 127 (p + 1))) ∧ (0 < v98 → gNx S (M 103 38) (M28 103 50 - (v98 - 1)) (M101 127 (v98 - 1)) v97), ⟨Int.toNat (413 - 0), by omega, ?_, ?_, ?_, ?_, ?_, ?_, ?_, ?_⟩, ?_⟩
          · show 0 ≤ 0 ∧ 0 ≤ M28 103 50  -- I240.0.hv3
            first | with_reducible assumption | omega | exact trivial | with_reducible rfl
          · show 0 ≤ 0 ∧ 0 ≤ M 103 38  -- I240.0.h7
            first | with_reducible assumption | omega | exact trivial | with_reducible rfl
          · show ∀ c i, c ≠ 127 → M28 c i = M28 c i  -- I240.0.hf4
            first | with_reducible assumption | omega | exact trivial | with_reducible rfl
          · show gR S (M 103 38) (M28 103 50 - 0).toNat 0  -- I240.0.hR
            rw [show M28 103 50 - 0 = M28 103 50 by omega]; exact fin
          · show 0 = 0 → 0 = 0  -- I240.0.h00
            first | with_reducible assumption | omega | exact trivial | with_reducible rfl
          · show 0 < 0 → M28 127 0 = 0  -- I240.0.hb0
            intro h; omega
          · show ∀ p, 0 ≤ p → p + 1 < 0 → gNx S (M 103 38) (M28 103 50 - p) (M28 127 p) (M28 127 (p + 1))  -- I240.0.hch
            intro p p0 p1; omega
          · show 0 < 0 → gNx S (M 103 38) (M28 103 50 - (0 - 1)) (M28 127 (0 - 1)) 0  -- I240.0.hla
            intro h; omega
          rintro v97 v98 M101 n103 ⟨h_n103, hv3, h7, hf4, hR, h00, hb0, hch, hla⟩ z_v97 z_v98 z_M101
          have z50 := hf4 103 50 (by decide)
          have z125 : M101 125 = M3 125 := by rw [← e125]; exact funext fun i => hf4 125 i (by decide)
          have z126 : M101 126 = M28 126 := funext fun i => hf4 126 i (by decide)
          refine ⟨fun b10 => ?_, fun b10 => ?_⟩
          · -- b10.1
            have eP : v98 = M28 103 50 := by omega
            have e7 : v97 = M 103 38 := by
              rw [eP, show (M28 103 50 - M28 103 50).toNat = 0 by omega] at hR
              exact hR
            have o11 : ((0 : Int) ≤ (M101 103 50) ∧ (M101 103 50) < 901) := by
              first | with_reducible assumption | omega | exact trivial | with_reducible rfl  -- o11
            refine ⟨o11, ?_⟩
            intro M112 e_M112
            have x50 : M112 103 50 = M28 103 50 := by rw [e_M112, zset_n _ (.inl (by decide))]; exact z50
            have x7 : ∀ p, p ≠ M28 103 50 → M112 127 p = M101 127 p := fun p h => by rw [e_M112, z50, zset_n _ (.inr h)]
            have x7e : M112 127 (M28 103 50) = M 103 38 := by rw [e_M112, z50, zset_s]
            refine hP _ ⟨?_, ?_⟩
            · show ∀ c i, c ≠ 125 → c ≠ 126 → c ≠ 127 → ¬ (c = 103 ∧ i = 50) → M112 c i = M c i  -- p1.hf
              intro c i c1 c2 c3 c4; rw [e_M112, zset_n _ (.inl c3), hf4 c i c3, hf3 c i c2 c4, hf2 c i c2]; exact hf c i c1
            · show gPie (gStr (M 119) (M 120) m) (M 103 38) (M112 103 50) (M112 127)  -- p1.hp
              rw [hSe, x50]
              refine ⟨by omega, hpc.2, ?_, fin, ?_, ?_⟩
              · intro p p3 r
                apply Classical.byContradiction
                intro c
                exact hmin p p3 (by omega) r
              · rw [x7 0 (by omega)]; exact hb0 (by omega)
              · intro p p0 p1
                by_cases c : p = M28 103 50 - 1
                · rw [show p + 1 = M28 103 50 by omega, x7e, x7 p (by omega), c]
                  have := hla (by omega)
                  rw [eP, e7] at this
                  exact this
                · rw [x7 p (by omega), x7 (p + 1) (by omega)]; exact hch p p0 (by omega)
          · -- b10.2
            have o12 : ((0 : Int) ≤ v98 ∧ v98 < 901) := by
              first | with_reducible assumption | omega | exact trivial | with_reducible rfl  -- o12
            refine ⟨o12, ?_⟩
            intro M116 e_M116
            have g50 : M116 103 50 = M28 103 50 := by rw [e_M116, zset_n _ (.inl (by decide))]; exact z50
            have g125 : M116 125 = M3 125 := by rw [← z125]; exact funext fun i => by rw [e_M116, zset_n _ (.inl (by decide))]
            have g126 : M116 126 = M28 126 := by rw [← z126]; exact funext fun i => by rw [e_M116, zset_n _ (.inl (by decide))]
            have g7 : ∀ p, p ≠ v98 → M116 127 p = M101 127 p := fun p h => by rw [e_M116, zset_n _ (.inr h)]
            have g7e : M116 127 v98 = v97 := by rw [e_M116, zset_s]
            have v98P : v98 < M28 103 50 := by omega
            have o13 : zin (v97 + 1) := by
              first | with_reducible assumption | omega | exact trivial | with_reducible rfl  -- o13
            refine ⟨o13, ?_⟩
            refine ⟨fun v119 v120 n124 => (n124 : Int) = (413 - v120) ∧ (v97 < v120 ∧ v120 ≤ M 103 38 + 1) ∧ (v97 ≤ v119 ∧ v119 ≤ M 103 38) ∧ ((v119 = v97 ∧ ∀ j, v97 < j → j < v120 → S v97 j → ¬ gR S (M 103 38) (M28 103 50 - v98 - 1).toNat j) ∨ (v97 < v119 ∧ v119 < v120 ∧ S v97 v119 ∧ gR S (M 103 38) (M28 103 50 - v98 - 1).toNat v119 ∧ ∀ j, v119 < j → j < v120 → S v97 j → ¬ gR S (M 103 38) (M28 103 50 - v98 - 1).toNat j)), ⟨Int.toNat (413 - (v97 + 1)), by omega, ?_, ?_, ?_⟩, ?_⟩
            · show v97 < (v97 + 1) ∧ (v97 + 1) ≤ M 103 38 + 1  -- I268.0.hj2
              have v97n : v97 ≠ M 103 38 := fun e => by
                rw [e] at hR
                have := gR_n hR
                omega
              omega
            · show v97 ≤ v97 ∧ v97 ≤ M 103 38  -- I268.0.h119
              first | with_reducible assumption | omega | exact trivial | with_reducible rfl
            · show (v97 = v97 ∧ ∀ j, v97 < j → j < (v97 + 1) → S v97 j → ¬ gR S (M 103 38) (M28 103 50 - v98 - 1).toNat j) ∨ (v97 < v97 ∧ v97 < (v97 + 1) ∧ S v97 v97 ∧ gR S (M 103 38) (M28 103 50 - v98 - 1).toNat v97 ∧ ∀ j, v97 < j → j < (v97 + 1) → S v97 j → ¬ gR S (M 103 38) (M28 103 50 - v98 - 1).toNat j)  -- I268.0.hz2
              exact .inl ⟨rfl, fun j j0 j1 => by omega⟩
            rintro v119 v120 n124 ⟨h_n124, hj2, h119, hz2⟩ z_v119 z_v120
            refine ⟨fun b11 => ?_, fun b11 => ?_⟩
            · -- b11.1
              have NX : gNx S (M 103 38) (M28 103 50 - v98) v97 v119 := by
                rcases hz2 with ⟨_, none⟩ | ⟨a1, a2, a3, a4, a5⟩
                · rw [show (M28 103 50 - v98).toNat = (M28 103 50 - v98 - 1).toNat + 1 by omega] at hR
                  obtain ⟨j, j0, j1, s, r⟩ := hR
                  exact absurd r (none j j0 (by omega) s)
                · exact ⟨a1, h119.2, a3, a4, fun j j0 j1 => a5 j j0 (by omega)⟩
              have o14 : zin (v98 + 1) := by
                first | with_reducible assumption | omega | exact trivial | with_reducible rfl  -- o14
              refine ⟨o14, ?_⟩
              refine ⟨Int.toNat (413 - (v98 + 1)), by omega, by omega, ?_, ?_, ?_, ?_, ?_, ?_, ?_, ?_⟩
              · show 0 ≤ (v98 + 1) ∧ (v98 + 1) ≤ M28 103 50  -- I240.1.hv3
                first | with_reducible assumption | omega | exact trivial | with_reducible rfl
              · show 0 ≤ v119 ∧ v119 ≤ M 103 38  -- I240.1.h7
                first | with_reducible assumption | omega | exact trivial | with_reducible rfl
              · show ∀ c i, c ≠ 127 → M116 c i = M28 c i  -- I240.1.hf4
                intro c i h; rw [e_M116, zset_n _ (.inl h)]; exact hf4 c i h
              · show gR S (M 103 38) (M28 103 50 - (v98 + 1)).toNat v119  -- I240.1.hR
                rw [show M28 103 50 - (v98 + 1) = M28 103 50 - v98 - 1 by omega]; exact NX.2.2.2.1
              · show (v98 + 1) = 0 → v119 = 0  -- I240.1.h00
                intro h; omega
              · show 0 < (v98 + 1) → M116 127 0 = 0  -- I240.1.hb0
                intro _
                by_cases c : v98 = 0
                · have := g7e
                  rw [c] at this
                  rw [this]; exact h00 c
                · rw [g7 0 (by omega)]; exact hb0 (by omega)
              · show ∀ p, 0 ≤ p → p + 1 < (v98 + 1) → gNx S (M 103 38) (M28 103 50 - p) (M116 127 p) (M116 127 (p + 1))  -- I240.1.hch
                intro p p0 p1
                by_cases c : p + 1 = v98
                · rw [c, g7e, g7 p (by omega)]
                  have := hla (by omega)
                  rw [show v98 - 1 = p by omega] at this
                  exact this
                · rw [g7 p (by omega), g7 (p + 1) c]; exact hch p p0 (by omega)
              · show 0 < (v98 + 1) → gNx S (M 103 38) (M28 103 50 - ((v98 + 1) - 1)) (M116 127 ((v98 + 1) - 1)) v119  -- I240.1.hla
                intro _; rw [show v98 + 1 - 1 = v98 by omega, g7e]; exact NX
            · -- b11.2
              have hm1 := hs v97 v120 h7.1 (by omega) hj2.1 (by omega)
              rw [← g125] at hm1
              have hr1 := hrr (M28 103 50 - v98 - 1) v120 (by omega) (by omega) (by omega) (by omega)
              rw [← g126, ← g50] at hr1
              have no : (S v97 v120 → ¬ gR S (M 103 38) (M28 103 50 - v98 - 1).toNat v120) → ((v119 = v97 ∧ ∀ j, v97 < j → j < v120 + 1 → S v97 j → ¬ gR S (M 103 38) (M28 103 50 - v98 - 1).toNat j) ∨ (v97 < v119 ∧ v119 < v120 + 1 ∧ S v97 v119 ∧ gR S (M 103 38) (M28 103 50 - v98 - 1).toNat v119 ∧ ∀ j, v119 < j → j < v120 + 1 → S v97 j → ¬ gR S (M 103 38) (M28 103 50 - v98 - 1).toNat j)) := by
                intro h
                rcases hz2 with ⟨a, none⟩ | ⟨a1, a2, a3, a4, a5⟩
                · refine .inl ⟨a, fun j j0 j1 s => ?_⟩
                  by_cases c : j = v120
                  · subst c; exact h s
                  · exact none j j0 (by omega) s
                · refine .inr ⟨a1, by omega, a3, a4, fun j j0 j1 s => ?_⟩
                  by_cases c : j = v120
                  · subst c; exact h s
                  · exact a5 j j0 (by omega) s
              have o15 : ((0 : Int) ≤ ((((M 103 38) + 1) * v97) + v120) ∧ ((((M 103 38) + 1) * v97) + v120) < 600000) := by
                exact ib v97 v120 h7.1 (by omega) (by omega) (by omega)
              refine ⟨o15, ?_⟩
              refine ⟨fun b12 => ?_, fun b12 => ?_⟩
              · -- b12.1
                have o16 : zin (v120 + 1) := by
                  first | with_reducible assumption | omega | exact trivial | with_reducible rfl  -- o16
                refine ⟨o16, ?_⟩
                refine ⟨Int.toNat (413 - (v120 + 1)), by omega, by omega, ?_, ?_, ?_⟩
                · show v97 < (v120 + 1) ∧ (v120 + 1) ≤ M 103 38 + 1  -- I268.1.hj2
                  first | with_reducible assumption | omega | exact trivial | with_reducible rfl
                · show v97 ≤ v119 ∧ v119 ≤ M 103 38  -- I268.1.h119
                  first | with_reducible assumption | omega | exact trivial | with_reducible rfl
                · show (v119 = v97 ∧ ∀ j, v97 < j → j < (v120 + 1) → S v97 j → ¬ gR S (M 103 38) (M28 103 50 - v98 - 1).toNat j) ∨ (v97 < v119 ∧ v119 < (v120 + 1) ∧ S v97 v119 ∧ gR S (M 103 38) (M28 103 50 - v98 - 1).toNat v119 ∧ ∀ j, v119 < j → j < (v120 + 1) → S v97 j → ¬ gR S (M 103 38) (M28 103 50 - v98 - 1).toNat j)  -- I268.1.hz2
                  exact no (fun s => absurd s (hm1.z.1 b12))
              · -- b12.2
                have o17 : ((0 : Int) ≤ ((((M 103 38) + 1) * (((M116 103 50) - v98) - 1)) + v120) ∧ ((((M 103 38) + 1) * (((M116 103 50) - v98) - 1)) + v120) < 600000) := by
                  rw [g50]; exact ib (M28 103 50 - v98 - 1) v120 (by omega) (by omega) (by omega) (by omega)
                refine ⟨o17, ?_⟩
                refine ⟨fun b13 => ?_, fun b13 => ?_⟩
                · -- b13.1
                  have o18 : zin (v120 + 1) := by
                    first | with_reducible assumption | omega | exact trivial | with_reducible rfl  -- o18
                  refine ⟨o18, ?_⟩
                  refine ⟨Int.toNat (413 - (v120 + 1)), by omega, by omega, ?_, ?_, ?_⟩
                  · show v97 < (v120 + 1) ∧ (v120 + 1) ≤ M 103 38 + 1  -- I268.2.hj2
                    first | with_reducible assumption | omega | exact trivial | with_reducible rfl
                  · show v97 ≤ v119 ∧ v119 ≤ M 103 38  -- I268.2.h119
                    first | with_reducible assumption | omega | exact trivial | with_reducible rfl
                  · show (v119 = v97 ∧ ∀ j, v97 < j → j < (v120 + 1) → S v97 j → ¬ gR S (M 103 38) (M28 103 50 - v98 - 1).toNat j) ∨ (v97 < v119 ∧ v119 < (v120 + 1) ∧ S v97 v119 ∧ gR S (M 103 38) (M28 103 50 - v98 - 1).toNat v119 ∧ ∀ j, v119 < j → j < (v120 + 1) → S v97 j → ¬ gR S (M 103 38) (M28 103 50 - v98 - 1).toNat j)  -- I268.2.hz2
                    refine no (fun _ => ?_)
                    have := hr1.z.1 b13
                    rw [g50] at this
                    exact this
                · -- b13.2
                  have o19 : zin (v120 + 1) := by
                    first | with_reducible assumption | omega | exact trivial | with_reducible rfl  -- o19
                  refine ⟨o19, ?_⟩
                  refine ⟨Int.toNat (413 - (v120 + 1)), by omega, by omega, ?_, ?_, ?_⟩
                  · show v97 < (v120 + 1) ∧ (v120 + 1) ≤ M 103 38 + 1  -- I268.3.hj2
                    first | with_reducible assumption | omega | exact trivial | with_reducible rfl
                  · show v97 ≤ v120 ∧ v120 ≤ M 103 38  -- I268.3.h119
                    first | with_reducible assumption | omega | exact trivial | with_reducible rfl
                  · show (v120 = v97 ∧ ∀ j, v97 < j → j < (v120 + 1) → S v97 j → ¬ gR S (M 103 38) (M28 103 50 - v98 - 1).toNat j) ∨ (v97 < v120 ∧ v120 < (v120 + 1) ∧ S v97 v120 ∧ gR S (M 103 38) (M28 103 50 - v98 - 1).toNat v120 ∧ ∀ j, v120 < j → j < (v120 + 1) → S v97 j → ¬ gR S (M 103 38) (M28 103 50 - v98 - 1).toNat j)  -- I268.3.hz2
                    have := hr1.ne.1 b13
                    rw [g50] at this
                    exact .inr ⟨hj2.1, by omega, hm1.ne.1 b12, this, fun j j0 j1 => by omega⟩
        · -- b9.2
          have nfin := (hrr (M28 103 50) 0 hpc.1 (by omega) (by omega) (by omega)).z.1 (by rw [i0e]; exact b9)
          have full := gR_all (n := M 103 38) hS1 (M 103 38).toNat
          rw [show M 103 38 - ((M 103 38).toNat : Int) = 0 by omega] at full
          have lt : M28 103 50 < M 103 38 := by
            apply Classical.byContradiction
            intro c
            rw [show M28 103 50 = M 103 38 by omega] at nfin
            exact nfin full
          have o20 : zin ((M28 103 50) + 1) := by
            first | with_reducible assumption | omega | exact trivial | with_reducible rfl  -- o20
          refine ⟨o20, ?_⟩
          intro M153 e_M153
          have y : ∀ c i, ¬ (c = 103 ∧ i = 50) → M153 c i = M28 c i := fun c i h => by rw [e_M153, zset_n _ (by omega)]
          have y50 : M153 103 50 = M28 103 50 + 1 := by rw [e_M153, zset_s]
          refine ⟨fun v156 M158 n160 => (n160 : Int) = (413 - v156) ∧ (0 ≤ v156 ∧ v156 ≤ M 103 38 + 1) ∧ (∀ c i, c ≠ 126 → ¬ (c = 103 ∧ i = 50) → M158 c i = M28 c i) ∧ (M158 103 50 = M28 103 50 + 1) ∧ (∀ p i, 0 ≤ p → p ≤ M28 103 50 → 0 ≤ i → i ≤ M 103 38 → zB (M158 126 ((M 103 38 + 1) * p + i)) (gR S (M 103 38) p.toNat i)) ∧ (∀ i, 0 ≤ i → i < v156 → zB (M158 126 ((M 103 38 + 1) * (M28 103 50 + 1) + i)) (gR S (M 103 38) (M28 103 50 + 1).toNat i)), ⟨Int.toNat (413 - 0), by omega, ?_, ?_, ?_, ?_, ?_⟩, ?_⟩
          · show 0 ≤ 0 ∧ 0 ≤ M 103 38 + 1  -- I136.0.hv3
            first | with_reducible assumption | omega | exact trivial | with_reducible rfl
          · show ∀ c i, c ≠ 126 → ¬ (c = 103 ∧ i = 50) → M153 c i = M28 c i  -- I136.0.hf4
            intro c i _ h; exact y c i h
          · show M153 103 50 = M28 103 50 + 1  -- I136.0.h50
            first | with_reducible assumption | omega | exact trivial | with_reducible rfl
          · show ∀ p i, 0 ≤ p → p ≤ M28 103 50 → 0 ≤ i → i ≤ M 103 38 → zB (M153 126 ((M 103 38 + 1) * p + i)) (gR S (M 103 38) p.toNat i)  -- I136.0.hr4
            intro p i p0 p1 i0 i1; rw [y 126 _ (by omega)]; exact hrr p i p0 p1 i0 i1
          · show ∀ i, 0 ≤ i → i < 0 → zB (M153 126 ((M 103 38 + 1) * (M28 103 50 + 1) + i)) (gR S (M 103 38) (M28 103 50 + 1).toNat i)  -- I136.0.hrow
            intro i i0 i1; omega
          rintro v156 M158 n160 ⟨h_n160, hv3, hf4, h50, hr4, hrow⟩ z_v156 z_M158
          refine ⟨fun b14 => ?_, fun b14 => ?_⟩
          · -- b14.1
            refine ⟨Int.toNat (M 103 38 - M158 103 50), by omega, by omega, ?_, ?_, ?_, ?_⟩
            · show 0 ≤ M158 103 50 ∧ M158 103 50 ≤ M 103 38  -- I101.2.hpc
              first | with_reducible assumption | omega | exact trivial | with_reducible rfl
            · show ∀ c i, c ≠ 126 → ¬ (c = 103 ∧ i = 50) → M158 c i = M15 c i  -- I101.2.hf3
              intro c i h1 h2; rw [hf4 c i h1 h2]; exact hf3 c i h1 h2
            · show ∀ p i, 0 ≤ p → p ≤ M158 103 50 → 0 ≤ i → i ≤ M 103 38 → zB (M158 126 ((M 103 38 + 1) * p + i)) (gR S (M 103 38) p.toNat i)  -- I101.2.hrr
              rw [h50]; intro p i p0 p1 i0 i1
              by_cases c : p = M28 103 50 + 1
              · rw [c]; exact hrow i i0 (by omega)
              · exact hr4 p i p0 (by omega) i0 i1
            · show ∀ p : Nat, 3 ≤ p → (p : Int) < M158 103 50 → ¬ gR S (M 103 38) p 0  -- I101.2.hmin
              rw [h50]; intro p p3 p0
              by_cases c : (p : Int) = M28 103 50
              · rw [← c] at nfin; exact nfin
              · exact hmin p p3 (by omega)
          · -- b14.2
            have x125 : M158 125 = M3 125 := by rw [← e125]; exact funext fun i => hf4 125 i (by decide) (by omega)
            have dec : gR S (M 103 38) (M28 103 50 + 1).toNat v156 ↔ ∃ j, v156 < j ∧ j ≤ M 103 38 ∧ S v156 j ∧ gR S (M 103 38) (M28 103 50).toNat j := by
              rw [show (M28 103 50 + 1).toNat = (M28 103 50).toNat + 1 by omega]
              exact Iff.rfl
            have o21 : zin (v156 + 1) := by
              first | with_reducible assumption | omega | exact trivial | with_reducible rfl  -- o21
            refine ⟨o21, ?_⟩
            refine ⟨fun v171 v172 n176 => (n176 : Int) = (413 - v172) ∧ (v171 = 0 ∨ v171 = 1) ∧ (v156 < v172 ∧ v172 ≤ M 103 38 + 1) ∧ (zB v171 (∃ j, v156 < j ∧ j < v172 ∧ S v156 j ∧ gR S (M 103 38) (M28 103 50).toNat j)), ⟨Int.toNat (413 - (v156 + 1)), by omega, ?_, ?_, ?_⟩, ?_⟩
            · show 0 = 0 ∨ 0 = 1  -- I151.0.h01
              first | with_reducible assumption | omega | exact trivial | with_reducible rfl
            · show v156 < (v156 + 1) ∧ (v156 + 1) ≤ M 103 38 + 1  -- I151.0.hj
              first | with_reducible assumption | omega | exact trivial | with_reducible rfl
            · show zB 0 (∃ j, v156 < j ∧ j < (v156 + 1) ∧ S v156 j ∧ gR S (M 103 38) (M28 103 50).toNat j)  -- I151.0.hz
              exact zB.f (by rintro ⟨j, j0, j1, _⟩; omega)
            rintro v171 v172 n176 ⟨h_n176, h01, hj, hz⟩ z_v171 z_v172
            intro K209 h_K209
            have k_K209 : (zB v171 (gR S (M 103 38) (M28 103 50 + 1).toNat v156)) → K209  := by
              intro  hk9
              refine h_K209 ?_
              rw [h50]
              have o22 : ((0 : Int) ≤ ((((M 103 38) + 1) * (M28 103 50 + 1)) + v156) ∧ ((((M 103 38) + 1) * (M28 103 50 + 1)) + v156) < 600000) := by
                exact ib (M28 103 50 + 1) v156 (by omega) (by omega) (by omega) (by omega)
              refine ⟨o22, ?_⟩
              have o23 : (v171 = 0 ∨ v171 = 1) := by
                first | with_reducible assumption | omega | exact trivial | with_reducible rfl  -- o23
              refine ⟨o23, ?_⟩
              intro M185 e_M185
              refine ⟨Int.toNat (413 - (v156 + 1)), by omega, by omega, ?_, ?_, ?_, ?_, ?_⟩
              · show 0 ≤ (v156 + 1) ∧ (v156 + 1) ≤ M 103 38 + 1  -- I136.2.hv3
                first | with_reducible assumption | omega | exact trivial | with_reducible rfl
              · show ∀ c i, c ≠ 126 → ¬ (c = 103 ∧ i = 50) → M185 c i = M28 c i  -- I136.2.hf4
                intro c i h1 h2; rw [e_M185, zset_n _ (.inl h1)]; exact hf4 c i h1 h2
              · show M185 103 50 = M28 103 50 + 1  -- I136.2.h50
                rw [e_M185, zset_n _ (.inl (by decide))]; exact h50
              · show ∀ p i, 0 ≤ p → p ≤ M28 103 50 → 0 ≤ i → i ≤ M 103 38 → zB (M185 126 ((M 103 38 + 1) * p + i)) (gR S (M 103 38) p.toNat i)  -- I136.2.hr4
                intro p i p0 p1 i0 i1; rw [e_M185, zset_n _ (.inr (ne p i (M28 103 50 + 1) v156 i0 i1 (by omega) (by omega) (by omega)))]; exact hr4 p i p0 p1 i0 i1
              · show ∀ i, 0 ≤ i → i < (v156 + 1) → zB (M185 126 ((M 103 38 + 1) * (M28 103 50 + 1) + i)) (gR S (M 103 38) (M28 103 50 + 1).toNat i)  -- I136.2.hrow
                intro i i0 i1
                by_cases c : i = v156
                · rw [e_M185, c, zset_s]; exact hk9
                · rw [e_M185, zset_n _ (.inr (ne _ i _ v156 i0 (by omega) (by omega) (by omega) (by omega)))]; exact hrow i i0 (by omega)
            refine ⟨fun b15 => ?_, fun b15 => ?_⟩
            · -- b15.1
              refine k_K209 ?_
              · show zB v171 (gR S (M 103 38) (M28 103 50 + 1).toNat v156)  -- K209.3.hk9
                refine hz.iff ?_
                rw [dec]
                exact ⟨fun ⟨j, j0, j1, s, r⟩ => ⟨j, j0, by omega, s, r⟩, fun ⟨j, j0, j1, s, r⟩ => ⟨j, j0, by omega, s, r⟩⟩
            · -- b15.2
              refine ⟨fun b16 => ?_, fun b16 => ?_⟩
              · -- b16.1
                refine k_K209 ?_
                · show zB v171 (gR S (M 103 38) (M28 103 50 + 1).toNat v156)  -- K209.4.hk9
                  obtain ⟨j, j0, j1, s, r⟩ := hz.ne.1 b16
                  rw [show v171 = 1 by omega]
                  exact zB.t (dec.2 ⟨j, j0, by omega, s, r⟩)
              · -- b16.2
                have hm1 := hs v156 v172 (by omega) (by omega) hj.1 (by omega)
                rw [← x125] at hm1
                have hr1 := hr4 (M28 103 50) v172 hpc.1 (by omega) (by omega) (by omega)
                have e51 : M158 103 50 - 1 = M28 103 50 := by omega
                have o24 : ((0 : Int) ≤ ((((M 103 38) + 1) * v156) + v172) ∧ ((((M 103 38) + 1) * v156) + v172) < 600000) := by
                  exact ib v156 v172 (by omega) (by omega) (by omega) (by omega)
                refine ⟨o24, ?_⟩
                refine ⟨fun b17 => ?_, fun b17 => ?_⟩
                · -- b17.1
                  have o25 : zin (v172 + 1) := by
                    first | with_reducible assumption | omega | exact trivial | with_reducible rfl  -- o25
                  refine ⟨o25, ?_⟩
                  refine ⟨Int.toNat (413 - (v172 + 1)), by omega, by omega, ?_, ?_, ?_⟩
                  · show 0 = 0 ∨ 0 = 1  -- I151.4.h01
                    first | with_reducible assumption | omega | exact trivial | with_reducible rfl
                  · show v156 < (v172 + 1) ∧ (v172 + 1) ≤ M 103 38 + 1  -- I151.4.hj
                    first | with_reducible assumption | omega | exact trivial | with_reducible rfl
                  · show zB 0 (∃ j, v156 < j ∧ j < (v172 + 1) ∧ S v156 j ∧ gR S (M 103 38) (M28 103 50).toNat j)  -- I151.4.hz
                    refine zB.f ?_
                    rintro ⟨j, j0, j1, s, r⟩
                    by_cases c : j = v172
                    · subst c; exact hm1.z.1 b17 s
                    · exact hz.z.1 b16 ⟨j, j0, by omega, s, r⟩
                · -- b17.2
                  have o26 : ((0 : Int) ≤ ((((M 103 38) + 1) * ((M158 103 50) - 1)) + v172) ∧ ((((M 103 38) + 1) * ((M158 103 50) - 1)) + v172) < 600000) := by
                    rw [h50, show M28 103 50 + 1 - 1 = M28 103 50 by omega]; exact ib (M28 103 50) v172 (by omega) (by omega) (by omega) (by omega)
                  refine ⟨o26, ?_⟩
                  refine ⟨fun b18 => ?_, fun b18 => ?_⟩
                  · -- b18.1
                    have o27 : zin (v172 + 1) := by
                      first | with_reducible assumption | omega | exact trivial | with_reducible rfl  -- o27
                    refine ⟨o27, ?_⟩
                    refine ⟨Int.toNat (413 - (v172 + 1)), by omega, by omega, ?_, ?_, ?_⟩
                    · show 0 = 0 ∨ 0 = 1  -- I151.5.h01
                      first | with_reducible assumption | omega | exact trivial | with_reducible rfl
                    · show v156 < (v172 + 1) ∧ (v172 + 1) ≤ M 103 38 + 1  -- I151.5.hj
                      first | with_reducible assumption | omega | exact trivial | with_reducible rfl
                    · show zB 0 (∃ j, v156 < j ∧ j < (v172 + 1) ∧ S v156 j ∧ gR S (M 103 38) (M28 103 50).toNat j)  -- I151.5.hz
                      refine zB.f ?_
                      rw [e51] at b18
                      rintro ⟨j, j0, j1, s, r⟩
                      by_cases c : j = v172
                      · subst c; exact hr1.z.1 b18 r
                      · exact hz.z.1 b16 ⟨j, j0, by omega, s, r⟩
                  · -- b18.2
                    have o28 : zin (v172 + 1) := by
                      first | with_reducible assumption | omega | exact trivial | with_reducible rfl  -- o28
                    refine ⟨o28, ?_⟩
                    refine ⟨Int.toNat (413 - (v172 + 1)), by omega, by omega, ?_, ?_, ?_⟩
                    · show 1 = 0 ∨ 1 = 1  -- I151.6.h01
                      first | with_reducible assumption | omega | exact trivial | with_reducible rfl
                    · show v156 < (v172 + 1) ∧ (v172 + 1) ≤ M 103 38 + 1  -- I151.6.hj
                      first | with_reducible assumption | omega | exact trivial | with_reducible rfl
                    · show zB 1 (∃ j, v156 < j ∧ j < (v172 + 1) ∧ S v156 j ∧ gR S (M 103 38) (M28 103 50).toNat j)  -- I151.6.hz
                      rw [e51] at b18
                      exact zB.t ⟨v172, hj.1, by omega, hm1.ne.1 b17, hr1.ne.1 b18⟩
    · -- b2.2
      refine ⟨fun b19 => ?_, fun b19 => ?_⟩
      · -- b19.1
        have o29 : ((0 : Int) ≤ v13 ∧ v13 < 600000) := by
          first | with_reducible assumption | omega | exact trivial | with_reducible rfl  -- o29
        refine ⟨o29, ?_⟩
        intro M211 e_M211
        have o30 : zin (v13 + 1) := by
          first | with_reducible assumption | omega | exact trivial | with_reducible rfl  -- o30
        refine ⟨o30, ?_⟩
        refine ⟨Int.toNat (413 - (v13 + 1)), by omega, by omega, ?_, ?_, ?_⟩
        · show 0 ≤ (v13 + 1) ∧ (v13 + 1) ≤ M 103 38 + 1  -- I66.1.hv2
          first | with_reducible assumption | omega | exact trivial | with_reducible rfl
        · show ∀ c i, c ≠ 126 → M211 c i = M3 c i  -- I66.1.hf2
          intro c i h; rw [e_M211, zset_n _ (.inl h)]; exact hf2 c i h
        · show ∀ i, 0 ≤ i → i < (v13 + 1) → zB (M211 126 i) (i = M 103 38)  -- I66.1.hr0
          intro i i0 i1
          by_cases c : i = v13
          · rw [e_M211, c, zset_s]; exact zB.f b19
          · rw [e_M211, zset_n _ (.inr c)]; exact hr0 i i0 (by omega)
      · -- b19.2
        have o31 : ((0 : Int) ≤ v13 ∧ v13 < 600000) := by
          first | with_reducible assumption | omega | exact trivial | with_reducible rfl  -- o31
        refine ⟨o31, ?_⟩
        intro M219 e_M219
        have o32 : zin (v13 + 1) := by
          first | with_reducible assumption | omega | exact trivial | with_reducible rfl  -- o32
        refine ⟨o32, ?_⟩
        refine ⟨Int.toNat (413 - (v13 + 1)), by omega, by omega, ?_, ?_, ?_⟩
        · show 0 ≤ (v13 + 1) ∧ (v13 + 1) ≤ M 103 38 + 1  -- I66.2.hv2
          first | with_reducible assumption | omega | exact trivial | with_reducible rfl
        · show ∀ c i, c ≠ 126 → M219 c i = M3 c i  -- I66.2.hf2
          intro c i h; rw [e_M219, zset_n _ (.inl h)]; exact hf2 c i h
        · show ∀ i, 0 ≤ i → i < (v13 + 1) → zB (M219 126 i) (i = M 103 38)  -- I66.2.hr0
          intro i i0 i1
          by_cases c : i = v13
          · rw [e_M219, c, zset_s]; exact zB.t b19
          · rw [e_M219, zset_n _ (.inr c)]; exact hr0 i i0 (by omega)
  · -- b1.2
    have o33 : zin (v1 + 1) := by
      first | with_reducible assumption | omega | exact trivial | with_reducible rfl  -- o33
    refine ⟨o33, ?_⟩
    refine ⟨fun v226 M229 n231 => (n231 : Int) = (413 - v226) ∧ (v1 < v226 ∧ v226 ≤ M 103 38 + 1) ∧ (∀ c i, c ≠ 125 → M229 c i = M c i) ∧ (∀ i j, 0 ≤ i → i < v1 → i < j → j ≤ M 103 38 → zB (M229 125 ((M 103 38 + 1) * i + j)) (S i j)) ∧ (∀ j, v1 < j → j < v226 → zB (M229 125 ((M 103 38 + 1) * v1 + j)) (S v1 j)), ⟨Int.toNat (413 - (v1 + 1)), by omega, ?_, ?_, ?_, ?_⟩, ?_⟩
    · show v1 < (v1 + 1) ∧ (v1 + 1) ≤ M 103 38 + 1  -- I24.0.hv2
      first | with_reducible assumption | omega | exact trivial | with_reducible rfl
    · show ∀ c i, c ≠ 125 → M3 c i = M c i  -- I24.0.hf2
      first | with_reducible assumption | omega | exact trivial | with_reducible rfl
    · show ∀ i j, 0 ≤ i → i < v1 → i < j → j ≤ M 103 38 → zB (M3 125 ((M 103 38 + 1) * i + j)) (S i j)  -- I24.0.hs2
      first | with_reducible assumption | omega | exact trivial | with_reducible rfl
    · show ∀ j, v1 < j → j < (v1 + 1) → zB (M3 125 ((M 103 38 + 1) * v1 + j)) (S v1 j)  -- I24.0.hs3
      intro j j0 j1; omega
    rintro v226 M229 n231 ⟨h_n231, hv2, hf2, hs2, hs3⟩ z_v226 z_M229
    refine ⟨fun b20 => ?_, fun b20 => ?_⟩
    · -- b20.1
      refine ⟨Int.toNat (412 - (v1 + 1)), by omega, by omega, ?_, ?_, ?_⟩
      · show 0 ≤ (v1 + 1) ∧ (v1 + 1) ≤ M 103 38  -- I12.1.hv
        first | with_reducible assumption | omega | exact trivial | with_reducible rfl
      · show ∀ c i, c ≠ 125 → M229 c i = M c i  -- I12.1.hf
        first | with_reducible assumption | omega | exact trivial | with_reducible rfl
      · show ∀ i j, 0 ≤ i → i < (v1 + 1) → i < j → j ≤ M 103 38 → zB (M229 125 ((M 103 38 + 1) * i + j)) (S i j)  -- I12.1.hs
        intro i j i0 i1 i2 i3
        by_cases c : i = v1
        · subst c; exact hs3 j i2 (by omega)
        · exact hs2 i j i0 (by omega) i2 i3
    · -- b20.2
      have w1 := hf2 103 38 (by decide)
      have w19 : M229 119 = M 119 := funext fun i => hf2 119 i (by decide)
      have w20 : M229 120 = M 120 := funext fun i => hf2 120 i (by decide)
      have gc1 : pr_X12_isStraight v1 v226 m M229 := by
        refine ⟨?_, ?_, ?_, ?_, ?_⟩
        · show M229 103 38 ≤ 412  -- c1.hn
          first | with_reducible assumption | omega | exact trivial | with_reducible rfl
        · show mXY M229  -- c1.hX
          exact hX.mem w1 w19 w20
        · show 0 ≤ v1 ∧ v1 ≤ M229 103 38  -- c1.hi
          first | with_reducible assumption | omega | exact trivial | with_reducible rfl
        · show 0 ≤ v226 ∧ v226 ≤ M229 103 38  -- c1.hj
          first | with_reducible assumption | omega | exact trivial | with_reducible rfl
        · show 0 ≤ m ∧ m ≤ 400  -- c1.hm
          first | with_reducible assumption | omega | exact trivial | with_reducible rfl
      refine ⟨gc1, ?_⟩
      rintro r242 M243 ⟨q_rfl, pc1_pb⟩ z_r242 z_M243
      have q_rfl := q_rfl.symm
      subst q_rfl
      rw [w19, w20, hSe] at pc1_pb
      have o34 : ((0 : Int) ≤ ((((M 103 38) + 1) * v1) + v226) ∧ ((((M 103 38) + 1) * v1) + v226) < 600000) := by
        exact ib v1 v226 hv.1 (by omega) (by omega) (by omega)
      refine ⟨o34, ?_⟩
      have o35 : (r242 = 0 ∨ r242 = 1) := by
        exact pc1_pb.b
      refine ⟨o35, ?_⟩
      intro M250 e_M250
      have o36 : zin (v226 + 1) := by
        first | with_reducible assumption | omega | exact trivial | with_reducible rfl  -- o36
      refine ⟨o36, ?_⟩
      refine ⟨Int.toNat (413 - (v226 + 1)), by omega, by omega, ?_, ?_, ?_, ?_⟩
      · show v1 < (v226 + 1) ∧ (v226 + 1) ≤ M 103 38 + 1  -- I24.1.hv2
        first | with_reducible assumption | omega | exact trivial | with_reducible rfl
      · show ∀ c i, c ≠ 125 → M250 c i = M c i  -- I24.1.hf2
        intro c i h; rw [e_M250, zset_n _ (.inl h)]; exact hf2 c i h
      · show ∀ i j, 0 ≤ i → i < v1 → i < j → j ≤ M 103 38 → zB (M250 125 ((M 103 38 + 1) * i + j)) (S i j)  -- I24.1.hs2
        intro i j i0 i1 i2 i3; rw [e_M250, zset_n _ (.inr (ne i j v1 v226 (by omega) i3 (by omega) (by omega) (by omega)))]; exact hs2 i j i0 i1 i2 i3
      · show ∀ j, v1 < j → j < (v226 + 1) → zB (M250 125 ((M 103 38 + 1) * v1 + j)) (S v1 j)  -- I24.1.hs3
        intro j j0 j1
        by_cases c : j = v226
        · rw [e_M250, c, zset_s]; exact pc1_pb
        · rw [e_M250, zset_n _ (.inr (ne v1 j v1 v226 (by omega) (by omega) (by omega) (by omega) (by omega)))]; exact hs3 j j0 (by omega)

/-- whether a line to the right from the middle of dot x, y crosses a piece -/
abbrev gCr (x1 y1 x2 y2 x y : Int) : Prop := ((y1 ≤ y ∧ ¬ y2 ≤ y) ∨ (¬ y1 ≤ y ∧ y2 ≤ y)) ∧ ((0 < y2 - y1 ∧ 0 < ((((2 * x1) - (2 * x)) - 1) * (y2 - y1)) + ((((2 * y) + 1) - (2 * y1)) * (x2 - x1))) ∨ (¬ 0 < y2 - y1 ∧ ((((2 * x1) - (2 * x)) - 1) * (y2 - y1)) + ((((2 * y) + 1) - (2 * y1)) * (x2 - x1)) < 0))
/-- whether an odd number of the first k pieces is crossed: 1, 0 -/
def gHl (X Y b : Int → Int) (x y : Int) : Nat → Int
  | 0 => 0
  | k + 1 => if gCr (X (b k)) (Y (b k)) (X (b (k + 1))) (Y (b (k + 1))) x y then 1 - gHl X Y b x y k else gHl X Y b x y k
theorem gHl_01 {X Y b : Int → Int} {x y : Int} : ∀ k, gHl X Y b x y k = 0 ∨ gHl X Y b x y k = 1
  | 0 => .inl rfl
  | k + 1 => by
    have := @gHl_01 X Y b x y k
    unfold gHl
    split <;> omega
def gHo2 (X Y b : Int → Int) (x y k : Int) : Int := gHl X Y b x y k.toNat
theorem gHo2_s {X Y b : Int → Int} {x y k : Int} (h : 0 ≤ k) : gHo2 X Y b x y (k + 1) = if gCr (X (b k)) (Y (b k)) (X (b (k + 1))) (Y (b (k + 1))) x y then 1 - gHo2 X Y b x y k else gHo2 X Y b x y k := by
  unfold gHo2
  rw [show (k + 1).toNat = k.toNat + 1 by omega, gHl, Int.toNat_of_nonneg h]
abbrev pr_X6_isCrossed (i : Int) (j : Int) (x : Int) (y : Int) (M : zM) : Prop := (M 17 1 ≤ 412) ∧ (bXY M) ∧ (0 ≤ i ∧ i ≤ M 17 1) ∧ (0 ≤ j ∧ j ≤ M 17 1) ∧ (0 ≤ x ∧ x < 16) ∧ (0 ≤ y ∧ y < 12)
abbrev po_X6_isCrossed (i : Int) (j : Int) (x : Int) (y : Int) (M : zM) (r : Int) (M' : zM) : Prop := (M' = M) ∧ (zB r (gCr (M 19 i) (M 20 i) (M 19 j) (M 20 j) x y))
set_option maxHeartbeats 1000000 in
theorem ok_X6_isCrossed : zSnd zS 145 0 0 yX6_isCrossed cX6_isCrossed 10 (some .boolean) 0 [2, 0, 0, 0, 0] (F_X6_isCrossed pr_X6_isCrossed po_X6_isCrossed) := by
  refine (sn_X6_isCrossed).mono ?_
  rintro xs P M hz hR ⟨i, j, x, y, rfl, ⟨hn, hX, hi, hj, hx, hy⟩, hP⟩
  refine ⟨_, _, _, _, rfl, ?_⟩
  have z_i := zall_h (zall_t hz) (by decide)
  have z_j := zall_h (zall_t (zall_t hz)) (by decide)
  have z_x := zall_h (zall_t (zall_t (zall_t hz))) (by decide)
  have z_y := zall_h (zall_t (zall_t (zall_t (zall_t hz)))) (by decide)
  change vc_X6_isCrossed i j x y P M
  unfold vc_X6_isCrossed
  have xi := hX i hi.1 hi.2
  have xj := hX j hj.1 hj.2
  have z1 := zmb (a := ((2 * (M 19 i)) - (2 * x)) - 1) (b := (M 20 j) - (M 20 i)) (A := 40) (B := 12) (by omega) (by omega)
  have z2 := zmb (a := ((2 * y) + 1) - (2 * (M 20 i))) (b := (M 19 j) - (M 19 i)) (A := 40) (B := 16) (by omega) (by omega)
  have o1 : ((0 : Int) ≤ i ∧ i < 413) := by
    first | with_reducible assumption | omega | exact trivial | with_reducible rfl  -- o1
  refine ⟨o1, ?_⟩
  have o2 : ((0 : Int) ≤ j ∧ j < 413) := by
    first | with_reducible assumption | omega | exact trivial | with_reducible rfl  -- o2
  refine ⟨o2, ?_⟩
  intro K34 h_K34
  have k_K34 : ∀ (v3 : Int), (zB v3 (M 20 i ≤ y)) → K34 v3 := by
    intro v3 hk1
    refine h_K34 _ ?_
    intro z_v3
    intro K46 h_K46
    have k_K46 : ∀ (v5 : Int), (zB v5 (M 20 j ≤ y)) → K46 v5 := by
      intro v5 hk2
      refine h_K46 _ ?_
      intro z_v5
      have h1 := hk1.ne
      have h2 := hk2.ne
      have h3 := hk1.b
      have h4 := hk2.b
      refine ⟨fun b1 => ?_, fun b1 => ?_⟩
      · -- b1.1
        have o3 : zin ((M 20 j) - (M 20 i)) := by
          first | with_reducible assumption | omega | exact trivial | with_reducible rfl  -- o3
        refine ⟨o3, ?_⟩
        refine ⟨fun b2 => ?_, fun b2 => ?_⟩
        · -- b2.1
          have o4 : zin (((((2 * (M 19 i)) - (2 * x)) - 1) * ((M 20 j) - (M 20 i))) + ((((2 * y) + 1) - (2 * (M 20 i))) * ((M 19 j) - (M 19 i)))) := by
            first | with_reducible assumption | omega | exact trivial | with_reducible rfl  -- o4
          refine ⟨o4, ?_⟩
          refine ⟨fun b3 => ?_, fun b3 => ?_⟩
          · -- b3.1
            refine hP _ _ ⟨?_, ?_⟩
            · show M = M  -- p1.rfl
              first | with_reducible assumption | omega | exact trivial | with_reducible rfl
            · show zB 0 (gCr (M 19 i) (M 20 i) (M 19 j) (M 20 j) x y)  -- p1.pb
              exact zB.f (by rintro ⟨a, b | b⟩ <;> omega)
          · -- b3.2
            refine hP _ _ ⟨?_, ?_⟩
            · show M = M  -- p2.rfl
              first | with_reducible assumption | omega | exact trivial | with_reducible rfl
            · show zB 1 (gCr (M 19 i) (M 20 i) (M 19 j) (M 20 j) x y)  -- p2.pb
              exact zB.t ⟨by omega, .inr ⟨by omega, by omega⟩⟩
        · -- b2.2
          have o5 : zin (((((2 * (M 19 i)) - (2 * x)) - 1) * ((M 20 j) - (M 20 i))) + ((((2 * y) + 1) - (2 * (M 20 i))) * ((M 19 j) - (M 19 i)))) := by
            first | with_reducible assumption | omega | exact trivial | with_reducible rfl  -- o5
          refine ⟨o5, ?_⟩
          refine ⟨fun b4 => ?_, fun b4 => ?_⟩
          · -- b4.1
            refine hP _ _ ⟨?_, ?_⟩
            · show M = M  -- p3.rfl
              first | with_reducible assumption | omega | exact trivial | with_reducible rfl
            · show zB 0 (gCr (M 19 i) (M 20 i) (M 19 j) (M 20 j) x y)  -- p3.pb
              exact zB.f (by rintro ⟨a, b | b⟩ <;> omega)
          · -- b4.2
            refine hP _ _ ⟨?_, ?_⟩
            · show M = M  -- p4.rfl
              first | with_reducible assumption | omega | exact trivial | with_reducible rfl
            · show zB 1 (gCr (M 19 i) (M 20 i) (M 19 j) (M 20 j) x y)  -- p4.pb
              exact zB.t ⟨by omega, .inl ⟨by omega, by omega⟩⟩
      · -- b1.2
        refine hP _ _ ⟨?_, ?_⟩
        · show M = M  -- p5.rfl
          first | with_reducible assumption | omega | exact trivial | with_reducible rfl
        · show zB 0 (gCr (M 19 i) (M 20 i) (M 19 j) (M 20 j) x y)  -- p5.pb
          exact zB.f (by rintro ⟨a, b⟩; omega)
    refine ⟨fun b5 => ?_, fun b5 => ?_⟩
    · -- b5.1
      refine k_K46 _ ?_
      · show zB 0 (M 20 j ≤ y)  -- K46.1.hk2
        exact zB.f (by omega)
    · -- b5.2
      refine k_K46 _ ?_
      · show zB 1 (M 20 j ≤ y)  -- K46.2.hk2
        exact zB.t (by omega)
  refine ⟨fun b6 => ?_, fun b6 => ?_⟩
  · -- b6.1
    refine k_K34 _ ?_
    · show zB 0 (M 20 i ≤ y)  -- K34.1.hk1
      exact zB.f (by omega)
  · -- b6.2
    refine k_K34 _ ?_
    · show zB 1 (M 20 i ≤ y)  -- K34.2.hk1
      exact zB.t (by omega)

abbrev pr_X6_hold (x : Int) (y : Int) (M : zM) : Prop := (M 17 1 ≤ 412) ∧ (bXY M) ∧ (0 ≤ M 42 1 ∧ M 42 1 ≤ M 17 1) ∧ (∀ p, 0 ≤ p → p ≤ M 42 1 → 0 ≤ M 43 p ∧ M 43 p ≤ M 17 1) ∧ (0 ≤ x ∧ x < 16) ∧ (0 ≤ y ∧ y < 12)
abbrev po_X6_hold (x : Int) (y : Int) (M : zM) (r : Int) (M' : zM) : Prop := M' = M ∧ r = gHo2 (M 19) (M 20) (M 43) x y (M 42 1)
set_option maxHeartbeats 1000000 in
theorem ok_X6_hold : zSnd zS 145 0 0 yX6_hold cX6_hold 5 (some .boolean) 1 [2, 0, 0] (F_X6_hold pr_X6_hold po_X6_hold) := by
  refine (sn_X6_hold ok_X6_isCrossed).mono ?_
  rintro xs P M hz hR ⟨x, y, rfl, ⟨hn, hX, hPP, hb, hx, hy⟩, hP⟩
  refine ⟨_, _, rfl, ?_⟩
  have z_x := zall_h (zall_t hz) (by decide)
  have z_y := zall_h (zall_t (zall_t hz)) (by decide)
  change vc_X6_hold pr_X6_isCrossed po_X6_isCrossed x y P M
  unfold vc_X6_hold
  refine ⟨fun v1 v2 M5 n7 => (n7 : Int) = (412 - v2) ∧ (0 ≤ v2 ∧ v2 ≤ M 42 1) ∧ (M5 = M) ∧ (v1 = gHo2 (M 19) (M 20) (M 43) x y v2), ⟨Int.toNat (412 - 0), by omega, ?_, ?_, ?_⟩, ?_⟩
  · show 0 ≤ 0 ∧ 0 ≤ M 42 1  -- I5.0.hv
    first | with_reducible assumption | omega | exact trivial | with_reducible rfl
  · first | with_reducible assumption | omega | exact trivial | with_reducible rfl  -- I5.0.rfl
  · show 0 = gHo2 (M 19) (M 20) (M 43) x y 0  -- I5.0.h1
    rfl
  rintro v1 v2 M5 n7 ⟨h_n7, hv, q_rfl, h1⟩ z_v1 z_v2 z_M5
  have q_rfl := q_rfl.symm
  subst q_rfl
  have g01 := @gHl_01 (M 19) (M 20) (M 43) x y v2.toNat
  have gs := @gHo2_s (M 19) (M 20) (M 43) x y v2 hv.1
  rw [← h1] at gs
  have v01 : v1 = 0 ∨ v1 = 1 := by rw [h1]; exact g01
  refine ⟨fun b1 => ?_, fun b1 => ?_⟩
  · -- b1.1
    have o1 : (v1 = 0 ∨ v1 = 1) := by
      first | with_reducible assumption | omega | exact trivial | with_reducible rfl  -- o1
    refine ⟨o1, ?_⟩
    refine hP _ _ ⟨rfl, ?_⟩
    · rw [h1, show v2 = M 42 1 by omega]  -- p1
  · -- b1.2
    have o2 : ((0 : Int) ≤ v2 ∧ v2 < 413) := by
      first | with_reducible assumption | omega | exact trivial | with_reducible rfl  -- o2
    refine ⟨o2, ?_⟩
    have o3 : ((0 : Int) ≤ (v2 + 1) ∧ (v2 + 1) < 413) := by
      first | with_reducible assumption | omega | exact trivial | with_reducible rfl  -- o3
    refine ⟨o3, ?_⟩
    have gc1 : pr_X6_isCrossed (M 43 v2) (M 43 (v2 + 1)) x y M := by
      refine ⟨?_, ?_, ?_, ?_, ?_, ?_⟩
      · show M 17 1 ≤ 412  -- c1.hn
        first | with_reducible assumption | omega | exact trivial | with_reducible rfl
      · show bXY M  -- c1.hX
        first | with_reducible assumption | omega | exact trivial | with_reducible rfl
      · show 0 ≤ (M 43 v2) ∧ (M 43 v2) ≤ M 17 1  -- c1.hi
        exact hb v2 hv.1 (by omega)
      · show 0 ≤ (M 43 (v2 + 1)) ∧ (M 43 (v2 + 1)) ≤ M 17 1  -- c1.hj
        exact hb (v2 + 1) (by omega) (by omega)
      · show 0 ≤ x ∧ x < 16  -- c1.hx
        first | with_reducible assumption | omega | exact trivial | with_reducible rfl
      · show 0 ≤ y ∧ y < 12  -- c1.hy
        first | with_reducible assumption | omega | exact trivial | with_reducible rfl
    refine ⟨gc1, ?_⟩
    rintro r18 M19 ⟨q_rfl, pc1_pb⟩ z_r18 z_M19
    have q_rfl := q_rfl.symm
    subst q_rfl
    refine ⟨fun b2 => ?_, fun b2 => ?_⟩
    · -- b2.1
      have o4 : zin (v2 + 1) := by
        first | with_reducible assumption | omega | exact trivial | with_reducible rfl  -- o4
      refine ⟨o4, ?_⟩
      refine ⟨Int.toNat (412 - (v2 + 1)), by omega, by omega, ?_, ?_, ?_⟩
      · show 0 ≤ (v2 + 1) ∧ (v2 + 1) ≤ M 42 1  -- I5.1.hv
        first | with_reducible assumption | omega | exact trivial | with_reducible rfl
      · first | with_reducible assumption | omega | exact trivial | with_reducible rfl  -- I5.1.rfl
      · show v1 = gHo2 (M 19) (M 20) (M 43) x y (v2 + 1)  -- I5.1.h1
        rw [gs, if_neg (pc1_pb.z.1 b2)]
    · -- b2.2
      refine ⟨fun b3 => ?_, fun b3 => ?_⟩
      · -- b3.1
        have o5 : zin (v2 + 1) := by
          first | with_reducible assumption | omega | exact trivial | with_reducible rfl  -- o5
        refine ⟨o5, ?_⟩
        refine ⟨Int.toNat (412 - (v2 + 1)), by omega, by omega, ?_, ?_, ?_⟩
        · show 0 ≤ (v2 + 1) ∧ (v2 + 1) ≤ M 42 1  -- I5.2.hv
          first | with_reducible assumption | omega | exact trivial | with_reducible rfl
        · first | with_reducible assumption | omega | exact trivial | with_reducible rfl  -- I5.2.rfl
        · show 0 = gHo2 (M 19) (M 20) (M 43) x y (v2 + 1)  -- I5.2.h1
          rw [gs, if_pos (pc1_pb.ne.1 b2)]; omega
      · -- b3.2
        have o6 : zin (v2 + 1) := by
          first | with_reducible assumption | omega | exact trivial | with_reducible rfl  -- o6
        refine ⟨o6, ?_⟩
        refine ⟨Int.toNat (412 - (v2 + 1)), by omega, by omega, ?_, ?_, ?_⟩
        · show 0 ≤ (v2 + 1) ∧ (v2 + 1) ≤ M 42 1  -- I5.3.hv
          first | with_reducible assumption | omega | exact trivial | with_reducible rfl
        · first | with_reducible assumption | omega | exact trivial | with_reducible rfl  -- I5.3.rfl
        · show 1 = gHo2 (M 19) (M 20) (M 43) x y (v2 + 1)  -- I5.3.h1
          rw [gs, if_pos (pc1_pb.ne.1 b2)]; omega

abbrev pr_X12_isDrawn (x : Int) (y : Int) (M : zM) : Prop := (M 103 38 ≤ 412) ∧ (mXY M) ∧ (0 ≤ M 103 50 ∧ M 103 50 ≤ M 103 38) ∧ (∀ p, 0 ≤ p → p ≤ M 103 50 → 0 ≤ M 127 p ∧ M 127 p ≤ M 103 38) ∧ (0 ≤ x ∧ x < 16) ∧ (0 ≤ y ∧ y < 12)
abbrev po_X12_isDrawn (x : Int) (y : Int) (M : zM) (r : Int) (M' : zM) : Prop := M' = M ∧ r = gHo2 (M 119) (M 120) (M 127) x y (M 103 50)
set_option maxHeartbeats 1000000 in
theorem ok_X12_isDrawn : zSnd zS 145 0 0 yX12_isDrawn cX12_isDrawn 16 (some .boolean) 0 [2, 0, 0] (F_X12_isDrawn pr_X12_isDrawn po_X12_isDrawn) := by
  refine (sn_X12_isDrawn).mono ?_
  rintro xs P M hz hR ⟨x, y, rfl, ⟨hn, hX, hPP, hb, hx, hy⟩, hP⟩
  refine ⟨_, _, rfl, ?_⟩
  have z_x := zall_h (zall_t hz) (by decide)
  have z_y := zall_h (zall_t (zall_t hz)) (by decide)
  change vc_X12_isDrawn x y P M
  unfold vc_X12_isDrawn
  refine ⟨fun v1 v2 n5 => (n5 : Int) = (412 - v2) ∧ (0 ≤ v2 ∧ v2 ≤ M 103 50) ∧ (v1 = gHo2 (M 119) (M 120) (M 127) x y v2), ⟨Int.toNat (412 - 0), by omega, ?_, ?_⟩, ?_⟩
  · show 0 ≤ 0 ∧ 0 ≤ M 103 50  -- I5.0.hv
    first | with_reducible assumption | omega | exact trivial | with_reducible rfl
  · show 0 = gHo2 (M 119) (M 120) (M 127) x y 0  -- I5.0.h1
    rfl
  rintro v1 v2 n5 ⟨h_n5, hv, h1⟩ z_v1 z_v2
  have g01 := @gHl_01 (M 119) (M 120) (M 127) x y v2.toNat
  have gs := @gHo2_s (M 119) (M 120) (M 127) x y v2 hv.1
  rw [← h1] at gs
  have v01 : v1 = 0 ∨ v1 = 1 := by rw [h1]; exact g01
  refine ⟨fun b1 => ?_, fun b1 => ?_⟩
  · -- b1.1
    have o1 : (v1 = 0 ∨ v1 = 1) := by
      omega
    refine ⟨o1, ?_⟩
    refine hP _ _ ⟨rfl, ?_⟩
    · rw [h1, show v2 = M 103 50 by omega]  -- p1
  · -- b1.2
    have bi := hb v2 hv.1 (by omega)
    have bj := hb (v2 + 1) (by omega) (by omega)
    have xi := hX _ bi.1 bi.2
    have xj := hX _ bj.1 bj.2
    have z1 := zmb (a := 2 * (M 119 (M 127 v2))) (b := (M 120 (M 127 (v2 + 1))) - (M 120 (M 127 v2))) (A := 40) (B := 12) (by omega) (by omega)
    have z2 := zmb (a := ((2 * y) + 1) - (2 * (M 120 (M 127 v2)))) (b := (M 119 (M 127 (v2 + 1))) - (M 119 (M 127 v2))) (A := 40) (B := 16) (by omega) (by omega)
    have z3 := zmb (a := (2 * x) + 1) (b := (M 120 (M 127 (v2 + 1))) - (M 120 (M 127 v2))) (A := 40) (B := 12) (by omega) (by omega)
    have ee : (((2 * (M 119 (M 127 v2))) - (2 * x)) - 1) * ((M 120 (M 127 (v2 + 1))) - (M 120 (M 127 v2))) = (2 * (M 119 (M 127 v2))) * ((M 120 (M 127 (v2 + 1))) - (M 120 (M 127 v2))) - ((2 * x) + 1) * ((M 120 (M 127 (v2 + 1))) - (M 120 (M 127 v2))) := by
      rw [show ((2 * (M 119 (M 127 v2))) - (2 * x)) - 1 = (2 * (M 119 (M 127 v2))) - ((2 * x) + 1) by omega, Int.sub_mul]
    have o2 : ((0 : Int) ≤ v2 ∧ v2 < 901) := by
      first | with_reducible assumption | omega | exact trivial | with_reducible rfl  -- o2
    refine ⟨o2, ?_⟩
    have o3 : ((0 : Int) ≤ (M 127 v2) ∧ (M 127 v2) < 901) := by
      first | with_reducible assumption | omega | exact trivial | with_reducible rfl  -- o3
    refine ⟨o3, ?_⟩
    have o4 : ((0 : Int) ≤ (v2 + 1) ∧ (v2 + 1) < 901) := by
      first | with_reducible assumption | omega | exact trivial | with_reducible rfl  -- o4
    refine ⟨o4, ?_⟩
    have o5 : ((0 : Int) ≤ (M 127 (v2 + 1)) ∧ (M 127 (v2 + 1)) < 901) := by
      first | with_reducible assumption | omega | exact trivial | with_reducible rfl  -- o5
    refine ⟨o5, ?_⟩
    intro K91 h_K91
    have k_K91 : ∀ (v18 : Int), (zB v18 (¬ M 120 (M 127 v2) ≤ y)) → K91 v18 := by
      intro v18 hk1
      refine h_K91 _ ?_
      intro z_v18
      intro K108 h_K108
      have k_K108 : ∀ (v20 : Int), (zB v20 (¬ M 120 (M 127 (v2 + 1)) ≤ y)) → K108 v20 := by
        intro v20 hk2
        refine h_K108 _ ?_
        intro z_v20
        intro K116 h_K116
        have k_K116 : ∀ (v22 : Int), (zB v22 ((M 120 (M 127 v2) ≤ y ∧ ¬ M 120 (M 127 (v2 + 1)) ≤ y) ∨ (¬ M 120 (M 127 v2) ≤ y ∧ M 120 (M 127 (v2 + 1)) ≤ y))) → K116 v22 := by
          intro v22 hk3
          refine h_K116 _ ?_
          intro z_v22
          refine ⟨fun b2 => ?_, fun b2 => ?_⟩
          · -- b2.1
            have o6 : zin (v2 + 1) := by
              first | with_reducible assumption | omega | exact trivial | with_reducible rfl  -- o6
            refine ⟨o6, ?_⟩
            refine ⟨Int.toNat (412 - (v2 + 1)), by omega, by omega, ?_, ?_⟩
            · show 0 ≤ (v2 + 1) ∧ (v2 + 1) ≤ M 103 50  -- I5.1.hv
              first | with_reducible assumption | omega | exact trivial | with_reducible rfl
            · show v1 = gHo2 (M 119) (M 120) (M 127) x y (v2 + 1)  -- I5.1.h1
              rw [gs, if_neg (fun h => hk3.z.1 b2 h.1)]
          · -- b2.2
            have h3 := hk3.ne.1 b2
            have o7 : zin ((M 120 (M 127 (v2 + 1))) - (M 120 (M 127 v2))) := by
              first | with_reducible assumption | omega | exact trivial | with_reducible rfl  -- o7
            refine ⟨o7, ?_⟩
            have o8 : zin ((M 119 (M 127 (v2 + 1))) - (M 119 (M 127 v2))) := by
              first | with_reducible assumption | omega | exact trivial | with_reducible rfl  -- o8
            refine ⟨o8, ?_⟩
            refine ⟨fun b3 => ?_, fun b3 => ?_⟩
            · -- b3.1
              have o9 : zin64 (((2 * (M 119 (M 127 v2))) * ((M 120 (M 127 (v2 + 1))) - (M 120 (M 127 v2)))) + ((((2 * y) + 1) - (2 * (M 120 (M 127 v2)))) * ((M 119 (M 127 (v2 + 1))) - (M 119 (M 127 v2))))) := by
                first | with_reducible assumption | omega | exact trivial | with_reducible rfl  -- o9
              refine ⟨o9, ?_⟩
              have o10 : zin64 (((2 * x) + 1) * ((M 120 (M 127 (v2 + 1))) - (M 120 (M 127 v2)))) := by
                first | with_reducible assumption | omega | exact trivial | with_reducible rfl  -- o10
              refine ⟨o10, ?_⟩
              refine ⟨fun b4 => ?_, fun b4 => ?_⟩
              · -- b4.1
                refine ⟨fun b5 => ?_, fun b5 => ?_⟩
                · -- b5.1
                  have o11 : zin (v2 + 1) := by
                    first | with_reducible assumption | omega | exact trivial | with_reducible rfl  -- o11
                  refine ⟨o11, ?_⟩
                  refine ⟨Int.toNat (412 - (v2 + 1)), by omega, by omega, ?_, ?_⟩
                  · show 0 ≤ (v2 + 1) ∧ (v2 + 1) ≤ M 103 50  -- I5.2.hv
                    first | with_reducible assumption | omega | exact trivial | with_reducible rfl
                  · show 0 = gHo2 (M 119) (M 120) (M 127) x y (v2 + 1)  -- I5.2.h1
                    rw [gs, if_neg (by rintro ⟨a, b | b⟩ <;> omega)]; omega
                · -- b5.2
                  have o12 : zin (v2 + 1) := by
                    first | with_reducible assumption | omega | exact trivial | with_reducible rfl  -- o12
                  refine ⟨o12, ?_⟩
                  refine ⟨Int.toNat (412 - (v2 + 1)), by omega, by omega, ?_, ?_⟩
                  · show 0 ≤ (v2 + 1) ∧ (v2 + 1) ≤ M 103 50  -- I5.3.hv
                    first | with_reducible assumption | omega | exact trivial | with_reducible rfl
                  · show 1 = gHo2 (M 119) (M 120) (M 127) x y (v2 + 1)  -- I5.3.h1
                    rw [gs, if_neg (by rintro ⟨a, b | b⟩ <;> omega)]; omega
              · -- b4.2
                refine ⟨fun b6 => ?_, fun b6 => ?_⟩
                · -- b6.1
                  have o13 : zin (v2 + 1) := by
                    first | with_reducible assumption | omega | exact trivial | with_reducible rfl  -- o13
                  refine ⟨o13, ?_⟩
                  refine ⟨Int.toNat (412 - (v2 + 1)), by omega, by omega, ?_, ?_⟩
                  · show 0 ≤ (v2 + 1) ∧ (v2 + 1) ≤ M 103 50  -- I5.4.hv
                    first | with_reducible assumption | omega | exact trivial | with_reducible rfl
                  · show 0 = gHo2 (M 119) (M 120) (M 127) x y (v2 + 1)  -- I5.4.h1
                    rw [gs, if_pos ⟨h3, .inr ⟨by omega, by omega⟩⟩]; omega
                · -- b6.2
                  have o14 : zin (v2 + 1) := by
                    first | with_reducible assumption | omega | exact trivial | with_reducible rfl  -- o14
                  refine ⟨o14, ?_⟩
                  refine ⟨Int.toNat (412 - (v2 + 1)), by omega, by omega, ?_, ?_⟩
                  · show 0 ≤ (v2 + 1) ∧ (v2 + 1) ≤ M 103 50  -- I5.5.hv
                    first | with_reducible assumption | omega | exact trivial | with_reducible rfl
                  · show 1 = gHo2 (M 119) (M 120) (M 127) x y (v2 + 1)  -- I5.5.h1
                    rw [gs, if_pos ⟨h3, .inr ⟨by omega, by omega⟩⟩]; omega
            · -- b3.2
              have o15 : zin64 (((2 * (M 119 (M 127 v2))) * ((M 120 (M 127 (v2 + 1))) - (M 120 (M 127 v2)))) + ((((2 * y) + 1) - (2 * (M 120 (M 127 v2)))) * ((M 119 (M 127 (v2 + 1))) - (M 119 (M 127 v2))))) := by
                first | with_reducible assumption | omega | exact trivial | with_reducible rfl  -- o15
              refine ⟨o15, ?_⟩
              have o16 : zin64 (((2 * x) + 1) * ((M 120 (M 127 (v2 + 1))) - (M 120 (M 127 v2)))) := by
                first | with_reducible assumption | omega | exact trivial | with_reducible rfl  -- o16
              refine ⟨o16, ?_⟩
              refine ⟨fun b7 => ?_, fun b7 => ?_⟩
              · -- b7.1
                refine ⟨fun b8 => ?_, fun b8 => ?_⟩
                · -- b8.1
                  have o17 : zin (v2 + 1) := by
                    first | with_reducible assumption | omega | exact trivial | with_reducible rfl  -- o17
                  refine ⟨o17, ?_⟩
                  refine ⟨Int.toNat (412 - (v2 + 1)), by omega, by omega, ?_, ?_⟩
                  · show 0 ≤ (v2 + 1) ∧ (v2 + 1) ≤ M 103 50  -- I5.6.hv
                    first | with_reducible assumption | omega | exact trivial | with_reducible rfl
                  · show 0 = gHo2 (M 119) (M 120) (M 127) x y (v2 + 1)  -- I5.6.h1
                    rw [gs, if_neg (by rintro ⟨a, b | b⟩ <;> omega)]; omega
                · -- b8.2
                  have o18 : zin (v2 + 1) := by
                    first | with_reducible assumption | omega | exact trivial | with_reducible rfl  -- o18
                  refine ⟨o18, ?_⟩
                  refine ⟨Int.toNat (412 - (v2 + 1)), by omega, by omega, ?_, ?_⟩
                  · show 0 ≤ (v2 + 1) ∧ (v2 + 1) ≤ M 103 50  -- I5.7.hv
                    first | with_reducible assumption | omega | exact trivial | with_reducible rfl
                  · show 1 = gHo2 (M 119) (M 120) (M 127) x y (v2 + 1)  -- I5.7.h1
                    rw [gs, if_neg (by rintro ⟨a, b | b⟩ <;> omega)]; omega
              · -- b7.2
                refine ⟨fun b9 => ?_, fun b9 => ?_⟩
                · -- b9.1
                  have o19 : zin (v2 + 1) := by
                    first | with_reducible assumption | omega | exact trivial | with_reducible rfl  -- o19
                  refine ⟨o19, ?_⟩
                  refine ⟨Int.toNat (412 - (v2 + 1)), by omega, by omega, ?_, ?_⟩
                  · show 0 ≤ (v2 + 1) ∧ (v2 + 1) ≤ M 103 50  -- I5.8.hv
                    first | with_reducible assumption | omega | exact trivial | with_reducible rfl
                  · show 0 = gHo2 (M 119) (M 120) (M 127) x y (v2 + 1)  -- I5.8.h1
                    rw [gs, if_pos ⟨h3, .inl ⟨by omega, by omega⟩⟩]; omega
                · -- b9.2
                  have o20 : zin (v2 + 1) := by
                    first | with_reducible assumption | omega | exact trivial | with_reducible rfl  -- o20
                  refine ⟨o20, ?_⟩
                  refine ⟨Int.toNat (412 - (v2 + 1)), by omega, by omega, ?_, ?_⟩
                  · show 0 ≤ (v2 + 1) ∧ (v2 + 1) ≤ M 103 50  -- I5.9.hv
                    first | with_reducible assumption | omega | exact trivial | with_reducible rfl
                  · show 1 = gHo2 (M 119) (M 120) (M 127) x y (v2 + 1)  -- I5.9.h1
                    rw [gs, if_pos ⟨h3, .inl ⟨by omega, by omega⟩⟩]; omega
        refine ⟨fun b10 => ?_, fun b10 => ?_⟩
        · -- b10.1
          have h1' := hk1.ne
          have h2' := hk2.ne
          refine k_K116 _ ?_
          · show zB 0 ((M 120 (M 127 v2) ≤ y ∧ ¬ M 120 (M 127 (v2 + 1)) ≤ y) ∨ (¬ M 120 (M 127 v2) ≤ y ∧ M 120 (M 127 (v2 + 1)) ≤ y))  -- K116.1.hk3
            exact zB.f (by omega)
        · -- b10.2
          have h1' := hk1.ne
          have h2' := hk2.ne
          have h3' := hk1.b
          have h4' := hk2.b
          refine k_K116 _ ?_
          · show zB 1 ((M 120 (M 127 v2) ≤ y ∧ ¬ M 120 (M 127 (v2 + 1)) ≤ y) ∨ (¬ M 120 (M 127 v2) ≤ y ∧ M 120 (M 127 (v2 + 1)) ≤ y))  -- K116.2.hk3
            exact zB.t (by omega)
      have o21 : zin (2 * (M 120 (M 127 (v2 + 1)))) := by
        first | with_reducible assumption | omega | exact trivial | with_reducible rfl  -- o21
      refine ⟨o21, ?_⟩
      have o22 : zin ((2 * y) + 1) := by
        first | with_reducible assumption | omega | exact trivial | with_reducible rfl  -- o22
      refine ⟨o22, ?_⟩
      refine ⟨fun b11 => ?_, fun b11 => ?_⟩
      · -- b11.1
        refine k_K108 _ ?_
        · show zB 0 (¬ M 120 (M 127 (v2 + 1)) ≤ y)  -- K108.1.hk2
          exact zB.f (by omega)
      · -- b11.2
        refine k_K108 _ ?_
        · show zB 1 (¬ M 120 (M 127 (v2 + 1)) ≤ y)  -- K108.2.hk2
          exact zB.t (by omega)
    have o23 : zin (2 * (M 120 (M 127 v2))) := by
      first | with_reducible assumption | omega | exact trivial | with_reducible rfl  -- o23
    refine ⟨o23, ?_⟩
    have o24 : zin ((2 * y) + 1) := by
      first | with_reducible assumption | omega | exact trivial | with_reducible rfl  -- o24
    refine ⟨o24, ?_⟩
    refine ⟨fun b12 => ?_, fun b12 => ?_⟩
    · -- b12.1
      refine k_K91 _ ?_
      · show zB 0 (¬ M 120 (M 127 v2) ≤ y)  -- K91.1.hk1
        exact zB.f (by omega)
    · -- b12.2
      refine k_K91 _ ?_
      · show zB 1 (¬ M 120 (M 127 v2) ≤ y)  -- K91.2.hk1
        exact zB.t (by omega)

