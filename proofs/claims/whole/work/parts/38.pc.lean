/-- the points are on the picture -/
def bXY (M : zM) : Prop := ∀ k, 0 ≤ k → k ≤ M 17 1 → 0 ≤ M 19 k ∧ M 19 k ≤ 16 ∧ 0 ≤ M 20 k ∧ M 20 k ≤ 12
theorem zn_b {x y dx dy m : Int} (hx : -16 ≤ x ∧ x ≤ 16) (hy : -16 ≤ y ∧ y ≤ 16) (hdx : -16 ≤ dx ∧ dx ≤ 16) (hdy : -16 ≤ dy ∧ dy ≤ 16) (hm : 0 ≤ m ∧ m ≤ 400) :
    (0 ≤ dx * dx + dy * dy ∧ dx * dx + dy * dy ≤ 512) ∧ (0 ≤ x * x + y * y ∧ x * x + y * y ≤ 512) ∧ (-512 ≤ dx * y - dy * x ∧ dx * y - dy * x ≤ 512) ∧ (-512 ≤ x * dy - y * dx ∧ x * dy - y * dx ≤ 512) ∧ (0 ≤ m * m ∧ m * m ≤ 160000) ∧
    (-81920000 ≤ m * m * (dx * dx + dy * dy) ∧ m * m * (dx * dx + dy * dy) ≤ 81920000) ∧ (-2621440000 ≤ 10000 * (dx * y - dy * x) * (dx * y - dy * x) ∧ 10000 * (dx * y - dy * x) * (dx * y - dy * x) ≤ 2621440000) ∧ (-262144 ≤ (x * dy - y * dx) * (x * dy - y * dx) ∧ (x * dy - y * dx) * (x * dy - y * dx) ≤ 262144) := by
  have a1 := zmb hdx hdx
  have a2 := zmb hdy hdy
  have a3 := zmb hx hx
  have a4 := zmb hy hy
  have a5 := zmb hdx hy
  have a6 := zmb hdy hx
  have a7 := zmb hx hdy
  have a8 := zmb hy hdx
  have a9 := zmb (show -400 ≤ m ∧ m ≤ 400 by omega) (show -400 ≤ m ∧ m ≤ 400 by omega)
  have n1 : 0 ≤ dx * dx := by rcases Int.le_total 0 dx with h | h; exact Int.mul_nonneg h h; exact Int.mul_nonneg_of_nonpos_of_nonpos h h
  have n2 : 0 ≤ dy * dy := by rcases Int.le_total 0 dy with h | h; exact Int.mul_nonneg h h; exact Int.mul_nonneg_of_nonpos_of_nonpos h h
  have n3 : 0 ≤ x * x := by rcases Int.le_total 0 x with h | h; exact Int.mul_nonneg h h; exact Int.mul_nonneg_of_nonpos_of_nonpos h h
  have n4 : 0 ≤ y * y := by rcases Int.le_total 0 y with h | h; exact Int.mul_nonneg h h; exact Int.mul_nonneg_of_nonpos_of_nonpos h h
  have n5 : 0 ≤ m * m := Int.mul_nonneg hm.1 hm.1
  have c1 : -512 ≤ dx * y - dy * x ∧ dx * y - dy * x ≤ 512 := by omega
  have c2 : -512 ≤ x * dy - y * dx ∧ x * dy - y * dx ≤ 512 := by omega
  have b1 := zmb (show -160000 ≤ m * m ∧ m * m ≤ 160000 by omega) (show -512 ≤ dx * dx + dy * dy ∧ dx * dx + dy * dy ≤ 512 by omega)
  have b2 := zmb (show -5120000 ≤ 10000 * (dx * y - dy * x) ∧ 10000 * (dx * y - dy * x) ≤ 5120000 by omega) c1
  have b3 := zmb c2 c2
  omega
abbrev pr_X1_isNear (i : Int) (j : Int) (k : Int) (m : Int) (M : zM) : Prop := (M 17 1 ≤ 412) ∧ (bXY M) ∧ (0 ≤ i ∧ i ≤ M 17 1) ∧ (0 ≤ j ∧ j ≤ M 17 1) ∧ (0 ≤ k ∧ k ≤ M 17 1) ∧ (0 ≤ m ∧ m ≤ 400)
abbrev po_X1_isNear (i : Int) (j : Int) (k : Int) (m : Int) (M : zM) (r : Int) (M' : zM) : Prop := (M' = M) ∧ (zB r (gNr (M 19 k - M 19 i) (M 20 k - M 20 i) (M 19 j - M 19 i) (M 20 j - M 20 i) m))
set_option maxHeartbeats 1000000 in
theorem ok_X1_isNear : zSnd zS 145 0 0 yX1_isNear cX1_isNear 17 (some .boolean) 0 [2, 0, 0, 0, 0] (F_X1_isNear pr_X1_isNear po_X1_isNear) := by
  refine (sn_X1_isNear).mono ?_
  rintro xs P M hz hR ⟨i, j, k, m, rfl, ⟨hn, hX, hi, hj, hk, hm⟩, hP⟩
  refine ⟨_, _, _, _, rfl, ?_⟩
  have z_i := zall_h (zall_t hz) (by decide)
  have z_j := zall_h (zall_t (zall_t hz)) (by decide)
  have z_k := zall_h (zall_t (zall_t (zall_t hz))) (by decide)
  have z_m := zall_h (zall_t (zall_t (zall_t (zall_t hz)))) (by decide)
  change vc_X1_isNear i j k m P M
  unfold vc_X1_isNear
  have xi := hX i hi.1 hi.2
  have xj := hX j hj.1 hj.2
  have xk := hX k hk.1 hk.2
  have bn := zn_b (x := M 19 k - M 19 i) (y := M 20 k - M 20 i) (dx := M 19 j - M 19 i) (dy := M 20 j - M 20 i) (m := m) (by omega) (by omega) (by omega) (by omega) hm
  have o1 : ((0 : Int) ≤ j ∧ j < 413) := by
    first | with_reducible assumption | omega | exact trivial | with_reducible rfl  -- o1
  refine ⟨o1, ?_⟩
  have o2 : ((0 : Int) ≤ i ∧ i < 413) := by
    first | with_reducible assumption | omega | exact trivial | with_reducible rfl  -- o2
  refine ⟨o2, ?_⟩
  have o3 : zin ((M 19 j) - (M 19 i)) := by
    first | with_reducible assumption | omega | exact trivial | with_reducible rfl  -- o3
  refine ⟨o3, ?_⟩
  have o4 : zin ((M 20 j) - (M 20 i)) := by
    first | with_reducible assumption | omega | exact trivial | with_reducible rfl  -- o4
  refine ⟨o4, ?_⟩
  have o5 : ((0 : Int) ≤ k ∧ k < 413) := by
    first | with_reducible assumption | omega | exact trivial | with_reducible rfl  -- o5
  refine ⟨o5, ?_⟩
  have o6 : zin ((M 19 k) - (M 19 i)) := by
    first | with_reducible assumption | omega | exact trivial | with_reducible rfl  -- o6
  refine ⟨o6, ?_⟩
  have o7 : zin ((M 20 k) - (M 20 i)) := by
    first | with_reducible assumption | omega | exact trivial | with_reducible rfl  -- o7
  refine ⟨o7, ?_⟩
  have o8 : zin64 ((((M 19 j) - (M 19 i)) * ((M 19 j) - (M 19 i))) + (((M 20 j) - (M 20 i)) * ((M 20 j) - (M 20 i)))) := by
    first | with_reducible assumption | omega | exact trivial | with_reducible rfl  -- o8
  refine ⟨o8, ?_⟩
  refine ⟨fun b1 => ?_, fun b1 => ?_⟩
  · -- b1.1
    have o9 : zin64 ((10000 * ((((M 19 j) - (M 19 i)) * ((M 20 k) - (M 20 i))) - (((M 20 j) - (M 20 i)) * ((M 19 k) - (M 19 i))))) * ((((M 19 j) - (M 19 i)) * ((M 20 k) - (M 20 i))) - (((M 20 j) - (M 20 i)) * ((M 19 k) - (M 19 i))))) := by
      first | with_reducible assumption | omega | exact trivial | with_reducible rfl  -- o9
    refine ⟨o9, ?_⟩
    have o10 : zin64 ((m * m) * ((((M 19 j) - (M 19 i)) * ((M 19 j) - (M 19 i))) + (((M 20 j) - (M 20 i)) * ((M 20 j) - (M 20 i))))) := by
      first | with_reducible assumption | omega | exact trivial | with_reducible rfl  -- o10
    refine ⟨o10, ?_⟩
    refine ⟨fun b2 => ?_, fun b2 => ?_⟩
    · -- b2.1
      refine hP _ _ ⟨?_, ?_⟩
      · show M = M  -- p1.rfl
        first | with_reducible assumption | omega | exact trivial | with_reducible rfl
      · show zB 0 (gNr (M 19 k - M 19 i) (M 20 k - M 20 i) (M 19 j - M 19 i) (M 20 j - M 20 i) m)  -- p1.pb
        exact zB.f (by rw [gNr_e, if_pos b1]; exact fun h => h b2)
    · -- b2.2
      refine hP _ _ ⟨?_, ?_⟩
      · show M = M  -- p2.rfl
        first | with_reducible assumption | omega | exact trivial | with_reducible rfl
      · show zB 1 (gNr (M 19 k - M 19 i) (M 20 k - M 20 i) (M 19 j - M 19 i) (M 20 j - M 20 i) m)  -- p2.pb
        exact zB.t (by rw [gNr_e, if_pos b1]; exact b2)
  · -- b1.2
    have o11 : zin64 (10000 * ((((M 19 k) - (M 19 i)) * ((M 19 k) - (M 19 i))) + (((M 20 k) - (M 20 i)) * ((M 20 k) - (M 20 i))))) := by
      first | with_reducible assumption | omega | exact trivial | with_reducible rfl  -- o11
    refine ⟨o11, ?_⟩
    have o12 : zin64 (m * m) := by
      first | with_reducible assumption | omega | exact trivial | with_reducible rfl  -- o12
    refine ⟨o12, ?_⟩
    refine ⟨fun b3 => ?_, fun b3 => ?_⟩
    · -- b3.1
      refine hP _ _ ⟨?_, ?_⟩
      · show M = M  -- p3.rfl
        first | with_reducible assumption | omega | exact trivial | with_reducible rfl
      · show zB 0 (gNr (M 19 k - M 19 i) (M 20 k - M 20 i) (M 19 j - M 19 i) (M 20 j - M 20 i) m)  -- p3.pb
        exact zB.f (by rw [gNr_e, if_neg (fun h => h b1)]; exact fun h => h b3)
    · -- b3.2
      refine hP _ _ ⟨?_, ?_⟩
      · show M = M  -- p4.rfl
        first | with_reducible assumption | omega | exact trivial | with_reducible rfl
      · show zB 1 (gNr (M 19 k - M 19 i) (M 20 k - M 20 i) (M 19 j - M 19 i) (M 20 j - M 20 i) m)  -- p4.pb
        exact zB.t (by rw [gNr_e, if_neg (fun h => h b1)]; exact b3)

abbrev pr_X1_staysInBand (i : Int) (j : Int) (m : Int) (M : zM) : Prop := (M 17 1 ≤ 412) ∧ (bXY M) ∧ (0 ≤ i ∧ i ≤ M 17 1) ∧ (0 ≤ j ∧ j ≤ M 17 1) ∧ (0 ≤ m ∧ m ≤ 400)
abbrev po_X1_staysInBand (i : Int) (j : Int) (m : Int) (M : zM) (r : Int) (M' : zM) : Prop := (M' = M) ∧ (zB r (gStr (M 19) (M 20) m i j))
set_option maxHeartbeats 1000000 in
theorem ok_X1_staysInBand : zSnd zS 145 0 0 yX1_staysInBand cX1_staysInBand 5 (some .boolean) 1 [2, 0, 0, 0] (F_X1_staysInBand pr_X1_staysInBand po_X1_staysInBand) := by
  refine (sn_X1_staysInBand ok_X1_isNear).mono ?_
  rintro xs P M hz hR ⟨i, j, m, rfl, ⟨hn, hX, hi, hj, hm⟩, hP⟩
  refine ⟨_, _, _, rfl, ?_⟩
  have z_i := zall_h (zall_t hz) (by decide)
  have z_j := zall_h (zall_t (zall_t hz)) (by decide)
  have z_m := zall_h (zall_t (zall_t (zall_t hz))) (by decide)
  change vc_X1_staysInBand pr_X1_isNear po_X1_isNear i j m P M
  unfold vc_X1_staysInBand
  have o1 : zin (i + 1) := by
    first | with_reducible assumption | omega | exact trivial | with_reducible rfl  -- o1
  refine ⟨o1, ?_⟩
  refine ⟨fun v1 M4 n6 => (n6 : Int) = (1000 - v1) ∧ (i < v1 ∧ v1 ≤ 413) ∧ (M4 = M) ∧ (∀ k, i < k → k < v1 → k < j → gNr (M 19 k - M 19 i) (M 20 k - M 20 i) (M 19 j - M 19 i) (M 20 j - M 20 i) m), ⟨Int.toNat (1000 - (i + 1)), by omega, ?_, ?_, ?_⟩, ?_⟩
  · show i < (i + 1) ∧ (i + 1) ≤ 413  -- I5#1.0.hv
    first | with_reducible assumption | omega | exact trivial | with_reducible rfl
  · first | with_reducible assumption | omega | exact trivial | with_reducible rfl  -- I5#1.0.rfl
  · show ∀ k, i < k → k < (i + 1) → k < j → gNr (M 19 k - M 19 i) (M 20 k - M 20 i) (M 19 j - M 19 i) (M 20 j - M 20 i) m  -- I5#1.0.ha
    intro k k0 k1; omega
  rintro v1 M4 n6 ⟨h_n6, hv, q_rfl, ha⟩ z_v1 z_M4
  have q_rfl := q_rfl.symm
  subst q_rfl
  refine ⟨fun b1 => ?_, fun b1 => ?_⟩
  · -- b1.1
    refine hP _ _ ⟨?_, ?_⟩
    · show M = M  -- p1.rfl
      first | with_reducible assumption | omega | exact trivial | with_reducible rfl
    · show zB 1 (gStr (M 19) (M 20) m i j)  -- p1.pb
      exact zB.t (fun k k0 k1 => ha k k0 (by omega) k1)
  · -- b1.2
    have gc1 : pr_X1_isNear i j v1 m M := by
      refine ⟨?_, ?_, ?_, ?_, ?_, ?_⟩
      · show M 17 1 ≤ 412  -- c1.hn
        first | with_reducible assumption | omega | exact trivial | with_reducible rfl
      · show bXY M  -- c1.hX
        first | with_reducible assumption | omega | exact trivial | with_reducible rfl
      · show 0 ≤ i ∧ i ≤ M 17 1  -- c1.hi
        first | with_reducible assumption | omega | exact trivial | with_reducible rfl
      · show 0 ≤ j ∧ j ≤ M 17 1  -- c1.hj
        first | with_reducible assumption | omega | exact trivial | with_reducible rfl
      · show 0 ≤ v1 ∧ v1 ≤ M 17 1  -- c1.hk
        first | with_reducible assumption | omega | exact trivial | with_reducible rfl
      · show 0 ≤ m ∧ m ≤ 400  -- c1.hm
        first | with_reducible assumption | omega | exact trivial | with_reducible rfl
    refine ⟨gc1, ?_⟩
    rintro r14 M15 ⟨q_rfl, pc1_pb⟩ z_r14 z_M15
    have q_rfl := q_rfl.symm
    subst q_rfl
    refine ⟨fun b2 => ?_, fun b2 => ?_⟩
    · -- b2.1
      have o2 : zin (v1 + 1) := by
        first | with_reducible assumption | omega | exact trivial | with_reducible rfl  -- o2
      refine ⟨o2, ?_⟩
      refine ⟨Int.toNat (1000 - (v1 + 1)), by omega, by omega, ?_, ?_, ?_⟩
      · show i < (v1 + 1) ∧ (v1 + 1) ≤ 413  -- I5.1.hv
        first | with_reducible assumption | omega | exact trivial | with_reducible rfl
      · first | with_reducible assumption | omega | exact trivial | with_reducible rfl  -- I5.1.rfl
      · show ∀ k, i < k → k < (v1 + 1) → k < j → gNr (M 19 k - M 19 i) (M 20 k - M 20 i) (M 19 j - M 19 i) (M 20 j - M 20 i) m  -- I5.1.ha
        intro k k0 k1 k2
        by_cases c : k = v1
        · subst c; exact pc1_pb.ne.1 b2
        · exact ha k k0 (by omega) k2
    · -- b2.2
      refine hP _ _ ⟨?_, ?_⟩
      · show M = M  -- p2.rfl
        first | with_reducible assumption | omega | exact trivial | with_reducible rfl
      · show zB 0 (gStr (M 19) (M 20) m i j)  -- p2.pb
        exact zB.f (fun h => pc1_pb.z.1 b2 (h v1 hv.1 (by omega)))

abbrev pr_X6_staysNear (i : Int) (j : Int) (m : Int) (M : zM) : Prop := (M 17 1 ≤ 412) ∧ (bXY M) ∧ (0 ≤ i ∧ i ≤ M 17 1) ∧ (0 ≤ j ∧ j ≤ M 17 1) ∧ (0 ≤ m ∧ m ≤ 400)
abbrev po_X6_staysNear (i : Int) (j : Int) (m : Int) (M : zM) (r : Int) (M' : zM) : Prop := (∀ c q, ¬ (c = 42 ∧ q = 11) → M' c q = M c q) ∧ (zB r (gStr (M 19) (M 20) m i j))
set_option maxHeartbeats 1000000 in
theorem ok_X6_staysNear : zSnd zS 145 0 0 yX6_staysNear cX6_staysNear 5 (some .boolean) 1 [2, 0, 0, 0] (F_X6_staysNear pr_X6_staysNear po_X6_staysNear) := by
  refine (sn_X6_staysNear ok_X1_isNear).mono ?_
  rintro xs P M hz hR ⟨i, j, m, rfl, ⟨hn, hX, hi, hj, hm⟩, hP⟩
  refine ⟨_, _, _, rfl, ?_⟩
  have z_i := zall_h (zall_t hz) (by decide)
  have z_j := zall_h (zall_t (zall_t hz)) (by decide)
  have z_m := zall_h (zall_t (zall_t (zall_t hz))) (by decide)
  change vc_X6_staysNear pr_X1_isNear po_X1_isNear i j m P M
  unfold vc_X6_staysNear
  refine ⟨fun b1 => ?_, fun b1 => ?_⟩
  · -- b1.1
    have o1 : zin (i + 1) := by
      first | with_reducible assumption | omega | exact trivial | with_reducible rfl  -- o1
    refine ⟨o1, ?_⟩
    refine ⟨fun v2 M5 n7 => (n7 : Int) = (1000 - v2) ∧ (i < v2 ∧ v2 ≤ 413) ∧ (M5 = M) ∧ (∀ k, i < k → k < v2 → k < j → gNr (M 19 k - M 19 i) (M 20 k - M 20 i) (M 19 j - M 19 i) (M 20 j - M 20 i) m), ⟨Int.toNat (1000 - (i + 1)), by omega, ?_, ?_, ?_⟩, ?_⟩
    · show i < (i + 1) ∧ (i + 1) ≤ 413  -- I40#1.0.hv
      first | with_reducible assumption | omega | exact trivial | with_reducible rfl
    · first | with_reducible assumption | omega | exact trivial | with_reducible rfl  -- I40#1.0.rfl
    · show ∀ k, i < k → k < (i + 1) → k < j → gNr (M 19 k - M 19 i) (M 20 k - M 20 i) (M 19 j - M 19 i) (M 20 j - M 20 i) m  -- I40#1.0.ha
      intro k k0 k1; omega
    rintro v2 M5 n7 ⟨h_n7, hv, q_rfl, ha⟩ z_v2 z_M5
    have q_rfl := q_rfl.symm
    subst q_rfl
    refine ⟨fun b2 => ?_, fun b2 => ?_⟩
    · -- b2.1
      refine hP _ _ ⟨?_, ?_⟩
      · show ∀ c q, ¬ (c = 42 ∧ q = 11) → M c q = M c q  -- p1.hf
        intro _ _ _; rfl
      · show zB 1 (gStr (M 19) (M 20) m i j)  -- p1.hr
        exact zB.t (fun k k0 k1 => ha k k0 (by omega) k1)
    · -- b2.2
      have gc1 : pr_X1_isNear i j v2 m M := by
        refine ⟨?_, ?_, ?_, ?_, ?_, ?_⟩
        · show M 17 1 ≤ 412  -- c1.hn
          first | with_reducible assumption | omega | exact trivial | with_reducible rfl
        · show bXY M  -- c1.hX
          first | with_reducible assumption | omega | exact trivial | with_reducible rfl
        · show 0 ≤ i ∧ i ≤ M 17 1  -- c1.hi
          first | with_reducible assumption | omega | exact trivial | with_reducible rfl
        · show 0 ≤ j ∧ j ≤ M 17 1  -- c1.hj
          first | with_reducible assumption | omega | exact trivial | with_reducible rfl
        · show 0 ≤ v2 ∧ v2 ≤ M 17 1  -- c1.hk
          first | with_reducible assumption | omega | exact trivial | with_reducible rfl
        · show 0 ≤ m ∧ m ≤ 400  -- c1.hm
          first | with_reducible assumption | omega | exact trivial | with_reducible rfl
      refine ⟨gc1, ?_⟩
      rintro r15 M16 ⟨q_rfl, pc1_pb⟩ z_r15 z_M16
      have q_rfl := q_rfl.symm
      subst q_rfl
      refine ⟨fun b3 => ?_, fun b3 => ?_⟩
      · -- b3.1
        have o2 : zin (v2 + 1) := by
          first | with_reducible assumption | omega | exact trivial | with_reducible rfl  -- o2
        refine ⟨o2, ?_⟩
        refine ⟨Int.toNat (1000 - (v2 + 1)), by omega, by omega, ?_, ?_, ?_⟩
        · show i < (v2 + 1) ∧ (v2 + 1) ≤ 413  -- I40.1.hv
          first | with_reducible assumption | omega | exact trivial | with_reducible rfl
        · first | with_reducible assumption | omega | exact trivial | with_reducible rfl  -- I40.1.rfl
        · show ∀ k, i < k → k < (v2 + 1) → k < j → gNr (M 19 k - M 19 i) (M 20 k - M 20 i) (M 19 j - M 19 i) (M 20 j - M 20 i) m  -- I40.1.ha
          intro k k0 k1 k2
          by_cases c : k = v2
          · subst c; exact pc1_pb.ne.1 b3
          · exact ha k k0 (by omega) k2
      · -- b3.2
        intro M26 e_M26
        refine hP _ _ ⟨?_, ?_⟩
        · show ∀ c q, ¬ (c = 42 ∧ q = 11) → M26 c q = M c q  -- p2.hf
          intro c q h; rw [e_M26, zset_n _ (by omega)]
        · show zB 0 (gStr (M 19) (M 20) m i j)  -- p2.hr
          exact zB.f (fun h => pc1_pb.z.1 b3 (h v2 hv.1 (by omega)))
  · -- b1.2
    refine ⟨fun b4 => ?_, fun b4 => ?_⟩
    · -- b4.1
      have o3 : zin (i + 1) := by
        first | with_reducible assumption | omega | exact trivial | with_reducible rfl  -- o3
      refine ⟨o3, ?_⟩
      refine ⟨fun v30 M33 n35 => (n35 : Int) = (1000 - v30) ∧ (i < v30 ∧ v30 ≤ 413) ∧ (M33 = M) ∧ (∀ k, i < k → k < v30 → k < j → gNr (M 19 k - M 19 i) (M 20 k - M 20 i) (M 19 j - M 19 i) (M 20 j - M 20 i) m), ⟨Int.toNat (1000 - (i + 1)), by omega, ?_, ?_, ?_⟩, ?_⟩
      · show i < (i + 1) ∧ (i + 1) ≤ 413  -- I40#2.0.hv
        first | with_reducible assumption | omega | exact trivial | with_reducible rfl
      · first | with_reducible assumption | omega | exact trivial | with_reducible rfl  -- I40#2.0.rfl
      · show ∀ k, i < k → k < (i + 1) → k < j → gNr (M 19 k - M 19 i) (M 20 k - M 20 i) (M 19 j - M 19 i) (M 20 j - M 20 i) m  -- I40#2.0.ha
        intro k k0 k1; omega
      rintro v30 M33 n35 ⟨h_n35, hv, q_rfl, ha⟩ z_v30 z_M33
      have q_rfl := q_rfl.symm
      subst q_rfl
      refine ⟨fun b5 => ?_, fun b5 => ?_⟩
      · -- b5.1
        refine hP _ _ ⟨?_, ?_⟩
        · show ∀ c q, ¬ (c = 42 ∧ q = 11) → M c q = M c q  -- p3.hf
          intro _ _ _; rfl
        · show zB 1 (gStr (M 19) (M 20) m i j)  -- p3.hr
          exact zB.t (fun k k0 k1 => ha k k0 (by omega) k1)
      · -- b5.2
        have gc2 : pr_X1_isNear i j v30 m M := by
          refine ⟨?_, ?_, ?_, ?_, ?_, ?_⟩
          · show M 17 1 ≤ 412  -- c2.hn
            first | with_reducible assumption | omega | exact trivial | with_reducible rfl
          · show bXY M  -- c2.hX
            first | with_reducible assumption | omega | exact trivial | with_reducible rfl
          · show 0 ≤ i ∧ i ≤ M 17 1  -- c2.hi
            first | with_reducible assumption | omega | exact trivial | with_reducible rfl
          · show 0 ≤ j ∧ j ≤ M 17 1  -- c2.hj
            first | with_reducible assumption | omega | exact trivial | with_reducible rfl
          · show 0 ≤ v30 ∧ v30 ≤ M 17 1  -- c2.hk
            first | with_reducible assumption | omega | exact trivial | with_reducible rfl
          · show 0 ≤ m ∧ m ≤ 400  -- c2.hm
            first | with_reducible assumption | omega | exact trivial | with_reducible rfl
        refine ⟨gc2, ?_⟩
        rintro r43 M44 ⟨q_rfl, pc2_pb⟩ z_r43 z_M44
        have q_rfl := q_rfl.symm
        subst q_rfl
        refine ⟨fun b6 => ?_, fun b6 => ?_⟩
        · -- b6.1
          have o4 : zin (v30 + 1) := by
            first | with_reducible assumption | omega | exact trivial | with_reducible rfl  -- o4
          refine ⟨o4, ?_⟩
          refine ⟨Int.toNat (1000 - (v30 + 1)), by omega, by omega, ?_, ?_, ?_⟩
          · show i < (v30 + 1) ∧ (v30 + 1) ≤ 413  -- I40.2.hv
            first | with_reducible assumption | omega | exact trivial | with_reducible rfl
          · first | with_reducible assumption | omega | exact trivial | with_reducible rfl  -- I40.2.rfl
          · show ∀ k, i < k → k < (v30 + 1) → k < j → gNr (M 19 k - M 19 i) (M 20 k - M 20 i) (M 19 j - M 19 i) (M 20 j - M 20 i) m  -- I40.2.ha
            intro k k0 k1 k2
            by_cases c : k = v30
            · subst c; exact pc2_pb.ne.1 b6
            · exact ha k k0 (by omega) k2
        · -- b6.2
          intro M54 e_M54
          refine hP _ _ ⟨?_, ?_⟩
          · show ∀ c q, ¬ (c = 42 ∧ q = 11) → M54 c q = M c q  -- p4.hf
            intro c q h; rw [e_M54, zset_n _ (by omega)]
          · show zB 0 (gStr (M 19) (M 20) m i j)  -- p4.hr
            exact zB.f (fun h => pc2_pb.z.1 b6 (h v30 hv.1 (by omega)))
    · -- b4.2
      have gc3 : pr_X1_isNear i j (M 42 11) m M := by
        refine ⟨?_, ?_, ?_, ?_, ?_, ?_⟩
        · show M 17 1 ≤ 412  -- c3.hn
          first | with_reducible assumption | omega | exact trivial | with_reducible rfl
        · show bXY M  -- c3.hX
          first | with_reducible assumption | omega | exact trivial | with_reducible rfl
        · show 0 ≤ i ∧ i ≤ M 17 1  -- c3.hi
          first | with_reducible assumption | omega | exact trivial | with_reducible rfl
        · show 0 ≤ j ∧ j ≤ M 17 1  -- c3.hj
          first | with_reducible assumption | omega | exact trivial | with_reducible rfl
        · show 0 ≤ (M 42 11) ∧ (M 42 11) ≤ M 17 1  -- c3.hk
          first | with_reducible assumption | omega | exact trivial | with_reducible rfl
        · show 0 ≤ m ∧ m ≤ 400  -- c3.hm
          first | with_reducible assumption | omega | exact trivial | with_reducible rfl
      refine ⟨gc3, ?_⟩
      rintro r57 M58 ⟨q_rfl, pc3_pb⟩ z_r57 z_M58
      have q_rfl := q_rfl.symm
      subst q_rfl
      refine ⟨fun b7 => ?_, fun b7 => ?_⟩
      · -- b7.1
        have o5 : zin (i + 1) := by
          first | with_reducible assumption | omega | exact trivial | with_reducible rfl  -- o5
        refine ⟨o5, ?_⟩
        refine ⟨fun v64 M67 n69 => (n69 : Int) = (1000 - v64) ∧ (i < v64 ∧ v64 ≤ 413) ∧ (M67 = M) ∧ (∀ k, i < k → k < v64 → k < j → gNr (M 19 k - M 19 i) (M 20 k - M 20 i) (M 19 j - M 19 i) (M 20 j - M 20 i) m), ⟨Int.toNat (1000 - (i + 1)), by omega, ?_, ?_, ?_⟩, ?_⟩
        · show i < (i + 1) ∧ (i + 1) ≤ 413  -- I40#3.0.hv
          first | with_reducible assumption | omega | exact trivial | with_reducible rfl
        · first | with_reducible assumption | omega | exact trivial | with_reducible rfl  -- I40#3.0.rfl
        · show ∀ k, i < k → k < (i + 1) → k < j → gNr (M 19 k - M 19 i) (M 20 k - M 20 i) (M 19 j - M 19 i) (M 20 j - M 20 i) m  -- I40#3.0.ha
          intro k k0 k1; omega
        rintro v64 M67 n69 ⟨h_n69, hv, q_rfl, ha⟩ z_v64 z_M67
        have q_rfl := q_rfl.symm
        subst q_rfl
        refine ⟨fun b8 => ?_, fun b8 => ?_⟩
        · -- b8.1
          refine hP _ _ ⟨?_, ?_⟩
          · show ∀ c q, ¬ (c = 42 ∧ q = 11) → M c q = M c q  -- p5.hf
            intro _ _ _; rfl
          · show zB 1 (gStr (M 19) (M 20) m i j)  -- p5.hr
            exact zB.t (fun k k0 k1 => ha k k0 (by omega) k1)
        · -- b8.2
          have gc4 : pr_X1_isNear i j v64 m M := by
            refine ⟨?_, ?_, ?_, ?_, ?_, ?_⟩
            · show M 17 1 ≤ 412  -- c4.hn
              first | with_reducible assumption | omega | exact trivial | with_reducible rfl
            · show bXY M  -- c4.hX
              first | with_reducible assumption | omega | exact trivial | with_reducible rfl
            · show 0 ≤ i ∧ i ≤ M 17 1  -- c4.hi
              first | with_reducible assumption | omega | exact trivial | with_reducible rfl
            · show 0 ≤ j ∧ j ≤ M 17 1  -- c4.hj
              first | with_reducible assumption | omega | exact trivial | with_reducible rfl
            · show 0 ≤ v64 ∧ v64 ≤ M 17 1  -- c4.hk
              first | with_reducible assumption | omega | exact trivial | with_reducible rfl
            · show 0 ≤ m ∧ m ≤ 400  -- c4.hm
              first | with_reducible assumption | omega | exact trivial | with_reducible rfl
          refine ⟨gc4, ?_⟩
          rintro r77 M78 ⟨q_rfl, pc4_pb⟩ z_r77 z_M78
          have q_rfl := q_rfl.symm
          subst q_rfl
          refine ⟨fun b9 => ?_, fun b9 => ?_⟩
          · -- b9.1
            have o6 : zin (v64 + 1) := by
              first | with_reducible assumption | omega | exact trivial | with_reducible rfl  -- o6
            refine ⟨o6, ?_⟩
            refine ⟨Int.toNat (1000 - (v64 + 1)), by omega, by omega, ?_, ?_, ?_⟩
            · show i < (v64 + 1) ∧ (v64 + 1) ≤ 413  -- I40.3.hv
              first | with_reducible assumption | omega | exact trivial | with_reducible rfl
            · first | with_reducible assumption | omega | exact trivial | with_reducible rfl  -- I40.3.rfl
            · show ∀ k, i < k → k < (v64 + 1) → k < j → gNr (M 19 k - M 19 i) (M 20 k - M 20 i) (M 19 j - M 19 i) (M 20 j - M 20 i) m  -- I40.3.ha
              intro k k0 k1 k2
              by_cases c : k = v64
              · subst c; exact pc4_pb.ne.1 b9
              · exact ha k k0 (by omega) k2
          · -- b9.2
            intro M88 e_M88
            refine hP _ _ ⟨?_, ?_⟩
            · show ∀ c q, ¬ (c = 42 ∧ q = 11) → M88 c q = M c q  -- p6.hf
              intro c q h; rw [e_M88, zset_n _ (by omega)]
            · show zB 0 (gStr (M 19) (M 20) m i j)  -- p6.hr
              exact zB.f (fun h => pc4_pb.z.1 b9 (h v64 hv.1 (by omega)))
      · -- b7.2
        refine hP _ _ ⟨?_, ?_⟩
        · show ∀ c q, ¬ (c = 42 ∧ q = 11) → M c q = M c q  -- p7.hf
          intro _ _ _; rfl
        · show zB 0 (gStr (M 19) (M 20) m i j)  -- p7.hr
          exact zB.f (fun h => pc3_pb.z.1 b7 (h (M 42 11) (by omega) (by omega)))

theorem bXY.mem {M M' : zM} (H : bXY M) (e1 : M' 17 1 = M 17 1) (e19 : M' 19 = M 19) (e20 : M' 20 = M 20) : bXY M' := by
  unfold bXY at H ⊢
  rw [e1, e19, e20]
  exact H
abbrev pr_X6_lookAhead (i : Int) (n : Int) (m : Int) (M : zM) : Prop := (n = M 17 1 ∧ 3 ≤ n ∧ n ≤ 412) ∧ (bXY M) ∧ (0 ≤ i ∧ i < n) ∧ (0 ≤ m ∧ m ≤ 400) ∧ (∀ j, i < j → j < n → 0 ≤ M 44 j ∧ M 44 j ≤ 412) ∧ (∀ j, i < j → j < n → 0 ≤ M 46 j ∧ M 46 j ≤ 1000000) ∧ (i < n - 1 → ∃ j, i < j ∧ j < n ∧ gStr (M 19) (M 20) m i j)
abbrev po_X6_lookAhead (i : Int) (n : Int) (m : Int) (M : zM) (M' : zM) : Prop := (∀ c q, ¬ ((c = 44 ∨ c = 45 ∨ c = 46 ∨ c = 47) ∧ q = i) → ¬ (c = 42 ∧ (q = 10 ∨ q = 11)) → M' c q = M c q) ∧ (gArg (M 44) (gStr (M 19) (M 20) m i) i n (M' 46 i) (M' 47 i)) ∧ ((gStr (M 19) (M 20) m i n ∧ M' 44 i = 1 ∧ M' 45 i = n) ∨ (¬ gStr (M 19) (M 20) m i n ∧ M' 44 i = M' 46 i ∧ M' 45 i = M' 47 i)) ∧ (i = 0 → ∃ b, gArg (M 46) (gStr (M 19) (M 20) m 0) 0 n b (M' 42 10)) ∧ (i ≠ 0 → M' 42 10 = M 42 10) ∧ (M' 46 i ≤ 1000000 ∧ 0 ≤ M' 46 i) ∧ (0 ≤ M' 44 i ∧ M' 44 i ≤ 413)
set_option maxHeartbeats 4000000 in
theorem ok_X6_lookAhead : zSnd zS 145 0 0 yX6_lookAhead cX6_lookAhead 9 none 2 [2, 0, 0, 0] (F_X6_lookAhead pr_X6_lookAhead po_X6_lookAhead) := by
  refine (sn_X6_lookAhead ok_X6_staysNear).mono ?_
  rintro xs P M hz hR ⟨i, n, m, rfl, ⟨hn, hX, hi, hm, hl, hl2, hex⟩, hP⟩
  refine ⟨_, _, _, rfl, ?_⟩
  have z_i := zall_h (zall_t hz) (by decide)
  have z_n := zall_h (zall_t (zall_t hz)) (by decide)
  have z_m := zall_h (zall_t (zall_t (zall_t hz))) (by decide)
  change vc_X6_lookAhead pr_X6_staysNear po_X6_staysNear i n m P M
  unfold vc_X6_lookAhead
  have o1 : ((0 : Int) ≤ i ∧ i < 413) := by
    first | with_reducible assumption | omega | exact trivial | with_reducible rfl  -- o1
  refine ⟨o1, ?_⟩
  intro M2 e_M2
  intro M5 e_M5
  have q : ∀ c k, ¬ ((c = 46 ∨ c = 47) ∧ k = i) → M5 c k = M c k := fun c k h => by rw [e_M5, zset_n _ (by omega), e_M2, zset_n _ (by omega)]
  have q46 : M5 46 i = 1000000 := by rw [e_M5, zset_n _ (by omega), e_M2, zset_s]
  have o2 : zin (n - 1) := by
    first | with_reducible assumption | omega | exact trivial | with_reducible rfl  -- o2
  refine ⟨o2, ?_⟩
  refine ⟨fun v8 v9 M13 n15 => (n15 : Int) = (v9) ∧ (i ≤ v9 ∧ v9 ≤ n - 1) ∧ (∀ c k, ¬ ((c = 46 ∨ c = 47) ∧ k = i) → ¬ (c = 42 ∧ (k = 10 ∨ k = 11)) → M13 c k = M c k) ∧ (gArg (M 44) (gStr (M 19) (M 20) m i) v9 n (M13 46 i) (M13 47 i)) ∧ (0 ≤ M13 46 i ∧ M13 46 i ≤ 1000000) ∧ (i = 0 → gArg (M 46) (gStr (M 19) (M 20) m 0) v9 n v8 (M13 42 10)) ∧ (0 ≤ v8 ∧ v8 ≤ 1000000) ∧ (i ≠ 0 → M13 42 10 = M 42 10), ⟨Int.toNat ((n - 1)), by omega, ?_, ?_, ?_, ?_, ?_, ?_, ?_⟩, ?_⟩
  · show i ≤ (n - 1) ∧ (n - 1) ≤ n - 1  -- I24#1.0.hv
    first | with_reducible assumption | omega | exact trivial | with_reducible rfl
  · show ∀ c k, ¬ ((c = 46 ∨ c = 47) ∧ k = i) → ¬ (c = 42 ∧ (k = 10 ∨ k = 11)) → M5 c k = M c k  -- I24#1.0.hf
    intro c k h _; exact q c k h
  · show gArg (M 44) (gStr (M 19) (M 20) m i) (n - 1) n (M5 46 i) (M5 47 i)  -- I24#1.0.hg
    rw [q46]; exact gArg.nil
  · show 0 ≤ M5 46 i ∧ M5 46 i ≤ 1000000  -- I24#1.0.hgb
    first | with_reducible assumption | omega | exact trivial | with_reducible rfl
  · show i = 0 → gArg (M 46) (gStr (M 19) (M 20) m 0) (n - 1) n 1000000 (M5 42 10)  -- I24#1.0.h3
    intro _; exact gArg.nil
  · show 0 ≤ 1000000 ∧ 1000000 ≤ 1000000  -- I24#1.0.h3b
    first | with_reducible assumption | omega | exact trivial | with_reducible rfl
  · show i ≠ 0 → M5 42 10 = M 42 10  -- I24#1.0.h3n
    intro _; exact q 42 10 (by omega)
  rintro v8 v9 M13 n15 ⟨h_n15, hv, hf, hg, hgb, h3, h3b, h3n⟩ z_v8 z_v9 z_M13
  have w1 := hf 17 1 (by omega) (by omega)
  have w19 : M13 19 = M 19 := funext fun k => hf 19 k (by omega) (by omega)
  have w20 : M13 20 = M 20 := funext fun k => hf 20 k (by omega) (by omega)
  have w44 : ∀ k, M13 44 k = M 44 k := fun k => hf 44 k (by omega) (by omega)
  have w46 : ∀ k, k ≠ i → M13 46 k = M 46 k := fun k h => hf 46 k (by omega) (by omega)
  refine ⟨fun b1 => ?_, fun b1 => ?_⟩
  · -- b1.1
    have gc1 : pr_X6_staysNear i n m M13 := by
      refine ⟨?_, ?_, ?_, ?_, ?_⟩
      · show M13 17 1 ≤ 412  -- c1.hn
        omega
      · show bXY M13  -- c1.hX
        exact hX.mem w1 w19 w20
      · show 0 ≤ i ∧ i ≤ M13 17 1  -- c1.hi
        omega
      · show 0 ≤ n ∧ n ≤ M13 17 1  -- c1.hj
        omega
      · show 0 ≤ m ∧ m ≤ 400  -- c1.hm
        first | with_reducible assumption | omega | exact trivial | with_reducible rfl
    refine ⟨gc1, ?_⟩
    rintro r23 M24 ⟨pc1_hf, pc1_hr⟩ z_r23 z_M24
    rw [w19, w20] at pc1_hr
    have z : ∀ c k, ¬ ((c = 46 ∨ c = 47) ∧ k = i) → ¬ (c = 42 ∧ (k = 10 ∨ k = 11)) → M24 c k = M c k := fun c k h h2 => by rw [pc1_hf c k (by omega)]; exact hf c k h h2
    have z46 := pc1_hf 46 i (by omega)
    have z47 := pc1_hf 47 i (by omega)
    have z10 := pc1_hf 42 10 (by omega)
    have ei : v9 = i := by omega
    rw [ei] at hg
    have fin46 : i < n - 1 → M13 46 i ≤ 413 := by
      intro c
      obtain ⟨j, a, b, s⟩ := hex c
      rcases hg with ⟨h, none⟩ | ⟨a1, a2, a3, a4, a5, a6⟩
      · have := none j a b s
        have := hl j a (by omega)
        omega
      · have := hl _ a1 (by omega)
        omega
    intro K203 h_K203
    have k_K203 : ∀ (v29 : Int), (v29 = (if r23 = 0 then M13 46 i else 1)) → K203 v29 := by
      intro v29 hk
      refine h_K203 _ ?_
      intro z_v29
      intro M31 e_M31
      have y : ∀ c k, ¬ (c = 44 ∧ k = i) → M31 c k = M24 c k := fun c k h => by rw [e_M31, zset_n _ (by omega)]
      have y44 : M31 44 i = v29 := by rw [e_M31, zset_s]
      refine ⟨fun b2 => ?_, fun b2 => ?_⟩
      · -- b2.1
        intro M35 e_M35
        have x : ∀ c k, ¬ ((c = 44 ∨ c = 45) ∧ k = i) → M35 c k = M24 c k := fun c k h => by rw [e_M35, zset_n _ (by omega), y c k (by omega)]
        have x44 : M35 44 i = M13 46 i := by rw [e_M35, zset_n _ (by omega), y44, hk, if_pos b2]
        have x45 : M35 45 i = M13 47 i := by rw [e_M35, zset_s, y 47 i (by omega), z47]
        have x46 : M35 46 i = M13 46 i := by rw [x 46 i (by omega), z46]
        have x47 : M35 47 i = M13 47 i := by rw [x 47 i (by omega), z47]
        refine hP _ ⟨?_, ?_, ?_, ?_, ?_, ?_, ?_⟩
        · show ∀ c q, ¬ ((c = 44 ∨ c = 45 ∨ c = 46 ∨ c = 47) ∧ q = i) → ¬ (c = 42 ∧ (q = 10 ∨ q = 11)) → M35 c q = M c q  -- p1.hf
          intro c k h1 h2; rw [x c k (by omega)]; exact z c k (by omega) h2
        · show gArg (M 44) (gStr (M 19) (M 20) m i) i n (M35 46 i) (M35 47 i)  -- p1.h2
          rw [x46, x47]; exact hg
        · show (gStr (M 19) (M 20) m i n ∧ M35 44 i = 1 ∧ M35 45 i = n) ∨ (¬ gStr (M 19) (M 20) m i n ∧ M35 44 i = M35 46 i ∧ M35 45 i = M35 47 i)  -- p1.h1
          rw [x44, x45, x46, x47]; exact .inr ⟨pc1_hr.z.1 b2, rfl, rfl⟩
        · show i = 0 → ∃ b, gArg (M 46) (gStr (M 19) (M 20) m 0) 0 n b (M35 42 10)  -- p1.h3
          intro e; rw [x 42 10 (by omega), z10]; have h := h3 e; rw [ei, e] at h; exact ⟨v8, h⟩
        · show i ≠ 0 → M35 42 10 = M 42 10  -- p1.h3n
          intro e; rw [x 42 10 (by omega), z10]; exact h3n e
        · show M35 46 i ≤ 1000000 ∧ 0 ≤ M35 46 i  -- p1.hb
          omega
        · show 0 ≤ M35 44 i ∧ M35 44 i ≤ 413  -- p1.hbl
          rw [x44]
          refine ⟨hgb.1, ?_⟩
          by_cases c : i < n - 1
          · exact fin46 c
          · exfalso
            refine pc1_hr.z.1 b2 ?_
            rw [show n = i + 1 by omega]
            exact gStr_1
      · -- b2.2
        intro M38 e_M38
        have x : ∀ c k, ¬ ((c = 44 ∨ c = 45) ∧ k = i) → M38 c k = M24 c k := fun c k h => by rw [e_M38, zset_n _ (by omega), y c k (by omega)]
        have x44 : M38 44 i = 1 := by rw [e_M38, zset_n _ (by omega), y44, hk, if_neg b2]
        have x45 : M38 45 i = n := by rw [e_M38, zset_s]
        have x46 : M38 46 i = M13 46 i := by rw [x 46 i (by omega), z46]
        have x47 : M38 47 i = M13 47 i := by rw [x 47 i (by omega), z47]
        refine hP _ ⟨?_, ?_, ?_, ?_, ?_, ?_, ?_⟩
        · show ∀ c q, ¬ ((c = 44 ∨ c = 45 ∨ c = 46 ∨ c = 47) ∧ q = i) → ¬ (c = 42 ∧ (q = 10 ∨ q = 11)) → M38 c q = M c q  -- p2.hf
          intro c k h1 h2; rw [x c k (by omega)]; exact z c k (by omega) h2
        · show gArg (M 44) (gStr (M 19) (M 20) m i) i n (M38 46 i) (M38 47 i)  -- p2.h2
          rw [x46, x47]; exact hg
        · show (gStr (M 19) (M 20) m i n ∧ M38 44 i = 1 ∧ M38 45 i = n) ∨ (¬ gStr (M 19) (M 20) m i n ∧ M38 44 i = M38 46 i ∧ M38 45 i = M38 47 i)  -- p2.h1
          exact .inl ⟨pc1_hr.ne.1 b2, x44, x45⟩
        · show i = 0 → ∃ b, gArg (M 46) (gStr (M 19) (M 20) m 0) 0 n b (M38 42 10)  -- p2.h3
          intro e; rw [x 42 10 (by omega), z10]; have h := h3 e; rw [ei, e] at h; exact ⟨v8, h⟩
        · show i ≠ 0 → M38 42 10 = M 42 10  -- p2.h3n
          intro e; rw [x 42 10 (by omega), z10]; exact h3n e
        · show M38 46 i ≤ 1000000 ∧ 0 ≤ M38 46 i  -- p2.hb
          omega
        · show 0 ≤ M38 44 i ∧ M38 44 i ≤ 413  -- p2.hbl
          omega
    refine ⟨fun b3 => ?_, fun b3 => ?_⟩
    · -- b3.1
      refine k_K203 _ ?_
      · show (M24 46 i) = (if r23 = 0 then M13 46 i else 1)  -- K203.1.hk
        rw [if_pos b3]; exact z46
    · -- b3.2
      refine k_K203 _ ?_
      · show 1 = (if r23 = 0 then M13 46 i else 1)  -- K203.2.hk
        rw [if_neg b3]
  · -- b1.2
    have l9 := hl v9 (by omega) (by omega)
    have l9' := hl2 v9 (by omega) (by omega)
    have u44 := w44 v9
    have u46 := w46 v9 (by omega)
    have o3 : ((0 : Int) ≤ v9 ∧ v9 < 413) := by
      first | with_reducible assumption | omega | exact trivial | with_reducible rfl  -- o3
    refine ⟨o3, ?_⟩
    intro K53 h_K53
    have k_K53 : ∀ (v43 : Int), (zB v43 (1 + M 44 v9 < M13 46 i)) → K53 v43 := by
      intro v43 hk53
      refine h_K53 _ ?_
      intro z_v43
      intro K78 h_K78
      have k_K78 : ∀ (v45 : Int), (zB v45 (i = 0 ∧ 1 + M 46 v9 < v8)) → K78 v45 := by
        intro v45 hk78
        refine h_K78 _ ?_
        intro z_v45
        intro K106 h_K106
        have k_K106 : ∀ (v47 : Int) (M49 : zM), (∀ c k, ¬ (c = 42 ∧ k = 11) → M49 c k = M13 c k) → (zB v47 (((1 + M 44 v9 < M13 46 i) ∨ (i = 0 ∧ 1 + M 46 v9 < v8)) ∧ gStr (M 19) (M 20) m i v9)) → K106 v47 M49 := by
          intro v47 M49 hM hk106
          refine h_K106 _ _ ?_
          intro z_v47 z_M49
          have y44 : M49 44 v9 = M 44 v9 := by rw [hM 44 v9 (by omega)]; exact u44
          have y46 := hM 46 i (by omega)
          have y47 := hM 47 i (by omega)
          intro K141 h_K141
          have k_K141 : ∀ (M51 : zM), (∀ c k, ¬ (c = 42 ∧ k = 11) → ¬ ((c = 46 ∨ c = 47) ∧ k = i) → M51 c k = M13 c k) → (gArg (M 44) (gStr (M 19) (M 20) m i) (v9 - 1) n (M51 46 i) (M51 47 i)) → (0 ≤ M51 46 i ∧ M51 46 i ≤ 1000000) → K141 M51 := by
            intro M51 hM2 hg2 hg2b
            refine h_K141 _ ?_
            intro z_M51
            have x46 : M51 46 v9 = M 46 v9 := by rw [hM2 46 v9 (by omega) (by omega)]; exact u46
            have x10 := hM2 42 10 (by omega) (by omega)
            have xf : ∀ c k, ¬ ((c = 46 ∨ c = 47) ∧ k = i) → ¬ (c = 42 ∧ (k = 10 ∨ k = 11)) → M51 c k = M c k := fun c k h1 h2 => by rw [hM2 c k (by omega) h1]; exact hf c k h1 h2
            refine ⟨fun b4 => ?_, fun b4 => ?_⟩
            · -- b4.1
              have o4 : zin (v9 + (-1)) := by
                first | with_reducible assumption | omega | exact trivial | with_reducible rfl  -- o4
              refine ⟨o4, ?_⟩
              refine ⟨Int.toNat ((v9 + (-1))), by omega, by omega, ?_, ?_, ?_, ?_, ?_, ?_, ?_⟩
              · show i ≤ (v9 + (-1)) ∧ (v9 + (-1)) ≤ n - 1  -- I24.1.hv
                first | with_reducible assumption | omega | exact trivial | with_reducible rfl
              · show ∀ c k, ¬ ((c = 46 ∨ c = 47) ∧ k = i) → ¬ (c = 42 ∧ (k = 10 ∨ k = 11)) → M51 c k = M c k  -- I24.1.hf
                first | with_reducible assumption | omega | exact trivial | with_reducible rfl
              · show gArg (M 44) (gStr (M 19) (M 20) m i) (v9 + (-1)) n (M51 46 i) (M51 47 i)  -- I24.1.hg
                rw [show v9 + -1 = v9 - 1 by omega]; exact hg2
              · show 0 ≤ M51 46 i ∧ M51 46 i ≤ 1000000  -- I24.1.hgb
                first | with_reducible assumption | omega | exact trivial | with_reducible rfl
              · show i = 0 → gArg (M 46) (gStr (M 19) (M 20) m 0) (v9 + (-1)) n v8 (M51 42 10)  -- I24.1.h3
                intro e; rw [x10, show v9 + -1 = v9 - 1 by omega]
                refine (h3 e).no ?_
                by_cases c : 1 + M 46 v9 < v8
                · exact .inr (fun s => hk106.z.1 b4 ⟨.inr ⟨e, c⟩, by rw [e]; exact s⟩)
                · exact .inl (by omega)
              · show 0 ≤ v8 ∧ v8 ≤ 1000000  -- I24.1.h3b
                first | with_reducible assumption | omega | exact trivial | with_reducible rfl
              · show i ≠ 0 → M51 42 10 = M 42 10  -- I24.1.h3n
                intro e; rw [x10]; exact h3n e
            · -- b4.2
              refine ⟨fun b5 => ?_, fun b5 => ?_⟩
              · -- b5.1
                have o5 : zin (v9 + (-1)) := by
                  first | with_reducible assumption | omega | exact trivial | with_reducible rfl  -- o5
                refine ⟨o5, ?_⟩
                refine ⟨Int.toNat ((v9 + (-1))), by omega, by omega, ?_, ?_, ?_, ?_, ?_, ?_, ?_⟩
                · show i ≤ (v9 + (-1)) ∧ (v9 + (-1)) ≤ n - 1  -- I24.2.hv
                  first | with_reducible assumption | omega | exact trivial | with_reducible rfl
                · show ∀ c k, ¬ ((c = 46 ∨ c = 47) ∧ k = i) → ¬ (c = 42 ∧ (k = 10 ∨ k = 11)) → M51 c k = M c k  -- I24.2.hf
                  first | with_reducible assumption | omega | exact trivial | with_reducible rfl
                · show gArg (M 44) (gStr (M 19) (M 20) m i) (v9 + (-1)) n (M51 46 i) (M51 47 i)  -- I24.2.hg
                  rw [show v9 + -1 = v9 - 1 by omega]; exact hg2
                · show 0 ≤ M51 46 i ∧ M51 46 i ≤ 1000000  -- I24.2.hgb
                  first | with_reducible assumption | omega | exact trivial | with_reducible rfl
                · show i = 0 → gArg (M 46) (gStr (M 19) (M 20) m 0) (v9 + (-1)) n v8 (M51 42 10)  -- I24.2.h3
                  intro e; rw [x10, show v9 + -1 = v9 - 1 by omega]
                  refine (h3 e).no (.inl ?_)
                  have := hk78.z.1 b5
                  omega
                · show 0 ≤ v8 ∧ v8 ≤ 1000000  -- I24.2.h3b
                  first | with_reducible assumption | omega | exact trivial | with_reducible rfl
                · show i ≠ 0 → M51 42 10 = M 42 10  -- I24.2.h3n
                  intro e; rw [x10]; exact h3n e
              · -- b5.2
                intro M63 e_M63
                have e8 := hk78.ne.1 b5
                have zf : ∀ c k, ¬ (c = 42 ∧ k = 10) → M63 c k = M51 c k := fun c k h => by rw [e_M63, zset_n _ (by omega)]
                have z10 : M63 42 10 = v9 := by rw [e_M63, zset_s]
                have o6 : zin (1 + (M51 46 v9)) := by
                  omega
                refine ⟨o6, ?_⟩
                have o7 : zin (v9 + (-1)) := by
                  first | with_reducible assumption | omega | exact trivial | with_reducible rfl  -- o7
                refine ⟨o7, ?_⟩
                refine ⟨Int.toNat ((v9 + (-1))), by omega, by omega, ?_, ?_, ?_, ?_, ?_, ?_, ?_⟩
                · show i ≤ (v9 + (-1)) ∧ (v9 + (-1)) ≤ n - 1  -- I24.3.hv
                  first | with_reducible assumption | omega | exact trivial | with_reducible rfl
                · show ∀ c k, ¬ ((c = 46 ∨ c = 47) ∧ k = i) → ¬ (c = 42 ∧ (k = 10 ∨ k = 11)) → M63 c k = M c k  -- I24.3.hf
                  intro c k h1 h2; rw [zf c k (by omega)]; exact xf c k h1 h2
                · show gArg (M 44) (gStr (M 19) (M 20) m i) (v9 + (-1)) n (M63 46 i) (M63 47 i)  -- I24.3.hg
                  rw [zf 46 i (by omega), zf 47 i (by omega), show v9 + -1 = v9 - 1 by omega]; exact hg2
                · show 0 ≤ M63 46 i ∧ M63 46 i ≤ 1000000  -- I24.3.hgb
                  rw [zf 46 i (by omega)]; exact hg2b
                · show i = 0 → gArg (M 46) (gStr (M 19) (M 20) m 0) (v9 + (-1)) n (1 + (M51 46 v9)) (M63 42 10)  -- I24.3.h3
                  intro e; rw [z10, x46, show v9 + -1 = v9 - 1 by omega]
                  refine (h3 e).yes (by omega) (by omega) e8.2 ?_
                  have := (hk106.ne.1 b4).2
                  rw [e] at this
                  exact this
                · show 0 ≤ (1 + (M51 46 v9)) ∧ (1 + (M51 46 v9)) ≤ 1000000  -- I24.3.h3b
                  omega
                · show i ≠ 0 → M63 42 10 = M 42 10  -- I24.3.h3n
                  intro e; exact absurd e8.1 e
          refine ⟨fun b6 => ?_, fun b6 => ?_⟩
          · -- b6.1
            refine k_K141 _ ?_ ?_ ?_
            · show ∀ c k, ¬ (c = 42 ∧ k = 11) → ¬ ((c = 46 ∨ c = 47) ∧ k = i) → M49 c k = M13 c k  -- K141.1.hM2
              intro c k h1 _; exact hM c k h1
            · show gArg (M 44) (gStr (M 19) (M 20) m i) (v9 - 1) n (M49 46 i) (M49 47 i)  -- K141.1.hg2
              rw [y46, y47]
              refine hg.no ?_
              by_cases c : 1 + M 44 v9 < M13 46 i
              · exact .inr (fun s => hk106.z.1 b6 ⟨.inl c, s⟩)
              · exact .inl (by omega)
            · show 0 ≤ M49 46 i ∧ M49 46 i ≤ 1000000  -- K141.1.hg2b
              omega
          · -- b6.2
            refine ⟨fun b7 => ?_, fun b7 => ?_⟩
            · -- b7.1
              refine k_K141 _ ?_ ?_ ?_
              · show ∀ c k, ¬ (c = 42 ∧ k = 11) → ¬ ((c = 46 ∨ c = 47) ∧ k = i) → M49 c k = M13 c k  -- K141.2.hM2
                intro c k h1 _; exact hM c k h1
              · show gArg (M 44) (gStr (M 19) (M 20) m i) (v9 - 1) n (M49 46 i) (M49 47 i)  -- K141.2.hg2
                rw [y46, y47]; exact hg.no (.inl (by have := hk53.z.1 b7; omega))
              · show 0 ≤ M49 46 i ∧ M49 46 i ≤ 1000000  -- K141.2.hg2b
                omega
            · -- b7.2
              have o8 : zin (1 + (M49 44 v9)) := by
                omega
              refine ⟨o8, ?_⟩
              intro M74 e_M74
              intro M77 e_M77
              have x46 : M77 46 i = 1 + M 44 v9 := by rw [e_M77, zset_n _ (by omega), e_M74, zset_s, y44]
              have x47 : M77 47 i = v9 := by rw [e_M77, zset_s]
              refine k_K141 _ ?_ ?_ ?_
              · show ∀ c k, ¬ (c = 42 ∧ k = 11) → ¬ ((c = 46 ∨ c = 47) ∧ k = i) → M77 c k = M13 c k  -- K141.3.hM2
                intro c k h1 h2; rw [e_M77, zset_n _ (by omega), e_M74, zset_n _ (by omega)]; exact hM c k h1
              · show gArg (M 44) (gStr (M 19) (M 20) m i) (v9 - 1) n (M77 46 i) (M77 47 i)  -- K141.3.hg2
                rw [x46, x47]; exact hg.yes (by omega) hgb.2 (hk53.ne.1 b7) (hk106.ne.1 b6).2
              · show 0 ≤ M77 46 i ∧ M77 46 i ≤ 1000000  -- K141.3.hg2b
                rw [x46]; have := hk53.ne.1 b7; omega
        intro K105 h_K105
        have k_K105 : ∀ (M80 : zM), (∀ c k, ¬ (c = 42 ∧ k = 11) → M80 c k = M13 c k) → (¬ (((1 + M 44 v9 < M13 46 i) ∨ (i = 0 ∧ 1 + M 46 v9 < v8)) ∧ gStr (M 19) (M 20) m i v9)) → K105 M80 := by
          intro M80 hM0 hn0
          refine h_K105 _ ?_
          intro z_M80
          refine k_K106 _ _ ?_ ?_
          · show ∀ c k, ¬ (c = 42 ∧ k = 11) → M80 c k = M13 c k  -- K106.1.hM
            first | with_reducible assumption | omega | exact trivial | with_reducible rfl
          · show zB 0 (((1 + M 44 v9 < M13 46 i) ∨ (i = 0 ∧ 1 + M 46 v9 < v8)) ∧ gStr (M 19) (M 20) m i v9)  -- K106.1.hk106
            exact zB.f hn0
        intro K90 h_K90
        have k_K90 : ((1 + M 44 v9 < M13 46 i) ∨ (i = 0 ∧ 1 + M 46 v9 < v8)) → K90  := by
          intro  ho
          refine h_K90 ?_
          have gc2 : pr_X6_staysNear i v9 m M13 := by
            refine ⟨?_, ?_, ?_, ?_, ?_⟩
            · show M13 17 1 ≤ 412  -- c2.hn
              omega
            · show bXY M13  -- c2.hX
              exact hX.mem w1 w19 w20
            · show 0 ≤ i ∧ i ≤ M13 17 1  -- c2.hi
              first | with_reducible assumption | omega | exact trivial | with_reducible rfl
            · show 0 ≤ v9 ∧ v9 ≤ M13 17 1  -- c2.hj
              first | with_reducible assumption | omega | exact trivial | with_reducible rfl
            · show 0 ≤ m ∧ m ≤ 400  -- c2.hm
              first | with_reducible assumption | omega | exact trivial | with_reducible rfl
          refine ⟨gc2, ?_⟩
          rintro r82 M83 ⟨pc2_hf, pc2_hr⟩ z_r82 z_M83
          rw [w19, w20] at pc2_hr
          refine ⟨fun b8 => ?_, fun b8 => ?_⟩
          · -- b8.1
            refine k_K105 _ ?_ ?_
            · show ∀ c k, ¬ (c = 42 ∧ k = 11) → M83 c k = M13 c k  -- K105.1.hM0
              first | with_reducible assumption | omega | exact trivial | with_reducible rfl
            · show ¬ (((1 + M 44 v9 < M13 46 i) ∨ (i = 0 ∧ 1 + M 46 v9 < v8)) ∧ gStr (M 19) (M 20) m i v9)  -- K105.1.hn0
              exact fun h => pc2_hr.z.1 b8 h.2
          · -- b8.2
            refine k_K106 _ _ ?_ ?_
            · show ∀ c k, ¬ (c = 42 ∧ k = 11) → M83 c k = M13 c k  -- K106.2.hM
              first | with_reducible assumption | omega | exact trivial | with_reducible rfl
            · show zB 1 (((1 + M 44 v9 < M13 46 i) ∨ (i = 0 ∧ 1 + M 46 v9 < v8)) ∧ gStr (M 19) (M 20) m i v9)  -- K106.2.hk106
              exact zB.t ⟨ho, pc2_hr.ne.1 b8⟩
        refine ⟨fun b9 => ?_, fun b9 => ?_⟩
        · -- b9.1
          refine k_K90 ?_
          · show (1 + M 44 v9 < M13 46 i) ∨ (i = 0 ∧ 1 + M 46 v9 < v8)  -- K90.1.ho
            exact .inl (hk53.ne.1 b9)
        · -- b9.2
          refine ⟨fun b10 => ?_, fun b10 => ?_⟩
          · -- b10.1
            refine k_K105 _ ?_ ?_
            · show ∀ c k, ¬ (c = 42 ∧ k = 11) → M13 c k = M13 c k  -- K105.2.hM0
              intro _ _ _; rfl
            · show ¬ (((1 + M 44 v9 < M13 46 i) ∨ (i = 0 ∧ 1 + M 46 v9 < v8)) ∧ gStr (M 19) (M 20) m i v9)  -- K105.2.hn0
              exact fun h => h.1.elim (hk53.z.1 b9) (hk78.z.1 b10)
          · -- b10.2
            refine k_K90 ?_
            · show (1 + M 44 v9 < M13 46 i) ∨ (i = 0 ∧ 1 + M 46 v9 < v8)  -- K90.2.ho
              exact .inr (hk78.ne.1 b10)
      intro K77 h_K77
      have k_K77 : (¬ (i = 0 ∧ 1 + M 46 v9 < v8)) → K77  := by
        intro  hn7
        refine h_K77 ?_
        refine k_K78 _ ?_
        · show zB 0 (i = 0 ∧ 1 + M 46 v9 < v8)  -- K78.1.hk78
          exact zB.f hn7
      refine ⟨fun b11 => ?_, fun b11 => ?_⟩
      · -- b11.1
        refine k_K77 ?_
        · show ¬ (i = 0 ∧ 1 + M 46 v9 < v8)  -- K77.1.hn7
          exact fun h => b11 h.1
      · -- b11.2
        have o9 : zin (1 + (M13 46 v9)) := by
          omega
        refine ⟨o9, ?_⟩
        refine ⟨fun b12 => ?_, fun b12 => ?_⟩
        · -- b12.1
          refine k_K77 ?_
          · show ¬ (i = 0 ∧ 1 + M 46 v9 < v8)  -- K77.2.hn7
            omega
        · -- b12.2
          refine k_K78 _ ?_
          · show zB 1 (i = 0 ∧ 1 + M 46 v9 < v8)  -- K78.2.hk78
            exact zB.t ⟨b11, by omega⟩
    have o10 : zin (1 + (M13 44 v9)) := by
      omega
    refine ⟨o10, ?_⟩
    refine ⟨fun b13 => ?_, fun b13 => ?_⟩
    · -- b13.1
      refine k_K53 _ ?_
      · show zB 0 (1 + M 44 v9 < M13 46 i)  -- K53.1.hk53
        exact zB.f (by omega)
    · -- b13.2
      refine k_K53 _ ?_
      · show zB 1 (1 + M 44 v9 < M13 46 i)  -- K53.2.hk53
        exact zB.t (by omega)

