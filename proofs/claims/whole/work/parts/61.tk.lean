abbrev pr_X0_takeFrom_a (M : zM) : Prop := (0 ≤ M 1 3 ∧ M 1 3 < 1000000000) ∧ (∀ i, 0 ≤ i → i < 192 → 0 ≤ M 100 i ∧ M 100 i ≤ 15)
abbrev po_X0_takeFrom_a (M : zM) (M' : zM) : Prop := (∀ c i, c ≠ 2 → c ≠ 3 → ¬ (c = 1 ∧ (i = 0 ∨ i = 1 ∨ i = 2 ∨ i = 3)) → M' c i = M c i) ∧ (M' 1 0 = M 99 0 ∧ M' 1 1 = M 99 1 ∧ M' 1 2 = M 99 2 ∧ M' 1 3 = M 1 3 + 1) ∧ (∀ i, 0 ≤ i → i < 192 → M' 2 i = M 100 i) ∧ (∀ i, 0 ≤ i → i < 16 → M' 3 i = M 101 i)
set_option maxHeartbeats 1000000 in
theorem ok_X0_takeFrom_a : zSnd zS 145 0 0 yX0_takeFrom cX0_takeFrom 2 none 1 [2, 2] (F_X0_takeFrom_a pr_X0_takeFrom_a po_X0_takeFrom_a) := by
  refine (sn_X0_takeFrom_a).mono ?_
  rintro xs P M hz hR ⟨rfl, ⟨hv, hq⟩, hP⟩
  refine ⟨rfl, ?_⟩
  change vc_X0_takeFrom_a P M
  unfold vc_X0_takeFrom_a
  intro M1 e_M1
  intro M4 e_M4
  intro M7 e_M7
  have q : ∀ c i, ¬ (c = 1 ∧ (i = 0 ∨ i = 1 ∨ i = 2)) → M7 c i = M c i := fun c i k => by rw [e_M7, zset_n _ (by omega), e_M4, zset_n _ (by omega), e_M1, zset_n _ (by omega)]
  have q0 : M7 1 0 = M 99 0 := by rw [e_M7, zset_n _ (by omega), e_M4, zset_n _ (by omega), e_M1, zset_s]
  have q1 : M7 1 1 = M 99 1 := by rw [e_M7, zset_n _ (by omega), e_M4, zset_s, e_M1, zset_n _ (by omega)]
  have q2 : M7 1 2 = M 99 2 := by rw [e_M7, zset_s, e_M4, zset_n _ (by omega), e_M1, zset_n _ (by omega)]
  have o1 : (∀ j10, 0 ≤ j10 → j10 < 0 + 192 → -128 ≤ M7 100 j10 ∧ M7 100 j10 ≤ 127) := by
    intro j j0 j1; rw [q 100 j (by omega)]; have := hq j j0 (by omega); omega
  refine ⟨o1, ?_⟩
  intro M12 e_M12
  intro M15 e_M15
  have w : ∀ c i, c ≠ 2 → c ≠ 3 → M15 c i = M7 c i := fun c i c1 c2 => by rw [e_M15, zcpy_n _ (by omega), e_M12, zcpy_n _ (by omega)]
  have w2 : ∀ i, 0 ≤ i → i < 192 → M15 2 i = M 100 i := fun i i0 i1 => by rw [e_M15, zcpy_n _ (by omega), e_M12, zcpy_s _ (by omega), show 0 + (i - 0) = i by omega, q 100 i (by omega)]
  have w3 : ∀ i, 0 ≤ i → i < 16 → M15 3 i = M 101 i := fun i i0 i1 => by rw [e_M15, zcpy_s _ (by omega), show 0 + (i - 0) = i by omega, e_M12, zcpy_n _ (by omega), q 101 i (by omega)]
  have w13 : M15 1 3 = M 1 3 := by rw [w 1 3 (by decide) (by decide), q 1 3 (by omega)]
  have o2 : zin ((M15 1 3) + 1) := by
    first | with_reducible assumption | omega | exact trivial | with_reducible rfl  -- o2
  refine ⟨o2, ?_⟩
  intro M19 e_M19
  have v : ∀ c i, ¬ (c = 1 ∧ i = 3) → M19 c i = M15 c i := fun c i k => by rw [e_M19, zset_n _ (by omega)]
  refine hP _ ⟨?_, ?_, ?_, ?_⟩
  · show ∀ c i, c ≠ 2 → c ≠ 3 → ¬ (c = 1 ∧ (i = 0 ∨ i = 1 ∨ i = 2 ∨ i = 3)) → M19 c i = M c i  -- p1.hf
    intro c i c1 c2 c3; rw [v c i (by omega), w c i c1 c2, q c i (by omega)]
  · show M19 1 0 = M 99 0 ∧ M19 1 1 = M 99 1 ∧ M19 1 2 = M 99 2 ∧ M19 1 3 = M 1 3 + 1  -- p1.h0
    rw [v 1 0 (by omega), v 1 1 (by omega), v 1 2 (by omega), w 1 0 (by decide) (by decide), w 1 1 (by decide) (by decide), w 1 2 (by decide) (by decide), q0, q1, q2, e_M19, zset_s, w13]
    exact ⟨rfl, rfl, rfl, rfl⟩
  · show ∀ i, 0 ≤ i → i < 192 → M19 2 i = M 100 i  -- p1.h2
    intro i i0 i1; rw [v 2 i (by omega)]; exact w2 i i0 i1
  · show ∀ i, 0 ≤ i → i < 16 → M19 3 i = M 101 i  -- p1.h3
    intro i i0 i1; rw [v 3 i (by omega)]; exact w3 i i0 i1

abbrev pr_X0_takeFrom_b (M : zM) : Prop := (0 ≤ M 99 3 ∧ M 99 3 < 1000000000) ∧ (∀ i, 0 ≤ i → i < 192 → 0 ≤ M 2 i ∧ M 2 i ≤ 15)
abbrev po_X0_takeFrom_b (M : zM) (M' : zM) : Prop := (∀ c i, c ≠ 100 → c ≠ 101 → ¬ (c = 99 ∧ (i = 0 ∨ i = 1 ∨ i = 2 ∨ i = 3)) → M' c i = M c i) ∧ (M' 99 0 = M 1 0 ∧ M' 99 1 = M 1 1 ∧ M' 99 2 = M 1 2 ∧ M' 99 3 = M 99 3 + 1) ∧ (∀ i, 0 ≤ i → i < 192 → M' 100 i = M 2 i) ∧ (∀ i, 0 ≤ i → i < 16 → M' 101 i = M 3 i)
set_option maxHeartbeats 1000000 in
theorem ok_X0_takeFrom_b : zSnd zS 145 0 0 yX0_takeFrom cX0_takeFrom 2 none 1 [2, 2] (F_X0_takeFrom_b pr_X0_takeFrom_b po_X0_takeFrom_b) := by
  refine (sn_X0_takeFrom_b).mono ?_
  rintro xs P M hz hR ⟨rfl, ⟨hv, hq⟩, hP⟩
  refine ⟨rfl, ?_⟩
  change vc_X0_takeFrom_b P M
  unfold vc_X0_takeFrom_b
  intro M1 e_M1
  intro M4 e_M4
  intro M7 e_M7
  have q : ∀ c i, ¬ (c = 99 ∧ (i = 0 ∨ i = 1 ∨ i = 2)) → M7 c i = M c i := fun c i k => by rw [e_M7, zset_n _ (by omega), e_M4, zset_n _ (by omega), e_M1, zset_n _ (by omega)]
  have q0 : M7 99 0 = M 1 0 := by rw [e_M7, zset_n _ (by omega), e_M4, zset_n _ (by omega), e_M1, zset_s]
  have q1 : M7 99 1 = M 1 1 := by rw [e_M7, zset_n _ (by omega), e_M4, zset_s, e_M1, zset_n _ (by omega)]
  have q2 : M7 99 2 = M 1 2 := by rw [e_M7, zset_s, e_M4, zset_n _ (by omega), e_M1, zset_n _ (by omega)]
  have o1 : (∀ j10, 0 ≤ j10 → j10 < 0 + 192 → -128 ≤ M7 2 j10 ∧ M7 2 j10 ≤ 127) := by
    intro j j0 j1; rw [q 2 j (by omega)]; have := hq j j0 (by omega); omega
  refine ⟨o1, ?_⟩
  intro M12 e_M12
  intro M15 e_M15
  have w : ∀ c i, c ≠ 100 → c ≠ 101 → M15 c i = M7 c i := fun c i c1 c2 => by rw [e_M15, zcpy_n _ (by omega), e_M12, zcpy_n _ (by omega)]
  have w2 : ∀ i, 0 ≤ i → i < 192 → M15 100 i = M 2 i := fun i i0 i1 => by rw [e_M15, zcpy_n _ (by omega), e_M12, zcpy_s _ (by omega), show 0 + (i - 0) = i by omega, q 2 i (by omega)]
  have w3 : ∀ i, 0 ≤ i → i < 16 → M15 101 i = M 3 i := fun i i0 i1 => by rw [e_M15, zcpy_s _ (by omega), show 0 + (i - 0) = i by omega, e_M12, zcpy_n _ (by omega), q 3 i (by omega)]
  have w13 : M15 99 3 = M 99 3 := by rw [w 99 3 (by decide) (by decide), q 99 3 (by omega)]
  have o2 : zin ((M15 99 3) + 1) := by
    first | with_reducible assumption | omega | exact trivial | with_reducible rfl  -- o2
  refine ⟨o2, ?_⟩
  intro M19 e_M19
  have v : ∀ c i, ¬ (c = 99 ∧ i = 3) → M19 c i = M15 c i := fun c i k => by rw [e_M19, zset_n _ (by omega)]
  refine hP _ ⟨?_, ?_, ?_, ?_⟩
  · show ∀ c i, c ≠ 100 → c ≠ 101 → ¬ (c = 99 ∧ (i = 0 ∨ i = 1 ∨ i = 2 ∨ i = 3)) → M19 c i = M c i  -- p1.hf
    intro c i c1 c2 c3; rw [v c i (by omega), w c i c1 c2, q c i (by omega)]
  · show M19 99 0 = M 1 0 ∧ M19 99 1 = M 1 1 ∧ M19 99 2 = M 1 2 ∧ M19 99 3 = M 99 3 + 1  -- p1.h0
    rw [v 99 0 (by omega), v 99 1 (by omega), v 99 2 (by omega), w 99 0 (by decide) (by decide), w 99 1 (by decide) (by decide), w 99 2 (by decide) (by decide), q0, q1, q2, e_M19, zset_s, w13]
    exact ⟨rfl, rfl, rfl, rfl⟩
  · show ∀ i, 0 ≤ i → i < 192 → M19 100 i = M 2 i  -- p1.h2
    intro i i0 i1; rw [v 100 i (by omega)]; exact w2 i i0 i1
  · show ∀ i, 0 ≤ i → i < 16 → M19 101 i = M 3 i  -- p1.h3
    intro i i0 i1; rw [v 101 i (by omega)]; exact w3 i i0 i1

abbrev pr_X12_copyDots (M : zM) : Prop := True
abbrev po_X12_copyDots (M : zM) (M' : zM) : Prop := (∀ c i, c ≠ 114 → M' c i = M c i) ∧ (∀ i, 0 ≤ i → i < 192 → M' 114 i = M 104 i)
set_option maxHeartbeats 1000000 in
theorem ok_X12_copyDots : zSnd zS 145 0 0 yX12_copyDots cX12_copyDots 2 none 0 [2] (F_X12_copyDots pr_X12_copyDots po_X12_copyDots) := by
  refine (sn_X12_copyDots).mono ?_
  rintro xs P M hz hR ⟨rfl, _, hP⟩
  refine ⟨rfl, ?_⟩
  change vc_X12_copyDots P M
  unfold vc_X12_copyDots
  refine ⟨fun v1 M3 n5 => (n5 : Int) = (192 - v1) ∧ (0 ≤ v1 ∧ v1 ≤ 192) ∧ (∀ c i, c ≠ 114 → M3 c i = M c i) ∧ (∀ i, 0 ≤ i → i < v1 → M3 114 i = M 104 i), ⟨Int.toNat (192 - 0), by omega, ?_, ?_, ?_⟩, ?_⟩
  · show 0 ≤ 0 ∧ 0 ≤ 192  -- I2.0.hv
    first | with_reducible assumption | omega | exact trivial | with_reducible rfl
  · show ∀ c i, c ≠ 114 → M c i = M c i  -- I2.0.hf
    first | with_reducible assumption | omega | exact trivial | with_reducible rfl
  · show ∀ i, 0 ≤ i → i < 0 → M 114 i = M 104 i  -- I2.0.h4
    intro i i0 i1; omega
  rintro v1 M3 n5 ⟨h_n5, hv, hf, h4⟩ z_v1 z_M3
  refine ⟨fun b1 => ?_, fun b1 => ?_⟩
  · -- b1.1
    refine hP _ ⟨?_, ?_⟩
    · show ∀ c i, c ≠ 114 → M3 c i = M c i  -- p1.hf
      first | with_reducible assumption | omega | exact trivial | with_reducible rfl
    · show ∀ i, 0 ≤ i → i < 192 → M3 114 i = M 104 i  -- p1.h4
      intro i i0 i1; exact h4 i i0 (by omega)
  · -- b1.2
    have o1 : ((0 : Int) ≤ v1 ∧ v1 < 192) := by
      first | with_reducible assumption | omega | exact trivial | with_reducible rfl  -- o1
    refine ⟨o1, ?_⟩
    intro M14 e_M14
    have o2 : zin (v1 + 1) := by
      first | with_reducible assumption | omega | exact trivial | with_reducible rfl  -- o2
    refine ⟨o2, ?_⟩
    refine ⟨Int.toNat (192 - (v1 + 1)), by omega, by omega, ?_, ?_, ?_⟩
    · show 0 ≤ (v1 + 1) ∧ (v1 + 1) ≤ 192  -- I2.1.hv
      first | with_reducible assumption | omega | exact trivial | with_reducible rfl
    · show ∀ c i, c ≠ 114 → M14 c i = M c i  -- I2.1.hf
      intro c i c1; rw [e_M14, zset_n _ (by omega)]; exact hf c i c1
    · show ∀ i, 0 ≤ i → i < (v1 + 1) → M14 114 i = M 104 i  -- I2.1.h4
      intro i i0 i1
      by_cases c : i = v1
      · rw [c, e_M14, zset_s]; exact hf 104 v1 (by decide)
      · rw [e_M14, zset_n _ (by omega)]; exact h4 i i0 (by omega)

abbrev pr_X12_swap (k : Int) (M : zM) : Prop := (0 ≤ k ∧ k ≤ 20)
abbrev po_X12_swap (k : Int) (M : zM) (r : Int) (M' : zM) : Prop := (∀ c i, c ≠ 104 → ¬ (c = 106 ∧ 192 * k ≤ i ∧ i < 192 * k + 192) → M' c i = M c i) ∧ (∀ i, 0 ≤ i → i < 192 → M' 104 i = M 106 (192 * k + i)) ∧ (∀ i, 0 ≤ i → i < 192 → M' 106 (192 * k + i) = M 104 i) ∧ (r = zc (fun i => M 106 (192 * k + i) ≠ M 104 i) 192)
set_option maxHeartbeats 1000000 in
theorem ok_X12_swap : zSnd zS 145 0 0 yX12_swap cX12_swap 5 (some .int) 0 [2, 0] (F_X12_swap pr_X12_swap po_X12_swap) := by
  refine (sn_X12_swap).mono ?_
  rintro xs P M hz hR ⟨k, rfl, hk, hP⟩
  refine ⟨_, rfl, ?_⟩
  have z_k := zall_h (zall_t hz) (by decide)
  change vc_X12_swap k P M
  unfold vc_X12_swap
  refine ⟨fun v1 v2 M5 n7 => (n7 : Int) = (192 - v2) ∧ (0 ≤ v2 ∧ v2 ≤ 192) ∧ (∀ c i, c ≠ 104 → ¬ (c = 106 ∧ 192 * k ≤ i ∧ i < 192 * k + 192) → M5 c i = M c i) ∧ (∀ i, M5 104 i = if 0 ≤ i ∧ i < v2 then M 106 (192 * k + i) else M 104 i) ∧ (∀ i, M5 106 (192 * k + i) = if 0 ≤ i ∧ i < v2 then M 104 i else M 106 (192 * k + i)) ∧ (v1 = zc (fun i => M 106 (192 * k + i) ≠ M 104 i) v2), ⟨Int.toNat (192 - 0), by omega, ?_, ?_, ?_, ?_, ?_⟩, ?_⟩
  · show 0 ≤ 0 ∧ 0 ≤ 192  -- I4.0.hv
    first | with_reducible assumption | omega | exact trivial | with_reducible rfl
  · show ∀ c i, c ≠ 104 → ¬ (c = 106 ∧ 192 * k ≤ i ∧ i < 192 * k + 192) → M c i = M c i  -- I4.0.hf
    first | with_reducible assumption | omega | exact trivial | with_reducible rfl
  · show ∀ i, M 104 i = if 0 ≤ i ∧ i < 0 then M 106 (192 * k + i) else M 104 i  -- I4.0.g4
    intro i; rw [if_neg (by omega)]
  · show ∀ i, M 106 (192 * k + i) = if 0 ≤ i ∧ i < 0 then M 104 i else M 106 (192 * k + i)  -- I4.0.g6
    intro i; rw [if_neg (by omega)]
  · show 0 = zc (fun i => M 106 (192 * k + i) ≠ M 104 i) 0  -- I4.0.h1
    exact (zc_z _).symm
  rintro v1 v2 M5 n7 ⟨h_n7, hv, hf, g4, g6, h1⟩ z_v1 z_v2 z_M5
  refine ⟨fun b1 => ?_, fun b1 => ?_⟩
  · -- b1.1
    refine hP _ _ ⟨?_, ?_, ?_, ?_⟩
    · show ∀ c i, c ≠ 104 → ¬ (c = 106 ∧ 192 * k ≤ i ∧ i < 192 * k + 192) → M5 c i = M c i  -- p1.hf
      first | with_reducible assumption | omega | exact trivial | with_reducible rfl
    · show ∀ i, 0 ≤ i → i < 192 → M5 104 i = M 106 (192 * k + i)  -- p1.h4
      intro i i0 i1; rw [g4, if_pos (by omega)]
    · show ∀ i, 0 ≤ i → i < 192 → M5 106 (192 * k + i) = M 104 i  -- p1.h6
      intro i i0 i1; rw [g6, if_pos (by omega)]
    · show v1 = zc (fun i => M 106 (192 * k + i) ≠ M 104 i) 192  -- p1.hr
      rw [h1, show v2 = 192 by omega]
  · -- b1.2
    have e4 : M5 104 v2 = M 104 v2 := by rw [g4, if_neg (by omega)]
    have e6 : M5 106 (192 * k + v2) = M 106 (192 * k + v2) := by rw [g6, if_neg (by omega)]
    have zb := zc_b (fun i => M 106 (192 * k + i) ≠ M 104 i) v2 hv.1
    have o1 : ((0 : Int) ≤ ((192 * k) + v2) ∧ ((192 * k) + v2) < 4032) := by
      first | with_reducible assumption | omega | exact trivial | with_reducible rfl  -- o1
    refine ⟨o1, ?_⟩
    have o2 : ((0 : Int) ≤ v2 ∧ v2 < 192) := by
      first | with_reducible assumption | omega | exact trivial | with_reducible rfl  -- o2
    refine ⟨o2, ?_⟩
    intro K42 h_K42
    have k_K42 : ∀ (v17 : Int), (v1 + v17 = zc (fun i => M 106 (192 * k + i) ≠ M 104 i) (v2 + 1)) → (v17 = 0 ∨ v17 = 1) → K42 v17 := by
      intro v17 kv kb
      refine h_K42 _ ?_
      intro z_v17
      intro M19 e_M19
      intro M22 e_M22
      have o3 : zin (v1 + v17) := by
        first | with_reducible assumption | omega | exact trivial | with_reducible rfl  -- o3
      refine ⟨o3, ?_⟩
      have o4 : zin (v2 + 1) := by
        first | with_reducible assumption | omega | exact trivial | with_reducible rfl  -- o4
      refine ⟨o4, ?_⟩
      refine ⟨Int.toNat (192 - (v2 + 1)), by omega, by omega, ?_, ?_, ?_, ?_, ?_⟩
      · show 0 ≤ (v2 + 1) ∧ (v2 + 1) ≤ 192  -- I4.1.hv
        first | with_reducible assumption | omega | exact trivial | with_reducible rfl
      · show ∀ c i, c ≠ 104 → ¬ (c = 106 ∧ 192 * k ≤ i ∧ i < 192 * k + 192) → M22 c i = M c i  -- I4.1.hf
        intro c i c1 c2; rw [e_M22, zset_n _ (by omega), e_M19, zset_n _ (by omega)]; exact hf c i c1 c2
      · show ∀ i, M22 104 i = if 0 ≤ i ∧ i < (v2 + 1) then M 106 (192 * k + i) else M 104 i  -- I4.1.g4
        intro i
        by_cases c : i = v2
        · rw [c, e_M22, zset_s, if_pos (by omega), e6]
        · rw [e_M22, zset_n _ (by omega), e_M19, zset_n _ (by omega), g4 i]
          by_cases l : 0 ≤ i ∧ i < v2
          · rw [if_pos l, if_pos (by omega)]
          · rw [if_neg l, if_neg (by omega)]
      · show ∀ i, M22 106 (192 * k + i) = if 0 ≤ i ∧ i < (v2 + 1) then M 104 i else M 106 (192 * k + i)  -- I4.1.g6
        intro i
        by_cases c : i = v2
        · rw [c, e_M22, zset_n _ (by omega), e_M19, zset_s, if_pos (by omega), e4]
        · rw [e_M22, zset_n _ (by omega), e_M19, zset_n _ (by omega), g6 i]
          by_cases l : 0 ≤ i ∧ i < v2
          · rw [if_pos l, if_pos (by omega)]
          · rw [if_neg l, if_neg (by omega)]
      · show (v1 + v17) = zc (fun i => M 106 (192 * k + i) ≠ M 104 i) (v2 + 1)  -- I4.1.h1
        first | with_reducible assumption | omega | exact trivial | with_reducible rfl
    refine ⟨fun b2 => ?_, fun b2 => ?_⟩
    · -- b2.1
      refine k_K42 _ ?_ ?_
      · show v1 + 0 = zc (fun i => M 106 (192 * k + i) ≠ M 104 i) (v2 + 1)  -- K42.1.kv
        rw [zc_n hv.1 (fun z => z (by rw [← e4, ← e6]; exact b2))]; omega
      · show 0 = 0 ∨ 0 = 1  -- K42.1.kb
        first | with_reducible assumption | omega | exact trivial | with_reducible rfl
    · -- b2.2
      refine k_K42 _ ?_ ?_
      · show v1 + 1 = zc (fun i => M 106 (192 * k + i) ≠ M 104 i) (v2 + 1)  -- K42.2.kv
        rw [zc_p hv.1 (by rw [← e4, ← e6]; exact b2)]; omega
      · show 1 = 0 ∨ 1 = 1  -- K42.2.kb
        first | with_reducible assumption | omega | exact trivial | with_reducible rfl

