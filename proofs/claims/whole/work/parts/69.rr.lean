abbrev pr_X12_restore (M : zM) : Prop := (M 103 13 ≠ 0 → (1 ≤ M 103 14 ∧ M 103 14 ≤ 16) ∧ (1 ≤ M 103 15 ∧ M 103 15 ≤ 12)) ∧ (∀ k, 0 ≤ k → k < 12 → M 112 k = 0 ∨ M 112 k = 1)
abbrev po_X12_restore (M : zM) (r : Int) (M' : zM) : Prop := (M 103 13 = 0 → r = -3 ∧ M' = zset M 103 0 0) ∧ (∀ c i, c ≠ 104 → c ≠ 105 → c ≠ 109 → ¬ (c = 103 ∧ (i = 0 ∨ i = 1 ∨ i = 2 ∨ i = 5 ∨ i = 7 ∨ i = 8 ∨ i = 9)) → M' c i = M c i) ∧ (M 103 13 ≠ 0 → r = M 103 14 * M 103 15 ∧ (M' 103 0 = 0 ∧ M' 103 1 = M 103 14 ∧ M' 103 2 = M 103 15 ∧ M' 103 5 = M 103 18 ∧ M' 103 9 = M 103 19 ∧ M' 103 7 = 0 ∧ M' 103 8 = 0) ∧ (∀ i, 0 ≤ i → i < 192 → M' 104 i = M 110 i) ∧ (∀ i, 0 ≤ i → i < 16 → M' 105 i = M 111 i) ∧ ∀ i, 0 ≤ i → i < 12 → M' 109 i = M 112 i)
set_option maxHeartbeats 1000000 in
theorem ok_X12_restore : zSnd zS 145 0 0 yX12_restore cX12_restore 2 (some .int) 0 [2] (F_X12_restore pr_X12_restore po_X12_restore) := by
  refine (sn_X12_restore).mono ?_
  rintro xs P M hz hR ⟨rfl, ⟨hi, hb⟩, hP⟩
  refine ⟨rfl, ?_⟩
  change vc_X12_restore P M
  unfold vc_X12_restore
  intro M1 e_M1
  have q13 : M1 103 13 = M 103 13 := by rw [e_M1, zset_n _ (by omega)]
  refine ⟨fun b1 => ?_, fun b1 => ?_⟩
  · -- b1.1
    have h13 : M 103 13 ≠ 0 := fun k => b1 (q13.trans k)
    have hj := hi h13
    intro M5 e_M5
    intro M8 e_M8
    intro M11 e_M11
    intro M14 e_M14
    have z : ∀ c i, ¬ (c = 103 ∧ (i = 0 ∨ i = 1 ∨ i = 2 ∨ i = 5 ∨ i = 9)) → M14 c i = M c i := fun c i k => by rw [e_M14, zset_n _ (by omega), e_M11, zset_n _ (by omega), e_M8, zset_n _ (by omega), e_M5, zset_n _ (by omega), e_M1, zset_n _ (by omega)]
    have z0 : M14 103 0 = 0 ∧ M14 103 1 = M 103 14 ∧ M14 103 2 = M 103 15 ∧ M14 103 5 = M 103 18 ∧ M14 103 9 = M 103 19 := by
      refine ⟨?_, ?_, ?_, ?_, ?_⟩
      · rw [e_M14, zset_n _ (by omega), e_M11, zset_n _ (by omega), e_M8, zset_n _ (by omega), e_M5, zset_n _ (by omega), e_M1, zset_s]
      · rw [e_M14, zset_n _ (by omega), e_M11, zset_n _ (by omega), e_M8, zset_n _ (by omega), e_M5, zset_s, e_M1, zset_n _ (by omega)]
      · rw [e_M14, zset_n _ (by omega), e_M11, zset_n _ (by omega), e_M8, zset_s, e_M5, zset_n _ (by omega), e_M1, zset_n _ (by omega)]
      · rw [e_M14, zset_n _ (by omega), e_M11, zset_s, e_M8, zset_n _ (by omega), e_M5, zset_n _ (by omega), e_M1, zset_n _ (by omega)]
      · rw [e_M14, zset_s, e_M11, zset_n _ (by omega), e_M8, zset_n _ (by omega), e_M5, zset_n _ (by omega), e_M1, zset_n _ (by omega)]
    refine ⟨fun v17 M19 n21 => (n21 : Int) = (192 - v17) ∧ (0 ≤ v17 ∧ v17 ≤ 192) ∧ (∀ c i, c ≠ 104 → M19 c i = M14 c i) ∧ (∀ i, 0 ≤ i → i < v17 → M19 104 i = M 110 i), ⟨Int.toNat (192 - 0), by omega, ?_, ?_, ?_⟩, ?_⟩
    · show 0 ≤ 0 ∧ 0 ≤ 192  -- I49.0.hv
      first | with_reducible assumption | omega | exact trivial | with_reducible rfl
    · show ∀ c i, c ≠ 104 → M14 c i = M14 c i  -- I49.0.k1
      first | with_reducible assumption | omega | exact trivial | with_reducible rfl
    · show ∀ i, 0 ≤ i → i < 0 → M14 104 i = M 110 i  -- I49.0.g4
      intro i i0 i1; omega
    rintro v17 M19 n21 ⟨h_n21, hv, k1, g4⟩ z_v17 z_M19
    refine ⟨fun b2 => ?_, fun b2 => ?_⟩
    · -- b2.1
      refine ⟨fun v29 M31 n33 => (n33 : Int) = (16 - v29) ∧ (0 ≤ v29 ∧ v29 ≤ 16) ∧ (∀ c i, c ≠ 104 → c ≠ 105 → M31 c i = M14 c i) ∧ (∀ i, 0 ≤ i → i < 192 → M31 104 i = M 110 i) ∧ (∀ i, 0 ≤ i → i < v29 → M31 105 i = M 111 i), ⟨Int.toNat (16 - 0), by omega, ?_, ?_, ?_, ?_⟩, ?_⟩
      · show 0 ≤ 0 ∧ 0 ≤ 16  -- I76.0.hw
        first | with_reducible assumption | omega | exact trivial | with_reducible rfl
      · show ∀ c i, c ≠ 104 → c ≠ 105 → M19 c i = M14 c i  -- I76.0.k2
        intro c i c1 c2; exact k1 c i c1
      · show ∀ i, 0 ≤ i → i < 192 → M19 104 i = M 110 i  -- I76.0.g5
        intro i i0 i1; exact g4 i i0 (by omega)
      · show ∀ i, 0 ≤ i → i < 0 → M19 105 i = M 111 i  -- I76.0.g6
        intro i i0 i1; omega
      rintro v29 M31 n33 ⟨h_n33, hw, k2, g5, g6⟩ z_v29 z_M31
      refine ⟨fun b3 => ?_, fun b3 => ?_⟩
      · -- b3.1
        refine ⟨fun v41 M43 n45 => (n45 : Int) = (12 - v41) ∧ (0 ≤ v41 ∧ v41 ≤ 12) ∧ (∀ c i, c ≠ 104 → c ≠ 105 → c ≠ 109 → M43 c i = M14 c i) ∧ (∀ i, 0 ≤ i → i < 192 → M43 104 i = M 110 i) ∧ (∀ i, 0 ≤ i → i < 16 → M43 105 i = M 111 i) ∧ (∀ i, 0 ≤ i → i < v41 → M43 109 i = M 112 i), ⟨Int.toNat (12 - 0), by omega, ?_, ?_, ?_, ?_, ?_⟩, ?_⟩
        · show 0 ≤ 0 ∧ 0 ≤ 12  -- I102.0.hx
          first | with_reducible assumption | omega | exact trivial | with_reducible rfl
        · show ∀ c i, c ≠ 104 → c ≠ 105 → c ≠ 109 → M31 c i = M14 c i  -- I102.0.k3
          intro c i c1 c2 c3; exact k2 c i c1 c2
        · show ∀ i, 0 ≤ i → i < 192 → M31 104 i = M 110 i  -- I102.0.g7
          first | with_reducible assumption | omega | exact trivial | with_reducible rfl
        · show ∀ i, 0 ≤ i → i < 16 → M31 105 i = M 111 i  -- I102.0.g8
          intro i i0 i1; exact g6 i i0 (by omega)
        · show ∀ i, 0 ≤ i → i < 0 → M31 109 i = M 112 i  -- I102.0.g9
          intro i i0 i1; omega
        rintro v41 M43 n45 ⟨h_n45, hx, k3, g7, g8, g9⟩ z_v41 z_M43
        refine ⟨fun b4 => ?_, fun b4 => ?_⟩
        · -- b4.1
          intro M53 e_M53
          intro M56 e_M56
          have y : ∀ c i, ¬ (c = 103 ∧ (i = 7 ∨ i = 8)) → M56 c i = M43 c i := fun c i k => by rw [e_M56, zset_n _ (by omega), e_M53, zset_n _ (by omega)]
          have yk : ∀ i, ¬ (i = 7 ∨ i = 8) → M56 103 i = M14 103 i := fun i k => by rw [y 103 i (by omega)]; exact k3 103 i (by decide) (by decide) (by decide)
          have e1 : M56 103 1 = M 103 14 := by rw [yk 1 (by omega)]; exact z0.2.1
          have e2 : M56 103 2 = M 103 15 := by rw [yk 2 (by omega)]; exact z0.2.2.1
          have mb := Int.mul_le_mul hj.1.2 hj.2.2 (by omega) (by omega)
          have mp := Int.mul_nonneg (show 0 ≤ M 103 14 by omega) (show 0 ≤ M 103 15 by omega)
          have o1 : zin ((M56 103 1) * (M56 103 2)) := by
            rw [e1, e2]; omega
          refine ⟨o1, ?_⟩
          refine hP _ _ ⟨?_, ?_, ?_⟩
          · show M 103 13 = 0 → ((M56 103 1) * (M56 103 2)) = -3 ∧ M56 = zset M 103 0 0  -- p1.hn
            intro h; exact absurd h h13
          · show ∀ c i, c ≠ 104 → c ≠ 105 → c ≠ 109 → ¬ (c = 103 ∧ (i = 0 ∨ i = 1 ∨ i = 2 ∨ i = 5 ∨ i = 7 ∨ i = 8 ∨ i = 9)) → M56 c i = M c i  -- p1.hf
            intro c i c1 c2 c3 c4; rw [y c i (by omega), k3 c i c1 c2 c3]; exact z c i (by omega)
          · show M 103 13 ≠ 0 → ((M56 103 1) * (M56 103 2)) = M 103 14 * M 103 15 ∧ (M56 103 0 = 0 ∧ M56 103 1 = M 103 14 ∧ M56 103 2 = M 103 15 ∧ M56 103 5 = M 103 18 ∧ M56 103 9 = M 103 19 ∧ M56 103 7 = 0 ∧ M56 103 8 = 0) ∧ (∀ i, 0 ≤ i → i < 192 → M56 104 i = M 110 i) ∧ (∀ i, 0 ≤ i → i < 16 → M56 105 i = M 111 i) ∧ ∀ i, 0 ≤ i → i < 12 → M56 109 i = M 112 i  -- p1.hy
            intro _
            refine ⟨by rw [e1, e2], ⟨?_, e1, e2, ?_, ?_, ?_, ?_⟩, fun i i0 i1 => ?_, fun i i0 i1 => ?_, fun i i0 i1 => ?_⟩
            · rw [yk 0 (by omega)]; exact z0.1
            · rw [yk 5 (by omega)]; exact z0.2.2.2.1
            · rw [yk 9 (by omega)]; exact z0.2.2.2.2
            · rw [e_M56, zset_n _ (by omega), e_M53, zset_s]
            · rw [e_M56, zset_s]
            · rw [y 104 i (by omega)]; exact g7 i i0 i1
            · rw [y 105 i (by omega)]; exact g8 i i0 i1
            · rw [y 109 i (by omega)]; exact g9 i i0 (by omega)
        · -- b4.2
          have o2 : ((0 : Int) ≤ v41 ∧ v41 < 12) := by
            first | with_reducible assumption | omega | exact trivial | with_reducible rfl  -- o2
          refine ⟨o2, ?_⟩
          have o3 : ((M43 112 v41) = 0 ∨ (M43 112 v41) = 1) := by
            rw [k3 112 v41 (by decide) (by decide) (by decide), z 112 v41 (by omega)]; exact hb v41 hx.1 (by omega)
          refine ⟨o3, ?_⟩
          intro M62 e_M62
          have o4 : zin (v41 + 1) := by
            first | with_reducible assumption | omega | exact trivial | with_reducible rfl  -- o4
          refine ⟨o4, ?_⟩
          refine ⟨Int.toNat (12 - (v41 + 1)), by omega, by omega, ?_, ?_, ?_, ?_, ?_⟩
          · show 0 ≤ (v41 + 1) ∧ (v41 + 1) ≤ 12  -- I102.1.hx
            first | with_reducible assumption | omega | exact trivial | with_reducible rfl
          · show ∀ c i, c ≠ 104 → c ≠ 105 → c ≠ 109 → M62 c i = M14 c i  -- I102.1.k3
            intro c i c1 c2 c3; rw [e_M62, zset_n _ (by omega)]; exact k3 c i c1 c2 c3
          · show ∀ i, 0 ≤ i → i < 192 → M62 104 i = M 110 i  -- I102.1.g7
            intro i i0 i1; rw [e_M62, zset_n _ (by omega)]; exact g7 i i0 i1
          · show ∀ i, 0 ≤ i → i < 16 → M62 105 i = M 111 i  -- I102.1.g8
            intro i i0 i1; rw [e_M62, zset_n _ (by omega)]; exact g8 i i0 i1
          · show ∀ i, 0 ≤ i → i < (v41 + 1) → M62 109 i = M 112 i  -- I102.1.g9
            intro i i0 i1
            by_cases c : i = v41
            · rw [c, e_M62, zset_s, k3 112 v41 (by decide) (by decide) (by decide), z 112 v41 (by omega)]
            · rw [e_M62, zset_n _ (by omega)]; exact g9 i i0 (by omega)
      · -- b3.2
        have o5 : ((0 : Int) ≤ v29 ∧ v29 < 16) := by
          first | with_reducible assumption | omega | exact trivial | with_reducible rfl  -- o5
        refine ⟨o5, ?_⟩
        intro M70 e_M70
        have o6 : zin (v29 + 1) := by
          first | with_reducible assumption | omega | exact trivial | with_reducible rfl  -- o6
        refine ⟨o6, ?_⟩
        refine ⟨Int.toNat (16 - (v29 + 1)), by omega, by omega, ?_, ?_, ?_, ?_⟩
        · show 0 ≤ (v29 + 1) ∧ (v29 + 1) ≤ 16  -- I76.1.hw
          first | with_reducible assumption | omega | exact trivial | with_reducible rfl
        · show ∀ c i, c ≠ 104 → c ≠ 105 → M70 c i = M14 c i  -- I76.1.k2
          intro c i c1 c2; rw [e_M70, zset_n _ (by omega)]; exact k2 c i c1 c2
        · show ∀ i, 0 ≤ i → i < 192 → M70 104 i = M 110 i  -- I76.1.g5
          intro i i0 i1; rw [e_M70, zset_n _ (by omega)]; exact g5 i i0 i1
        · show ∀ i, 0 ≤ i → i < (v29 + 1) → M70 105 i = M 111 i  -- I76.1.g6
          intro i i0 i1
          by_cases c : i = v29
          · rw [c, e_M70, zset_s, k2 111 v29 (by decide) (by decide), z 111 v29 (by omega)]
          · rw [e_M70, zset_n _ (by omega)]; exact g6 i i0 (by omega)
    · -- b2.2
      have o7 : ((0 : Int) ≤ v17 ∧ v17 < 192) := by
        first | with_reducible assumption | omega | exact trivial | with_reducible rfl  -- o7
      refine ⟨o7, ?_⟩
      intro M78 e_M78
      have o8 : zin (v17 + 1) := by
        first | with_reducible assumption | omega | exact trivial | with_reducible rfl  -- o8
      refine ⟨o8, ?_⟩
      refine ⟨Int.toNat (192 - (v17 + 1)), by omega, by omega, ?_, ?_, ?_⟩
      · show 0 ≤ (v17 + 1) ∧ (v17 + 1) ≤ 192  -- I49.1.hv
        first | with_reducible assumption | omega | exact trivial | with_reducible rfl
      · show ∀ c i, c ≠ 104 → M78 c i = M14 c i  -- I49.1.k1
        intro c i c1; rw [e_M78, zset_n _ (by omega)]; exact k1 c i c1
      · show ∀ i, 0 ≤ i → i < (v17 + 1) → M78 104 i = M 110 i  -- I49.1.g4
        intro i i0 i1
        by_cases c : i = v17
        · rw [c, e_M78, zset_s, k1 110 v17 (by decide), z 110 v17 (by omega)]
        · rw [e_M78, zset_n _ (by omega)]; exact g4 i i0 (by omega)
  · -- b1.2
    refine hP _ _ ⟨?_, ?_, ?_⟩
    · show M 103 13 = 0 → (-3) = -3 ∧ M1 = zset M 103 0 0  -- p2.hn
      intro _; exact ⟨rfl, e_M1⟩
    · show ∀ c i, c ≠ 104 → c ≠ 105 → c ≠ 109 → ¬ (c = 103 ∧ (i = 0 ∨ i = 1 ∨ i = 2 ∨ i = 5 ∨ i = 7 ∨ i = 8 ∨ i = 9)) → M1 c i = M c i  -- p2.hf
      intro c i _ _ _ k; rw [e_M1, zset_n _ (by omega)]
    · show M 103 13 ≠ 0 → (-3) = M 103 14 * M 103 15 ∧ (M1 103 0 = 0 ∧ M1 103 1 = M 103 14 ∧ M1 103 2 = M 103 15 ∧ M1 103 5 = M 103 18 ∧ M1 103 9 = M 103 19 ∧ M1 103 7 = 0 ∧ M1 103 8 = 0) ∧ (∀ i, 0 ≤ i → i < 192 → M1 104 i = M 110 i) ∧ (∀ i, 0 ≤ i → i < 16 → M1 105 i = M 111 i) ∧ ∀ i, 0 ≤ i → i < 12 → M1 109 i = M 112 i  -- p2.hy
      intro h; exact absurd (q13.symm.trans b1) h

