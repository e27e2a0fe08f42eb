abbrev pr_X12_image (M : zM) : Prop := (mDim M) ∧ (∀ k, 0 ≤ k → k < 12 → M 109 k = 0 ∨ M 109 k = 1)
abbrev po_X12_image (M : zM) (r : Int) (M' : zM) : Prop := (r = M 103 1 * M 103 2) ∧ (∀ c i, c ≠ 110 → c ≠ 111 → c ≠ 112 → ¬ (c = 103 ∧ (i = 0 ∨ i = 13 ∨ i = 14 ∨ i = 15 ∨ i = 18 ∨ i = 19)) → M' c i = M c i) ∧ (M' 103 0 = 0 ∧ M' 103 13 = 1 ∧ M' 103 14 = M 103 1 ∧ M' 103 15 = M 103 2 ∧ M' 103 18 = M 103 5 ∧ M' 103 19 = M 103 9) ∧ (∀ i, 0 ≤ i → i < 192 → M' 110 i = M 104 i) ∧ (∀ i, 0 ≤ i → i < 16 → M' 111 i = M 105 i) ∧ (∀ i, 0 ≤ i → i < 12 → M' 112 i = M 109 i)
set_option maxHeartbeats 1000000 in
theorem ok_X12_image : zSnd zS 145 0 0 yX12_image cX12_image 2 (some .int) 0 [2] (F_X12_image pr_X12_image po_X12_image) := by
  refine (sn_X12_image).mono ?_
  rintro xs P M hz hR ⟨rfl, ⟨hd, hb⟩, hP⟩
  refine ⟨rfl, ?_⟩
  change vc_X12_image P M
  unfold vc_X12_image
  intro M1 e_M1
  intro M4 e_M4
  intro M7 e_M7
  intro M10 e_M10
  intro M13 e_M13
  intro M16 e_M16
  have z : ∀ c i, ¬ (c = 103 ∧ (i = 0 ∨ i = 13 ∨ i = 14 ∨ i = 15 ∨ i = 18 ∨ i = 19)) → M16 c i = M c i := fun c i k => by rw [e_M16, zset_n _ (by omega), e_M13, zset_n _ (by omega), e_M10, zset_n _ (by omega), e_M7, zset_n _ (by omega), e_M4, zset_n _ (by omega), e_M1, zset_n _ (by omega)]
  have z0 : M16 103 0 = 0 ∧ M16 103 13 = 1 ∧ M16 103 14 = M 103 1 ∧ M16 103 15 = M 103 2 ∧ M16 103 18 = M 103 5 ∧ M16 103 19 = M 103 9 := by
    refine ⟨?_, ?_, ?_, ?_, ?_, ?_⟩
    · rw [e_M16, zset_n _ (by omega), e_M13, zset_n _ (by omega), e_M10, zset_n _ (by omega), e_M7, zset_n _ (by omega), e_M4, zset_n _ (by omega), e_M1, zset_s]
    · rw [e_M16, zset_n _ (by omega), e_M13, zset_n _ (by omega), e_M10, zset_n _ (by omega), e_M7, zset_n _ (by omega), e_M4, zset_s]
    · rw [e_M16, zset_n _ (by omega), e_M13, zset_n _ (by omega), e_M10, zset_n _ (by omega), e_M7, zset_s, e_M4, zset_n _ (by omega), e_M1, zset_n _ (by omega)]
    · rw [e_M16, zset_n _ (by omega), e_M13, zset_n _ (by omega), e_M10, zset_s, e_M7, zset_n _ (by omega), e_M4, zset_n _ (by omega), e_M1, zset_n _ (by omega)]
    · rw [e_M16, zset_n _ (by omega), e_M13, zset_s, e_M10, zset_n _ (by omega), e_M7, zset_n _ (by omega), e_M4, zset_n _ (by omega), e_M1, zset_n _ (by omega)]
    · rw [e_M16, zset_s, e_M13, zset_n _ (by omega), e_M10, zset_n _ (by omega), e_M7, zset_n _ (by omega), e_M4, zset_n _ (by omega), e_M1, zset_n _ (by omega)]
  refine ⟨fun v19 M21 n23 => (n23 : Int) = (192 - v19) ∧ (0 ≤ v19 ∧ v19 ≤ 192) ∧ (∀ c i, c ≠ 110 → M21 c i = M16 c i) ∧ (∀ i, 0 ≤ i → i < v19 → M21 110 i = M 104 i), ⟨Int.toNat (192 - 0), by omega, ?_, ?_, ?_⟩, ?_⟩
  · show 0 ≤ 0 ∧ 0 ≤ 192  -- I44.0.hv
    first | with_reducible assumption | omega | exact trivial | with_reducible rfl
  · show ∀ c i, c ≠ 110 → M16 c i = M16 c i  -- I44.0.k1
    first | with_reducible assumption | omega | exact trivial | with_reducible rfl
  · show ∀ i, 0 ≤ i → i < 0 → M16 110 i = M 104 i  -- I44.0.g4
    intro i i0 i1; omega
  rintro v19 M21 n23 ⟨h_n23, hv, k1, g4⟩ z_v19 z_M21
  refine ⟨fun b1 => ?_, fun b1 => ?_⟩
  · -- b1.1
    refine ⟨fun v31 M33 n35 => (n35 : Int) = (16 - v31) ∧ (0 ≤ v31 ∧ v31 ≤ 16) ∧ (∀ c i, c ≠ 110 → c ≠ 111 → M33 c i = M16 c i) ∧ (∀ i, 0 ≤ i → i < 192 → M33 110 i = M 104 i) ∧ (∀ i, 0 ≤ i → i < v31 → M33 111 i = M 105 i), ⟨Int.toNat (16 - 0), by omega, ?_, ?_, ?_, ?_⟩, ?_⟩
    · show 0 ≤ 0 ∧ 0 ≤ 16  -- I71.0.hw
      first | with_reducible assumption | omega | exact trivial | with_reducible rfl
    · show ∀ c i, c ≠ 110 → c ≠ 111 → M21 c i = M16 c i  -- I71.0.k2
      intro c i c1 c2; exact k1 c i c1
    · show ∀ i, 0 ≤ i → i < 192 → M21 110 i = M 104 i  -- I71.0.g5
      intro i i0 i1; exact g4 i i0 (by omega)
    · show ∀ i, 0 ≤ i → i < 0 → M21 111 i = M 105 i  -- I71.0.g6
      intro i i0 i1; omega
    rintro v31 M33 n35 ⟨h_n35, hw, k2, g5, g6⟩ z_v31 z_M33
    refine ⟨fun b2 => ?_, fun b2 => ?_⟩
    · -- b2.1
      refine ⟨fun v43 M45 n47 => (n47 : Int) = (12 - v43) ∧ (0 ≤ v43 ∧ v43 ≤ 12) ∧ (∀ c i, c ≠ 110 → c ≠ 111 → c ≠ 112 → M45 c i = M16 c i) ∧ (∀ i, 0 ≤ i → i < 192 → M45 110 i = M 104 i) ∧ (∀ i, 0 ≤ i → i < 16 → M45 111 i = M 105 i) ∧ (∀ i, 0 ≤ i → i < v43 → M45 112 i = M 109 i), ⟨Int.toNat (12 - 0), by omega, ?_, ?_, ?_, ?_, ?_⟩, ?_⟩
      · show 0 ≤ 0 ∧ 0 ≤ 12  -- I97.0.hx
        first | with_reducible assumption | omega | exact trivial | with_reducible rfl
      · show ∀ c i, c ≠ 110 → c ≠ 111 → c ≠ 112 → M33 c i = M16 c i  -- I97.0.k3
        intro c i c1 c2 c3; exact k2 c i c1 c2
      · show ∀ i, 0 ≤ i → i < 192 → M33 110 i = M 104 i  -- I97.0.g7
        first | with_reducible assumption | omega | exact trivial | with_reducible rfl
      · show ∀ i, 0 ≤ i → i < 16 → M33 111 i = M 105 i  -- I97.0.g8
        intro i i0 i1; exact g6 i i0 (by omega)
      · show ∀ i, 0 ≤ i → i < 0 → M33 112 i = M 109 i  -- I97.0.g9
        intro i i0 i1; omega
      rintro v43 M45 n47 ⟨h_n47, hx, k3, g7, g8, g9⟩ z_v43 z_M45
      refine ⟨fun b3 => ?_, fun b3 => ?_⟩
      · -- b3.1
        have e1 : M45 103 1 = M 103 1 := by rw [k3 103 1 (by decide) (by decide) (by decide), z 103 1 (by omega)]
        have e2 : M45 103 2 = M 103 2 := by rw [k3 103 2 (by decide) (by decide) (by decide), z 103 2 (by omega)]
        have hd' : mDim M := hd
        have mb := Int.mul_le_mul (show M 103 1 ≤ 16 by omega) (show M 103 2 ≤ 12 by omega) (by omega) (by omega)
        have mp := Int.mul_nonneg (show 0 ≤ M 103 1 by omega) (show 0 ≤ M 103 2 by omega)
        have o1 : zin ((M45 103 1) * (M45 103 2)) := by
          rw [e1, e2]; omega
        refine ⟨o1, ?_⟩
        refine hP _ _ ⟨?_, ?_, ?_, ?_, ?_, ?_⟩
        · show ((M45 103 1) * (M45 103 2)) = M 103 1 * M 103 2  -- p1.hr
          rw [e1, e2]
        · show ∀ c i, c ≠ 110 → c ≠ 111 → c ≠ 112 → ¬ (c = 103 ∧ (i = 0 ∨ i = 13 ∨ i = 14 ∨ i = 15 ∨ i = 18 ∨ i = 19)) → M45 c i = M c i  -- p1.hf
          intro c i c1 c2 c3 c4; rw [k3 c i c1 c2 c3]; exact z c i c4
        · show M45 103 0 = 0 ∧ M45 103 13 = 1 ∧ M45 103 14 = M 103 1 ∧ M45 103 15 = M 103 2 ∧ M45 103 18 = M 103 5 ∧ M45 103 19 = M 103 9  -- p1.h0
          rw [k3 103 0 (by decide) (by decide) (by decide), k3 103 13 (by decide) (by decide) (by decide), k3 103 14 (by decide) (by decide) (by decide), k3 103 15 (by decide) (by decide) (by decide), k3 103 18 (by decide) (by decide) (by decide), k3 103 19 (by decide) (by decide) (by decide)]; exact z0
        · show ∀ i, 0 ≤ i → i < 192 → M45 110 i = M 104 i  -- p1.h4
          first | with_reducible assumption | omega | exact trivial | with_reducible rfl
        · show ∀ i, 0 ≤ i → i < 16 → M45 111 i = M 105 i  -- p1.h5
          first | with_reducible assumption | omega | exact trivial | with_reducible rfl
        · show ∀ i, 0 ≤ i → i < 12 → M45 112 i = M 109 i  -- p1.h9
          intro i i0 i1; exact g9 i i0 (by omega)
      · -- b3.2
        have o2 : ((0 : Int) ≤ v43 ∧ v43 < 12) := by
          first | with_reducible assumption | omega | exact trivial | with_reducible rfl  -- o2
        refine ⟨o2, ?_⟩
        have o3 : ((M45 109 v43) = 0 ∨ (M45 109 v43) = 1) := by
          rw [k3 109 v43 (by decide) (by decide) (by decide), z 109 v43 (by omega)]; exact hb v43 hx.1 (by omega)
        refine ⟨o3, ?_⟩
        intro M58 e_M58
        have o4 : zin (v43 + 1) := by
          first | with_reducible assumption | omega | exact trivial | with_reducible rfl  -- o4
        refine ⟨o4, ?_⟩
        refine ⟨Int.toNat (12 - (v43 + 1)), by omega, by omega, ?_, ?_, ?_, ?_, ?_⟩
        · show 0 ≤ (v43 + 1) ∧ (v43 + 1) ≤ 12  -- I97.1.hx
          first | with_reducible assumption | omega | exact trivial | with_reducible rfl
        · show ∀ c i, c ≠ 110 → c ≠ 111 → c ≠ 112 → M58 c i = M16 c i  -- I97.1.k3
          intro c i c1 c2 c3; rw [e_M58, zset_n _ (by omega)]; exact k3 c i c1 c2 c3
        · show ∀ i, 0 ≤ i → i < 192 → M58 110 i = M 104 i  -- I97.1.g7
          intro i i0 i1; rw [e_M58, zset_n _ (by omega)]; exact g7 i i0 i1
        · show ∀ i, 0 ≤ i → i < 16 → M58 111 i = M 105 i  -- I97.1.g8
          intro i i0 i1; rw [e_M58, zset_n _ (by omega)]; exact g8 i i0 i1
        · show ∀ i, 0 ≤ i → i < (v43 + 1) → M58 112 i = M 109 i  -- I97.1.g9
          intro i i0 i1
          by_cases c : i = v43
          · rw [c, e_M58, zset_s, k3 109 v43 (by decide) (by decide) (by decide), z 109 v43 (by omega)]
          · rw [e_M58, zset_n _ (by omega)]; exact g9 i i0 (by omega)
    · -- b2.2
      have o5 : ((0 : Int) ≤ v31 ∧ v31 < 16) := by
        first | with_reducible assumption | omega | exact trivial | with_reducible rfl  -- o5
      refine ⟨o5, ?_⟩
      intro M66 e_M66
      have o6 : zin (v31 + 1) := by
        first | with_reducible assumption | omega | exact trivial | with_reducible rfl  -- o6
      refine ⟨o6, ?_⟩
      refine ⟨Int.toNat (16 - (v31 + 1)), by omega, by omega, ?_, ?_, ?_, ?_⟩
      · show 0 ≤ (v31 + 1) ∧ (v31 + 1) ≤ 16  -- I71.1.hw
        first | with_reducible assumption | omega | exact trivial | with_reducible rfl
      · show ∀ c i, c ≠ 110 → c ≠ 111 → M66 c i = M16 c i  -- I71.1.k2
        intro c i c1 c2; rw [e_M66, zset_n _ (by omega)]; exact k2 c i c1 c2
      · show ∀ i, 0 ≤ i → i < 192 → M66 110 i = M 104 i  -- I71.1.g5
        intro i i0 i1; rw [e_M66, zset_n _ (by omega)]; exact g5 i i0 i1
      · show ∀ i, 0 ≤ i → i < (v31 + 1) → M66 111 i = M 105 i  -- I71.1.g6
        intro i i0 i1
        by_cases c : i = v31
        · rw [c, e_M66, zset_s, k2 105 v31 (by decide) (by decide), z 105 v31 (by omega)]
        · rw [e_M66, zset_n _ (by omega)]; exact g6 i i0 (by omega)
  · -- b1.2
    have o7 : ((0 : Int) ≤ v19 ∧ v19 < 192) := by
      first | with_reducible assumption | omega | exact trivial | with_reducible rfl  -- o7
    refine ⟨o7, ?_⟩
    intro M74 e_M74
    have o8 : zin (v19 + 1) := by
      first | with_reducible assumption | omega | exact trivial | with_reducible rfl  -- o8
    refine ⟨o8, ?_⟩
    refine ⟨Int.toNat (192 - (v19 + 1)), by omega, by omega, ?_, ?_, ?_⟩
    · show 0 ≤ (v19 + 1) ∧ (v19 + 1) ≤ 192  -- I44.1.hv
      first | with_reducible assumption | omega | exact trivial | with_reducible rfl
    · show ∀ c i, c ≠ 110 → M74 c i = M16 c i  -- I44.1.k1
      intro c i c1; rw [e_M74, zset_n _ (by omega)]; exact k1 c i c1
    · show ∀ i, 0 ≤ i → i < (v19 + 1) → M74 110 i = M 104 i  -- I44.1.g4
      intro i i0 i1
      by_cases c : i = v19
      · rw [c, e_M74, zset_s, k1 104 v19 (by decide), z 104 v19 (by omega)]
      · rw [e_M74, zset_n _ (by omega)]; exact g4 i i0 (by omega)

