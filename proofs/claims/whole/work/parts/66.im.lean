abbrev pr_X11_image (M : zM) : Prop := (bDim M) ∧ (0 ≤ M 99 3 ∧ M 99 3 < 1000000000) ∧ (∀ i, 0 ≤ i → i < 192 → 0 ≤ M 2 i ∧ M 2 i ≤ 15) ∧ (∀ k, 0 ≤ k → k < 12 → M 72 k = 0 ∨ M 72 k = 1)
abbrev po_X11_image (M : zM) (r : Int) (M' : zM) : Prop := (r = M 1 0 * M 1 1) ∧ (∀ c i, c ≠ 100 → c ≠ 101 → c ≠ 73 → ¬ (c = 99 ∧ (i = 0 ∨ i = 1 ∨ i = 2 ∨ i = 3)) → ¬ (c = 57 ∧ i = 4) → ¬ (c = 0 ∧ i = 12) → M' c i = M c i) ∧ (M' 99 0 = M 1 0 ∧ M' 99 1 = M 1 1 ∧ M' 99 2 = M 1 2 ∧ M' 99 3 = M 99 3 + 1 ∧ M' 57 4 = M 57 0 ∧ M' 0 12 = 1) ∧ (∀ i, 0 ≤ i → i < 192 → M' 100 i = M 2 i) ∧ (∀ i, 0 ≤ i → i < 16 → M' 101 i = M 3 i) ∧ (∀ k, 0 ≤ k → k < 12 → M' 73 k = M 72 k)
set_option maxHeartbeats 1000000 in
theorem ok_X11_image : zSnd zS 145 0 0 yX11_image cX11_image 1 (some .int) 2 [2] (F_X11_image pr_X11_image po_X11_image) := by
  refine (sn_X11_image ok_X0_takeFrom_b ok_X8_takeImage ok_X0_dots).mono ?_
  rintro xs P M hz hR ⟨rfl, ⟨hd, hv, hc, hb⟩, hP⟩
  refine ⟨rfl, ?_⟩
  change vc_X11_image pr_X0_takeFrom_b po_X0_takeFrom_b pr_X8_takeImage po_X8_takeImage pr_X0_dots po_X0_dots P M
  unfold vc_X11_image
  have gc1 : pr_X0_takeFrom_b M := by
    refine ⟨?_, ?_⟩
    · show 0 ≤ M 99 3 ∧ M 99 3 < 1000000000  -- c1.hv
      first | with_reducible assumption | omega | exact trivial | with_reducible rfl
    · show ∀ i, 0 ≤ i → i < 192 → 0 ≤ M 2 i ∧ M 2 i ≤ 15  -- c1.hq
      first | with_reducible assumption | omega | exact trivial | with_reducible rfl
  refine ⟨gc1, ?_⟩
  rintro M1 ⟨pc1_hf, pc1_h0, pc1_h2, pc1_h3⟩ z_M1
  have gc2 : pr_X8_takeImage M1 := by
    show ∀ k, 0 ≤ k → k < 12 → M1 72 k = 0 ∨ M1 72 k = 1
    intro k k0 k1; rw [pc1_hf 72 k (by decide) (by decide) (by omega)]; exact hb k k0 k1
  refine ⟨gc2, ?_⟩
  rintro M6 ⟨pc2_hf, pc2_h4, pc2_hk⟩ z_M6
  intro M11 e_M11
  have w : ∀ c i, ¬ (c = 0 ∧ i = 12) → M11 c i = M6 c i := fun c i k => by rw [e_M11, zset_n _ (by omega)]
  have wa : ∀ c i, c ≠ 100 → c ≠ 101 → c ≠ 73 → ¬ (c = 99 ∧ (i = 0 ∨ i = 1 ∨ i = 2 ∨ i = 3)) → ¬ (c = 57 ∧ i = 4) → ¬ (c = 0 ∧ i = 12) → M11 c i = M c i := fun c i c1 c2 c3 c4 c5 c6 => by
    rw [w c i c6, pc2_hf c i c3 c5, pc1_hf c i c1 c2 c4]
  have a0 : M11 1 0 = M 1 0 := wa 1 0 (by decide) (by decide) (by decide) (by omega) (by omega) (by omega)
  have a1 : M11 1 1 = M 1 1 := wa 1 1 (by decide) (by decide) (by decide) (by omega) (by omega) (by omega)
  have gc3 : pr_X0_dots M11 := by
    show bDim M11
    unfold bDim at hd ⊢; rw [a0, a1]; exact hd
  refine ⟨gc3, ?_⟩
  rintro r14 M15 ⟨q_rfl, e_r14⟩ z_r14 z_M15
  have q_rfl := q_rfl.symm
  subst q_rfl
  refine hP _ _ ⟨?_, ?_, ?_, ?_, ?_, ?_⟩
  · show r14 = M 1 0 * M 1 1  -- p1.hr
    rw [e_r14, a0, a1]
  · show ∀ c i, c ≠ 100 → c ≠ 101 → c ≠ 73 → ¬ (c = 99 ∧ (i = 0 ∨ i = 1 ∨ i = 2 ∨ i = 3)) → ¬ (c = 57 ∧ i = 4) → ¬ (c = 0 ∧ i = 12) → M11 c i = M c i  -- p1.hf
    exact wa
  · show M11 99 0 = M 1 0 ∧ M11 99 1 = M 1 1 ∧ M11 99 2 = M 1 2 ∧ M11 99 3 = M 99 3 + 1 ∧ M11 57 4 = M 57 0 ∧ M11 0 12 = 1  -- p1.h0
    rw [w 99 0 (by omega), w 99 1 (by omega), w 99 2 (by omega), w 99 3 (by omega), w 57 4 (by omega), pc2_hf 99 0 (by decide) (by omega), pc2_hf 99 1 (by decide) (by omega), pc2_hf 99 2 (by decide) (by omega), pc2_hf 99 3 (by decide) (by omega), pc2_h4, pc1_hf 57 0 (by decide) (by decide) (by omega), e_M11, zset_s]
    exact ⟨pc1_h0.1, pc1_h0.2.1, pc1_h0.2.2.1, pc1_h0.2.2.2, rfl, rfl⟩
  · show ∀ i, 0 ≤ i → i < 192 → M11 100 i = M 2 i  -- p1.h2
    intro i i0 i1; rw [w 100 i (by omega), pc2_hf 100 i (by decide) (by omega)]; exact pc1_h2 i i0 i1
  · show ∀ i, 0 ≤ i → i < 16 → M11 101 i = M 3 i  -- p1.h3
    intro i i0 i1; rw [w 101 i (by omega), pc2_hf 101 i (by decide) (by omega)]; exact pc1_h3 i i0 i1
  · show ∀ k, 0 ≤ k → k < 12 → M11 73 k = M 72 k  -- p1.h7
    intro k k0 k1; rw [w 73 k (by omega), pc2_hk k k0 k1, pc1_hf 72 k (by decide) (by decide) (by omega)]

