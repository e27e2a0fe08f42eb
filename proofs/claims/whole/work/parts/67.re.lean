abbrev pr_X11_restore (M : zM) : Prop := (M 0 12 ≠ 0 → (1 ≤ M 99 0 ∧ M 99 0 ≤ 16) ∧ (1 ≤ M 99 1 ∧ M 99 1 ≤ 12)) ∧ (0 ≤ M 1 3 ∧ M 1 3 < 1000000000) ∧ (∀ i, 0 ≤ i → i < 192 → 0 ≤ M 100 i ∧ M 100 i ≤ 15) ∧ (∀ k, 0 ≤ k → k < 12 → M 73 k = 0 ∨ M 73 k = 1)
abbrev po_X11_restore (M : zM) (r : Int) (M' : zM) : Prop := (M 0 12 = 0 → r = -3 ∧ M' = M) ∧ (∀ c i, c ≠ 2 → c ≠ 3 → c ≠ 72 → ¬ (c = 1 ∧ (i = 0 ∨ i = 1 ∨ i = 2 ∨ i = 3)) → ¬ (c = 57 ∧ i = 0) → ¬ (c = 77 ∧ (i = 0 ∨ i = 1)) → M' c i = M c i) ∧ (M 0 12 ≠ 0 → r = M 99 0 * M 99 1 ∧ (M' 1 0 = M 99 0 ∧ M' 1 1 = M 99 1 ∧ M' 1 2 = M 99 2 ∧ M' 1 3 = M 1 3 + 1) ∧ (M' 57 0 = M 57 4 ∧ M' 77 0 = 0 ∧ M' 77 1 = 0) ∧ (∀ i, 0 ≤ i → i < 192 → M' 2 i = M 100 i) ∧ (∀ i, 0 ≤ i → i < 16 → M' 3 i = M 101 i) ∧ ∀ k, 0 ≤ k → k < 12 → M' 72 k = M 73 k)
set_option maxHeartbeats 1000000 in
theorem ok_X11_restore : zSnd zS 145 0 0 yX11_restore cX11_restore 1 (some .int) 2 [2] (F_X11_restore pr_X11_restore po_X11_restore) := by
  refine (sn_X11_restore ok_X0_takeFrom_a ok_X8_bringBack ok_X3_forget ok_X0_dots).mono ?_
  rintro xs P M hz hR ⟨rfl, ⟨hi, hv, hq, hb⟩, hP⟩
  refine ⟨rfl, ?_⟩
  change vc_X11_restore pr_X0_takeFrom_a po_X0_takeFrom_a pr_X8_bringBack po_X8_bringBack pr_X3_forget po_X3_forget pr_X0_dots po_X0_dots P M
  unfold vc_X11_restore
  refine ⟨fun b1 => ?_, fun b1 => ?_⟩
  · -- b1.1
    have hj := hi b1
    have gc1 : pr_X0_takeFrom_a M := by
      refine ⟨?_, ?_⟩
      · show 0 ≤ M 1 3 ∧ M 1 3 < 1000000000  -- c1.hv
        first | with_reducible assumption | omega | exact trivial | with_reducible rfl
      · show ∀ i, 0 ≤ i → i < 192 → 0 ≤ M 100 i ∧ M 100 i ≤ 15  -- c1.hq
        first | with_reducible assumption | omega | exact trivial | with_reducible rfl
    refine ⟨gc1, ?_⟩
    rintro M2 ⟨pc1_hf, pc1_h0, pc1_h2, pc1_h3⟩ z_M2
    have gc2 : pr_X8_bringBack M2 := by
      show ∀ k, 0 ≤ k → k < 12 → M2 73 k = 0 ∨ M2 73 k = 1
      intro k k0 k1; rw [pc1_hf 73 k (by decide) (by decide) (by omega)]; exact hb k k0 k1
    refine ⟨gc2, ?_⟩
    rintro M7 ⟨pc2_hf, pc2_h4, pc2_hk⟩ z_M7
    have gc3 : pr_X3_forget M7 := trivial
    refine ⟨gc3, ?_⟩
    rintro M12 ⟨pc3_hf, pc3_h0⟩ z_M12
    have t : ∀ c i, c ≠ 72 → ¬ (c = 57 ∧ i = 0) → ¬ (c = 77 ∧ (i = 0 ∨ i = 1)) → M12 c i = M2 c i := fun c i c1 c2 c3 => by rw [pc3_hf c i c3, pc2_hf c i c1 c2]
    have t0 : M12 1 0 = M 99 0 := (t 1 0 (by decide) (by omega) (by omega)).trans pc1_h0.1
    have t1 : M12 1 1 = M 99 1 := (t 1 1 (by decide) (by omega) (by omega)).trans pc1_h0.2.1
    have t2 : M12 1 2 = M 99 2 := (t 1 2 (by decide) (by omega) (by omega)).trans pc1_h0.2.2.1
    have t3 : M12 1 3 = M 1 3 + 1 := (t 1 3 (by decide) (by omega) (by omega)).trans pc1_h0.2.2.2
    have gc4 : pr_X0_dots M12 := by
      show bDim M12
      show bDim M12
      unfold bDim
      rw [t0, t1]
      omega
    refine ⟨gc4, ?_⟩
    rintro r17 M18 ⟨q_rfl, e_r17⟩ z_r17 z_M18
    have q_rfl := q_rfl.symm
    subst q_rfl
    refine hP _ _ ⟨?_, ?_, ?_⟩
    · show M 0 12 = 0 → r17 = -3 ∧ M12 = M  -- p1.hn
      intro h; exact absurd h b1
    · show ∀ c i, c ≠ 2 → c ≠ 3 → c ≠ 72 → ¬ (c = 1 ∧ (i = 0 ∨ i = 1 ∨ i = 2 ∨ i = 3)) → ¬ (c = 57 ∧ i = 0) → ¬ (c = 77 ∧ (i = 0 ∨ i = 1)) → M12 c i = M c i  -- p1.hf
      intro c i c1 c2 c3 c4 c5 c6; rw [t c i c3 c5 c6, pc1_hf c i c1 c2 c4]
    · show M 0 12 ≠ 0 → r17 = M 99 0 * M 99 1 ∧ (M12 1 0 = M 99 0 ∧ M12 1 1 = M 99 1 ∧ M12 1 2 = M 99 2 ∧ M12 1 3 = M 1 3 + 1) ∧ (M12 57 0 = M 57 4 ∧ M12 77 0 = 0 ∧ M12 77 1 = 0) ∧ (∀ i, 0 ≤ i → i < 192 → M12 2 i = M 100 i) ∧ (∀ i, 0 ≤ i → i < 16 → M12 3 i = M 101 i) ∧ ∀ k, 0 ≤ k → k < 12 → M12 72 k = M 73 k  -- p1.hy
      intro _
      refine ⟨by rw [e_r17, t0, t1], ⟨t0, t1, t2, t3⟩, ⟨?_, pc3_h0.1, pc3_h0.2⟩, fun i i0 i1 => ?_, fun i i0 i1 => ?_, fun k k0 k1 => ?_⟩
      · rw [pc3_hf 57 0 (by omega), pc2_h4, pc1_hf 57 4 (by decide) (by decide) (by omega)]
      · rw [t 2 i (by decide) (by omega) (by omega)]; exact pc1_h2 i i0 i1
      · rw [t 3 i (by decide) (by omega) (by omega)]; exact pc1_h3 i i0 i1
      · rw [pc3_hf 72 k (by omega), pc2_hk k k0 k1, pc1_hf 73 k (by decide) (by decide) (by omega)]
  · -- b1.2
    refine hP _ _ ⟨?_, ?_, ?_⟩
    · show M 0 12 = 0 → (-3) = -3 ∧ M = M  -- p2.hn
      intro _; exact ⟨rfl, rfl⟩
    · show ∀ c i, c ≠ 2 → c ≠ 3 → c ≠ 72 → ¬ (c = 1 ∧ (i = 0 ∨ i = 1 ∨ i = 2 ∨ i = 3)) → ¬ (c = 57 ∧ i = 0) → ¬ (c = 77 ∧ (i = 0 ∨ i = 1)) → M c i = M c i  -- p2.hf
      intro c i _ _ _ _ _ _; rfl
    · show M 0 12 ≠ 0 → (-3) = M 99 0 * M 99 1 ∧ (M 1 0 = M 99 0 ∧ M 1 1 = M 99 1 ∧ M 1 2 = M 99 2 ∧ M 1 3 = M 1 3 + 1) ∧ (M 57 0 = M 57 4 ∧ M 77 0 = 0 ∧ M 77 1 = 0) ∧ (∀ i, 0 ≤ i → i < 192 → M 2 i = M 100 i) ∧ (∀ i, 0 ≤ i → i < 16 → M 3 i = M 101 i) ∧ ∀ k, 0 ≤ k → k < 12 → M 72 k = M 73 k  -- p2.hy
      intro h; exact absurd b1 h

