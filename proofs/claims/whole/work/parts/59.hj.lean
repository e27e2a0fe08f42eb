abbrev pr_X3_stepBack (M : zM) : Prop := (1 ≤ M 77 0 ∧ M 77 0 ≤ 20) ∧ (0 ≤ M 77 1 ∧ M 77 1 ≤ 20) ∧ (0 ≤ M 77 2 ∧ M 77 2 < 20) ∧ (0 ≤ M 1 3 ∧ M 1 3 < 1000000000) ∧ (∀ i, 0 ≤ i → i < 192 → 0 ≤ M 2 i ∧ M 2 i ≤ 15) ∧ (∀ k i, 0 ≤ k → k < 20 → 0 ≤ i → i < 192 → 0 ≤ M (79 + k) i ∧ M (79 + k) i ≤ 15)
abbrev po_X3_stepBack (M : zM) (r : Int) (M' : zM) : Prop := (∀ c i, c ≠ 2 → c ≠ 4 → c ≠ 79 + (M 77 2 + (M 77 0 - 1)) % 20 → ¬ (c = 1 ∧ i = 3) → ¬ (c = 77 ∧ (i = 0 ∨ i = 1)) → M' c i = M c i) ∧ (∀ i, 0 ≤ i → i < 192 → M' 2 i = M (79 + (M 77 2 + (M 77 0 - 1)) % 20) i) ∧ (∀ i, 0 ≤ i → i < 192 → M' 4 i = M 2 i) ∧ (∀ i, 0 ≤ i → i < 192 → M' (79 + (M 77 2 + (M 77 0 - 1)) % 20) i = M 2 i) ∧ (M' 1 3 = M 1 3 + 1) ∧ (M' 77 0 = M 77 0 - 1 ∧ M' 77 1 = M 77 1 + 1) ∧ (r = zcnt (fun i => M' 4 i ≠ M' 2 i) 192)
set_option maxHeartbeats 1000000 in
theorem ok_X3_stepBack : zSnd zS 145 0 0 yX3_stepBack cX3_stepBack 2 (some .int) 3 [2, 2] (F_X3_stepBack pr_X3_stepBack po_X3_stepBack) := by
  refine (sn_X3_stepBack ok_X3_exchange).mono ?_
  rintro xs P M hz hR ⟨rfl, ⟨hu, h1, ho, hv, hc, hq⟩, hP⟩
  refine ⟨rfl, ?_⟩
  change vc_X3_stepBack pr_X3_exchange po_X3_exchange P M
  unfold vc_X3_stepBack
  have o1 : zin ((M 77 0) - 1) := by
    first | with_reducible assumption | omega | exact trivial | with_reducible rfl  -- o1
  refine ⟨o1, ?_⟩
  intro M2 e_M2
  have o2 : zin ((M2 77 1) + 1) := by
    rw [e_M2, zset_n _ (by omega)]; omega
  refine ⟨o2, ?_⟩
  intro M6 e_M6
  have q : ∀ c i, ¬ (c = 77 ∧ (i = 0 ∨ i = 1)) → M6 c i = M c i := fun c i k => by rw [e_M6, zset_n _ (by omega), e_M2, zset_n _ (by omega)]
  have q0 : M6 77 0 = M 77 0 - 1 := by rw [e_M6, zset_n _ (by omega), e_M2, zset_s]
  have q1 : M6 77 1 = M 77 1 + 1 := by rw [e_M6, zset_s, e_M2, zset_n _ (by omega)]
  have q2 : M6 77 2 = M 77 2 := q 77 2 (by omega)
  have kb : 0 ≤ (M 77 2 + (M 77 0 - 1)) % 20 ∧ (M 77 2 + (M 77 0 - 1)) % 20 < 20 := by omega
  have o3 : zin ((M6 77 2) + (M6 77 0)) := by
    first | with_reducible assumption | omega | exact trivial | with_reducible rfl  -- o3
  refine ⟨o3, ?_⟩
  have o4 : 0 ≤ ((M6 77 2) + (M6 77 0)) := by
    first | with_reducible assumption | omega | exact trivial | with_reducible rfl  -- o4
  refine ⟨o4, ?_⟩
  have gc1 : pr_X3_exchange (((M6 77 2) + (M6 77 0)) % 20) M6 := by
    refine ⟨?_, ?_, ?_, ?_⟩
    · show 0 ≤ (((M6 77 2) + (M6 77 0)) % 20) ∧ (((M6 77 2) + (M6 77 0)) % 20) < 20  -- c1.hk
      rw [q0, q2]; exact kb
    · show 0 ≤ M6 1 3 ∧ M6 1 3 < 1000000000  -- c1.hv
      rw [q 1 3 (by omega)]; exact hv
    · show ∀ i, 0 ≤ i → i < 192 → 0 ≤ M6 2 i ∧ M6 2 i ≤ 15  -- c1.hc
      intro i i0 i1; rw [q 2 i (by omega)]; exact hc i i0 i1
    · show ∀ i, 0 ≤ i → i < 192 → 0 ≤ M6 (79 + (((M6 77 2) + (M6 77 0)) % 20)) i ∧ M6 (79 + (((M6 77 2) + (M6 77 0)) % 20)) i ≤ 15  -- c1.hq
      intro i i0 i1; rw [q0, q2, q _ i (by omega)]; exact hq _ i kb.1 kb.2 i0 i1
  refine ⟨gc1, ?_⟩
  rintro r11 M12 ⟨pc1_hf, pc1_h2, pc1_h4, pc1_hr, pc1_h3, pc1_hn⟩ z_r11 z_M12
  rw [q0, q2] at pc1_hf pc1_h2 pc1_hr
  refine hP _ _ ⟨?_, ?_, ?_, ?_, ?_, ?_, ?_⟩
  · show ∀ c i, c ≠ 2 → c ≠ 4 → c ≠ 79 + (M 77 2 + (M 77 0 - 1)) % 20 → ¬ (c = 1 ∧ i = 3) → ¬ (c = 77 ∧ (i = 0 ∨ i = 1)) → M12 c i = M c i  -- p1.hf
    intro c i c1 c2 c3 c4 c5; rw [pc1_hf c i c1 c2 c3 c4, q c i c5]
  · show ∀ i, 0 ≤ i → i < 192 → M12 2 i = M (79 + (M 77 2 + (M 77 0 - 1)) % 20) i  -- p1.h2
    intro i i0 i1; rw [pc1_h2 i i0 i1, q _ i (by omega)]
  · show ∀ i, 0 ≤ i → i < 192 → M12 4 i = M 2 i  -- p1.h4
    intro i i0 i1; rw [pc1_h4 i i0 i1, q _ i (by omega)]
  · show ∀ i, 0 ≤ i → i < 192 → M12 (79 + (M 77 2 + (M 77 0 - 1)) % 20) i = M 2 i  -- p1.hr
    intro i i0 i1; rw [pc1_hr i i0 i1, q _ i (by omega)]
  · show M12 1 3 = M 1 3 + 1  -- p1.h3
    rw [pc1_h3, q 1 3 (by omega)]
  · show M12 77 0 = M 77 0 - 1 ∧ M12 77 1 = M 77 1 + 1  -- p1.h0
    rw [pc1_hf 77 0 (by decide) (by decide) (by omega) (by omega), pc1_hf 77 1 (by decide) (by decide) (by omega) (by omega), q0, q1]; exact ⟨rfl, rfl⟩
  · show r11 = zcnt (fun i => M12 4 i ≠ M12 2 i) 192  -- p1.hn
    first | with_reducible assumption | omega | exact trivial | with_reducible rfl

abbrev pr_X3_stepForth (M : zM) : Prop := (0 ≤ M 77 0 ∧ M 77 0 < 20) ∧ (1 ≤ M 77 1 ∧ M 77 1 ≤ 20) ∧ (0 ≤ M 77 2 ∧ M 77 2 < 20) ∧ (0 ≤ M 1 3 ∧ M 1 3 < 1000000000) ∧ (∀ i, 0 ≤ i → i < 192 → 0 ≤ M 2 i ∧ M 2 i ≤ 15) ∧ (∀ k i, 0 ≤ k → k < 20 → 0 ≤ i → i < 192 → 0 ≤ M (79 + k) i ∧ M (79 + k) i ≤ 15)
abbrev po_X3_stepForth (M : zM) (r : Int) (M' : zM) : Prop := (∀ c i, c ≠ 2 → c ≠ 4 → c ≠ 79 + (M 77 2 + M 77 0) % 20 → ¬ (c = 1 ∧ i = 3) → ¬ (c = 77 ∧ (i = 0 ∨ i = 1)) → M' c i = M c i) ∧ (∀ i, 0 ≤ i → i < 192 → M' 2 i = M (79 + (M 77 2 + M 77 0) % 20) i) ∧ (∀ i, 0 ≤ i → i < 192 → M' 4 i = M 2 i) ∧ (∀ i, 0 ≤ i → i < 192 → M' (79 + (M 77 2 + M 77 0) % 20) i = M 2 i) ∧ (M' 1 3 = M 1 3 + 1) ∧ (M' 77 0 = M 77 0 + 1 ∧ M' 77 1 = M 77 1 - 1) ∧ (r = zcnt (fun i => M' 4 i ≠ M' 2 i) 192)
set_option maxHeartbeats 1000000 in
theorem ok_X3_stepForth : zSnd zS 145 0 0 yX3_stepForth cX3_stepForth 3 (some .int) 3 [2, 2] (F_X3_stepForth pr_X3_stepForth po_X3_stepForth) := by
  refine (sn_X3_stepForth ok_X3_exchange).mono ?_
  rintro xs P M hz hR ⟨rfl, ⟨hu, h1, ho, hv, hc, hq⟩, hP⟩
  refine ⟨rfl, ?_⟩
  change vc_X3_stepForth pr_X3_exchange po_X3_exchange P M
  unfold vc_X3_stepForth
  have kb : 0 ≤ (M 77 2 + M 77 0) % 20 ∧ (M 77 2 + M 77 0) % 20 < 20 := by omega
  have o1 : zin ((M 77 2) + (M 77 0)) := by
    first | with_reducible assumption | omega | exact trivial | with_reducible rfl  -- o1
  refine ⟨o1, ?_⟩
  have o2 : 0 ≤ ((M 77 2) + (M 77 0)) := by
    first | with_reducible assumption | omega | exact trivial | with_reducible rfl  -- o2
  refine ⟨o2, ?_⟩
  have gc1 : pr_X3_exchange (((M 77 2) + (M 77 0)) % 20) M := by
    refine ⟨?_, ?_, ?_, ?_⟩
    · show 0 ≤ (((M 77 2) + (M 77 0)) % 20) ∧ (((M 77 2) + (M 77 0)) % 20) < 20  -- c1.hk
      first | with_reducible assumption | omega | exact trivial | with_reducible rfl
    · show 0 ≤ M 1 3 ∧ M 1 3 < 1000000000  -- c1.hv
      first | with_reducible assumption | omega | exact trivial | with_reducible rfl
    · show ∀ i, 0 ≤ i → i < 192 → 0 ≤ M 2 i ∧ M 2 i ≤ 15  -- c1.hc
      first | with_reducible assumption | omega | exact trivial | with_reducible rfl
    · show ∀ i, 0 ≤ i → i < 192 → 0 ≤ M (79 + (((M 77 2) + (M 77 0)) % 20)) i ∧ M (79 + (((M 77 2) + (M 77 0)) % 20)) i ≤ 15  -- c1.hq
      intro i i0 i1; exact hq _ i kb.1 kb.2 i0 i1
  refine ⟨gc1, ?_⟩
  rintro r3 M4 ⟨pc1_hf, pc1_h2, pc1_h4, pc1_hr, pc1_h3, pc1_hn⟩ z_r3 z_M4
  have t0 : M4 77 0 = M 77 0 := pc1_hf 77 0 (by decide) (by decide) (by omega) (by omega)
  have t1 : M4 77 1 = M 77 1 := pc1_hf 77 1 (by decide) (by decide) (by omega) (by omega)
  have o3 : zin ((M4 77 0) + 1) := by
    first | with_reducible assumption | omega | exact trivial | with_reducible rfl  -- o3
  refine ⟨o3, ?_⟩
  intro M10 e_M10
  have o4 : zin ((M10 77 1) - 1) := by
    rw [e_M10, zset_n _ (by omega)]; omega
  refine ⟨o4, ?_⟩
  intro M14 e_M14
  have q : ∀ c i, ¬ (c = 77 ∧ (i = 0 ∨ i = 1)) → M14 c i = M4 c i := fun c i k => by rw [e_M14, zset_n _ (by omega), e_M10, zset_n _ (by omega)]
  have q0 : M14 77 0 = M 77 0 + 1 := by rw [e_M14, zset_n _ (by omega), e_M10, zset_s, t0]
  have q1 : M14 77 1 = M 77 1 - 1 := by rw [e_M14, zset_s, e_M10, zset_n _ (by omega), t1]
  have r4 : M14 4 = M4 4 := funext fun i => q 4 i (by omega)
  have r2 : M14 2 = M4 2 := funext fun i => q 2 i (by omega)
  refine hP _ _ ⟨?_, ?_, ?_, ?_, ?_, ?_, ?_⟩
  · show ∀ c i, c ≠ 2 → c ≠ 4 → c ≠ 79 + (M 77 2 + M 77 0) % 20 → ¬ (c = 1 ∧ i = 3) → ¬ (c = 77 ∧ (i = 0 ∨ i = 1)) → M14 c i = M c i  -- p1.hf
    intro c i c1 c2 c3 c4 c5; rw [q c i c5, pc1_hf c i c1 c2 c3 c4]
  · show ∀ i, 0 ≤ i → i < 192 → M14 2 i = M (79 + (M 77 2 + M 77 0) % 20) i  -- p1.h2
    rw [r2]; exact pc1_h2
  · show ∀ i, 0 ≤ i → i < 192 → M14 4 i = M 2 i  -- p1.h4
    rw [r4]; exact pc1_h4
  · show ∀ i, 0 ≤ i → i < 192 → M14 (79 + (M 77 2 + M 77 0) % 20) i = M 2 i  -- p1.hr
    intro i i0 i1; rw [q _ i (by omega)]; exact pc1_hr i i0 i1
  · show M14 1 3 = M 1 3 + 1  -- p1.h3
    rw [q 1 3 (by omega)]; exact pc1_h3
  · show M14 77 0 = M 77 0 + 1 ∧ M14 77 1 = M 77 1 - 1  -- p1.h0
    first | with_reducible assumption | omega | exact trivial | with_reducible rfl
  · show r3 = zcnt (fun i => M14 4 i ≠ M14 2 i) 192  -- p1.hn
    rw [r4, r2]; exact pc1_hn

