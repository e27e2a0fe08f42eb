abbrev pr_X3_remember (M : zM) : Prop := (0 ≤ M 77 0 ∧ M 77 0 ≤ 20) ∧ (0 ≤ M 77 2 ∧ M 77 2 < 20) ∧ (∀ i, 0 ≤ i → i < 192 → 0 ≤ M 2 i ∧ M 2 i ≤ 15)
abbrev po_X3_remember (M : zM) (M' : zM) : Prop := (∀ c i, ¬ (79 ≤ c ∧ c ≤ 98) → ¬ (c = 77 ∧ (i = 0 ∨ i = 1 ∨ i = 2)) → M' c i = M c i) ∧ (M' 77 2 = if M 77 0 = 20 then (M 77 2 + 1) % 20 else M 77 2) ∧ (M' 77 0 = if M 77 0 = 20 then 20 else M 77 0 + 1) ∧ (M' 77 1 = 0) ∧ (∀ k i, 0 ≤ k → k < 20 → 0 ≤ i → i < 192 → M' (79 + k) i = if k = (M' 77 2 + M' 77 0 - 1) % 20 then M 2 i else M (79 + k) i)
set_option maxHeartbeats 1000000 in
theorem ok_X3_remember : zSnd zS 145 0 0 yX3_remember cX3_remember 2 none 1 [2, 2] (F_X3_remember pr_X3_remember po_X3_remember) := by
  refine (sn_X3_remember).mono ?_
  rintro xs P M hz hR ⟨rfl, ⟨hu, ho, hc⟩, hP⟩
  refine ⟨rfl, ?_⟩
  change vc_X3_remember P M
  unfold vc_X3_remember
  intro K32 h_K32
  have k_K32 : ∀ (M1 : zM), (0 ≤ M1 77 0 ∧ M1 77 0 < 20) → (0 ≤ M1 77 2 ∧ M1 77 2 < 20) → (M1 77 2 = if M 77 0 = 20 then (M 77 2 + 1) % 20 else M 77 2) → (M1 77 0 + 1 = if M 77 0 = 20 then 20 else M 77 0 + 1) → (∀ c i, ¬ (c = 77 ∧ (i = 0 ∨ i = 2)) → M1 c i = M c i) → K32 M1 := by
    intro M1 k0 k2 e2 e0 kf
    refine h_K32 _ ?_
    intro z_M1
    have o1 : zin ((M1 77 2) + (M1 77 0)) := by
      first | with_reducible assumption | omega | exact trivial | with_reducible rfl  -- o1
    refine ⟨o1, ?_⟩
    have o2 : 0 ≤ ((M1 77 2) + (M1 77 0)) := by
      first | with_reducible assumption | omega | exact trivial | with_reducible rfl  -- o2
    refine ⟨o2, ?_⟩
    have o3 : ((0 : Int) ≤ (((M1 77 2) + (M1 77 0)) % 20) ∧ (((M1 77 2) + (M1 77 0)) % 20) < 20) := by
      first | with_reducible assumption | omega | exact trivial | with_reducible rfl  -- o3
    refine ⟨o3, ?_⟩
    have o4 : (∀ j6, 0 ≤ j6 → j6 < 0 + 192 → -128 ≤ M1 2 j6 ∧ M1 2 j6 ≤ 127) := by
      intro j j0 j1; rw [kf 2 j (by omega)]; have := hc j j0 (by omega); omega
    refine ⟨o4, ?_⟩
    intro M8 e_M8
    have q : ∀ i, M8 77 i = M1 77 i := fun i => by rw [e_M8, zcpy_n _ (by omega)]
    have o5 : zin ((M8 77 0) + 1) := by
      rw [q]; omega
    refine ⟨o5, ?_⟩
    intro M12 e_M12
    intro M15 e_M15
    have q0 : M15 77 0 = M1 77 0 + 1 := by rw [e_M15, zset_n _ (by omega), e_M12, zset_s, q]
    have q2 : M15 77 2 = M1 77 2 := by rw [e_M15, zset_n _ (by omega), e_M12, zset_n _ (by omega), q]
    refine hP _ ⟨?_, ?_, ?_, ?_, ?_⟩
    · show ∀ c i, ¬ (79 ≤ c ∧ c ≤ 98) → ¬ (c = 77 ∧ (i = 0 ∨ i = 1 ∨ i = 2)) → M15 c i = M c i  -- p1.hf
      intro c i c1 c2; rw [e_M15, zset_n _ (by omega), e_M12, zset_n _ (by omega), e_M8, zcpy_n _ (by omega)]; exact kf c i (by omega)
    · show M15 77 2 = if M 77 0 = 20 then (M 77 2 + 1) % 20 else M 77 2  -- p1.h2
      rw [q2, e2]
    · show M15 77 0 = if M 77 0 = 20 then 20 else M 77 0 + 1  -- p1.h0
      rw [q0, e0]
    · show M15 77 1 = 0  -- p1.h1
      rw [e_M15, zset_s]
    · show ∀ k i, 0 ≤ k → k < 20 → 0 ≤ i → i < 192 → M15 (79 + k) i = if k = (M15 77 2 + M15 77 0 - 1) % 20 then M 2 i else M (79 + k) i  -- p1.hk
      intro k i k0 k1 i0 i1
      rw [q0, q2, show M1 77 2 + (M1 77 0 + 1) - 1 = M1 77 2 + M1 77 0 by omega, e_M15, zset_n _ (by omega), e_M12, zset_n _ (by omega), e_M8]
      by_cases e : k = (M1 77 2 + M1 77 0) % 20
      · rw [if_pos e, e, zcpy_s _ (by omega), show 0 + (i - 0) = i by omega, kf 2 i (by omega)]
      · rw [if_neg e, zcpy_n _ (by omega), kf (79 + k) i (by omega)]
  refine ⟨fun b1 => ?_, fun b1 => ?_⟩
  · -- b1.1
    refine k_K32 _ ?_ ?_ ?_ ?_ ?_
    · show 0 ≤ M 77 0 ∧ M 77 0 < 20  -- K32.1.k0
      first | with_reducible assumption | omega | exact trivial | with_reducible rfl
    · show 0 ≤ M 77 2 ∧ M 77 2 < 20  -- K32.1.k2
      first | with_reducible assumption | omega | exact trivial | with_reducible rfl
    · show M 77 2 = if M 77 0 = 20 then (M 77 2 + 1) % 20 else M 77 2  -- K32.1.e2
      rw [if_neg b1]
    · show M 77 0 + 1 = if M 77 0 = 20 then 20 else M 77 0 + 1  -- K32.1.e0
      rw [if_neg b1]
    · show ∀ c i, ¬ (c = 77 ∧ (i = 0 ∨ i = 2)) → M c i = M c i  -- K32.1.kf
      first | with_reducible assumption | omega | exact trivial | with_reducible rfl
  · -- b1.2
    have o6 : zin ((M 77 2) + 1) := by
      first | with_reducible assumption | omega | exact trivial | with_reducible rfl  -- o6
    refine ⟨o6, ?_⟩
    have o7 : 0 ≤ ((M 77 2) + 1) := by
      first | with_reducible assumption | omega | exact trivial | with_reducible rfl  -- o7
    refine ⟨o7, ?_⟩
    intro M21 e_M21
    have o8 : zin ((M21 77 0) - 1) := by
      rw [e_M21, zset_n _ (by omega)]; omega
    refine ⟨o8, ?_⟩
    intro M25 e_M25
    have w0 : M25 77 0 = 19 := by rw [e_M25, zset_s, e_M21, zset_n _ (by omega)]; omega
    have w2 : M25 77 2 = (M 77 2 + 1) % 20 := by rw [e_M25, zset_n _ (by omega), e_M21, zset_s]
    refine k_K32 _ ?_ ?_ ?_ ?_ ?_
    · show 0 ≤ M25 77 0 ∧ M25 77 0 < 20  -- K32.2.k0
      first | with_reducible assumption | omega | exact trivial | with_reducible rfl
    · show 0 ≤ M25 77 2 ∧ M25 77 2 < 20  -- K32.2.k2
      first | with_reducible assumption | omega | exact trivial | with_reducible rfl
    · show M25 77 2 = if M 77 0 = 20 then (M 77 2 + 1) % 20 else M 77 2  -- K32.2.e2
      rw [if_pos b1, w2]
    · show M25 77 0 + 1 = if M 77 0 = 20 then 20 else M 77 0 + 1  -- K32.2.e0
      rw [if_pos b1, w0]; rfl
    · show ∀ c i, ¬ (c = 77 ∧ (i = 0 ∨ i = 2)) → M25 c i = M c i  -- K32.2.kf
      intro c i k; rw [e_M25, zset_n _ (by omega), e_M21, zset_n _ (by omega)]

abbrev pr_X3_exchange (k : Int) (M : zM) : Prop := (0 ≤ k ∧ k < 20) ∧ (0 ≤ M 1 3 ∧ M 1 3 < 1000000000) ∧ (∀ i, 0 ≤ i → i < 192 → 0 ≤ M 2 i ∧ M 2 i ≤ 15) ∧ (∀ i, 0 ≤ i → i < 192 → 0 ≤ M (79 + k) i ∧ M (79 + k) i ≤ 15)
abbrev po_X3_exchange (k : Int) (M : zM) (r : Int) (M' : zM) : Prop := (∀ c i, c ≠ 2 → c ≠ 4 → c ≠ 79 + k → ¬ (c = 1 ∧ i = 3) → M' c i = M c i) ∧ (∀ i, 0 ≤ i → i < 192 → M' 2 i = M (79 + k) i) ∧ (∀ i, 0 ≤ i → i < 192 → M' 4 i = M 2 i) ∧ (∀ i, 0 ≤ i → i < 192 → M' (79 + k) i = M 2 i) ∧ (M' 1 3 = M 1 3 + 1) ∧ (r = zcnt (fun i => M' 4 i ≠ M' 2 i) 192)
set_option maxHeartbeats 1000000 in
theorem ok_X3_exchange : zSnd zS 145 0 0 yX3_exchange cX3_exchange 3 (some .int) 2 [2, 2, 0] (F_X3_exchange pr_X3_exchange po_X3_exchange) := by
  refine (sn_X3_exchange ok_X0_startDraft ok_X0_countDraftChanges).mono ?_
  rintro xs P M hz hR ⟨k, rfl, ⟨hk, hv, hc, hq⟩, hP⟩
  refine ⟨_, rfl, ?_⟩
  have z_k := zall_h (zall_t (zall_t hz)) (by decide)
  change vc_X3_exchange pr_X0_startDraft po_X0_startDraft pr_X0_countDraftChanges po_X0_countDraftChanges k P M
  unfold vc_X3_exchange
  have gc1 : pr_X0_startDraft M := by
    show ∀ i, 0 ≤ i → i < 192 → 0 ≤ M 2 i ∧ M 2 i ≤ 15
    first | with_reducible assumption | omega | exact trivial | with_reducible rfl  -- c1.hc
  refine ⟨gc1, ?_⟩
  rintro M1 pc1_e z_M1
  have a4 : ∀ i, 0 ≤ i → i < 192 → M1 4 i = M 2 i := fun i i0 i1 => by rw [pc1_e, zcpy_s _ (by omega), show 0 + (i - 0) = i by omega]
  have an : ∀ c i, c ≠ 4 → M1 c i = M c i := fun c i c1 => by rw [pc1_e, zcpy_n _ (by omega)]
  have o1 : ((0 : Int) ≤ k ∧ k < 20) := by
    first | with_reducible assumption | omega | exact trivial | with_reducible rfl  -- o1
  refine ⟨o1, ?_⟩
  have o2 : (∀ j7, 0 ≤ j7 → j7 < 0 + 192 → -128 ≤ M1 (79 + k) j7 ∧ M1 (79 + k) j7 ≤ 127) := by
    intro j j0 j1; rw [an _ j (by omega)]; have := hq j j0 (by omega); omega
  refine ⟨o2, ?_⟩
  intro M9 e_M9
  have a9 : ∀ c i, c ≠ 2 → M9 c i = M1 c i := fun c i c1 => by rw [e_M9, zcpy_n _ (by omega)]
  have a92 : ∀ i, 0 ≤ i → i < 192 → M9 2 i = M (79 + k) i := fun i i0 i1 => by rw [e_M9, zcpy_s _ (by omega), show 0 + (i - 0) = i by omega, an _ i (by omega)]
  have o3 : (∀ j12, 0 ≤ j12 → j12 < 0 + 192 → -128 ≤ M9 4 j12 ∧ M9 4 j12 ≤ 127) := by
    intro j j0 j1; rw [a9 4 j (by decide), a4 j j0 (by omega)]; have := hc j j0 (by omega); omega
  refine ⟨o3, ?_⟩
  intro M14 e_M14
  have b9 : ∀ c i, c ≠ 79 + k → M14 c i = M9 c i := fun c i c1 => by rw [e_M14, zcpy_n _ (by omega)]
  have b92 : ∀ i, 0 ≤ i → i < 192 → M14 (79 + k) i = M 2 i := fun i i0 i1 => by rw [e_M14, zcpy_s _ (by omega), show 0 + (i - 0) = i by omega, a9 4 i (by decide), a4 i i0 i1]
  have b13 : M14 1 3 = M 1 3 := by rw [b9 1 3 (by omega), a9 1 3 (by decide), an 1 3 (by decide)]
  have o4 : zin ((M14 1 3) + 1) := by
    first | with_reducible assumption | omega | exact trivial | with_reducible rfl  -- o4
  refine ⟨o4, ?_⟩
  intro M18 e_M18
  have d : ∀ c i, ¬ (c = 1 ∧ i = 3) → M18 c i = M14 c i := fun c i c1 => by rw [e_M18, zset_n _ (by omega)]
  have d13 : M18 1 3 = M 1 3 + 1 := by rw [e_M18, zset_s, b13]
  have gc2 : pr_X0_countDraftChanges M18 := trivial
  refine ⟨gc2, ?_⟩
  rintro r21 M22 ⟨q_rfl, e_r21⟩ z_r21 z_M22
  have q_rfl := q_rfl.symm
  subst q_rfl
  refine hP _ _ ⟨?_, ?_, ?_, ?_, ?_, ?_⟩
  · show ∀ c i, c ≠ 2 → c ≠ 4 → c ≠ 79 + k → ¬ (c = 1 ∧ i = 3) → M18 c i = M c i  -- p1.hf
    intro c i c1 c2 c3 c4; rw [d c i c4, b9 c i c3, a9 c i c1, an c i c2]
  · show ∀ i, 0 ≤ i → i < 192 → M18 2 i = M (79 + k) i  -- p1.h2
    intro i i0 i1; rw [d 2 i (by omega), b9 2 i (by omega), a92 i i0 i1]
  · show ∀ i, 0 ≤ i → i < 192 → M18 4 i = M 2 i  -- p1.h4
    intro i i0 i1; rw [d 4 i (by omega), b9 4 i (by omega), a9 4 i (by decide), a4 i i0 i1]
  · show ∀ i, 0 ≤ i → i < 192 → M18 (79 + k) i = M 2 i  -- p1.hr
    intro i i0 i1; rw [d _ i (by omega), b92 i i0 i1]
  · show M18 1 3 = M 1 3 + 1  -- p1.h3
    first | with_reducible assumption | omega | exact trivial | with_reducible rfl
  · show r21 = zcnt (fun i => M18 4 i ≠ M18 2 i) 192  -- p1.hn
    first | with_reducible assumption | omega | exact trivial | with_reducible rfl

