abbrev pr_X12_paint (a : Int) (c : Int) (M : zM) : Prop := (mDim M) ∧ (0 ≤ M 103 8 ∧ M 103 8 ≤ 20)
abbrev po_X12_paint (a : Int) (c : Int) (M : zM) (r : Int) (M' : zM) : Prop := (¬ (gD (M 103 1) (M 103 2) a ∧ 0 ≤ c ∧ c ≤ 15) → r = -1 ∧ M' = zset M 103 0 0) ∧ (gD (M 103 1) (M 103 2) a ∧ 0 ≤ c ∧ c ≤ 15 → r = M 104 a ∧ ∃ N q, (∀ i, 0 ≤ i → i < 192 → N 114 i = if i = a then c else M 104 i) ∧ N 103 0 = 0 ∧ (∀ d i, d ≠ 114 → ¬ (d = 103 ∧ i = 0) → N d i = M d i) ∧ po_X12_change N q M')
set_option maxHeartbeats 1000000 in
theorem ok_X12_paint : zSnd zS 145 0 0 yX12_paint cX12_paint 4 (some .int) 1 [2, 0, 0] (F_X12_paint pr_X12_paint po_X12_paint) := by
  refine (sn_X12_paint ok_X12_isDot ok_X12_in ok_X12_copyDots ok_X12_change).mono ?_
  rintro xs P M hz hR ⟨a, c, rfl, ⟨hd, h8⟩, hP⟩
  refine ⟨_, _, rfl, ?_⟩
  have z_a := zall_h (zall_t hz) (by decide)
  have z_c := zall_h (zall_t (zall_t hz)) (by decide)
  change vc_X12_paint pr_X12_isDot po_X12_isDot pr_X12_in po_X12_in pr_X12_copyDots po_X12_copyDots pr_X12_change po_X12_change a c P M
  unfold vc_X12_paint
  intro M1 e_M1
  have q1 : M1 103 1 = M 103 1 := by rw [e_M1, zset_n _ (by omega)]
  have q2 : M1 103 2 = M 103 2 := by rw [e_M1, zset_n _ (by omega)]
  have gc1 : pr_X12_isDot a M1 := trivial
  refine ⟨gc1, ?_⟩
  rintro r4 M5 ⟨q_rfl, e_r4⟩ z_r4 z_M5
  have q_rfl := q_rfl.symm
  subst q_rfl
  have zr := zif01 e_r4
  have dd : mDot M1 a ↔ gD (M 103 1) (M 103 2) a := by
    show gD (M1 103 1) (M1 103 2) a ↔ _
    rw [q1, q2]
  refine ⟨fun b1 => ?_, fun b1 => ?_⟩
  · -- b1.1
    have n : ¬ gD (M 103 1) (M 103 2) a := fun k => zr.z.1 b1 (dd.2 k)
    refine hP _ _ ⟨?_, ?_⟩
    · show ¬ (gD (M 103 1) (M 103 2) a ∧ 0 ≤ c ∧ c ≤ 15) → (-1) = -1 ∧ M1 = zset M 103 0 0  -- p1.hn
      intro _; exact ⟨rfl, e_M1⟩
    · show gD (M 103 1) (M 103 2) a ∧ 0 ≤ c ∧ c ≤ 15 → (-1) = M 104 a ∧ ∃ N q, (∀ i, 0 ≤ i → i < 192 → N 114 i = if i = a then c else M 104 i) ∧ N 103 0 = 0 ∧ (∀ d i, d ≠ 114 → ¬ (d = 103 ∧ i = 0) → N d i = M d i) ∧ po_X12_change N q M1  -- p1.hy
      intro h; exact absurd h.1 n
  · -- b1.2
    have y : gD (M 103 1) (M 103 2) a := dd.1 (zr.ne.1 b1)
    have gc2 : pr_X12_in c 0 15 M1 := trivial
    refine ⟨gc2, ?_⟩
    rintro r11 M12 ⟨q_rfl, e_r11⟩ z_r11 z_M12
    have q_rfl := q_rfl.symm
    subst q_rfl
    have zc2 := zif01 e_r11
    refine ⟨fun b2 => ?_, fun b2 => ?_⟩
    · -- b2.1
      have y2 := zc2.ne.1 b2
      have o1 : ((0 : Int) ≤ a ∧ a < 192) := by
        first | with_reducible assumption | omega | exact trivial | with_reducible rfl  -- o1
      refine ⟨o1, ?_⟩
      have gc3 : pr_X12_copyDots M1 := trivial
      refine ⟨gc3, ?_⟩
      rintro M19 ⟨pc3_hf, pc3_h4⟩ z_M19
      intro M24 e_M24
      have w : ∀ d i, d ≠ 114 → M24 d i = M1 d i := fun d i k => by rw [e_M24, zset_n _ (by omega)]; exact pc3_hf d i k
      have w1 : ∀ d i, d ≠ 114 → ¬ (d = 103 ∧ i = 0) → M24 d i = M d i := fun d i k l => by rw [w d i k, e_M1, zset_n _ (by omega)]
      have gc4 : pr_X12_change M24 := by
        show 0 ≤ M24 103 8 ∧ M24 103 8 ≤ 20
        rw [w1 103 8 (by decide) (by omega)]; exact h8
      refine ⟨gc4, ?_⟩
      rintro r27 M28 ⟨pc4_hr, pc4_hs, pc4_hf, pc4_hd⟩ z_r27 z_M28
      refine hP _ _ ⟨?_, ?_⟩
      · show ¬ (gD (M 103 1) (M 103 2) a ∧ 0 ≤ c ∧ c ≤ 15) → (M1 104 a) = -1 ∧ M28 = zset M 103 0 0  -- p2.hn
        intro h; exact absurd ⟨y, y2⟩ h
      · show gD (M 103 1) (M 103 2) a ∧ 0 ≤ c ∧ c ≤ 15 → (M1 104 a) = M 104 a ∧ ∃ N q, (∀ i, 0 ≤ i → i < 192 → N 114 i = if i = a then c else M 104 i) ∧ N 103 0 = 0 ∧ (∀ d i, d ≠ 114 → ¬ (d = 103 ∧ i = 0) → N d i = M d i) ∧ po_X12_change N q M28  -- p2.hy
        intro _
        refine ⟨by rw [e_M1, zset_n _ (by omega)], M24, r27, fun i i0 i1 => ?_, ?_, w1, pc4_hr, pc4_hs, pc4_hf, pc4_hd⟩
        · by_cases k : i = a
          · rw [k, e_M24, zset_s, if_pos rfl]
          · rw [e_M24, zset_n _ (by omega), if_neg k, pc3_h4 i i0 i1, e_M1, zset_n _ (by omega)]
        · rw [w 103 0 (by decide), e_M1, zset_s]
    · -- b2.2
      have n2 := zc2.z.1 b2
      refine hP _ _ ⟨?_, ?_⟩
      · show ¬ (gD (M 103 1) (M 103 2) a ∧ 0 ≤ c ∧ c ≤ 15) → (-1) = -1 ∧ M1 = zset M 103 0 0  -- p3.hn
        intro _; exact ⟨rfl, e_M1⟩
      · show gD (M 103 1) (M 103 2) a ∧ 0 ≤ c ∧ c ≤ 15 → (-1) = M 104 a ∧ ∃ N q, (∀ i, 0 ≤ i → i < 192 → N 114 i = if i = a then c else M 104 i) ∧ N 103 0 = 0 ∧ (∀ d i, d ≠ 114 → ¬ (d = 103 ∧ i = 0) → N d i = M d i) ∧ po_X12_change N q M1  -- p3.hy
        intro h; exact absurd h.2 n2

abbrev pr_X11_paint (a : Int) (c : Int) (M : zM) : Prop := (bDim M) ∧ (0 ≤ M 77 0 ∧ M 77 0 ≤ 20) ∧ (0 ≤ M 77 2 ∧ M 77 2 < 20) ∧ (0 ≤ M 1 3 ∧ M 1 3 < 1000000000) ∧ (∀ i, 0 ≤ i → i < 192 → 0 ≤ M 2 i ∧ M 2 i ≤ 15)
abbrev po_X11_paint (a : Int) (c : Int) (M : zM) (r : Int) (M' : zM) : Prop := (¬ (gD (M 1 0) (M 1 1) a ∧ 0 ≤ c ∧ c ≤ 15) → r = -1 ∧ M' = M) ∧ (gD (M 1 0) (M 1 1) a ∧ 0 ≤ c ∧ c ≤ 15 → r = M 2 a ∧ ∃ N q, (∀ i, 0 ≤ i → i < 192 → N 4 i = if i = a then c else M 2 i) ∧ (∀ d i, d ≠ 4 → N d i = M d i) ∧ po_X11_changeToDraft N q M')
set_option maxHeartbeats 1000000 in
theorem ok_X11_paint : zSnd zS 145 0 0 yX11_paint cX11_paint 4 (some .int) 3 [2, 0, 0] (F_X11_paint pr_X11_paint po_X11_paint) := by
  refine (sn_X11_paint ok_X0_isDot ok_X11_isColour ok_X0_startDraft ok_X11_changeToDraft).mono ?_
  rintro xs P M hz hR ⟨a, c, rfl, ⟨hd, hu, ho, hv, hc⟩, hP⟩
  refine ⟨_, _, rfl, ?_⟩
  have z_a := zall_h (zall_t hz) (by decide)
  have z_c := zall_h (zall_t (zall_t hz)) (by decide)
  change vc_X11_paint pr_X0_isDot po_X0_isDot pr_X11_isColour po_X11_isColour pr_X0_startDraft po_X0_startDraft pr_X11_changeToDraft po_X11_changeToDraft a c P M
  unfold vc_X11_paint
  have gc1 : pr_X0_isDot a M := by
    show bDim M
    first | with_reducible assumption | omega | exact trivial | with_reducible rfl  -- c1.hd
  refine ⟨gc1, ?_⟩
  rintro r1 M2 ⟨q_rfl, e_r1⟩ z_r1 z_M2
  have q_rfl := q_rfl.symm
  subst q_rfl
  have zr := zif01 e_r1
  refine ⟨fun b1 => ?_, fun b1 => ?_⟩
  · -- b1.1
    have n : ¬ gD (M 1 0) (M 1 1) a := zr.z.1 b1
    refine hP _ _ ⟨?_, ?_⟩
    · show ¬ (gD (M 1 0) (M 1 1) a ∧ 0 ≤ c ∧ c ≤ 15) → (-1) = -1 ∧ M = M  -- p1.hn
      intro _; exact ⟨rfl, rfl⟩
    · show gD (M 1 0) (M 1 1) a ∧ 0 ≤ c ∧ c ≤ 15 → (-1) = M 2 a ∧ ∃ N q, (∀ i, 0 ≤ i → i < 192 → N 4 i = if i = a then c else M 2 i) ∧ (∀ d i, d ≠ 4 → N d i = M d i) ∧ po_X11_changeToDraft N q M  -- p1.hy
      intro h; exact absurd h.1 n
  · -- b1.2
    have y : gD (M 1 0) (M 1 1) a := zr.ne.1 b1
    have gc2 : pr_X11_isColour c M := trivial
    refine ⟨gc2, ?_⟩
    rintro r8 M9 ⟨q_rfl, e_r8⟩ z_r8 z_M9
    have q_rfl := q_rfl.symm
    subst q_rfl
    have zc2 := zif01 e_r8
    refine ⟨fun b2 => ?_, fun b2 => ?_⟩
    · -- b2.1
      have y2 := zc2.ne.1 b2
      have o1 : ((0 : Int) ≤ a ∧ a < 192) := by
        first | with_reducible assumption | omega | exact trivial | with_reducible rfl  -- o1
      refine ⟨o1, ?_⟩
      have gc3 : pr_X0_startDraft M := by
        show ∀ i, 0 ≤ i → i < 192 → 0 ≤ M 2 i ∧ M 2 i ≤ 15
        first | with_reducible assumption | omega | exact trivial | with_reducible rfl  -- c3.hc
      refine ⟨gc3, ?_⟩
      rintro M16 pc3_e z_M16
      have t4 : ∀ i, 0 ≤ i → i < 192 → M16 4 i = M 2 i := fun i i0 i1 => by rw [pc3_e, zcpy_s _ (by omega), show 0 + (i - 0) = i by omega]
      have tn : ∀ d i, d ≠ 4 → M16 d i = M d i := fun d i k => by rw [pc3_e, zcpy_n _ (by omega)]
      intro M21 e_M21
      have w1 : ∀ d i, d ≠ 4 → M21 d i = M d i := fun d i k => by rw [e_M21, zset_n _ (by omega)]; exact tn d i k
      have w4 : ∀ i, 0 ≤ i → i < 192 → M21 4 i = if i = a then c else M 2 i := fun i i0 i1 => by
        by_cases k : i = a
        · rw [k, e_M21, zset_s, if_pos rfl]; exact zbm8 (by omega)
        · rw [e_M21, zset_n _ (by omega), if_neg k, t4 i i0 i1]
      have gc4 : pr_X11_changeToDraft M21 := by
        refine ⟨?_, ?_, ?_, ?_, ?_⟩
        · show 0 ≤ M21 77 0 ∧ M21 77 0 ≤ 20  -- c4.hu
          rw [w1 77 0 (by decide)]; exact hu
        · show 0 ≤ M21 77 2 ∧ M21 77 2 < 20  -- c4.ho
          rw [w1 77 2 (by decide)]; exact ho
        · show 0 ≤ M21 1 3 ∧ M21 1 3 < 1000000000  -- c4.hv
          rw [w1 1 3 (by decide)]; exact hv
        · show ∀ i, 0 ≤ i → i < 192 → 0 ≤ M21 2 i ∧ M21 2 i ≤ 15  -- c4.hc
          intro i i0 i1; rw [w1 2 i (by decide)]; exact hc i i0 i1
        · show ∀ i, 0 ≤ i → i < 192 → 0 ≤ M21 4 i ∧ M21 4 i ≤ 15  -- c4.hq
          intro i i0 i1; rw [w4 i i0 i1]; have := hc i i0 i1; split <;> omega
      refine ⟨gc4, ?_⟩
      rintro r24 M25 ⟨pc4_hr, pc4_hs, pc4_hf, pc4_hd⟩ z_r24 z_M25
      refine hP _ _ ⟨?_, ?_⟩
      · show ¬ (gD (M 1 0) (M 1 1) a ∧ 0 ≤ c ∧ c ≤ 15) → (M 2 a) = -1 ∧ M25 = M  -- p2.hn
        intro h; exact absurd ⟨y, by omega⟩ h
      · show gD (M 1 0) (M 1 1) a ∧ 0 ≤ c ∧ c ≤ 15 → (M 2 a) = M 2 a ∧ ∃ N q, (∀ i, 0 ≤ i → i < 192 → N 4 i = if i = a then c else M 2 i) ∧ (∀ d i, d ≠ 4 → N d i = M d i) ∧ po_X11_changeToDraft N q M25  -- p2.hy
        intro _; exact ⟨rfl, M21, r24, w4, w1, pc4_hr, pc4_hs, pc4_hf, pc4_hd⟩
    · -- b2.2
      have n2 := zc2.z.1 b2
      refine hP _ _ ⟨?_, ?_⟩
      · show ¬ (gD (M 1 0) (M 1 1) a ∧ 0 ≤ c ∧ c ≤ 15) → (-1) = -1 ∧ M = M  -- p3.hn
        intro _; exact ⟨rfl, rfl⟩
      · show gD (M 1 0) (M 1 1) a ∧ 0 ≤ c ∧ c ≤ 15 → (-1) = M 2 a ∧ ∃ N q, (∀ i, 0 ≤ i → i < 192 → N 4 i = if i = a then c else M 2 i) ∧ (∀ d i, d ≠ 4 → N d i = M d i) ∧ po_X11_changeToDraft N q M  -- p3.hy
        intro h; exact absurd ⟨h.2.1, by omega⟩ n2

