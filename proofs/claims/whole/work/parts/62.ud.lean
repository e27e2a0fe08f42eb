abbrev pr_X11_changeToDraft (M : zM) : Prop := (0 ≤ M 77 0 ∧ M 77 0 ≤ 20) ∧ (0 ≤ M 77 2 ∧ M 77 2 < 20) ∧ (0 ≤ M 1 3 ∧ M 1 3 < 1000000000) ∧ (∀ i, 0 ≤ i → i < 192 → 0 ≤ M 2 i ∧ M 2 i ≤ 15) ∧ (∀ i, 0 ≤ i → i < 192 → 0 ≤ M 4 i ∧ M 4 i ≤ 15)
abbrev po_X11_changeToDraft (M : zM) (r : Int) (M' : zM) : Prop := (r = zcnt (fun i => M 4 i ≠ M 2 i) 192) ∧ (r ≤ 0 → M' = M) ∧ (∀ c i, c ≠ 2 → ¬ (c = 1 ∧ i = 3) → ¬ (79 ≤ c ∧ c ≤ 98) → ¬ (c = 77 ∧ (i = 0 ∨ i = 1 ∨ i = 2)) → M' c i = M c i) ∧ (0 < r → (∀ i, 0 ≤ i → i < 192 → M' 2 i = M 4 i) ∧ M' 1 3 = M 1 3 + 1 ∧ M' 77 2 = (if M 77 0 = 20 then (M 77 2 + 1) % 20 else M 77 2) ∧ M' 77 0 = (if M 77 0 = 20 then 20 else M 77 0 + 1) ∧ M' 77 1 = 0 ∧ ∀ k i, 0 ≤ k → k < 20 → 0 ≤ i → i < 192 → M' (79 + k) i = if k = (M' 77 2 + M' 77 0 - 1) % 20 then M 2 i else M (79 + k) i)
set_option maxHeartbeats 1000000 in
theorem ok_X11_changeToDraft : zSnd zS 145 0 0 yX11_changeToDraft cX11_changeToDraft 2 (some .int) 2 [2] (F_X11_changeToDraft pr_X11_changeToDraft po_X11_changeToDraft) := by
  refine (sn_X11_changeToDraft ok_X0_countDraftChanges ok_X3_remember ok_X0_takeDraft).mono ?_
  rintro xs P M hz hR ⟨rfl, ⟨hu, ho, hv, hc, hq⟩, hP⟩
  refine ⟨rfl, ?_⟩
  change vc_X11_changeToDraft pr_X0_countDraftChanges po_X0_countDraftChanges pr_X3_remember po_X3_remember pr_X0_takeDraft po_X0_takeDraft P M
  unfold vc_X11_changeToDraft
  have gc1 : pr_X0_countDraftChanges M := trivial
  refine ⟨gc1, ?_⟩
  rintro r1 M2 ⟨q_rfl, e_r1⟩ z_r1 z_M2
  have q_rfl := q_rfl.symm
  subst q_rfl
  refine ⟨fun b1 => ?_, fun b1 => ?_⟩
  · -- b1.1
    refine hP _ _ ⟨?_, ?_, ?_, ?_⟩
    · show r1 = zcnt (fun i => M 4 i ≠ M 2 i) 192  -- p1.hr
      first | with_reducible assumption | omega | exact trivial | with_reducible rfl
    · show r1 ≤ 0 → M = M  -- p1.hs
      intro _; rfl
    · show ∀ c i, c ≠ 2 → ¬ (c = 1 ∧ i = 3) → ¬ (79 ≤ c ∧ c ≤ 98) → ¬ (c = 77 ∧ (i = 0 ∨ i = 1 ∨ i = 2)) → M c i = M c i  -- p1.hf
      intro c i c1 c2 c3 c4; rfl
    · show 0 < r1 → (∀ i, 0 ≤ i → i < 192 → M 2 i = M 4 i) ∧ M 1 3 = M 1 3 + 1 ∧ M 77 2 = (if M 77 0 = 20 then (M 77 2 + 1) % 20 else M 77 2) ∧ M 77 0 = (if M 77 0 = 20 then 20 else M 77 0 + 1) ∧ M 77 1 = 0 ∧ ∀ k i, 0 ≤ k → k < 20 → 0 ≤ i → i < 192 → M (79 + k) i = if k = (M 77 2 + M 77 0 - 1) % 20 then M 2 i else M (79 + k) i  -- p1.hd
      intro h; omega
  · -- b1.2
    have gc2 : pr_X3_remember M := by
      refine ⟨?_, ?_, ?_⟩
      · show 0 ≤ M 77 0 ∧ M 77 0 ≤ 20  -- c2.hu
        first | with_reducible assumption | omega | exact trivial | with_reducible rfl
      · show 0 ≤ M 77 2 ∧ M 77 2 < 20  -- c2.ho
        first | with_reducible assumption | omega | exact trivial | with_reducible rfl
      · show ∀ i, 0 ≤ i → i < 192 → 0 ≤ M 2 i ∧ M 2 i ≤ 15  -- c2.hc
        first | with_reducible assumption | omega | exact trivial | with_reducible rfl
    refine ⟨gc2, ?_⟩
    rintro M8 ⟨pc2_hf, pc2_h2, pc2_h0, pc2_h1, pc2_hk⟩ z_M8
    have gc3 : pr_X0_takeDraft M8 := by
      refine ⟨?_, ?_⟩
      · show 0 ≤ M8 1 3 ∧ M8 1 3 < 1000000000  -- c3.hv
        rw [pc2_hf 1 3 (by omega) (by omega)]; exact hv
      · show ∀ i, 0 ≤ i → i < 192 → 0 ≤ M8 4 i ∧ M8 4 i ≤ 15  -- c3.hq
        intro i i0 i1; rw [pc2_hf 4 i (by omega) (by omega)]; exact hq i i0 i1
    refine ⟨gc3, ?_⟩
    rintro M13 ⟨pc3_hf, pc3_h2, pc3_h3⟩ z_M13
    refine hP _ _ ⟨?_, ?_, ?_, ?_⟩
    · show r1 = zcnt (fun i => M 4 i ≠ M 2 i) 192  -- p2.hr
      first | with_reducible assumption | omega | exact trivial | with_reducible rfl
    · show r1 ≤ 0 → M13 = M  -- p2.hs
      intro h; omega
    · show ∀ c i, c ≠ 2 → ¬ (c = 1 ∧ i = 3) → ¬ (79 ≤ c ∧ c ≤ 98) → ¬ (c = 77 ∧ (i = 0 ∨ i = 1 ∨ i = 2)) → M13 c i = M c i  -- p2.hf
      intro c i c1 c2 c3 c4; rw [pc3_hf c i c1 c2, pc2_hf c i c3 c4]
    · show 0 < r1 → (∀ i, 0 ≤ i → i < 192 → M13 2 i = M 4 i) ∧ M13 1 3 = M 1 3 + 1 ∧ M13 77 2 = (if M 77 0 = 20 then (M 77 2 + 1) % 20 else M 77 2) ∧ M13 77 0 = (if M 77 0 = 20 then 20 else M 77 0 + 1) ∧ M13 77 1 = 0 ∧ ∀ k i, 0 ≤ k → k < 20 → 0 ≤ i → i < 192 → M13 (79 + k) i = if k = (M13 77 2 + M13 77 0 - 1) % 20 then M 2 i else M (79 + k) i  -- p2.hd
      intro _
      have a : ∀ i, M13 77 i = M8 77 i := fun i => pc3_hf 77 i (by decide) (by omega)
      refine ⟨fun i i0 i1 => ?_, ?_, ?_, ?_, ?_, fun k i k0 k1 i0 i1 => ?_⟩
      · rw [pc3_h2 i i0 i1, pc2_hf 4 i (by omega) (by omega)]
      · rw [pc3_h3, pc2_hf 1 3 (by omega) (by omega)]
      · rw [a, pc2_h2]
      · rw [a, pc2_h0]
      · rw [a, pc2_h1]
      · rw [a, a, pc3_hf (79 + k) i (by omega) (by omega)]
        exact pc2_hk k i k0 k1 i0 i1

abbrev pr_X11_undo (M : zM) : Prop := (0 ≤ M 77 0 ∧ M 77 0 ≤ 20) ∧ (0 ≤ M 77 1 ∧ M 77 1 + M 77 0 ≤ 20) ∧ (0 ≤ M 77 2 ∧ M 77 2 < 20) ∧ (0 ≤ M 1 3 ∧ M 1 3 < 1000000000) ∧ (∀ i, 0 ≤ i → i < 192 → 0 ≤ M 2 i ∧ M 2 i ≤ 15) ∧ (∀ k i, 0 ≤ k → k < 20 → 0 ≤ i → i < 192 → 0 ≤ M (79 + k) i ∧ M (79 + k) i ≤ 15)
abbrev po_X11_undo (M : zM) (r : Int) (M' : zM) : Prop := (M 77 0 = 0 → r = -3 ∧ M' = M) ∧ (M 77 0 ≠ 0 → po_X3_stepBack M r M')
set_option maxHeartbeats 1000000 in
theorem ok_X11_undo : zSnd zS 145 0 0 yX11_undo cX11_undo 1 (some .int) 4 [2] (F_X11_undo pr_X11_undo po_X11_undo) := by
  refine (sn_X11_undo ok_X3_canUndo ok_X3_stepBack).mono ?_
  rintro xs P M hz hR ⟨rfl, ⟨hu, h1, ho, hv, hc, hq⟩, hP⟩
  refine ⟨rfl, ?_⟩
  change vc_X11_undo pr_X3_canUndo po_X3_canUndo pr_X3_stepBack po_X3_stepBack P M
  unfold vc_X11_undo
  have gc1 : pr_X3_canUndo M := trivial
  refine ⟨gc1, ?_⟩
  rintro r1 M2 ⟨q_rfl, pc1_pb⟩ z_r1 z_M2
  have q_rfl := q_rfl.symm
  subst q_rfl
  refine ⟨fun b1 => ?_, fun b1 => ?_⟩
  · -- b1.1
    refine hP _ _ ⟨?_, ?_⟩
    · show M 77 0 = 0 → (-3) = -3 ∧ M = M  -- p1.hy
      intro _; exact ⟨rfl, rfl⟩
    · show M 77 0 ≠ 0 → po_X3_stepBack M (-3) M  -- p1.hn
      intro h; have := pc1_pb.z.1 b1; omega
  · -- b1.2
    have ps := pc1_pb.ne.1 b1
    have gc2 : pr_X3_stepBack M := by
      refine ⟨?_, ?_, ?_, ?_, ?_, ?_⟩
      · show 1 ≤ M 77 0 ∧ M 77 0 ≤ 20  -- c2.hu
        first | with_reducible assumption | omega | exact trivial | with_reducible rfl
      · show 0 ≤ M 77 1 ∧ M 77 1 ≤ 20  -- c2.h1
        first | with_reducible assumption | omega | exact trivial | with_reducible rfl
      · show 0 ≤ M 77 2 ∧ M 77 2 < 20  -- c2.ho
        first | with_reducible assumption | omega | exact trivial | with_reducible rfl
      · show 0 ≤ M 1 3 ∧ M 1 3 < 1000000000  -- c2.hv
        first | with_reducible assumption | omega | exact trivial | with_reducible rfl
      · show ∀ i, 0 ≤ i → i < 192 → 0 ≤ M 2 i ∧ M 2 i ≤ 15  -- c2.hc
        first | with_reducible assumption | omega | exact trivial | with_reducible rfl
      · show ∀ k i, 0 ≤ k → k < 20 → 0 ≤ i → i < 192 → 0 ≤ M (79 + k) i ∧ M (79 + k) i ≤ 15  -- c2.hq
        first | with_reducible assumption | omega | exact trivial | with_reducible rfl
    refine ⟨gc2, ?_⟩
    rintro r8 M9 ⟨pc2_hf, pc2_h2, pc2_h4, pc2_hr, pc2_h3, pc2_h0, pc2_hn⟩ z_r8 z_M9
    refine hP _ _ ⟨?_, ?_⟩
    · show M 77 0 = 0 → r8 = -3 ∧ M9 = M  -- p2.hy
      intro h; omega
    · show M 77 0 ≠ 0 → po_X3_stepBack M r8 M9  -- p2.hn
      intro _; exact ⟨pc2_hf, pc2_h2, pc2_h4, pc2_hr, pc2_h3, pc2_h0, pc2_hn⟩

abbrev pr_X11_redo (M : zM) : Prop := (0 ≤ M 77 0 ∧ M 77 0 ≤ 20) ∧ (0 ≤ M 77 1 ∧ M 77 1 + M 77 0 ≤ 20) ∧ (0 ≤ M 77 2 ∧ M 77 2 < 20) ∧ (0 ≤ M 1 3 ∧ M 1 3 < 1000000000) ∧ (∀ i, 0 ≤ i → i < 192 → 0 ≤ M 2 i ∧ M 2 i ≤ 15) ∧ (∀ k i, 0 ≤ k → k < 20 → 0 ≤ i → i < 192 → 0 ≤ M (79 + k) i ∧ M (79 + k) i ≤ 15)
abbrev po_X11_redo (M : zM) (r : Int) (M' : zM) : Prop := (M 77 1 = 0 → r = -3 ∧ M' = M) ∧ (M 77 1 ≠ 0 → po_X3_stepForth M r M')
set_option maxHeartbeats 1000000 in
theorem ok_X11_redo : zSnd zS 145 0 0 yX11_redo cX11_redo 1 (some .int) 4 [2] (F_X11_redo pr_X11_redo po_X11_redo) := by
  refine (sn_X11_redo ok_X3_canRedo ok_X3_stepForth).mono ?_
  rintro xs P M hz hR ⟨rfl, ⟨hu, h1, ho, hv, hc, hq⟩, hP⟩
  refine ⟨rfl, ?_⟩
  change vc_X11_redo pr_X3_canRedo po_X3_canRedo pr_X3_stepForth po_X3_stepForth P M
  unfold vc_X11_redo
  have gc1 : pr_X3_canRedo M := trivial
  refine ⟨gc1, ?_⟩
  rintro r1 M2 ⟨q_rfl, pc1_pb⟩ z_r1 z_M2
  have q_rfl := q_rfl.symm
  subst q_rfl
  refine ⟨fun b1 => ?_, fun b1 => ?_⟩
  · -- b1.1
    refine hP _ _ ⟨?_, ?_⟩
    · show M 77 1 = 0 → (-3) = -3 ∧ M = M  -- p1.hy
      intro _; exact ⟨rfl, rfl⟩
    · show M 77 1 ≠ 0 → po_X3_stepForth M (-3) M  -- p1.hn
      intro h; have := pc1_pb.z.1 b1; omega
  · -- b1.2
    have ps := pc1_pb.ne.1 b1
    have gc2 : pr_X3_stepForth M := by
      refine ⟨?_, ?_, ?_, ?_, ?_, ?_⟩
      · show 0 ≤ M 77 0 ∧ M 77 0 < 20  -- c2.hu
        first | with_reducible assumption | omega | exact trivial | with_reducible rfl
      · show 1 ≤ M 77 1 ∧ M 77 1 ≤ 20  -- c2.h1
        first | with_reducible assumption | omega | exact trivial | with_reducible rfl
      · show 0 ≤ M 77 2 ∧ M 77 2 < 20  -- c2.ho
        first | with_reducible assumption | omega | exact trivial | with_reducible rfl
      · show 0 ≤ M 1 3 ∧ M 1 3 < 1000000000  -- c2.hv
        first | with_reducible assumption | omega | exact trivial | with_reducible rfl
      · show ∀ i, 0 ≤ i → i < 192 → 0 ≤ M 2 i ∧ M 2 i ≤ 15  -- c2.hc
        first | with_reducible assumption | omega | exact trivial | with_reducible rfl
      · show ∀ k i, 0 ≤ k → k < 20 → 0 ≤ i → i < 192 → 0 ≤ M (79 + k) i ∧ M (79 + k) i ≤ 15  -- c2.hq
        first | with_reducible assumption | omega | exact trivial | with_reducible rfl
    refine ⟨gc2, ?_⟩
    rintro r8 M9 ⟨pc2_hf, pc2_h2, pc2_h4, pc2_hr, pc2_h3, pc2_h0, pc2_hn⟩ z_r8 z_M9
    refine hP _ _ ⟨?_, ?_⟩
    · show M 77 1 = 0 → r8 = -3 ∧ M9 = M  -- p2.hy
      intro h; omega
    · show M 77 1 ≠ 0 → po_X3_stepForth M r8 M9  -- p2.hn
      intro _; exact ⟨pc2_hf, pc2_h2, pc2_h4, pc2_hr, pc2_h3, pc2_h0, pc2_hn⟩

abbrev pr_X12_undo (M : zM) : Prop := (0 ≤ M 103 8 ∧ M 103 8 ≤ 20)
abbrev po_X12_undo (M : zM) (r : Int) (M' : zM) : Prop := (M 103 8 = 0 → r = -3 ∧ M' = zset M 103 0 0) ∧ (M 103 8 ≠ 0 → r = zc (fun i => M 106 (192 * (M 103 8 - 1) + i) ≠ M 104 i) 192 ∧ M' 103 8 = M 103 8 - 1 ∧ (∀ i, 0 ≤ i → i < 192 → M' 104 i = M 106 (192 * (M 103 8 - 1) + i)) ∧ (∀ i, 0 ≤ i → i < 192 → M' 106 (192 * (M 103 8 - 1) + i) = M 104 i) ∧ ∀ c i, c ≠ 104 → ¬ (c = 106 ∧ 192 * (M 103 8 - 1) ≤ i ∧ i < 192 * (M 103 8 - 1) + 192) → ¬ (c = 103 ∧ (i = 0 ∨ i = 8)) → M' c i = M c i)
set_option maxHeartbeats 1000000 in
theorem ok_X12_undo : zSnd zS 145 0 0 yX12_undo cX12_undo 1 (some .int) 1 [2] (F_X12_undo pr_X12_undo po_X12_undo) := by
  refine (sn_X12_undo ok_X12_swap).mono ?_
  rintro xs P M hz hR ⟨rfl, h8, hP⟩
  refine ⟨rfl, ?_⟩
  change vc_X12_undo pr_X12_swap po_X12_swap P M
  unfold vc_X12_undo
  intro M1 e_M1
  have q : M1 103 8 = M 103 8 := by rw [e_M1, zset_n _ (by omega)]
  refine ⟨fun b1 => ?_, fun b1 => ?_⟩
  · -- b1.1
    have o1 : zin ((M1 103 8) - 1) := by
      rw [q]; omega
    refine ⟨o1, ?_⟩
    intro M6 e_M6
    have w8 : M6 103 8 = M 103 8 - 1 := by rw [e_M6, zset_s, q]
    have w : ∀ c i, ¬ (c = 103 ∧ (i = 0 ∨ i = 8)) → M6 c i = M c i := fun c i k => by rw [e_M6, zset_n _ (by omega), e_M1, zset_n _ (by omega)]
    have w104 : M6 104 = M 104 := funext fun i => w 104 i (by omega)
    have w106 : M6 106 = M 106 := funext fun i => w 106 i (by omega)
    have gc1 : pr_X12_swap (M6 103 8) M6 := by
      show 0 ≤ (M6 103 8) ∧ (M6 103 8) ≤ 20
      rw [w8]; omega
    refine ⟨gc1, ?_⟩
    rintro r9 M10 ⟨pc1_hf, pc1_h4, pc1_h6, pc1_hr⟩ z_r9 z_M10
    rw [w8, w104, w106] at pc1_hr
    rw [w8, w106] at pc1_h4
    rw [w8, w104] at pc1_h6
    rw [w8] at pc1_hf
    refine hP _ _ ⟨?_, ?_⟩
    · show M 103 8 = 0 → r9 = -3 ∧ M10 = zset M 103 0 0  -- p1.hy
      intro h; exact absurd (q.trans h) b1
    · show M 103 8 ≠ 0 → r9 = zc (fun i => M 106 (192 * (M 103 8 - 1) + i) ≠ M 104 i) 192 ∧ M10 103 8 = M 103 8 - 1 ∧ (∀ i, 0 ≤ i → i < 192 → M10 104 i = M 106 (192 * (M 103 8 - 1) + i)) ∧ (∀ i, 0 ≤ i → i < 192 → M10 106 (192 * (M 103 8 - 1) + i) = M 104 i) ∧ ∀ c i, c ≠ 104 → ¬ (c = 106 ∧ 192 * (M 103 8 - 1) ≤ i ∧ i < 192 * (M 103 8 - 1) + 192) → ¬ (c = 103 ∧ (i = 0 ∨ i = 8)) → M10 c i = M c i  -- p1.hn
      intro _
      refine ⟨pc1_hr, ?_, pc1_h4, pc1_h6, fun c i c1 c2 c3 => ?_⟩
      · rw [pc1_hf 103 8 (by decide) (by omega), w8]
      · rw [pc1_hf c i c1 c2, w c i c3]
  · -- b1.2
    refine hP _ _ ⟨?_, ?_⟩
    · show M 103 8 = 0 → (-3) = -3 ∧ M1 = zset M 103 0 0  -- p2.hy
      intro _; exact ⟨rfl, e_M1⟩
    · show M 103 8 ≠ 0 → (-3) = zc (fun i => M 106 (192 * (M 103 8 - 1) + i) ≠ M 104 i) 192 ∧ M1 103 8 = M 103 8 - 1 ∧ (∀ i, 0 ≤ i → i < 192 → M1 104 i = M 106 (192 * (M 103 8 - 1) + i)) ∧ (∀ i, 0 ≤ i → i < 192 → M1 106 (192 * (M 103 8 - 1) + i) = M 104 i) ∧ ∀ c i, c ≠ 104 → ¬ (c = 106 ∧ 192 * (M 103 8 - 1) ≤ i ∧ i < 192 * (M 103 8 - 1) + 192) → ¬ (c = 103 ∧ (i = 0 ∨ i = 8)) → M1 c i = M c i  -- p2.hn
      intro h; exact absurd (q.symm.trans b1) h

abbrev pr_X12_redo (M : zM) : Prop := (0 ≤ M 103 8 ∧ M 103 8 ≤ M 103 7 ∧ M 103 7 ≤ 20)
abbrev po_X12_redo (M : zM) (r : Int) (M' : zM) : Prop := (M 103 8 = M 103 7 → r = -3 ∧ M' = zset M 103 0 0) ∧ (M 103 8 ≠ M 103 7 → r = zc (fun i => M 106 (192 * M 103 8 + i) ≠ M 104 i) 192 ∧ M' 103 8 = M 103 8 + 1 ∧ (∀ i, 0 ≤ i → i < 192 → M' 104 i = M 106 (192 * M 103 8 + i)) ∧ (∀ i, 0 ≤ i → i < 192 → M' 106 (192 * M 103 8 + i) = M 104 i) ∧ ∀ c i, c ≠ 104 → ¬ (c = 106 ∧ 192 * M 103 8 ≤ i ∧ i < 192 * M 103 8 + 192) → ¬ (c = 103 ∧ (i = 0 ∨ i = 8)) → M' c i = M c i)
set_option maxHeartbeats 1000000 in
theorem ok_X12_redo : zSnd zS 145 0 0 yX12_redo cX12_redo 1 (some .int) 1 [2] (F_X12_redo pr_X12_redo po_X12_redo) := by
  refine (sn_X12_redo ok_X12_swap).mono ?_
  rintro xs P M hz hR ⟨rfl, h8, hP⟩
  refine ⟨rfl, ?_⟩
  change vc_X12_redo pr_X12_swap po_X12_swap P M
  unfold vc_X12_redo
  intro M1 e_M1
  have q : M1 103 8 = M 103 8 := by rw [e_M1, zset_n _ (by omega)]
  have q7 : M1 103 7 = M 103 7 := by rw [e_M1, zset_n _ (by omega)]
  refine ⟨fun b1 => ?_, fun b1 => ?_⟩
  · -- b1.1
    have o1 : zin ((M1 103 8) + 1) := by
      rw [q]; omega
    refine ⟨o1, ?_⟩
    intro M6 e_M6
    have w8 : M6 103 8 - 1 = M 103 8 := by rw [e_M6, zset_s, q]; omega
    have w88 : M6 103 8 = M 103 8 + 1 := by omega
    have w : ∀ c i, ¬ (c = 103 ∧ (i = 0 ∨ i = 8)) → M6 c i = M c i := fun c i k => by rw [e_M6, zset_n _ (by omega), e_M1, zset_n _ (by omega)]
    have w104 : M6 104 = M 104 := funext fun i => w 104 i (by omega)
    have w106 : M6 106 = M 106 := funext fun i => w 106 i (by omega)
    have o2 : zin ((M6 103 8) - 1) := by
      rw [w8]; omega
    refine ⟨o2, ?_⟩
    have gc1 : pr_X12_swap ((M6 103 8) - 1) M6 := by
      show 0 ≤ ((M6 103 8) - 1) ∧ ((M6 103 8) - 1) ≤ 20
      rw [w8]; omega
    refine ⟨gc1, ?_⟩
    rintro r10 M11 ⟨pc1_hf, pc1_h4, pc1_h6, pc1_hr⟩ z_r10 z_M11
    rw [w8, w104, w106] at pc1_hr
    rw [w8, w106] at pc1_h4
    rw [w8, w104] at pc1_h6
    rw [w8] at pc1_hf
    refine hP _ _ ⟨?_, ?_⟩
    · show M 103 8 = M 103 7 → r10 = -3 ∧ M11 = zset M 103 0 0  -- p1.hy
      intro h; exact absurd (q.trans (h.trans q7.symm)) b1
    · show M 103 8 ≠ M 103 7 → r10 = zc (fun i => M 106 (192 * M 103 8 + i) ≠ M 104 i) 192 ∧ M11 103 8 = M 103 8 + 1 ∧ (∀ i, 0 ≤ i → i < 192 → M11 104 i = M 106 (192 * M 103 8 + i)) ∧ (∀ i, 0 ≤ i → i < 192 → M11 106 (192 * M 103 8 + i) = M 104 i) ∧ ∀ c i, c ≠ 104 → ¬ (c = 106 ∧ 192 * M 103 8 ≤ i ∧ i < 192 * M 103 8 + 192) → ¬ (c = 103 ∧ (i = 0 ∨ i = 8)) → M11 c i = M c i  -- p1.hn
      intro _
      refine ⟨pc1_hr, ?_, pc1_h4, pc1_h6, fun c i c1 c2 c3 => ?_⟩
      · rw [pc1_hf 103 8 (by decide) (by omega), w88]
      · rw [pc1_hf c i c1 c2, w c i c3]
  · -- b1.2
    refine hP _ _ ⟨?_, ?_⟩
    · show M 103 8 = M 103 7 → (-3) = -3 ∧ M1 = zset M 103 0 0  -- p2.hy
      intro _; exact ⟨rfl, e_M1⟩
    · show M 103 8 ≠ M 103 7 → (-3) = zc (fun i => M 106 (192 * M 103 8 + i) ≠ M 104 i) 192 ∧ M1 103 8 = M 103 8 + 1 ∧ (∀ i, 0 ≤ i → i < 192 → M1 104 i = M 106 (192 * M 103 8 + i)) ∧ (∀ i, 0 ≤ i → i < 192 → M1 106 (192 * M 103 8 + i) = M 104 i) ∧ ∀ c i, c ≠ 104 → ¬ (c = 106 ∧ 192 * M 103 8 ≤ i ∧ i < 192 * M 103 8 + 192) → ¬ (c = 103 ∧ (i = 0 ∨ i = 8)) → M1 c i = M c i  -- p2.hn
      intro h; exact absurd (q.symm.trans (b1.trans q7)) h

