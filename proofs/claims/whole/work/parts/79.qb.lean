theorem gTP.ex {w : Int → Int} {n : Int} (hn : 0 ≤ n) : ∃ T tp, gTP w n T tp := by
  refine ⟨zc (fun i => zTurn w n i ≠ 0) n, fun t => Classical.epsilon (fun i => 0 ≤ i ∧ i < n ∧ zTurn w n i ≠ 0 ∧ zc (fun i => zTurn w n i ≠ 0) i = t), rfl, fun i i0 i1 h => ?_⟩
  have s := Classical.epsilon_spec (p := fun j => 0 ≤ j ∧ j < n ∧ zTurn w n j ≠ 0 ∧ zc (fun i => zTurn w n i ≠ 0) j = zc (fun i => zTurn w n i ≠ 0) i) ⟨i, i0, i1, h, rfl⟩
  show Classical.epsilon (fun j => 0 ≤ j ∧ j < n ∧ zTurn w n j ≠ 0 ∧ zc (fun i => zTurn w n i ≠ 0) j = zc (fun i => zTurn w n i ≠ 0) i) = i
  generalize Classical.epsilon (fun j => 0 ≤ j ∧ j < n ∧ zTurn w n j ≠ 0 ∧ zc (fun i => zTurn w n i ≠ 0) j = zc (fun i => zTurn w n i ≠ 0) i) = j at s
  apply Classical.byContradiction
  intro c
  rcases Int.lt_or_gt_of_ne c with k | k
  · have := zc_lt2 (p := fun i => zTurn w n i ≠ 0) s.1 k s.2.2.1
    have := s.2.2.2
    omega
  · have := zc_lt2 (p := fun i => zTurn w n i ≠ 0) i0 k h
    have := s.2.2.2
    omega
abbrev pr_X12_step (f : Int) (i : Int) (k : Int) (M : zM) : Prop := (mI M)
abbrev po_X12_step (f : Int) (i : Int) (k : Int) (M : zM) (r : Int) (M' : zM) : Prop := (mW M M') ∧ (mFok M') ∧ (qI ((0 ≤ f ∧ f < M' 103 30) ∧ 0 ≤ k ∧ k ≤ 3) (qStp (zg (M' 103 1) (M' 103 2) (M' 115)) f (M' 103 5) (gS0 (M' 116 f)) i k r) r)
set_option maxHeartbeats 1000000 in
theorem ok_X12_step : zSnd zS 145 0 0 yX12_step cX12_step 4 (some .int) 4 [2, 0, 0, 0] (F_X12_step pr_X12_step po_X12_step) := by
  refine (sn_X12_step ok_X12_isFace ok_X12_in ok_X12_findBorder ok_X12_turnAt).mono ?_
  rintro xs P M hz hR ⟨f, i, k, rfl, hI, hP⟩
  refine ⟨_, _, _, rfl, ?_⟩
  have z_f := zall_h (zall_t hz) (by decide)
  have z_i := zall_h (zall_t (zall_t hz)) (by decide)
  have z_k := zall_h (zall_t (zall_t (zall_t hz))) (by decide)
  change vc_X12_step pr_X12_isFace po_X12_isFace pr_X12_in po_X12_in pr_X12_findBorder po_X12_findBorder pr_X12_turnAt po_X12_turnAt f i k P M
  unfold vc_X12_step
  intro M1 e_M1
  have I1 : mI M1 := hI.fr (fun c i k _ => by rw [e_M1, zset_n _ (by omega)])
  have w1 : mW M M1 := fun c i k => by rw [e_M1, zset_n _ (by omega)]
  have gc1 : pr_X12_isFace f M1 := by
    show mI M1
    exact I1
  refine ⟨gc1, ?_⟩
  rintro r4 M5 ⟨pc1_hf, pc1_hF, pc1_hr⟩ z_r4 z_M5
  have I2 := I1.face pc1_hf
  have w2 : mW M M5 := w1.tr (fun c i k => pc1_hf c i (by omega) (by omega) (by omega))
  refine ⟨fun b1 => ?_, fun b1 => ?_⟩
  · -- b1.1
    refine hP _ _ ⟨?_, ?_, ?_⟩
    · show mW M M5  -- p1.hw
      exact w2
    · show mFok M5  -- p1.hF
      exact pc1_hF
    · show qI ((0 ≤ f ∧ f < M5 103 30) ∧ 0 ≤ k ∧ k ≤ 3) (qStp (zg (M5 103 1) (M5 103 2) (M5 115)) f (M5 103 5) (gS0 (M5 116 f)) i k (-1)) (-1)  -- p1.hr
      exact qI.n (fun k => pc1_hr.z.1 b1 k.1)
  · -- b1.2
    have ha := pc1_hr.ne.1 b1
    have gc2 : pr_X12_in k 0 3 M5 := trivial
    refine ⟨gc2, ?_⟩
    rintro r11 M12 ⟨q_rfl, e_r11⟩ z_r11 z_M12
    have q_rfl := q_rfl.symm
    subst q_rfl
    have z2 := zif01 e_r11
    refine ⟨fun b2 => ?_, fun b2 => ?_⟩
    · -- b2.1
      have hk := z2.ne.1 b2
      have gc3 : pr_X12_findBorder f M5 := by
        refine ⟨?_, ?_, ?_, ?_⟩
        · show mDim M5  -- c3.hd
          exact I2.d
        · show M5 103 5 = 0 ∨ M5 103 5 = 1  -- c3.ht
          exact I2.t
        · show mFok M5  -- c3.hF
          exact pc1_hF
        · show 0 ≤ f ∧ f < M5 103 30  -- c3.ha
          exact ha
      refine ⟨gc3, ?_⟩
      rintro M18 ⟨pc3_hf, pc3_hB⟩ z_M18
      have v := mVe.of (M := M5) (M' := M18) (fun c i k => pc3_hf c i (by omega) (by omega) (by omega) (by omega))
      have F3 := pc1_hF.ve v
      have I3 : mI M18 := I2.fr (fun c i k _ => pc3_hf c i (by omega) (by omega) (by omega) (by omega))
      have w3 : mW M M18 := w2.tr (fun c i k => pc3_hf c i (by omega) (by omega) (by omega) (by omega))
      have ha3 : 0 ≤ f ∧ f < M18 103 30 := by rw [v.2.2.2.2.2.2]; exact ha
      have X := pc3_hB.XY I3.d F3 ha3
      have hB := pc3_hB
      have o1 : zin ((M18 103 38) - 1) := by
        omega
      refine ⟨o1, ?_⟩
      have gc4 : pr_X12_in i 0 ((M18 103 38) - 1) M18 := trivial
      refine ⟨gc4, ?_⟩
      rintro r24 M25 ⟨q_rfl, e_r24⟩ z_r24 z_M25
      have q_rfl := q_rfl.symm
      subst q_rfl
      have z4 := zif01 e_r24
      refine ⟨fun b3 => ?_, fun b3 => ?_⟩
      · -- b3.1
        have hi : 0 ≤ i ∧ i < M18 103 38 := by have := z4.ne.1 b3; omega
        refine ⟨fun b4 => ?_, fun b4 => ?_⟩
        · -- b4.1
          refine ⟨fun b5 => ?_, fun b5 => ?_⟩
          · -- b5.1
            refine ⟨fun b6 => ?_, fun b6 => ?_⟩
            · -- b6.1
              have gc5 : pr_X12_turnAt i M18 := by
                refine ⟨?_, ?_, ?_, ?_⟩
                · show 1 ≤ M18 103 38 ∧ M18 103 38 ≤ 412  -- c5.hn
                  omega
                · show 0 ≤ i ∧ i < M18 103 38  -- c5.hi
                  exact hi
                · show ∀ k, 0 ≤ k → k < M18 103 38 → 0 ≤ M18 118 k ∧ M18 118 k < 4  -- c5.hw
                  exact X.2.2.1
                · show ∀ k, 0 ≤ k → k < M18 103 38 → (M18 118 k - M18 118 (if k = 0 then M18 103 38 - 1 else k - 1)) % 4 ≠ 2  -- c5.h2
                  exact X.2.2.2.1
              refine ⟨gc5, ?_⟩
              rintro r34 M35 ⟨q_rfl, e_r34⟩ z_r34 z_M35
              have q_rfl := q_rfl.symm
              subst q_rfl
              have e4 : r34 = zTurn (fun j => (gE (zg (M18 103 1) (M18 103 2) (M18 115)) f (M18 103 5) (gS0 (M18 116 f)) j).2.2) (M18 103 38) i := by
                rw [e_r34]; exact zTurn_e (fun j j0 j1 => hB.2.1 j j0 j1) hi.1 hi.2
              have o2 : zin (r34 + 1) := by
                have : zTurn (M18 118) (M18 103 38) i ≤ 1 ∧ -1 ≤ zTurn (M18 118) (M18 103 38) i := by unfold zTurn; split <;> (try split) <;> omega
                omega
              refine ⟨o2, ?_⟩
              refine hP _ _ ⟨?_, ?_, ?_⟩
              · show mW M M18  -- p2.hw
                exact w3
              · show mFok M18  -- p2.hF
                exact F3
              · show qI ((0 ≤ f ∧ f < M18 103 30) ∧ 0 ≤ k ∧ k ≤ 3) (qStp (zg (M18 103 1) (M18 103 2) (M18 115)) f (M18 103 5) (gS0 (M18 116 f)) i k (r34 + 1)) (r34 + 1)  -- p2.hr
                exact qI.y ⟨ha3, hk⟩ ⟨_, hB.1, qI.y hi (by unfold qStv; rw [if_neg b4, if_neg b5, if_neg b6, e4])⟩
            · -- b6.2
              have o3 : ((0 : Int) ≤ i ∧ i < 901) := by
                omega
              refine ⟨o3, ?_⟩
              refine hP _ _ ⟨?_, ?_, ?_⟩
              · show mW M M18  -- p3.hw
                exact w3
              · show mFok M18  -- p3.hF
                exact F3
              · show qI ((0 ≤ f ∧ f < M18 103 30) ∧ 0 ≤ k ∧ k ≤ 3) (qStp (zg (M18 103 1) (M18 103 2) (M18 115)) f (M18 103 5) (gS0 (M18 116 f)) i k (M18 120 i)) (M18 120 i)  -- p3.hr
                exact qI.y ⟨ha3, hk⟩ ⟨_, hB.1, qI.y hi (by unfold qStv; rw [if_neg b4, if_neg b5, if_pos b6]; exact (hB.2.2 i hi.1 (by omega)).2)⟩
          · -- b5.2
            have o4 : ((0 : Int) ≤ i ∧ i < 901) := by
              omega
            refine ⟨o4, ?_⟩
            refine hP _ _ ⟨?_, ?_, ?_⟩
            · show mW M M18  -- p4.hw
              exact w3
            · show mFok M18  -- p4.hF
              exact F3
            · show qI ((0 ≤ f ∧ f < M18 103 30) ∧ 0 ≤ k ∧ k ≤ 3) (qStp (zg (M18 103 1) (M18 103 2) (M18 115)) f (M18 103 5) (gS0 (M18 116 f)) i k (M18 119 i)) (M18 119 i)  -- p4.hr
              exact qI.y ⟨ha3, hk⟩ ⟨_, hB.1, qI.y hi (by unfold qStv; rw [if_neg b4, if_pos b5]; exact (hB.2.2 i hi.1 (by omega)).1)⟩
        · -- b4.2
          have o5 : ((0 : Int) ≤ i ∧ i < 900) := by
            omega
          refine ⟨o5, ?_⟩
          refine hP _ _ ⟨?_, ?_, ?_⟩
          · show mW M M18  -- p5.hw
            exact w3
          · show mFok M18  -- p5.hF
            exact F3
          · show qI ((0 ≤ f ∧ f < M18 103 30) ∧ 0 ≤ k ∧ k ≤ 3) (qStp (zg (M18 103 1) (M18 103 2) (M18 115)) f (M18 103 5) (gS0 (M18 116 f)) i k (M18 118 i)) (M18 118 i)  -- p5.hr
            exact qI.y ⟨ha3, hk⟩ ⟨_, hB.1, qI.y hi (by unfold qStv; rw [if_pos b4]; exact hB.2.1 i hi.1 hi.2)⟩
      · -- b3.2
        refine hP _ _ ⟨?_, ?_, ?_⟩
        · show mW M M18  -- p6.hw
          exact w3
        · show mFok M18  -- p6.hF
          exact F3
        · show qI ((0 ≤ f ∧ f < M18 103 30) ∧ 0 ≤ k ∧ k ≤ 3) (qStp (zg (M18 103 1) (M18 103 2) (M18 115)) f (M18 103 5) (gS0 (M18 116 f)) i k (-1)) (-1)  -- p6.hr
          exact qI.y ⟨ha3, hk⟩ ⟨_, hB.1, qI.n (fun q => z4.z.1 b3 (by omega))⟩
    · -- b2.2
      refine hP _ _ ⟨?_, ?_, ?_⟩
      · show mW M M5  -- p7.hw
        exact w2
      · show mFok M5  -- p7.hF
        exact pc1_hF
      · show qI ((0 ≤ f ∧ f < M5 103 30) ∧ 0 ≤ k ∧ k ≤ 3) (qStp (zg (M5 103 1) (M5 103 2) (M5 115)) f (M5 103 5) (gS0 (M5 116 f)) i k (-1)) (-1)  -- p7.hr
        exact qI.n (fun k => z2.z.1 b2 k.2)

abbrev pr_X12_corners (f : Int) (k : Int) (M : zM) : Prop := (mI M)
abbrev po_X12_corners (f : Int) (k : Int) (M : zM) (r : Int) (M' : zM) : Prop := (mW M M') ∧ (mFok M') ∧ (qI ((0 ≤ f ∧ f < M' 103 30) ∧ 0 ≤ k ∧ k ≤ 99) (qCor (zg (M' 103 1) (M' 103 2) (M' 115)) f (M' 103 5) (gS0 (M' 116 f)) k r) r)
set_option maxHeartbeats 1000000 in
theorem ok_X12_corners : zSnd zS 145 0 0 yX12_corners cX12_corners 3 (some .int) 4 [2, 0, 0] (F_X12_corners pr_X12_corners po_X12_corners) := by
  refine (sn_X12_corners ok_X12_isFace ok_X12_in ok_X12_findBorder ok_X12_findCorners).mono ?_
  rintro xs P M hz hR ⟨f, k, rfl, hI, hP⟩
  refine ⟨_, _, rfl, ?_⟩
  have z_f := zall_h (zall_t hz) (by decide)
  have z_k := zall_h (zall_t (zall_t hz)) (by decide)
  change vc_X12_corners pr_X12_isFace po_X12_isFace pr_X12_in po_X12_in pr_X12_findBorder po_X12_findBorder pr_X12_findCorners po_X12_findCorners f k P M
  unfold vc_X12_corners
  intro M1 e_M1
  have I1 : mI M1 := hI.fr (fun c i k _ => by rw [e_M1, zset_n _ (by omega)])
  have w1 : mW M M1 := fun c i k => by rw [e_M1, zset_n _ (by omega)]
  have gc1 : pr_X12_isFace f M1 := by
    show mI M1
    exact I1
  refine ⟨gc1, ?_⟩
  rintro r4 M5 ⟨pc1_hf, pc1_hF, pc1_hr⟩ z_r4 z_M5
  have I2 := I1.face pc1_hf
  have w2 : mW M M5 := w1.tr (fun c i k => pc1_hf c i (by omega) (by omega) (by omega))
  refine ⟨fun b1 => ?_, fun b1 => ?_⟩
  · -- b1.1
    refine hP _ _ ⟨?_, ?_, ?_⟩
    · show mW M M5  -- p1.hw
      exact w2
    · show mFok M5  -- p1.hF
      exact pc1_hF
    · show qI ((0 ≤ f ∧ f < M5 103 30) ∧ 0 ≤ k ∧ k ≤ 99) (qCor (zg (M5 103 1) (M5 103 2) (M5 115)) f (M5 103 5) (gS0 (M5 116 f)) k (-1)) (-1)  -- p1.hr
      exact qI.n (fun k => pc1_hr.z.1 b1 k.1)
  · -- b1.2
    have ha := pc1_hr.ne.1 b1
    have gc2 : pr_X12_in k 0 99 M5 := trivial
    refine ⟨gc2, ?_⟩
    rintro r11 M12 ⟨q_rfl, e_r11⟩ z_r11 z_M12
    have q_rfl := q_rfl.symm
    subst q_rfl
    have z2 := zif01 e_r11
    refine ⟨fun b2 => ?_, fun b2 => ?_⟩
    · -- b2.1
      have hk := z2.ne.1 b2
      have gc3 : pr_X12_findBorder f M5 := by
        refine ⟨?_, ?_, ?_, ?_⟩
        · show mDim M5  -- c3.hd
          exact I2.d
        · show M5 103 5 = 0 ∨ M5 103 5 = 1  -- c3.ht
          exact I2.t
        · show mFok M5  -- c3.hF
          exact pc1_hF
        · show 0 ≤ f ∧ f < M5 103 30  -- c3.ha
          exact ha
      refine ⟨gc3, ?_⟩
      rintro M18 ⟨pc3_hf, pc3_hB⟩ z_M18
      have v := mVe.of (M := M5) (M' := M18) (fun c i k => pc3_hf c i (by omega) (by omega) (by omega) (by omega))
      have F3 := pc1_hF.ve v
      have I3 : mI M18 := I2.fr (fun c i k _ => pc3_hf c i (by omega) (by omega) (by omega) (by omega))
      have w3 : mW M M18 := w2.tr (fun c i k => pc3_hf c i (by omega) (by omega) (by omega) (by omega))
      have ha3 : 0 ≤ f ∧ f < M18 103 30 := by rw [v.2.2.2.2.2.2]; exact ha
      have X := pc3_hB.XY I3.d F3 ha3
      have hB := pc3_hB
      have gc4 : pr_X12_findCorners k M18 := by
        refine ⟨?_, ?_, ?_, ?_, ?_⟩
        · show 1 ≤ M18 103 38 ∧ M18 103 38 ≤ 412  -- c4.hn
          omega
        · show ∀ k, 0 ≤ k → k < M18 103 38 → 0 ≤ M18 118 k ∧ M18 118 k < 4  -- c4.hw
          exact X.2.2.1
        · show ∀ k, 0 ≤ k → k < M18 103 38 → (M18 118 k - M18 118 (if k = 0 then M18 103 38 - 1 else k - 1)) % 4 ≠ 2  -- c4.h2
          exact X.2.2.2.1
        · show 1 ≤ zc (fun i => zTurn (M18 118) (M18 103 38) i ≠ 0) (M18 103 38)  -- c4.hT1
          exact X.2.2.2.2
        · show 0 ≤ k ∧ k ≤ 99  -- c4.hc
          exact hk
      refine ⟨gc4, ?_⟩
      rintro r23 M24 ⟨pc4_hf, pc4_hT, pc4_hr, pc4_hC⟩ z_r23 z_M24
      have u := mVe.of (M := M18) (M' := M24) (fun c i k => pc4_hf c i (by omega) (by omega) (by omega) (by omega) (by omega))
      refine hP _ _ ⟨?_, ?_, ?_⟩
      · show mW M M24  -- p2.hw
        exact w3.tr (fun c i k => pc4_hf c i (by omega) (by omega) (by omega) (by omega) (by omega))
      · show mFok M24  -- p2.hF
        exact F3.ve u
      · show qI ((0 ≤ f ∧ f < M24 103 30) ∧ 0 ≤ k ∧ k ≤ 99) (qCor (zg (M24 103 1) (M24 103 2) (M24 115)) f (M24 103 5) (gS0 (M24 116 f)) k r23) r23  -- p2.hr
        obtain ⟨v0, v1, v2, v3, v4, v5, v6⟩ := u
        simp only [v0, v1, v2, v4, v5, v6]
        exact qI.y ⟨ha3, hk⟩ ⟨_, _, _, _, hB.1, hB.2.1, pc4_hT, pc4_hr⟩
    · -- b2.2
      refine hP _ _ ⟨?_, ?_, ?_⟩
      · show mW M M5  -- p3.hw
        exact w2
      · show mFok M5  -- p3.hF
        exact pc1_hF
      · show qI ((0 ≤ f ∧ f < M5 103 30) ∧ 0 ≤ k ∧ k ≤ 99) (qCor (zg (M5 103 1) (M5 103 2) (M5 115)) f (M5 103 5) (gS0 (M5 116 f)) k (-1)) (-1)  -- p3.hr
        exact qI.n (fun k => z2.z.1 b2 k.2)

abbrev pr_X12_cornered (f : Int) (k : Int) (i : Int) (M : zM) : Prop := (mI M)
abbrev po_X12_cornered (f : Int) (k : Int) (i : Int) (M : zM) (r : Int) (M' : zM) : Prop := (mW M M') ∧ (mFok M') ∧ (qI ((0 ≤ f ∧ f < M' 103 30) ∧ 0 ≤ k ∧ k ≤ 99) (qCrd (zg (M' 103 1) (M' 103 2) (M' 115)) f (M' 103 5) (gS0 (M' 116 f)) k i r) r)
set_option maxHeartbeats 1000000 in
theorem ok_X12_cornered : zSnd zS 145 0 0 yX12_cornered cX12_cornered 4 (some .int) 4 [2, 0, 0, 0] (F_X12_cornered pr_X12_cornered po_X12_cornered) := by
  refine (sn_X12_cornered ok_X12_isFace ok_X12_in ok_X12_findBorder ok_X12_findCorners).mono ?_
  rintro xs P M hz hR ⟨f, k, i, rfl, hI, hP⟩
  refine ⟨_, _, _, rfl, ?_⟩
  have z_f := zall_h (zall_t hz) (by decide)
  have z_k := zall_h (zall_t (zall_t hz)) (by decide)
  have z_i := zall_h (zall_t (zall_t (zall_t hz))) (by decide)
  change vc_X12_cornered pr_X12_isFace po_X12_isFace pr_X12_in po_X12_in pr_X12_findBorder po_X12_findBorder pr_X12_findCorners po_X12_findCorners f k i P M
  unfold vc_X12_cornered
  intro M1 e_M1
  have I1 : mI M1 := hI.fr (fun c i k _ => by rw [e_M1, zset_n _ (by omega)])
  have w1 : mW M M1 := fun c i k => by rw [e_M1, zset_n _ (by omega)]
  have gc1 : pr_X12_isFace f M1 := by
    show mI M1
    exact I1
  refine ⟨gc1, ?_⟩
  rintro r4 M5 ⟨pc1_hf, pc1_hF, pc1_hr⟩ z_r4 z_M5
  have I2 := I1.face pc1_hf
  have w2 : mW M M5 := w1.tr (fun c i k => pc1_hf c i (by omega) (by omega) (by omega))
  refine ⟨fun b1 => ?_, fun b1 => ?_⟩
  · -- b1.1
    refine hP _ _ ⟨?_, ?_, ?_⟩
    · show mW M M5  -- p1.hw
      exact w2
    · show mFok M5  -- p1.hF
      exact pc1_hF
    · show qI ((0 ≤ f ∧ f < M5 103 30) ∧ 0 ≤ k ∧ k ≤ 99) (qCrd (zg (M5 103 1) (M5 103 2) (M5 115)) f (M5 103 5) (gS0 (M5 116 f)) k i (-1)) (-1)  -- p1.hr
      exact qI.n (fun k => pc1_hr.z.1 b1 k.1)
  · -- b1.2
    have ha := pc1_hr.ne.1 b1
    have gc2 : pr_X12_in k 0 99 M5 := trivial
    refine ⟨gc2, ?_⟩
    rintro r11 M12 ⟨q_rfl, e_r11⟩ z_r11 z_M12
    have q_rfl := q_rfl.symm
    subst q_rfl
    have z2 := zif01 e_r11
    refine ⟨fun b2 => ?_, fun b2 => ?_⟩
    · -- b2.1
      have hk := z2.ne.1 b2
      have gc3 : pr_X12_findBorder f M5 := by
        refine ⟨?_, ?_, ?_, ?_⟩
        · show mDim M5  -- c3.hd
          exact I2.d
        · show M5 103 5 = 0 ∨ M5 103 5 = 1  -- c3.ht
          exact I2.t
        · show mFok M5  -- c3.hF
          exact pc1_hF
        · show 0 ≤ f ∧ f < M5 103 30  -- c3.ha
          exact ha
      refine ⟨gc3, ?_⟩
      rintro M18 ⟨pc3_hf, pc3_hB⟩ z_M18
      have v := mVe.of (M := M5) (M' := M18) (fun c i k => pc3_hf c i (by omega) (by omega) (by omega) (by omega))
      have F3 := pc1_hF.ve v
      have I3 : mI M18 := I2.fr (fun c i k _ => pc3_hf c i (by omega) (by omega) (by omega) (by omega))
      have w3 : mW M M18 := w2.tr (fun c i k => pc3_hf c i (by omega) (by omega) (by omega) (by omega))
      have ha3 : 0 ≤ f ∧ f < M18 103 30 := by rw [v.2.2.2.2.2.2]; exact ha
      have X := pc3_hB.XY I3.d F3 ha3
      have hB := pc3_hB
      have v0' := gS0_V (w := M18 103 1) (h := M18 103 2) (f := f) (a := M18 116 f) (by have := I3.d; omega) F3.1 rfl ha3.1 ha3.2 rfl
      have o1 : zin ((M18 103 38) - 1) := by
        omega
      refine ⟨o1, ?_⟩
      have gc4 : pr_X12_in i 0 ((M18 103 38) - 1) M18 := trivial
      refine ⟨gc4, ?_⟩
      rintro r24 M25 ⟨q_rfl, e_r24⟩ z_r24 z_M25
      have q_rfl := q_rfl.symm
      subst q_rfl
      have z4 := zif01 e_r24
      refine ⟨fun b3 => ?_, fun b3 => ?_⟩
      · -- b3.1
        have hi : 0 ≤ i ∧ i < M18 103 38 := by have := z4.ne.1 b3; omega
        have gc5 : pr_X12_findCorners k M18 := by
          refine ⟨?_, ?_, ?_, ?_, ?_⟩
          · show 1 ≤ M18 103 38 ∧ M18 103 38 ≤ 412  -- c5.hn
            omega
          · show ∀ k, 0 ≤ k → k < M18 103 38 → 0 ≤ M18 118 k ∧ M18 118 k < 4  -- c5.hw
            exact X.2.2.1
          · show ∀ k, 0 ≤ k → k < M18 103 38 → (M18 118 k - M18 118 (if k = 0 then M18 103 38 - 1 else k - 1)) % 4 ≠ 2  -- c5.h2
            exact X.2.2.2.1
          · show 1 ≤ zc (fun i => zTurn (M18 118) (M18 103 38) i ≠ 0) (M18 103 38)  -- c5.hT1
            exact X.2.2.2.2
          · show 0 ≤ k ∧ k ≤ 99  -- c5.hc
            exact hk
        refine ⟨gc5, ?_⟩
        rintro r31 M32 ⟨pc5_hf, pc5_hT, pc5_hr, pc5_hC⟩ z_r31 z_M32
        have u := mVe.of (M := M18) (M' := M32) (fun c i k => pc5_hf c i (by omega) (by omega) (by omega) (by omega) (by omega))
        have F5 := F3.ve u
        have w5 : mW M M32 := w3.tr (fun c i k => pc5_hf c i (by omega) (by omega) (by omega) (by omega) (by omega))
        have hC := pc5_hC i hi.1 hi.2
        have T0 := pc5_hT.T0 (by omega)
        have c01 : M32 124 i = 0 ∨ M32 124 i = 1 := by
          rw [hC]; unfold gCa
          split
          · exact .inl rfl
          · exact gCs_01 (by unfold gSt; split <;> omega) _ (zc_b _ i hi.1).1
        have o2 : ((0 : Int) ≤ i ∧ i < 900) := by
          omega
        refine ⟨o2, ?_⟩
        refine ⟨fun b4 => ?_, fun b4 => ?_⟩
        · -- b4.1
          refine hP _ _ ⟨?_, ?_, ?_⟩
          · show mW M M32  -- p2.hw
            exact w5
          · show mFok M32  -- p2.hF
            exact F5
          · show qI ((0 ≤ f ∧ f < M32 103 30) ∧ 0 ≤ k ∧ k ≤ 99) (qCrd (zg (M32 103 1) (M32 103 2) (M32 115)) f (M32 103 5) (gS0 (M32 116 f)) k i 0) 0  -- p2.hr
            obtain ⟨v0, v1, v2, v3, v4, v5, v6⟩ := u
            simp only [v0, v1, v2, v4, v5, v6]
            exact qI.y ⟨ha3, hk⟩ ⟨_, _, _, _, hB.1, hB.2.1, pc5_hT, qI.y hi (by rw [← hC]; omega)⟩
        · -- b4.2
          refine hP _ _ ⟨?_, ?_, ?_⟩
          · show mW M M32  -- p3.hw
            exact w5
          · show mFok M32  -- p3.hF
            exact F5
          · show qI ((0 ≤ f ∧ f < M32 103 30) ∧ 0 ≤ k ∧ k ≤ 99) (qCrd (zg (M32 103 1) (M32 103 2) (M32 115)) f (M32 103 5) (gS0 (M32 116 f)) k i 1) 1  -- p3.hr
            obtain ⟨v0, v1, v2, v3, v4, v5, v6⟩ := u
            simp only [v0, v1, v2, v4, v5, v6]
            exact qI.y ⟨ha3, hk⟩ ⟨_, _, _, _, hB.1, hB.2.1, pc5_hT, qI.y hi (by rw [← hC]; omega)⟩
      · -- b3.2
        refine hP _ _ ⟨?_, ?_, ?_⟩
        · show mW M M18  -- p4.hw
          exact w3
        · show mFok M18  -- p4.hF
          exact F3
        · show qI ((0 ≤ f ∧ f < M18 103 30) ∧ 0 ≤ k ∧ k ≤ 99) (qCrd (zg (M18 103 1) (M18 103 2) (M18 115)) f (M18 103 5) (gS0 (M18 116 f)) k i (-1)) (-1)  -- p4.hr
          obtain ⟨T, tp, hT⟩ : ∃ T tp, gTP (M18 118) (M18 103 38) T tp := gTP.ex (by omega)
          exact qI.y ⟨ha3, hk⟩ ⟨_, _, _, _, hB.1, hB.2.1, hT, qI.n (fun q => z4.z.1 b3 (by omega))⟩
    · -- b2.2
      refine hP _ _ ⟨?_, ?_, ?_⟩
      · show mW M M5  -- p5.hw
        exact w2
      · show mFok M5  -- p5.hF
        exact pc1_hF
      · show qI ((0 ≤ f ∧ f < M5 103 30) ∧ 0 ≤ k ∧ k ≤ 99) (qCrd (zg (M5 103 1) (M5 103 2) (M5 115)) f (M5 103 5) (gS0 (M5 116 f)) k i (-1)) (-1)  -- p5.hr
        exact qI.n (fun k => z2.z.1 b2 k.2)

abbrev pr_X12_inBand (f : Int) (i : Int) (j : Int) (k : Int) (M : zM) : Prop := (mI M)
abbrev po_X12_inBand (f : Int) (i : Int) (j : Int) (k : Int) (M : zM) (r : Int) (M' : zM) : Prop := (mW M M') ∧ (mFok M') ∧ (qI ((0 ≤ f ∧ f < M' 103 30) ∧ 0 ≤ k ∧ k ≤ 400) (qBnd (zg (M' 103 1) (M' 103 2) (M' 115)) f (M' 103 5) (gS0 (M' 116 f)) i j k r) r)
set_option maxHeartbeats 1000000 in
theorem ok_X12_inBand : zSnd zS 145 0 0 yX12_inBand cX12_inBand 5 (some .int) 5 [2, 0, 0, 0, 0] (F_X12_inBand pr_X12_inBand po_X12_inBand) := by
  refine (sn_X12_inBand ok_X12_isBorder ok_X12_isStraight).mono ?_
  rintro xs P M hz hR ⟨f, i, j, k, rfl, hI, hP⟩
  refine ⟨_, _, _, _, rfl, ?_⟩
  have z_f := zall_h (zall_t hz) (by decide)
  have z_i := zall_h (zall_t (zall_t hz)) (by decide)
  have z_j := zall_h (zall_t (zall_t (zall_t hz))) (by decide)
  have z_k := zall_h (zall_t (zall_t (zall_t (zall_t hz)))) (by decide)
  change vc_X12_inBand pr_X12_isBorder po_X12_isBorder pr_X12_isStraight po_X12_isStraight f i j k P M
  unfold vc_X12_inBand
  intro M1 e_M1
  have I1 : mI M1 := hI.fr (fun c i k _ => by rw [e_M1, zset_n _ (by omega)])
  have w1 : mW M M1 := fun c i k => by rw [e_M1, zset_n _ (by omega)]
  have gc1 : pr_X12_isBorder f k M1 := by
    show mI M1
    exact I1
  refine ⟨gc1, ?_⟩
  rintro r4 M5 ⟨pc1_hf, pc1_hF, pc1_hr, pc1_hB⟩ z_r4 z_M5
  have I2 : mI M5 := I1.fr (fun c i k _ => pc1_hf c i (by omega) (by omega))
  have w2 : mW M M5 := w1.tr (fun c i k => pc1_hf c i (by omega) (by omega))
  refine ⟨fun b1 => ?_, fun b1 => ?_⟩
  · -- b1.1
    refine hP _ _ ⟨?_, ?_, ?_⟩
    · show mW M M5  -- p1.hw
      exact w2
    · show mFok M5  -- p1.hF
      exact pc1_hF
    · show qI ((0 ≤ f ∧ f < M5 103 30) ∧ 0 ≤ k ∧ k ≤ 400) (qBnd (zg (M5 103 1) (M5 103 2) (M5 115)) f (M5 103 5) (gS0 (M5 116 f)) i j k (-1)) (-1)  -- p1.hr
      exact qI.n (fun k => pc1_hr.z.1 b1 k)
  · -- b1.2
    have ⟨ha, hk⟩ := pc1_hr.ne.1 b1
    have hB := pc1_hB (by have := pc1_hr.b; omega)
    have X := hB.XY I2.d pc1_hF ha
    refine ⟨fun b2 => ?_, fun b2 => ?_⟩
    · -- b2.1
      refine hP _ _ ⟨?_, ?_, ?_⟩
      · show mW M M5  -- p2.hw
        exact w2
      · show mFok M5  -- p2.hF
        exact pc1_hF
      · show qI ((0 ≤ f ∧ f < M5 103 30) ∧ 0 ≤ k ∧ k ≤ 400) (qBnd (zg (M5 103 1) (M5 103 2) (M5 115)) f (M5 103 5) (gS0 (M5 116 f)) i j k (-1)) (-1)  -- p2.hr
        exact qI.y ⟨ha, hk⟩ ⟨_, hB.1, qI.n (fun q => by omega)⟩
    · -- b2.2
      refine ⟨fun b3 => ?_, fun b3 => ?_⟩
      · -- b3.1
        refine hP _ _ ⟨?_, ?_, ?_⟩
        · show mW M M5  -- p3.hw
          exact w2
        · show mFok M5  -- p3.hF
          exact pc1_hF
        · show qI ((0 ≤ f ∧ f < M5 103 30) ∧ 0 ≤ k ∧ k ≤ 400) (qBnd (zg (M5 103 1) (M5 103 2) (M5 115)) f (M5 103 5) (gS0 (M5 116 f)) i j k (-1)) (-1)  -- p3.hr
          exact qI.y ⟨ha, hk⟩ ⟨_, hB.1, qI.n (fun q => by omega)⟩
      · -- b3.2
        refine ⟨fun b4 => ?_, fun b4 => ?_⟩
        · -- b4.1
          have gc2 : pr_X12_isStraight i j k M5 := by
            refine ⟨?_, ?_, ?_, ?_, ?_⟩
            · show M5 103 38 ≤ 412  -- c2.hn
              omega
            · show mXY M5  -- c2.hX
              exact X.1
            · show 0 ≤ i ∧ i ≤ M5 103 38  -- c2.hi
              omega
            · show 0 ≤ j ∧ j ≤ M5 103 38  -- c2.hj
              omega
            · show 0 ≤ k ∧ k ≤ 400  -- c2.hm
              exact hk
          refine ⟨gc2, ?_⟩
          rintro r14 M15 ⟨q_rfl, pc2_pb⟩ z_r14 z_M15
          have q_rfl := q_rfl.symm
          subst q_rfl
          have ie := gStr_e (n := M5 103 38) (m := k) (i := i) (j := j) (fun q q0 q1 => hB.2.2 q q0 q1) (by omega) (by omega) (by omega)
          refine ⟨fun b5 => ?_, fun b5 => ?_⟩
          · -- b5.1
            refine hP _ _ ⟨?_, ?_, ?_⟩
            · show mW M M5  -- p4.hw
              exact w2
            · show mFok M5  -- p4.hF
              exact pc1_hF
            · show qI ((0 ≤ f ∧ f < M5 103 30) ∧ 0 ≤ k ∧ k ≤ 400) (qBnd (zg (M5 103 1) (M5 103 2) (M5 115)) f (M5 103 5) (gS0 (M5 116 f)) i j k 0) 0  -- p4.hr
              exact qI.y ⟨ha, hk⟩ ⟨_, hB.1, qI.y (by omega) (zB.f (fun q => pc2_pb.z.1 b5 (ie.2 q)))⟩
          · -- b5.2
            refine hP _ _ ⟨?_, ?_, ?_⟩
            · show mW M M5  -- p5.hw
              exact w2
            · show mFok M5  -- p5.hF
              exact pc1_hF
            · show qI ((0 ≤ f ∧ f < M5 103 30) ∧ 0 ≤ k ∧ k ≤ 400) (qBnd (zg (M5 103 1) (M5 103 2) (M5 115)) f (M5 103 5) (gS0 (M5 116 f)) i j k 1) 1  -- p5.hr
              exact qI.y ⟨ha, hk⟩ ⟨_, hB.1, qI.y (by omega) (zB.t (ie.1 (pc2_pb.ne.1 b5)))⟩
        · -- b4.2
          refine hP _ _ ⟨?_, ?_, ?_⟩
          · show mW M M5  -- p6.hw
            exact w2
          · show mFok M5  -- p6.hF
            exact pc1_hF
          · show qI ((0 ≤ f ∧ f < M5 103 30) ∧ 0 ≤ k ∧ k ≤ 400) (qBnd (zg (M5 103 1) (M5 103 2) (M5 115)) f (M5 103 5) (gS0 (M5 116 f)) i j k (-1)) (-1)  -- p6.hr
            exact qI.y ⟨ha, hk⟩ ⟨_, hB.1, qI.n (fun q => by omega)⟩

theorem mBk.dw {M M' : zM} {f m P : Int} {b : Int → Int} (B : mBk M f) (hp : gPie (gStr (M 119) (M 120) m) (M 103 38) P b) : qDw (zg (M 103 1) (M 103 2) (M 115)) f (M 103 5) (gS0 (M 116 f)) m (M 103 38) P b (M 119) (M 120) :=
  ⟨B.1, hp.cong (fun i j i0 ij jn => gStr_e (n := M 103 38) (fun q q0 q1 => B.2.2 q q0 q1) i0 ij jn), B.2.2⟩
abbrev pr_X12_fewest (f : Int) (m : Int) (i : Int) (M : zM) : Prop := (mI M)
abbrev po_X12_fewest (f : Int) (m : Int) (i : Int) (M : zM) (r : Int) (M' : zM) : Prop := (mW M M') ∧ (mFok M') ∧ (qI ((0 ≤ f ∧ f < M' 103 30) ∧ (0 ≤ m ∧ m ≤ 400) ∧ -1 ≤ i) (qFew (zg (M' 103 1) (M' 103 2) (M' 115)) f (M' 103 5) (gS0 (M' 116 f)) m i r) r)
set_option maxHeartbeats 1000000 in
theorem ok_X12_fewest : zSnd zS 145 0 0 yX12_fewest cX12_fewest 4 (some .int) 5 [2, 0, 0, 0] (F_X12_fewest pr_X12_fewest po_X12_fewest) := by
  refine (sn_X12_fewest ok_X12_isBorder ok_X12_findPieces).mono ?_
  rintro xs P M hz hR ⟨f, m, i, rfl, hI, hP⟩
  refine ⟨_, _, _, rfl, ?_⟩
  have z_f := zall_h (zall_t hz) (by decide)
  have z_m := zall_h (zall_t (zall_t hz)) (by decide)
  have z_i := zall_h (zall_t (zall_t (zall_t hz))) (by decide)
  change vc_X12_fewest pr_X12_isBorder po_X12_isBorder pr_X12_findPieces po_X12_findPieces f m i P M
  unfold vc_X12_fewest
  intro M1 e_M1
  have I1 : mI M1 := hI.fr (fun c i k _ => by rw [e_M1, zset_n _ (by omega)])
  have w1 : mW M M1 := fun c i k => by rw [e_M1, zset_n _ (by omega)]
  have gc1 : pr_X12_isBorder f m M1 := by
    show mI M1
    exact I1
  refine ⟨gc1, ?_⟩
  rintro r4 M5 ⟨pc1_hf, pc1_hF, pc1_hr, pc1_hB⟩ z_r4 z_M5
  have I2 : mI M5 := I1.fr (fun c i k _ => pc1_hf c i (by omega) (by omega))
  have w2 : mW M M5 := w1.tr (fun c i k => pc1_hf c i (by omega) (by omega))
  refine ⟨fun b1 => ?_, fun b1 => ?_⟩
  · -- b1.1
    refine hP _ _ ⟨?_, ?_, ?_⟩
    · show mW M M5  -- p1.hw
      exact w2
    · show mFok M5  -- p1.hF
      exact pc1_hF
    · show qI ((0 ≤ f ∧ f < M5 103 30) ∧ (0 ≤ m ∧ m ≤ 400) ∧ -1 ≤ i) (qFew (zg (M5 103 1) (M5 103 2) (M5 115)) f (M5 103 5) (gS0 (M5 116 f)) m i (-1)) (-1)  -- p1.hr
      exact qI.n (fun k => pc1_hr.z.1 b1 ⟨k.1, k.2.1⟩)
  · -- b1.2
    have ⟨ha, hk⟩ := pc1_hr.ne.1 b1
    have hB := pc1_hB (by have := pc1_hr.b; omega)
    have X := hB.XY I2.d pc1_hF ha
    refine ⟨fun b2 => ?_, fun b2 => ?_⟩
    · -- b2.1
      have gc2 : pr_X12_findPieces m M5 := by
        refine ⟨?_, ?_, ?_⟩
        · show 3 ≤ M5 103 38 ∧ M5 103 38 ≤ 412  -- c2.hn
          exact X.2.1
        · show mXY M5  -- c2.hX
          exact X.1
        · show 0 ≤ m ∧ m ≤ 400  -- c2.hm
          exact hk
      refine ⟨gc2, ?_⟩
      rintro M12 ⟨pc2_hf, pc2_hp⟩ z_M12
      have W := hB.dw (M' := M5) pc2_hp
      have A := W.at
      have u := mVe.of (M := M5) (M' := M12) (fun c i k => pc2_hf c i (by omega) (by omega) (by omega) (by omega))
      have F3 := pc1_hF.ve u
      have w3 : mW M M12 := w2.tr (fun c i k => pc2_hf c i (by omega) (by omega) (by omega) (by omega))
      obtain ⟨v0, v1, v2, v3, v4, v5, v6⟩ := u
      refine ⟨fun b3 => ?_, fun b3 => ?_⟩
      · -- b3.1
        refine ⟨fun b4 => ?_, fun b4 => ?_⟩
        · -- b4.1
          refine hP _ _ ⟨?_, ?_, ?_⟩
          · show mW M M12  -- p2.hw
            exact w3
          · show mFok M12  -- p2.hF
            exact F3
          · show qI ((0 ≤ f ∧ f < M12 103 30) ∧ (0 ≤ m ∧ m ≤ 400) ∧ -1 ≤ i) (qFew (zg (M12 103 1) (M12 103 2) (M12 115)) f (M12 103 5) (gS0 (M12 116 f)) m i (-4)) (-4)  -- p2.hr
            simp only [v0, v1, v2, v4, v5, v6]; exact qI.y ⟨ha, hk, b2⟩ ⟨_, _, _, W.1, W.2.1, by rw [if_neg (by omega), if_neg (by omega)]⟩
        · -- b4.2
          have o1 : ((0 : Int) ≤ i ∧ i < 901) := by
            omega
          refine ⟨o1, ?_⟩
          refine hP _ _ ⟨?_, ?_, ?_⟩
          · show mW M M12  -- p3.hw
            exact w3
          · show mFok M12  -- p3.hF
            exact F3
          · show qI ((0 ≤ f ∧ f < M12 103 30) ∧ (0 ≤ m ∧ m ≤ 400) ∧ -1 ≤ i) (qFew (zg (M12 103 1) (M12 103 2) (M12 115)) f (M12 103 5) (gS0 (M12 116 f)) m i (M12 127 i)) (M12 127 i)  -- p3.hr
            simp only [v0, v1, v2, v4, v5, v6]; exact qI.y ⟨ha, hk, b2⟩ ⟨_, _, _, W.1, W.2.1, by rw [if_neg (by omega), if_pos (by omega)]⟩
      · -- b3.2
        refine hP _ _ ⟨?_, ?_, ?_⟩
        · show mW M M12  -- p4.hw
          exact w3
        · show mFok M12  -- p4.hF
          exact F3
        · show qI ((0 ≤ f ∧ f < M12 103 30) ∧ (0 ≤ m ∧ m ≤ 400) ∧ -1 ≤ i) (qFew (zg (M12 103 1) (M12 103 2) (M12 115)) f (M12 103 5) (gS0 (M12 116 f)) m i (M12 103 50)) (M12 103 50)  -- p4.hr
          simp only [v0, v1, v2, v4, v5, v6]; exact qI.y ⟨ha, hk, b2⟩ ⟨_, _, _, W.1, W.2.1, by rw [if_pos (by omega)]⟩
    · -- b2.2
      refine hP _ _ ⟨?_, ?_, ?_⟩
      · show mW M M5  -- p5.hw
        exact w2
      · show mFok M5  -- p5.hF
        exact pc1_hF
      · show qI ((0 ≤ f ∧ f < M5 103 30) ∧ (0 ≤ m ∧ m ≤ 400) ∧ -1 ≤ i) (qFew (zg (M5 103 1) (M5 103 2) (M5 115)) f (M5 103 5) (gS0 (M5 116 f)) m i (-1)) (-1)  -- p5.hr
        exact qI.n (fun k => b2 k.2.2)

abbrev pr_X12_drawn (f : Int) (m : Int) (a : Int) (M : zM) : Prop := (mI M)
abbrev po_X12_drawn (f : Int) (m : Int) (a : Int) (M : zM) (r : Int) (M' : zM) : Prop := (mW M M') ∧ (mFok M') ∧ (qI ((0 ≤ f ∧ f < M' 103 30) ∧ (0 ≤ m ∧ m ≤ 400) ∧ gD (M' 103 1) (M' 103 2) a) (qDrw (zg (M' 103 1) (M' 103 2) (M' 115)) f (M' 103 5) (gS0 (M' 116 f)) m (a % 16) (a / 16) r) r)
set_option maxHeartbeats 1000000 in
theorem ok_X12_drawn : zSnd zS 145 0 0 yX12_drawn cX12_drawn 4 (some .int) 5 [2, 0, 0, 0] (F_X12_drawn pr_X12_drawn po_X12_drawn) := by
  refine (sn_X12_drawn ok_X12_isBorder ok_X12_isDot ok_X12_findPieces ok_X12_isDrawn).mono ?_
  rintro xs P M hz hR ⟨f, m, a, rfl, hI, hP⟩
  refine ⟨_, _, _, rfl, ?_⟩
  have z_f := zall_h (zall_t hz) (by decide)
  have z_m := zall_h (zall_t (zall_t hz)) (by decide)
  have z_a := zall_h (zall_t (zall_t (zall_t hz))) (by decide)
  change vc_X12_drawn pr_X12_isBorder po_X12_isBorder pr_X12_isDot po_X12_isDot pr_X12_findPieces po_X12_findPieces pr_X12_isDrawn po_X12_isDrawn f m a P M
  unfold vc_X12_drawn
  intro M1 e_M1
  have I1 : mI M1 := hI.fr (fun c i k _ => by rw [e_M1, zset_n _ (by omega)])
  have w1 : mW M M1 := fun c i k => by rw [e_M1, zset_n _ (by omega)]
  have gc1 : pr_X12_isBorder f m M1 := by
    show mI M1
    exact I1
  refine ⟨gc1, ?_⟩
  rintro r4 M5 ⟨pc1_hf, pc1_hF, pc1_hr, pc1_hB⟩ z_r4 z_M5
  have I2 : mI M5 := I1.fr (fun c i k _ => pc1_hf c i (by omega) (by omega))
  have w2 : mW M M5 := w1.tr (fun c i k => pc1_hf c i (by omega) (by omega))
  refine ⟨fun b1 => ?_, fun b1 => ?_⟩
  · -- b1.1
    refine hP _ _ ⟨?_, ?_, ?_⟩
    · show mW M M5  -- p1.hw
      exact w2
    · show mFok M5  -- p1.hF
      exact pc1_hF
    · show qI ((0 ≤ f ∧ f < M5 103 30) ∧ (0 ≤ m ∧ m ≤ 400) ∧ gD (M5 103 1) (M5 103 2) a) (qDrw (zg (M5 103 1) (M5 103 2) (M5 115)) f (M5 103 5) (gS0 (M5 116 f)) m (a % 16) (a / 16) (-1)) (-1)  -- p1.hr
      exact qI.n (fun k => pc1_hr.z.1 b1 ⟨k.1, k.2.1⟩)
  · -- b1.2
    have ⟨ha, hk⟩ := pc1_hr.ne.1 b1
    have hB := pc1_hB (by have := pc1_hr.b; omega)
    have X := hB.XY I2.d pc1_hF ha
    have d2 := I2.d
    have gc2 : pr_X12_isDot a M5 := trivial
    refine ⟨gc2, ?_⟩
    rintro r11 M12 ⟨q_rfl, e_r11⟩ z_r11 z_M12
    have q_rfl := q_rfl.symm
    subst q_rfl
    have z2 := zif01 e_r11
    refine ⟨fun b2 => ?_, fun b2 => ?_⟩
    · -- b2.1
      have hD : gD (M5 103 1) (M5 103 2) a := z2.ne.1 b2
      have gc3 : pr_X12_findPieces m M5 := by
        refine ⟨?_, ?_, ?_⟩
        · show 3 ≤ M5 103 38 ∧ M5 103 38 ≤ 412  -- c3.hn
          exact X.2.1
        · show mXY M5  -- c3.hX
          exact X.1
        · show 0 ≤ m ∧ m ≤ 400  -- c3.hm
          exact hk
      refine ⟨gc3, ?_⟩
      rintro M18 ⟨pc3_hf, pc3_hp⟩ z_M18
      have W := hB.dw (M' := M5) pc3_hp
      have A := W.at
      have u := mVe.of (M := M5) (M' := M18) (fun c i k => pc3_hf c i (by omega) (by omega) (by omega) (by omega))
      have F3 := pc1_hF.ve u
      have w3 : mW M M18 := w2.tr (fun c i k => pc3_hf c i (by omega) (by omega) (by omega) (by omega))
      have e38 : M18 103 38 = M5 103 38 := pc3_hf 103 38 (by omega) (by omega) (by omega) (by omega)
      have e119 : M18 119 = M5 119 := funext fun i => pc3_hf 119 i (by omega) (by omega) (by omega) (by omega)
      have e120 : M18 120 = M5 120 := funext fun i => pc3_hf 120 i (by omega) (by omega) (by omega) (by omega)
      obtain ⟨v0, v1, v2, v3, v4, v5, v6⟩ := u
      have o1 : 0 ≤ a := by
        first | with_reducible assumption | omega | exact trivial | with_reducible rfl  -- o1
      refine ⟨o1, ?_⟩
      have gc4 : pr_X12_isDrawn (a % 16) (a / 16) M18 := by
        refine ⟨?_, ?_, ?_, ?_, ?_, ?_⟩
        · show M18 103 38 ≤ 412  -- c4.hn
          omega
        · show mXY M18  -- c4.hX
          exact X.1.mem e38 e119 e120
        · show 0 ≤ M18 103 50 ∧ M18 103 50 ≤ M18 103 38  -- c4.hPP
          omega
        · show ∀ p, 0 ≤ p → p ≤ M18 103 50 → 0 ≤ M18 127 p ∧ M18 127 p ≤ M18 103 38  -- c4.hb
          rw [e38]; exact A.2
        · show 0 ≤ (a % 16) ∧ (a % 16) < 16  -- c4.hx
          omega
        · show 0 ≤ (a / 16) ∧ (a / 16) < 12  -- c4.hy
          omega
      refine ⟨gc4, ?_⟩
      rintro r24 M25 ⟨q_rfl, e_r24⟩ z_r24 z_M25
      have q_rfl := q_rfl.symm
      subst q_rfl
      refine ⟨fun b3 => ?_, fun b3 => ?_⟩
      · -- b3.1
        refine hP _ _ ⟨?_, ?_, ?_⟩
        · show mW M M18  -- p2.hw
          exact w3
        · show mFok M18  -- p2.hF
          exact F3
        · show qI ((0 ≤ f ∧ f < M18 103 30) ∧ (0 ≤ m ∧ m ≤ 400) ∧ gD (M18 103 1) (M18 103 2) a) (qDrw (zg (M18 103 1) (M18 103 2) (M18 115)) f (M18 103 5) (gS0 (M18 116 f)) m (a % 16) (a / 16) 0) 0  -- p2.hr
          simp only [v0, v1, v2, v4, v5, v6]; exact qI.y ⟨ha, hk, hD⟩ ⟨_, _, _, _, _, W, by rw [← e119, ← e120, ← e_r24, b3]⟩
      · -- b3.2
        refine hP _ _ ⟨?_, ?_, ?_⟩
        · show mW M M18  -- p3.hw
          exact w3
        · show mFok M18  -- p3.hF
          exact F3
        · show qI ((0 ≤ f ∧ f < M18 103 30) ∧ (0 ≤ m ∧ m ≤ 400) ∧ gD (M18 103 1) (M18 103 2) a) (qDrw (zg (M18 103 1) (M18 103 2) (M18 115)) f (M18 103 5) (gS0 (M18 116 f)) m (a % 16) (a / 16) 1) 1  -- p3.hr
          simp only [v0, v1, v2, v4, v5, v6]
          refine qI.y ⟨ha, hk, hD⟩ ⟨_, _, _, _, _, W, ?_⟩
          rw [← e119, ← e120, ← e_r24]
          have : r24 = 0 ∨ r24 = 1 := by rw [e_r24]; exact gHl_01 _
          omega
    · -- b2.2
      refine hP _ _ ⟨?_, ?_, ?_⟩
      · show mW M M5  -- p4.hw
        exact w2
      · show mFok M5  -- p4.hF
        exact pc1_hF
      · show qI ((0 ≤ f ∧ f < M5 103 30) ∧ (0 ≤ m ∧ m ≤ 400) ∧ gD (M5 103 1) (M5 103 2) a) (qDrw (zg (M5 103 1) (M5 103 2) (M5 115)) f (M5 103 5) (gS0 (M5 116 f)) m (a % 16) (a / 16) (-1)) (-1)  -- p4.hr
        exact qI.n (fun k => z2.z.1 b2 k.2.2)

abbrev pr_X12_differ (f : Int) (m : Int) (M : zM) : Prop := (mI M)
abbrev po_X12_differ (f : Int) (m : Int) (M : zM) (r : Int) (M' : zM) : Prop := (mW M M') ∧ (mFok M') ∧ (qI ((0 ≤ f ∧ f < M' 103 30) ∧ (0 ≤ m ∧ m ≤ 400)) (qDif (M' 103 1) (M' 103 2) (M' 103 5) (M' 115) (M' 116) f m r) r)
set_option maxHeartbeats 4000000 in
theorem ok_X12_differ : zSnd zS 145 0 0 yX12_differ cX12_differ 6 (some .int) 5 [2, 0, 0] (F_X12_differ pr_X12_differ po_X12_differ) := by
  refine (sn_X12_differ ok_X12_isBorder ok_X12_findPieces ok_X12_findHoles ok_X12_isDot ok_X12_isDrawn ok_X12_partOf).mono ?_
  rintro xs P M hz hR ⟨f, m, rfl, hI, hP⟩
  refine ⟨_, _, rfl, ?_⟩
  have z_f := zall_h (zall_t hz) (by decide)
  have z_m := zall_h (zall_t (zall_t hz)) (by decide)
  change vc_X12_differ pr_X12_isBorder po_X12_isBorder pr_X12_findPieces po_X12_findPieces pr_X12_findHoles po_X12_findHoles pr_X12_isDot po_X12_isDot pr_X12_isDrawn po_X12_isDrawn pr_X12_partOf po_X12_partOf f m P M
  unfold vc_X12_differ
  intro M1 e_M1
  have I1 : mI M1 := hI.fr (fun c i k _ => by rw [e_M1, zset_n _ (by omega)])
  have w1 : mW M M1 := fun c i k => by rw [e_M1, zset_n _ (by omega)]
  have gc1 : pr_X12_isBorder f m M1 := by
    show mI M1
    exact I1
  refine ⟨gc1, ?_⟩
  rintro r4 M5 ⟨pc1_hf, pc1_hF, pc1_hr, pc1_hB⟩ z_r4 z_M5
  have I2 : mI M5 := I1.fr (fun c i k _ => pc1_hf c i (by omega) (by omega))
  have w2 : mW M M5 := w1.tr (fun c i k => pc1_hf c i (by omega) (by omega))
  refine ⟨fun b1 => ?_, fun b1 => ?_⟩
  · -- b1.1
    have ⟨ha, hk⟩ := pc1_hr.ne.1 b1
    have hB := pc1_hB (by have := pc1_hr.b; omega)
    have X := hB.XY I2.d pc1_hF ha
    have d2 := I2.d
    have gc2 : pr_X12_findPieces m M5 := by
      refine ⟨?_, ?_, ?_⟩
      · show 3 ≤ M5 103 38 ∧ M5 103 38 ≤ 412  -- c2.hn
        exact X.2.1
      · show mXY M5  -- c2.hX
        exact X.1
      · show 0 ≤ m ∧ m ≤ 400  -- c2.hm
        exact hk
    refine ⟨gc2, ?_⟩
    rintro M11 ⟨pc2_hf, pc2_hp⟩ z_M11
    have W := hB.dw (M' := M5) pc2_hp
    have A := W.at
    have I3 : mI M11 := I2.fr (fun c i k _ => pc2_hf c i (by omega) (by omega) (by omega) (by omega))
    have w3 : mW M M11 := w2.tr (fun c i k => pc2_hf c i (by omega) (by omega) (by omega) (by omega))
    have gc3 : pr_X12_findHoles f M11 := by
      refine ⟨?_, ?_, ?_⟩
      · show mDim M11  -- c3.hd
        exact I3.d
      · show M11 103 5 = 0 ∨ M11 103 5 = 1  -- c3.ht
        exact I3.t
      · show 0 ≤ f  -- c3.hf0
        omega
    refine ⟨gc3, ?_⟩
    rintro M16 ⟨pc3_hf, pc3_hL, pc3_hn⟩ z_M16
    have I4 : mI M16 := I3.fr (fun c i k _ => pc3_hf c i (by omega) (by omega))
    have w4 : mW M M16 := w3.tr (fun c i k => pc3_hf c i (by omega) (by omega))
    have fr : ∀ c i, c ≠ 117 → c ≠ 125 → c ≠ 126 → c ≠ 127 → ¬ (c = 103 ∧ (i = 37 ∨ i = 50)) → M16 c i = M5 c i := fun c i a1 a2 a3 a4 a5 => by rw [pc3_hf c i (by omega) (by omega)]; exact pc2_hf c i (by omega) (by omega) (by omega) (by omega)
    obtain ⟨v0, v1, v2, v3, v4, v5, v6⟩ := mVe.of (M := M5) (M' := M16) (fun c i k => fr c i (by omega) (by omega) (by omega) (by omega) (by omega))
    have F4 := pc1_hF.ve (M' := M16) ⟨v0, v1, v2, v3, v4, v5, v6⟩
    obtain ⟨u0, u1, u2, u3, u4, u5, u6⟩ := mVe.of (M := M11) (M' := M16) (fun c i k => pc3_hf c i (by omega) (by omega))
    have hL := pc3_hL
    rw [← u0, ← u1, ← u2, ← u4] at hL
    have e38 : M16 103 38 = M5 103 38 := fr 103 38 (by omega) (by omega) (by omega) (by omega) (by omega)
    have e50 : M16 103 50 = M11 103 50 := pc3_hf 103 50 (by omega) (by omega)
    have e119 : M16 119 = M5 119 := funext fun i => fr 119 i (by omega) (by omega) (by omega) (by omega) (by omega)
    have e120 : M16 120 = M5 120 := funext fun i => fr 120 i (by omega) (by omega) (by omega) (by omega) (by omega)
    have e127 : M16 127 = M11 127 := funext fun i => pc3_hf 127 i (by omega) (by omega)
    have X4 := X.1.mem e38 e119 e120
    rw [← v0, ← v1, ← v2, ← v4, ← v5, ← e38, ← e50, ← e127, ← e119, ← e120] at W
    have d4 := I4.d
    have A4 := W.at
    generalize hQ' : M16 117 = Q at hL
    generalize hp : (fun a => gD (M16 103 1) (M16 103 2) a ∧ ¬ (gHo2 (M16 119) (M16 120) (M16 127) (a % 16) (a / 16) (M16 103 50) = 1 ↔ (M16 115 a = f ∨ 0 < Q (hC a)))) = p
    refine ⟨fun v21 v22 M25 n27 => (n27 : Int) = (200 - v22) ∧ (0 ≤ v22 ∧ v22 ≤ 192) ∧ (M25 = M16) ∧ (v21 = zc p v22), ⟨Int.toNat (200 - 0), by omega, ?_, ?_, ?_⟩, ?_⟩
    · show 0 ≤ 0 ∧ 0 ≤ 192  -- I31.0.hv
      first | with_reducible assumption | omega | exact trivial | with_reducible rfl
    · first | with_reducible assumption | omega | exact trivial | with_reducible rfl  -- I31.0.rfl
    · show 0 = zc p 0  -- I31.0.h1
      rfl
    rintro v21 v22 M25 n27 ⟨h_n27, hv, q_rfl, h1⟩ z_v21 z_v22 z_M25
    have q_rfl := q_rfl.symm
    subst q_rfl
    have u := zc_b p v22 (by omega)
    refine ⟨fun b2 => ?_, fun b2 => ?_⟩
    · -- b2.1
      refine hP _ _ ⟨?_, ?_, ?_⟩
      · show mW M M16  -- p1.hw
        exact w4
      · show mFok M16  -- p1.hF
        exact F4
      · show qI ((0 ≤ f ∧ f < M16 103 30) ∧ (0 ≤ m ∧ m ≤ 400)) (qDif (M16 103 1) (M16 103 2) (M16 103 5) (M16 115) (M16 116) f m v21) v21  -- p1.hr
        refine qI.y ⟨by omega, hk⟩ ⟨_, _, _, _, _, Q, _, W, hL, ?_⟩
        rw [hp, h1, show v22 = 192 by omega]
    · -- b2.2
      have gc4 : pr_X12_isDot v22 M16 := trivial
      refine ⟨gc4, ?_⟩
      rintro r35 M36 ⟨q_rfl, e_r35⟩ z_r35 z_M36
      have q_rfl := q_rfl.symm
      subst q_rfl
      have z4 := zif01 e_r35
      refine ⟨fun b3 => ?_, fun b3 => ?_⟩
      · -- b3.1
        have o1 : zin (v22 + 1) := by
          first | with_reducible assumption | omega | exact trivial | with_reducible rfl  -- o1
        refine ⟨o1, ?_⟩
        refine ⟨Int.toNat (200 - (v22 + 1)), by omega, by omega, ?_, ?_, ?_⟩
        · show 0 ≤ (v22 + 1) ∧ (v22 + 1) ≤ 192  -- I31.1.hv
          first | with_reducible assumption | omega | exact trivial | with_reducible rfl
        · first | with_reducible assumption | omega | exact trivial | with_reducible rfl  -- I31.1.rfl
        · show v21 = zc p (v22 + 1)  -- I31.1.h1
          rw [zc_n (by omega) (fun q => by rw [← hp] at q; exact z4.z.1 b3 q.1)]; exact h1
      · -- b3.2
        have dD : gD (M16 103 1) (M16 103 2) v22 := z4.ne.1 b3
        have o2 : ((0 : Int) ≤ v22 ∧ v22 < 192) := by
          omega
        refine ⟨o2, ?_⟩
        intro K73 h_K73
        have k_K73 : ∀ (v47 : Int) (M49 : zM), (M49 = M16) → (v47 = 0 ∨ v47 = 1) → (v47 = 1 ↔ (M16 115 v22 = f ∨ 0 < Q (hC v22))) → K73 v47 M49 := by
          intro v47 M49 rfl2 k1 k2
          refine h_K73 _ _ ?_
          intro z_v47 z_M49
          subst rfl2
          have o3 : 0 ≤ v22 := by
            omega
          refine ⟨o3, ?_⟩
          have gc5 : pr_X12_isDrawn (v22 % 16) (v22 / 16) M49 := by
            refine ⟨?_, ?_, ?_, ?_, ?_, ?_⟩
            · show M49 103 38 ≤ 412  -- c5.hn
              omega
            · show mXY M49  -- c5.hX
              exact X4
            · show 0 ≤ M49 103 50 ∧ M49 103 50 ≤ M49 103 38  -- c5.hPP
              omega
            · show ∀ p, 0 ≤ p → p ≤ M49 103 50 → 0 ≤ M49 127 p ∧ M49 127 p ≤ M49 103 38  -- c5.hb
              exact A4.2
            · show 0 ≤ (v22 % 16) ∧ (v22 % 16) < 16  -- c5.hx
              omega
            · show 0 ≤ (v22 / 16) ∧ (v22 / 16) < 12  -- c5.hy
              omega
          refine ⟨gc5, ?_⟩
          rintro r52 M53 ⟨q_rfl, e_r52⟩ z_r52 z_M53
          have q_rfl := q_rfl.symm
          subst q_rfl
          have g5 : r52 = 0 ∨ r52 = 1 := by rw [e_r52]; exact gHl_01 _
          have ip : p v22 ↔ ¬ (r52 = 1 ↔ v47 = 1) := by
            rw [← hp]
            show (gD (M49 103 1) (M49 103 2) v22 ∧ ¬ (gHo2 (M49 119) (M49 120) (M49 127) (v22 % 16) (v22 / 16) (M49 103 50) = 1 ↔ (M49 115 v22 = f ∨ 0 < Q (hC v22)))) ↔ _
            rw [← e_r52, k2]
            exact ⟨fun h => h.2, fun h => ⟨dD, h⟩⟩
          refine ⟨fun b4 => ?_, fun b4 => ?_⟩
          · -- b4.1
            have o4 : zin (v21 + 0) := by
              first | with_reducible assumption | omega | exact trivial | with_reducible rfl  -- o4
            refine ⟨o4, ?_⟩
            have o5 : zin (v22 + 1) := by
              first | with_reducible assumption | omega | exact trivial | with_reducible rfl  -- o5
            refine ⟨o5, ?_⟩
            refine ⟨Int.toNat (200 - (v22 + 1)), by omega, by omega, ?_, ?_, ?_⟩
            · show 0 ≤ (v22 + 1) ∧ (v22 + 1) ≤ 192  -- I31.2.hv
              first | with_reducible assumption | omega | exact trivial | with_reducible rfl
            · first | with_reducible assumption | omega | exact trivial | with_reducible rfl  -- I31.2.rfl
            · show (v21 + 0) = zc p (v22 + 1)  -- I31.2.h1
              rw [zc_n (by omega) (by rw [ip]; omega)]; omega
          · -- b4.2
            have o6 : zin (v21 + 1) := by
              first | with_reducible assumption | omega | exact trivial | with_reducible rfl  -- o6
            refine ⟨o6, ?_⟩
            have o7 : zin (v22 + 1) := by
              first | with_reducible assumption | omega | exact trivial | with_reducible rfl  -- o7
            refine ⟨o7, ?_⟩
            refine ⟨Int.toNat (200 - (v22 + 1)), by omega, by omega, ?_, ?_, ?_⟩
            · show 0 ≤ (v22 + 1) ∧ (v22 + 1) ≤ 192  -- I31.3.hv
              first | with_reducible assumption | omega | exact trivial | with_reducible rfl
            · first | with_reducible assumption | omega | exact trivial | with_reducible rfl  -- I31.3.rfl
            · show (v21 + 1) = zc p (v22 + 1)  -- I31.3.h1
              rw [zc_p (by omega) (by rw [ip]; omega)]; omega
        intro K68 h_K68
        have k_K68 : ∀ (M69 : zM), (M69 = M16) → (M16 115 v22 = f ∨ 0 < Q (hC v22)) → K68 M69 := by
          intro M69 rfl3 k3
          refine h_K68 _ ?_
          intro z_M69
          refine k_K73 _ _ ?_ ?_ ?_
          · show M69 = M16  -- K73.1.rfl2
            first | rfl | assumption
          · show 1 = 0 ∨ 1 = 1  -- K73.1.k1
            exact .inr rfl
          · show 1 = 1 ↔ (M16 115 v22 = f ∨ 0 < Q (hC v22))  -- K73.1.k2
            exact ⟨fun _ => k3, fun _ => rfl⟩
        refine ⟨fun b5 => ?_, fun b5 => ?_⟩
        · -- b5.1
          refine k_K68 _ ?_ ?_
          · show M16 = M16  -- K68.1.rfl3
            rfl
          · show M16 115 v22 = f ∨ 0 < Q (hC v22)  -- K68.1.k3
            exact .inl b5
        · -- b5.2
          have gc6 : pr_X12_partOf v22 M16 := by
            show 0 ≤ v22 ∧ v22 < 192
            omega
          refine ⟨gc6, ?_⟩
          rintro r72 M73 ⟨q_rfl, e_r72⟩ z_r72 z_M73
          have q_rfl := q_rfl.symm
          subst q_rfl
          rw [hQ'] at e_r72
          refine ⟨fun b6 => ?_, fun b6 => ?_⟩
          · -- b6.1
            refine k_K73 _ _ ?_ ?_ ?_
            · show M16 = M16  -- K73.2.rfl2
              first | rfl | assumption
            · show 0 = 0 ∨ 0 = 1  -- K73.2.k1
              exact .inl rfl
            · show 0 = 1 ↔ (M16 115 v22 = f ∨ 0 < Q (hC v22))  -- K73.2.k2
              exact ⟨fun q => by omega, fun q => by
                rcases q with q | q
                · exact absurd q b5
                · omega⟩
          · -- b6.2
            refine k_K68 _ ?_ ?_
            · show M16 = M16  -- K68.2.rfl3
              rfl
            · show M16 115 v22 = f ∨ 0 < Q (hC v22)  -- K68.2.k3
              exact .inr (by omega)
  · -- b1.2
    refine hP _ _ ⟨?_, ?_, ?_⟩
    · show mW M M5  -- p2.hw
      exact w2
    · show mFok M5  -- p2.hF
      exact pc1_hF
    · show qI ((0 ≤ f ∧ f < M5 103 30) ∧ (0 ≤ m ∧ m ≤ 400)) (qDif (M5 103 1) (M5 103 2) (M5 103 5) (M5 115) (M5 116) f m (-1)) (-1)  -- p2.hr
      exact qI.n (fun k => pc1_hr.z.1 b1 k)

