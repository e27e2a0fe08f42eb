abbrev pr_X12_readLine (M : zM) : Prop := (mLi M)
abbrev po_X12_readLine (M : zM) (M' : zM) : Prop := (∀ c i, c ≠ 113 → ¬ (c = 103 ∧ (i = 23 ∨ i = 24 ∨ i = 26 ∨ i = 27)) → M' c i = M c i) ∧ (mLo M M')
set_option maxHeartbeats 1000000 in
theorem ok_X12_readLine : zSnd zS 145 0 0 yX12_readLine cX12_readLine 7 none 3 [2] (F_X12_readLine pr_X12_readLine po_X12_readLine) := by
  refine (sn_X12_readLine ok_X12_here ok_X12_colourOf ok_X12_readNumber).mono ?_
  rintro xs P M hz hR ⟨rfl, hL, hP⟩
  refine ⟨rfl, ?_⟩
  change vc_X12_readLine pr_X12_here po_X12_here pr_X12_colourOf po_X12_colourOf pr_X12_readNumber po_X12_readNumber P M
  unfold vc_X12_readLine
  have lb := hL.L
  have hLi := hL
  obtain ⟨l1, l2, l3, l4, l5, l6⟩ := hLi
  refine ⟨fun b1 => ?_, fun b1 => ?_⟩
  · -- b1.1
    have eL : mL M = M 103 26 := if_neg b1
    refine ⟨fun v2 v3 M6 n8 => (n8 : Int) = ((M 103 22 - M6 103 23) + 1 + v3) ∧ (mSt M M6 v2 v3), ⟨Int.toNat ((M 103 22 - M 103 23) + 1 + 1), by omega, ?_⟩, ?_⟩
    · show mSt M M 0 1  -- I21.0.hs
      exact mSt_0 hL
    rintro v2 v3 M6 n8 ⟨h_n8, hs⟩ z_v2 z_v3 z_M6
    have rd := hs.1.rd
    have xb := hs.2.1
    have pb := hs.2.2.1
    intro K186 h_K186
    have k_K186 : (v3 = 0) → K186  := by
      intro  hm
      refine h_K186 ?_
      have st0 := hs
      rw [hm] at st0
      intro K214 h_K214
      have k_K214 : ∀ (v15 : Int), ((v15 = 1 ∧ (M6 103 24 ≠ 0 ∨ (0 < M 103 27 ∧ v2 < mL M))) ∨ (v15 = 0 ∧ M6 103 24 = 0 ∧ ¬ (0 < M 103 27 ∧ v2 < mL M))) → K214 v15 := by
        intro v15 k15
        refine h_K214 _ ?_
        intro z_v15
        have o1 : (v15 = 0 ∨ v15 = 1) := by
          first | with_reducible assumption | omega | exact trivial | with_reducible rfl  -- o1
        refine ⟨o1, ?_⟩
        intro M18 e_M18
        refine ⟨fun b2 => ?_, fun b2 => ?_⟩
        · -- b2.1
          refine hP _ ⟨?_, ?_⟩
          · show ∀ c i, c ≠ 113 → ¬ (c = 103 ∧ (i = 23 ∨ i = 24 ∨ i = 26 ∨ i = 27)) → M18 c i = M c i  -- p1.hf
            intro c i c1 c2; rw [e_M18, zset_n _ (by omega)]; exact hs.1 c i c1 (by omega)
          · show mLo M M18  -- p1.ho
            have q : M18 103 24 = v15 := by rw [e_M18, zset_s]
            exact mLo_a st0 (by omega) (by rw [e_M18, show v15 = 1 by omega])
        · -- b2.2
          intro M22 e_M22
          have q : M18 103 24 = v15 := by rw [e_M18, zset_s]
          have w27 : M22 103 27 = M6 103 27 := by rw [e_M22, zset_n _ (by omega), e_M18, zset_n _ (by omega)]
          have o2 : zin ((M22 103 27) + 1) := by
            first | with_reducible assumption | omega | exact trivial | with_reducible rfl  -- o2
          refine ⟨o2, ?_⟩
          intro M26 e_M26
          refine hP _ ⟨?_, ?_⟩
          · show ∀ c i, c ≠ 113 → ¬ (c = 103 ∧ (i = 23 ∨ i = 24 ∨ i = 26 ∨ i = 27)) → M26 c i = M c i  -- p2.hf
            intro c i c1 c2; rw [e_M26, zset_n _ (by omega), e_M22, zset_n _ (by omega), e_M18, zset_n _ (by omega)]; exact hs.1 c i c1 (by omega)
          · show mLo M M26  -- p2.ho
            exact mLo_b hL st0 (by omega) (by omega) (by rw [e_M26, w27, e_M22, e_M18, show v15 = 0 by omega])
      intro K209 h_K209
      have k_K209 : (M6 103 24 ≠ 0 ∨ (0 < M 103 27 ∧ v2 < mL M)) → K209  := by
        intro  k9
        refine h_K209 ?_
        refine k_K214 _ ?_
        · show (1 = 1 ∧ (M6 103 24 ≠ 0 ∨ (0 < M 103 27 ∧ v2 < mL M))) ∨ (1 = 0 ∧ M6 103 24 = 0 ∧ ¬ (0 < M 103 27 ∧ v2 < mL M))  -- K214.1.k15
          first | with_reducible assumption | omega | exact trivial | with_reducible rfl
      refine ⟨fun b3 => ?_, fun b3 => ?_⟩
      · -- b3.1
        refine k_K209 ?_
        · show M6 103 24 ≠ 0 ∨ (0 < M 103 27 ∧ v2 < mL M)  -- K209.1.k9
          first | with_reducible assumption | omega | exact trivial | with_reducible rfl
      · -- b3.2
        intro K213 h_K213
        have k_K213 : (M6 103 24 = 0 ∧ ¬ (0 < M 103 27 ∧ v2 < mL M)) → K213  := by
          intro  k3
          refine h_K213 ?_
          refine k_K214 _ ?_
          · show (0 = 1 ∧ (M6 103 24 ≠ 0 ∨ (0 < M 103 27 ∧ v2 < mL M))) ∨ (0 = 0 ∧ M6 103 24 = 0 ∧ ¬ (0 < M 103 27 ∧ v2 < mL M))  -- K214.2.k15
            first | with_reducible assumption | omega | exact trivial | with_reducible rfl
        refine ⟨fun b4 => ?_, fun b4 => ?_⟩
        · -- b4.1
          refine k_K213 ?_
          · show M6 103 24 = 0 ∧ ¬ (0 < M 103 27 ∧ v2 < mL M)  -- K213.1.k3
            first | with_reducible assumption | omega | exact trivial | with_reducible rfl
        · -- b4.2
          refine ⟨fun b5 => ?_, fun b5 => ?_⟩
          · -- b5.1
            refine k_K213 ?_
            · show M6 103 24 = 0 ∧ ¬ (0 < M 103 27 ∧ v2 < mL M)  -- K213.2.k3
              first | with_reducible assumption | omega | exact trivial | with_reducible rfl
          · -- b5.2
            refine k_K209 ?_
            · show M6 103 24 ≠ 0 ∨ (0 < M 103 27 ∧ v2 < mL M)  -- K209.2.k9
              first | with_reducible assumption | omega | exact trivial | with_reducible rfl
    refine ⟨fun b6 => ?_, fun b6 => ?_⟩
    · -- b6.1
      refine k_K186 ?_
      · show v3 = 0  -- K186.1.hm
        first | with_reducible assumption | (rcases hs.2.2.2 with ⟨_, a⟩ | ⟨a, _⟩ | ⟨a, _⟩ <;> first | exact a | exact absurd a.1 (by assumption))
    · -- b6.2
      refine ⟨fun b7 => ?_, fun b7 => ?_⟩
      · -- b7.1
        refine k_K186 ?_
        · show v3 = 0  -- K186.2.hm
          first | with_reducible assumption | (rcases hs.2.2.2 with ⟨_, a⟩ | ⟨a, _⟩ | ⟨a, _⟩ <;> first | exact a | exact absurd a.1 (by assumption))
      · -- b7.2
        have m1 : v3 = 1 := by
          rcases hs.2.2.2 with ⟨a, _⟩ | ⟨a, _⟩ | ⟨a, _⟩
          · exact a
          · exact absurd a b7
          · exact absurd a b7
        have st := hs
        rw [m1] at st
        have g0 := @gRu_0 (mT M) (M 103 22) (M6 103 23)
        have gc1 : pr_X12_here M6 := by
          show (0 ≤ M6 103 21 ∧ M6 103 21 ≤ 840) ∧ M6 103 22 ≤ 120 ∧ 0 ≤ M6 103 23
          rw [rd.1, rd.2.1]; exact ⟨hL.1, hL.2.1.2, pb.1⟩
        refine ⟨gc1, ?_⟩
        rintro r34 M35 ⟨q_rfl, e_r34⟩ z_r34 z_M35
        have q_rfl := q_rfl.symm
        subst q_rfl
        rw [rd.2.2.2.2, rd.2.1] at e_r34
        have gc2 : pr_X12_colourOf r34 M6 := trivial
        refine ⟨gc2, ?_⟩
        rintro r40 M41 ⟨q_rfl, e_r40⟩ z_r40 z_M41
        have q_rfl := q_rfl.symm
        subst q_rfl
        rw [e_r34] at e_r40
        intro K57 h_K57
        have k_K57 : ∀ (v46 : Int), ((v46 = 1 ∧ (gCl (gBy (mT M) (M 103 22) (M6 103 23)) < 0 ∨ mL M ≤ v2)) ∨ (v46 = 0 ∧ ¬ (gCl (gBy (mT M) (M 103 22) (M6 103 23)) < 0 ∨ mL M ≤ v2))) → K57 v46 := by
          intro v46 k46
          refine h_K57 _ ?_
          intro z_v46
          have o3 : (v46 = 0 ∨ v46 = 1) := by
            omega
          refine ⟨o3, ?_⟩
          intro M49 e_M49
          intro K150 h_K150
          have k_K150 : ∀ (v52 : Int) (M54 : zM), (mRn M (M6 103 23) v52 M54) → K150 v52 M54 := by
            intro v52 M54 kr
            refine h_K150 _ _ ?_
            intro z_v52 z_M54
            have kb := kr.2.2.1
            have kd := kr.1.rd
            refine ⟨fun b8 => ?_, fun b8 => ?_⟩
            · -- b8.1
              refine ⟨Int.toNat ((M 103 22 - M54 103 23) + 1 + 0), by omega, by omega, ?_⟩
              · show mSt M M54 v52 0  -- I21.1.hs
                exact mSt_a pb.1 kr b8
            · -- b8.2
              refine ⟨fun b9 => ?_, fun b9 => ?_⟩
              · -- b9.1
                refine ⟨Int.toNat ((M 103 22 - M54 103 23) + 1 + 0), by omega, by omega, ?_⟩
                · show mSt M M54 v52 0  -- I21.2.hs
                  exact mSt_b pb.1 kr b8 (.inl (by omega))
              · -- b9.2
                have gc3 : pr_X12_here M54 := by
                  show (0 ≤ M54 103 21 ∧ M54 103 21 ≤ 840) ∧ M54 103 22 ≤ 120 ∧ 0 ≤ M54 103 23
                  rw [kd.1, kd.2.1]; exact ⟨hL.1, hL.2.1.2, by omega⟩
                refine ⟨gc3, ?_⟩
                rintro r64 M65 ⟨q_rfl, e_r64⟩ z_r64 z_M65
                have q_rfl := q_rfl.symm
                subst q_rfl
                rw [kd.2.2.2.2, kd.2.1] at e_r64
                refine ⟨fun b10 => ?_, fun b10 => ?_⟩
                · -- b10.1
                  refine ⟨Int.toNat ((M 103 22 - M54 103 23) + 1 + 0), by omega, by omega, ?_⟩
                  · show mSt M M54 v52 0  -- I21.3.hs
                    exact mSt_b pb.1 kr b8 (.inr (by rw [← e_r64]; exact b10))
                · -- b10.2
                  have sc := mSt_c pb.1 kr b8 (by rw [← e_r64]; omega)
                  refine ⟨Int.toNat ((M 103 22 - M54 103 23) + 1 + 1), by omega, by omega, ?_⟩
                  · show mSt M M54 v52 1  -- I21.4.hs
                    exact sc.1
          refine ⟨fun b11 => ?_, fun b11 => ?_⟩
          · -- b11.1
            refine k_K150 _ _ ?_
            · show mRn M (M6 103 23) v2 M49  -- K150.1.kr
              have q : M49 103 24 = v46 := by rw [e_M49, zset_s]
              rw [e_M49, show v46 = 1 by omega]
              exact mRn_bad st (by rw [← e_r40]; omega)
          · -- b11.2
            have o4 : zin ((M49 103 23) + 1) := by
              rw [e_M49, zset_n _ (by omega)]; omega
            refine ⟨o4, ?_⟩
            intro M79 e_M79
            have q : M49 103 24 = v46 := by rw [e_M49, zset_s]
            have v0 : v46 = 0 := by omega
            have nb : ¬ (gCl (gBy (mT M) (M 103 22) (M6 103 23)) < 0 ∨ mL M ≤ v2) := by rw [← e_r40]; omega
            have ri := @gCl_i (mT M) (M 103 22) (M6 103 23) (by omega)
            have e79 : M79 = zset (zset M6 103 24 0) 103 23 (M6 103 23 + 1) := by
              rw [e_M79, e_M49, v0, zset_n _ (by omega)]
            have fr79 : mFr M M79 := by rw [e79]; exact (hs.1.set (.inr rfl)).set (.inl rfl)
            have q23 : M79 103 23 = M6 103 23 + 1 := by rw [e79, zset_s]
            have q24 : M79 103 24 = 0 := by rw [e79, zset_n _ (by omega), zset_s]
            have qd : M79 113 = M6 113 := by rw [e79, zset_c (by decide), zset_c (by decide)]
            have rd79 := fr79.rd
            have gc4 : pr_X12_here M79 := by
              show (0 ≤ M79 103 21 ∧ M79 103 21 ≤ 840) ∧ M79 103 22 ≤ 120 ∧ 0 ≤ M79 103 23
              rw [rd79.1, rd79.2.1, q23]; exact ⟨hL.1, hL.2.1.2, by omega⟩
            refine ⟨gc4, ?_⟩
            rintro r82 M83 ⟨q_rfl, e_r82⟩ z_r82 z_M83
            have q_rfl := q_rfl.symm
            subst q_rfl
            rw [rd79.2.2.2.2, rd79.2.1, q23] at e_r82
            refine ⟨fun b12 => ?_, fun b12 => ?_⟩
            · -- b12.1
              have g1 := (gRu_1 (T := mT M) (n := M 103 22) (p := M6 103 23) (by rw [← e_r82]; exact b12)).1
              have lp := mLp_1 st nb (by rw [← e_r82]; exact b12) e79
              refine ⟨fun v89 v90 M93 n95 => (n95 : Int) = (gRu (mT M) (M 103 22) (M6 103 23) - v90) ∧ (0 ≤ v90 ∧ v90 ≤ gRu (mT M) (M 103 22) (M6 103 23)) ∧ (mLp M M6 v2 v89 v90 M93), ⟨Int.toNat (gRu (mT M) (M 103 22) (M6 103 23) - 0), by omega, ?_, ?_⟩, ?_⟩
              · show 0 ≤ 0 ∧ 0 ≤ gRu (mT M) (M 103 22) (M6 103 23)  -- I111.0.hk
                first | with_reducible assumption | omega | exact trivial | with_reducible rfl
              · show mLp M M6 v2 v2 0 M79  -- I111.0.hl
                exact lp
              rintro v89 v90 M93 n95 ⟨h_n95, hk, hl⟩ z_v89 z_v90 z_M93
              refine ⟨fun b13 => ?_, fun b13 => ?_⟩
              · -- b13.1
                refine k_K150 _ _ ?_
                · show mRn M (M6 103 23) v89 M93  -- K150.2.kr
                  exact mRn_run hL st nb hl (.inl (by omega))
              · -- b13.2
                refine ⟨fun b14 => ?_, fun b14 => ?_⟩
                · -- b14.1
                  refine k_K150 _ _ ?_
                  · show mRn M (M6 103 23) v89 M93  -- K150.3.kr
                    exact mRn_run hL st nb hl (.inr b14)
                · -- b14.2
                  have hg := hl.g b14
                  have h27 := hl.1.rd.2.2.2.1
                  have o5 : ((0 : Int) ≤ ((16 * (M93 103 27)) + v89) ∧ ((16 * (M93 103 27)) + v89) < 192) := by
                    first | with_reducible assumption | omega | exact trivial | with_reducible rfl  -- o5
                  refine ⟨o5, ?_⟩
                  intro M105 e_M105
                  have o6 : zin (v89 + 1) := by
                    first | with_reducible assumption | omega | exact trivial | with_reducible rfl  -- o6
                  refine ⟨o6, ?_⟩
                  have o7 : zin (v90 + 1) := by
                    first | with_reducible assumption | omega | exact trivial | with_reducible rfl  -- o7
                  refine ⟨o7, ?_⟩
                  refine ⟨Int.toNat (gRu (mT M) (M 103 22) (M6 103 23) - (v90 + 1)), by omega, by omega, ?_, ?_⟩
                  · show 0 ≤ (v90 + 1) ∧ (v90 + 1) ≤ gRu (mT M) (M 103 22) (M6 103 23)  -- I111.1.hk
                    first | with_reducible assumption | omega | exact trivial | with_reducible rfl
                  · show mLp M M6 v2 (v89 + 1) (v90 + 1) M105  -- I111.1.hl
                    exact hl.n b14 (by omega) e_r40 e_M105
            · -- b12.2
              have o8 : zin ((M79 103 23) + 1) := by
                first | with_reducible assumption | omega | exact trivial | with_reducible rfl  -- o8
              refine ⟨o8, ?_⟩
              intro M114 e_M114
              have fr14 : mFr M M114 := by rw [e_M114]; exact fr79.set (.inl rfl)
              have p23 : M114 103 23 = M6 103 23 + 2 := by rw [e_M114, zset_s, q23]; omega
              have p24 : M114 103 24 = 0 := by rw [e_M114, zset_n _ (by omega)]; exact q24
              have pd : M114 113 = M6 113 := by rw [e_M114, zset_c (by decide)]; exact qd
              have rd14 := fr14.rd
              have o9 : zin ((M 103 26) - v2) := by
                first | with_reducible assumption | omega | exact trivial | with_reducible rfl  -- o9
              refine ⟨o9, ?_⟩
              have gc5 : pr_X12_readNumber ((M 103 26) - v2) M114 := by
                refine ⟨?_, ?_⟩
                · show (0 ≤ M114 103 21 ∧ M114 103 21 ≤ 840) ∧ M114 103 22 ≤ 120 ∧ 0 ≤ M114 103 23  -- c5.hb
                  rw [rd14.1, rd14.2.1, p23]; exact ⟨hL.1, hL.2.1.2, by omega⟩
                · show -100 ≤ ((M 103 26) - v2) ∧ ((M 103 26) - v2) ≤ 100  -- c5.hl
                  first | with_reducible assumption | omega | exact trivial | with_reducible rfl
              refine ⟨gc5, ?_⟩
              rintro r118 M119 ⟨pc5_hf, pc5_ho⟩ z_r118 z_M119
              rw [rd14.2.2.2.2, rd14.2.1, p23, show M 103 26 - v2 = mL M - v2 by rw [eL]] at pc5_ho
              have sr := gRu_s (T := mT M) (n := M 103 22) (p := M6 103 23) (by rw [← e_r82]; exact b12)
              have lp := mLp_s st nb (by rw [← e_r82]; exact b12) fr14 p23 p24 pd pc5_hf pc5_ho
              refine ⟨fun v124 v125 M128 n130 => (n130 : Int) = (gRu (mT M) (M 103 22) (M6 103 23) - v125) ∧ (0 ≤ v125 ∧ v125 ≤ gRu (mT M) (M 103 22) (M6 103 23)) ∧ (mLp M M6 v2 v124 v125 M128), ⟨Int.toNat (gRu (mT M) (M 103 22) (M6 103 23) - 0), by omega, ?_, ?_⟩, ?_⟩
              · show 0 ≤ 0 ∧ 0 ≤ gRu (mT M) (M 103 22) (M6 103 23)  -- I111.0.hk
                first | with_reducible assumption | omega | exact trivial | with_reducible rfl
              · show mLp M M6 v2 v2 0 M119  -- I111.0.hl
                exact lp
              rintro v124 v125 M128 n130 ⟨h_n130, hk, hl⟩ z_v124 z_v125 z_M128
              refine ⟨fun b15 => ?_, fun b15 => ?_⟩
              · -- b15.1
                have ex : gRu (mT M) (M 103 22) (M6 103 23) ≤ v125 ∨ M128 103 24 ≠ 0 := by
                  by_cases z : M128 103 24 = 0
                  · have hg := hl.g z
                    omega
                  · exact .inr z
                refine k_K150 _ _ ?_
                · show mRn M (M6 103 23) v124 M128  -- K150.4.kr
                  exact mRn_run hL st nb hl ex
              · -- b15.2
                refine ⟨fun b16 => ?_, fun b16 => ?_⟩
                · -- b16.1
                  refine k_K150 _ _ ?_
                  · show mRn M (M6 103 23) v124 M128  -- K150.5.kr
                    exact mRn_run hL st nb hl (.inr b16)
                · -- b16.2
                  have hg := hl.g b16
                  have h27 := hl.1.rd.2.2.2.1
                  have o10 : ((0 : Int) ≤ ((16 * (M128 103 27)) + v124) ∧ ((16 * (M128 103 27)) + v124) < 192) := by
                    first | with_reducible assumption | omega | exact trivial | with_reducible rfl  -- o10
                  refine ⟨o10, ?_⟩
                  intro M140 e_M140
                  have o11 : zin (v124 + 1) := by
                    first | with_reducible assumption | omega | exact trivial | with_reducible rfl  -- o11
                  refine ⟨o11, ?_⟩
                  have o12 : zin (v125 + 1) := by
                    first | with_reducible assumption | omega | exact trivial | with_reducible rfl  -- o12
                  refine ⟨o12, ?_⟩
                  refine ⟨Int.toNat (gRu (mT M) (M 103 22) (M6 103 23) - (v125 + 1)), by omega, by omega, ?_, ?_⟩
                  · show 0 ≤ (v125 + 1) ∧ (v125 + 1) ≤ gRu (mT M) (M 103 22) (M6 103 23)  -- I111.2.hk
                    first | with_reducible assumption | omega | exact trivial | with_reducible rfl
                  · show mLp M M6 v2 (v124 + 1) (v125 + 1) M140  -- I111.2.hl
                    exact hl.n b16 (by omega) e_r40 e_M140
        intro K52 h_K52
        have k_K52 : (gCl (gBy (mT M) (M 103 22) (M6 103 23)) < 0 ∨ mL M ≤ v2) → K52  := by
          intro  k52
          refine h_K52 ?_
          refine k_K57 _ ?_
          · show (1 = 1 ∧ (gCl (gBy (mT M) (M 103 22) (M6 103 23)) < 0 ∨ mL M ≤ v2)) ∨ (1 = 0 ∧ ¬ (gCl (gBy (mT M) (M 103 22) (M6 103 23)) < 0 ∨ mL M ≤ v2))  -- K57.1.k46
            first | with_reducible assumption | omega | exact trivial | with_reducible rfl
        refine ⟨fun b17 => ?_, fun b17 => ?_⟩
        · -- b17.1
          refine k_K52 ?_
          · show gCl (gBy (mT M) (M 103 22) (M6 103 23)) < 0 ∨ mL M ≤ v2  -- K52.1.k52
            first | with_reducible assumption | omega | exact trivial | with_reducible rfl
        · -- b17.2
          refine ⟨fun b18 => ?_, fun b18 => ?_⟩
          · -- b18.1
            refine k_K57 _ ?_
            · show (0 = 1 ∧ (gCl (gBy (mT M) (M 103 22) (M6 103 23)) < 0 ∨ mL M ≤ v2)) ∨ (0 = 0 ∧ ¬ (gCl (gBy (mT M) (M 103 22) (M6 103 23)) < 0 ∨ mL M ≤ v2))  -- K57.2.k46
              first | with_reducible assumption | omega | exact trivial | with_reducible rfl
          · -- b18.2
            refine k_K52 ?_
            · show gCl (gBy (mT M) (M 103 22) (M6 103 23)) < 0 ∨ mL M ≤ v2  -- K52.2.k52
              first | with_reducible assumption | omega | exact trivial | with_reducible rfl
  · -- b1.2
    have eL : mL M = 16 := if_pos b1
    refine ⟨fun v150 v151 M154 n156 => (n156 : Int) = ((M 103 22 - M154 103 23) + 1 + v151) ∧ (mSt M M154 v150 v151), ⟨Int.toNat ((M 103 22 - M 103 23) + 1 + 1), by omega, ?_⟩, ?_⟩
    · show mSt M M 0 1  -- I21.0.hs
      exact mSt_0 hL
    rintro v150 v151 M154 n156 ⟨h_n156, hs⟩ z_v150 z_v151 z_M154
    have rd := hs.1.rd
    have xb := hs.2.1
    have pb := hs.2.2.1
    intro K186 h_K186
    have k_K186 : (v151 = 0) → K186  := by
      intro  hm
      refine h_K186 ?_
      have st0 := hs
      rw [hm] at st0
      intro K214 h_K214
      have k_K214 : ∀ (v163 : Int), ((v163 = 1 ∧ (M154 103 24 ≠ 0 ∨ (0 < M 103 27 ∧ v150 < mL M))) ∨ (v163 = 0 ∧ M154 103 24 = 0 ∧ ¬ (0 < M 103 27 ∧ v150 < mL M))) → K214 v163 := by
        intro v163 k15
        refine h_K214 _ ?_
        intro z_v163
        have o13 : (v163 = 0 ∨ v163 = 1) := by
          first | with_reducible assumption | omega | exact trivial | with_reducible rfl  -- o13
        refine ⟨o13, ?_⟩
        intro M166 e_M166
        refine ⟨fun b19 => ?_, fun b19 => ?_⟩
        · -- b19.1
          refine hP _ ⟨?_, ?_⟩
          · show ∀ c i, c ≠ 113 → ¬ (c = 103 ∧ (i = 23 ∨ i = 24 ∨ i = 26 ∨ i = 27)) → M166 c i = M c i  -- p3.hf
            intro c i c1 c2; rw [e_M166, zset_n _ (by omega)]; exact hs.1 c i c1 (by omega)
          · show mLo M M166  -- p3.ho
            have q : M166 103 24 = v163 := by rw [e_M166, zset_s]
            exact mLo_a st0 (by omega) (by rw [e_M166, show v163 = 1 by omega])
        · -- b19.2
          intro M170 e_M170
          have q : M166 103 24 = v163 := by rw [e_M166, zset_s]
          have w27 : M170 103 27 = M154 103 27 := by rw [e_M170, zset_n _ (by omega), e_M166, zset_n _ (by omega)]
          have o14 : zin ((M170 103 27) + 1) := by
            first | with_reducible assumption | omega | exact trivial | with_reducible rfl  -- o14
          refine ⟨o14, ?_⟩
          intro M174 e_M174
          refine hP _ ⟨?_, ?_⟩
          · show ∀ c i, c ≠ 113 → ¬ (c = 103 ∧ (i = 23 ∨ i = 24 ∨ i = 26 ∨ i = 27)) → M174 c i = M c i  -- p4.hf
            intro c i c1 c2; rw [e_M174, zset_n _ (by omega), e_M170, zset_n _ (by omega), e_M166, zset_n _ (by omega)]; exact hs.1 c i c1 (by omega)
          · show mLo M M174  -- p4.ho
            exact mLo_b hL st0 (by omega) (by omega) (by rw [e_M174, w27, e_M170, e_M166, show v163 = 0 by omega])
      intro K209 h_K209
      have k_K209 : (M154 103 24 ≠ 0 ∨ (0 < M 103 27 ∧ v150 < mL M)) → K209  := by
        intro  k9
        refine h_K209 ?_
        refine k_K214 _ ?_
        · show (1 = 1 ∧ (M154 103 24 ≠ 0 ∨ (0 < M 103 27 ∧ v150 < mL M))) ∨ (1 = 0 ∧ M154 103 24 = 0 ∧ ¬ (0 < M 103 27 ∧ v150 < mL M))  -- K214.3.k15
          first | with_reducible assumption | omega | exact trivial | with_reducible rfl
      refine ⟨fun b20 => ?_, fun b20 => ?_⟩
      · -- b20.1
        refine k_K209 ?_
        · show M154 103 24 ≠ 0 ∨ (0 < M 103 27 ∧ v150 < mL M)  -- K209.3.k9
          first | with_reducible assumption | omega | exact trivial | with_reducible rfl
      · -- b20.2
        intro K213 h_K213
        have k_K213 : (M154 103 24 = 0 ∧ ¬ (0 < M 103 27 ∧ v150 < mL M)) → K213  := by
          intro  k3
          refine h_K213 ?_
          refine k_K214 _ ?_
          · show (0 = 1 ∧ (M154 103 24 ≠ 0 ∨ (0 < M 103 27 ∧ v150 < mL M))) ∨ (0 = 0 ∧ M154 103 24 = 0 ∧ ¬ (0 < M 103 27 ∧ v150 < mL M))  -- K214.4.k15
            first | with_reducible assumption | omega | exact trivial | with_reducible rfl
        refine ⟨fun b21 => ?_, fun b21 => ?_⟩
        · -- b21.1
          refine k_K213 ?_
          · show M154 103 24 = 0 ∧ ¬ (0 < M 103 27 ∧ v150 < mL M)  -- K213.3.k3
            first | with_reducible assumption | omega | exact trivial | with_reducible rfl
        · -- b21.2
          refine ⟨fun b22 => ?_, fun b22 => ?_⟩
          · -- b22.1
            refine k_K213 ?_
            · show M154 103 24 = 0 ∧ ¬ (0 < M 103 27 ∧ v150 < mL M)  -- K213.4.k3
              first | with_reducible assumption | omega | exact trivial | with_reducible rfl
          · -- b22.2
            refine k_K209 ?_
            · show M154 103 24 ≠ 0 ∨ (0 < M 103 27 ∧ v150 < mL M)  -- K209.4.k9
              first | with_reducible assumption | omega | exact trivial | with_reducible rfl
    refine ⟨fun b23 => ?_, fun b23 => ?_⟩
    · -- b23.1
      refine k_K186 ?_
      · show v151 = 0  -- K186.3.hm
        first | with_reducible assumption | (rcases hs.2.2.2 with ⟨_, a⟩ | ⟨a, _⟩ | ⟨a, _⟩ <;> first | exact a | exact absurd a.1 (by assumption))
    · -- b23.2
      refine ⟨fun b24 => ?_, fun b24 => ?_⟩
      · -- b24.1
        refine k_K186 ?_
        · show v151 = 0  -- K186.4.hm
          first | with_reducible assumption | (rcases hs.2.2.2 with ⟨_, a⟩ | ⟨a, _⟩ | ⟨a, _⟩ <;> first | exact a | exact absurd a.1 (by assumption))
      · -- b24.2
        have m1 : v151 = 1 := by
          rcases hs.2.2.2 with ⟨a, _⟩ | ⟨a, _⟩ | ⟨a, _⟩
          · exact a
          · exact absurd a b24
          · exact absurd a b24
        have st := hs
        rw [m1] at st
        have g0 := @gRu_0 (mT M) (M 103 22) (M154 103 23)
        have gc6 : pr_X12_here M154 := by
          show (0 ≤ M154 103 21 ∧ M154 103 21 ≤ 840) ∧ M154 103 22 ≤ 120 ∧ 0 ≤ M154 103 23
          rw [rd.1, rd.2.1]; exact ⟨hL.1, hL.2.1.2, pb.1⟩
        refine ⟨gc6, ?_⟩
        rintro r182 M183 ⟨q_rfl, e_r182⟩ z_r182 z_M183
        have q_rfl := q_rfl.symm
        subst q_rfl
        rw [rd.2.2.2.2, rd.2.1] at e_r182
        have gc7 : pr_X12_colourOf r182 M154 := trivial
        refine ⟨gc7, ?_⟩
        rintro r188 M189 ⟨q_rfl, e_r188⟩ z_r188 z_M189
        have q_rfl := q_rfl.symm
        subst q_rfl
        rw [e_r182] at e_r188
        intro K57 h_K57
        have k_K57 : ∀ (v194 : Int), ((v194 = 1 ∧ (gCl (gBy (mT M) (M 103 22) (M154 103 23)) < 0 ∨ mL M ≤ v150)) ∨ (v194 = 0 ∧ ¬ (gCl (gBy (mT M) (M 103 22) (M154 103 23)) < 0 ∨ mL M ≤ v150))) → K57 v194 := by
          intro v194 k46
          refine h_K57 _ ?_
          intro z_v194
          have o15 : (v194 = 0 ∨ v194 = 1) := by
            omega
          refine ⟨o15, ?_⟩
          intro M197 e_M197
          intro K150 h_K150
          have k_K150 : ∀ (v200 : Int) (M202 : zM), (mRn M (M154 103 23) v200 M202) → K150 v200 M202 := by
            intro v200 M202 kr
            refine h_K150 _ _ ?_
            intro z_v200 z_M202
            have kb := kr.2.2.1
            have kd := kr.1.rd
            refine ⟨fun b25 => ?_, fun b25 => ?_⟩
            · -- b25.1
              refine ⟨Int.toNat ((M 103 22 - M202 103 23) + 1 + 0), by omega, by omega, ?_⟩
              · show mSt M M202 v200 0  -- I21.5.hs
                exact mSt_a pb.1 kr b25
            · -- b25.2
              refine ⟨fun b26 => ?_, fun b26 => ?_⟩
              · -- b26.1
                refine ⟨Int.toNat ((M 103 22 - M202 103 23) + 1 + 0), by omega, by omega, ?_⟩
                · show mSt M M202 v200 0  -- I21.6.hs
                  exact mSt_b pb.1 kr b25 (.inl (by omega))
              · -- b26.2
                have gc8 : pr_X12_here M202 := by
                  show (0 ≤ M202 103 21 ∧ M202 103 21 ≤ 840) ∧ M202 103 22 ≤ 120 ∧ 0 ≤ M202 103 23
                  rw [kd.1, kd.2.1]; exact ⟨hL.1, hL.2.1.2, by omega⟩
                refine ⟨gc8, ?_⟩
                rintro r212 M213 ⟨q_rfl, e_r212⟩ z_r212 z_M213
                have q_rfl := q_rfl.symm
                subst q_rfl
                rw [kd.2.2.2.2, kd.2.1] at e_r212
                refine ⟨fun b27 => ?_, fun b27 => ?_⟩
                · -- b27.1
                  refine ⟨Int.toNat ((M 103 22 - M202 103 23) + 1 + 0), by omega, by omega, ?_⟩
                  · show mSt M M202 v200 0  -- I21.7.hs
                    exact mSt_b pb.1 kr b25 (.inr (by rw [← e_r212]; exact b27))
                · -- b27.2
                  have sc := mSt_c pb.1 kr b25 (by rw [← e_r212]; omega)
                  refine ⟨Int.toNat ((M 103 22 - M202 103 23) + 1 + 1), by omega, by omega, ?_⟩
                  · show mSt M M202 v200 1  -- I21.8.hs
                    exact sc.1
          refine ⟨fun b28 => ?_, fun b28 => ?_⟩
          · -- b28.1
            refine k_K150 _ _ ?_
            · show mRn M (M154 103 23) v150 M197  -- K150.6.kr
              have q : M197 103 24 = v194 := by rw [e_M197, zset_s]
              rw [e_M197, show v194 = 1 by omega]
              exact mRn_bad st (by rw [← e_r188]; omega)
          · -- b28.2
            have o16 : zin ((M197 103 23) + 1) := by
              rw [e_M197, zset_n _ (by omega)]; omega
            refine ⟨o16, ?_⟩
            intro M227 e_M227
            have q : M197 103 24 = v194 := by rw [e_M197, zset_s]
            have v0 : v194 = 0 := by omega
            have nb : ¬ (gCl (gBy (mT M) (M 103 22) (M154 103 23)) < 0 ∨ mL M ≤ v150) := by rw [← e_r188]; omega
            have ri := @gCl_i (mT M) (M 103 22) (M154 103 23) (by omega)
            have e79 : M227 = zset (zset M154 103 24 0) 103 23 (M154 103 23 + 1) := by
              rw [e_M227, e_M197, v0, zset_n _ (by omega)]
            have fr79 : mFr M M227 := by rw [e79]; exact (hs.1.set (.inr rfl)).set (.inl rfl)
            have q23 : M227 103 23 = M154 103 23 + 1 := by rw [e79, zset_s]
            have q24 : M227 103 24 = 0 := by rw [e79, zset_n _ (by omega), zset_s]
            have qd : M227 113 = M154 113 := by rw [e79, zset_c (by decide), zset_c (by decide)]
            have rd79 := fr79.rd
            have gc9 : pr_X12_here M227 := by
              show (0 ≤ M227 103 21 ∧ M227 103 21 ≤ 840) ∧ M227 103 22 ≤ 120 ∧ 0 ≤ M227 103 23
              rw [rd79.1, rd79.2.1, q23]; exact ⟨hL.1, hL.2.1.2, by omega⟩
            refine ⟨gc9, ?_⟩
            rintro r230 M231 ⟨q_rfl, e_r230⟩ z_r230 z_M231
            have q_rfl := q_rfl.symm
            subst q_rfl
            rw [rd79.2.2.2.2, rd79.2.1, q23] at e_r230
            refine ⟨fun b29 => ?_, fun b29 => ?_⟩
            · -- b29.1
              have g1 := (gRu_1 (T := mT M) (n := M 103 22) (p := M154 103 23) (by rw [← e_r230]; exact b29)).1
              have lp := mLp_1 st nb (by rw [← e_r230]; exact b29) e79
              refine ⟨fun v237 v238 M241 n243 => (n243 : Int) = (gRu (mT M) (M 103 22) (M154 103 23) - v238) ∧ (0 ≤ v238 ∧ v238 ≤ gRu (mT M) (M 103 22) (M154 103 23)) ∧ (mLp M M154 v150 v237 v238 M241), ⟨Int.toNat (gRu (mT M) (M 103 22) (M154 103 23) - 0), by omega, ?_, ?_⟩, ?_⟩
              · show 0 ≤ 0 ∧ 0 ≤ gRu (mT M) (M 103 22) (M154 103 23)  -- I111.0.hk
                first | with_reducible assumption | omega | exact trivial | with_reducible rfl
              · show mLp M M154 v150 v150 0 M227  -- I111.0.hl
                exact lp
              rintro v237 v238 M241 n243 ⟨h_n243, hk, hl⟩ z_v237 z_v238 z_M241
              refine ⟨fun b30 => ?_, fun b30 => ?_⟩
              · -- b30.1
                refine k_K150 _ _ ?_
                · show mRn M (M154 103 23) v237 M241  -- K150.7.kr
                  exact mRn_run hL st nb hl (.inl (by omega))
              · -- b30.2
                refine ⟨fun b31 => ?_, fun b31 => ?_⟩
                · -- b31.1
                  refine k_K150 _ _ ?_
                  · show mRn M (M154 103 23) v237 M241  -- K150.8.kr
                    exact mRn_run hL st nb hl (.inr b31)
                · -- b31.2
                  have hg := hl.g b31
                  have h27 := hl.1.rd.2.2.2.1
                  have o17 : ((0 : Int) ≤ ((16 * (M241 103 27)) + v237) ∧ ((16 * (M241 103 27)) + v237) < 192) := by
                    first | with_reducible assumption | omega | exact trivial | with_reducible rfl  -- o17
                  refine ⟨o17, ?_⟩
                  intro M253 e_M253
                  have o18 : zin (v237 + 1) := by
                    first | with_reducible assumption | omega | exact trivial | with_reducible rfl  -- o18
                  refine ⟨o18, ?_⟩
                  have o19 : zin (v238 + 1) := by
                    first | with_reducible assumption | omega | exact trivial | with_reducible rfl  -- o19
                  refine ⟨o19, ?_⟩
                  refine ⟨Int.toNat (gRu (mT M) (M 103 22) (M154 103 23) - (v238 + 1)), by omega, by omega, ?_, ?_⟩
                  · show 0 ≤ (v238 + 1) ∧ (v238 + 1) ≤ gRu (mT M) (M 103 22) (M154 103 23)  -- I111.3.hk
                    first | with_reducible assumption | omega | exact trivial | with_reducible rfl
                  · show mLp M M154 v150 (v237 + 1) (v238 + 1) M253  -- I111.3.hl
                    exact hl.n b31 (by omega) e_r188 e_M253
            · -- b29.2
              have o20 : zin ((M227 103 23) + 1) := by
                first | with_reducible assumption | omega | exact trivial | with_reducible rfl  -- o20
              refine ⟨o20, ?_⟩
              intro M262 e_M262
              have fr14 : mFr M M262 := by rw [e_M262]; exact fr79.set (.inl rfl)
              have p23 : M262 103 23 = M154 103 23 + 2 := by rw [e_M262, zset_s, q23]; omega
              have p24 : M262 103 24 = 0 := by rw [e_M262, zset_n _ (by omega)]; exact q24
              have pd : M262 113 = M154 113 := by rw [e_M262, zset_c (by decide)]; exact qd
              have rd14 := fr14.rd
              have o21 : zin (16 - v150) := by
                first | with_reducible assumption | omega | exact trivial | with_reducible rfl  -- o21
              refine ⟨o21, ?_⟩
              have gc10 : pr_X12_readNumber (16 - v150) M262 := by
                refine ⟨?_, ?_⟩
                · show (0 ≤ M262 103 21 ∧ M262 103 21 ≤ 840) ∧ M262 103 22 ≤ 120 ∧ 0 ≤ M262 103 23  -- c10.hb
                  rw [rd14.1, rd14.2.1, p23]; exact ⟨hL.1, hL.2.1.2, by omega⟩
                · show -100 ≤ (16 - v150) ∧ (16 - v150) ≤ 100  -- c10.hl
                  first | with_reducible assumption | omega | exact trivial | with_reducible rfl
              refine ⟨gc10, ?_⟩
              rintro r266 M267 ⟨pc10_hf, pc10_ho⟩ z_r266 z_M267
              rw [rd14.2.2.2.2, rd14.2.1, p23, show 16 - v150 = mL M - v150 by rw [eL]] at pc10_ho
              have sr := gRu_s (T := mT M) (n := M 103 22) (p := M154 103 23) (by rw [← e_r230]; exact b29)
              have lp := mLp_s st nb (by rw [← e_r230]; exact b29) fr14 p23 p24 pd pc10_hf pc10_ho
              refine ⟨fun v272 v273 M276 n278 => (n278 : Int) = (gRu (mT M) (M 103 22) (M154 103 23) - v273) ∧ (0 ≤ v273 ∧ v273 ≤ gRu (mT M) (M 103 22) (M154 103 23)) ∧ (mLp M M154 v150 v272 v273 M276), ⟨Int.toNat (gRu (mT M) (M 103 22) (M154 103 23) - 0), by omega, ?_, ?_⟩, ?_⟩
              · show 0 ≤ 0 ∧ 0 ≤ gRu (mT M) (M 103 22) (M154 103 23)  -- I111.0.hk
                first | with_reducible assumption | omega | exact trivial | with_reducible rfl
              · show mLp M M154 v150 v150 0 M267  -- I111.0.hl
                exact lp
              rintro v272 v273 M276 n278 ⟨h_n278, hk, hl⟩ z_v272 z_v273 z_M276
              refine ⟨fun b32 => ?_, fun b32 => ?_⟩
              · -- b32.1
                have ex : gRu (mT M) (M 103 22) (M154 103 23) ≤ v273 ∨ M276 103 24 ≠ 0 := by
                  by_cases z : M276 103 24 = 0
                  · have hg := hl.g z
                    omega
                  · exact .inr z
                refine k_K150 _ _ ?_
                · show mRn M (M154 103 23) v272 M276  -- K150.9.kr
                  exact mRn_run hL st nb hl ex
              · -- b32.2
                refine ⟨fun b33 => ?_, fun b33 => ?_⟩
                · -- b33.1
                  refine k_K150 _ _ ?_
                  · show mRn M (M154 103 23) v272 M276  -- K150.10.kr
                    exact mRn_run hL st nb hl (.inr b33)
                · -- b33.2
                  have hg := hl.g b33
                  have h27 := hl.1.rd.2.2.2.1
                  have o22 : ((0 : Int) ≤ ((16 * (M276 103 27)) + v272) ∧ ((16 * (M276 103 27)) + v272) < 192) := by
                    first | with_reducible assumption | omega | exact trivial | with_reducible rfl  -- o22
                  refine ⟨o22, ?_⟩
                  intro M288 e_M288
                  have o23 : zin (v272 + 1) := by
                    first | with_reducible assumption | omega | exact trivial | with_reducible rfl  -- o23
                  refine ⟨o23, ?_⟩
                  have o24 : zin (v273 + 1) := by
                    first | with_reducible assumption | omega | exact trivial | with_reducible rfl  -- o24
                  refine ⟨o24, ?_⟩
                  refine ⟨Int.toNat (gRu (mT M) (M 103 22) (M154 103 23) - (v273 + 1)), by omega, by omega, ?_, ?_⟩
                  · show 0 ≤ (v273 + 1) ∧ (v273 + 1) ≤ gRu (mT M) (M 103 22) (M154 103 23)  -- I111.4.hk
                    first | with_reducible assumption | omega | exact trivial | with_reducible rfl
                  · show mLp M M154 v150 (v272 + 1) (v273 + 1) M288  -- I111.4.hl
                    exact hl.n b33 (by omega) e_r188 e_M288
        intro K52 h_K52
        have k_K52 : (gCl (gBy (mT M) (M 103 22) (M154 103 23)) < 0 ∨ mL M ≤ v150) → K52  := by
          intro  k52
          refine h_K52 ?_
          refine k_K57 _ ?_
          · show (1 = 1 ∧ (gCl (gBy (mT M) (M 103 22) (M154 103 23)) < 0 ∨ mL M ≤ v150)) ∨ (1 = 0 ∧ ¬ (gCl (gBy (mT M) (M 103 22) (M154 103 23)) < 0 ∨ mL M ≤ v150))  -- K57.3.k46
            first | with_reducible assumption | omega | exact trivial | with_reducible rfl
        refine ⟨fun b34 => ?_, fun b34 => ?_⟩
        · -- b34.1
          refine k_K52 ?_
          · show gCl (gBy (mT M) (M 103 22) (M154 103 23)) < 0 ∨ mL M ≤ v150  -- K52.3.k52
            first | with_reducible assumption | omega | exact trivial | with_reducible rfl
        · -- b34.2
          refine ⟨fun b35 => ?_, fun b35 => ?_⟩
          · -- b35.1
            refine k_K57 _ ?_
            · show (0 = 1 ∧ (gCl (gBy (mT M) (M 103 22) (M154 103 23)) < 0 ∨ mL M ≤ v150)) ∨ (0 = 0 ∧ ¬ (gCl (gBy (mT M) (M 103 22) (M154 103 23)) < 0 ∨ mL M ≤ v150))  -- K57.4.k46
              first | with_reducible assumption | omega | exact trivial | with_reducible rfl
          · -- b35.2
            refine k_K52 ?_
            · show gCl (gBy (mT M) (M 103 22) (M154 103 23)) < 0 ∨ mL M ≤ v150  -- K52.4.k52
              first | with_reducible assumption | omega | exact trivial | with_reducible rfl

