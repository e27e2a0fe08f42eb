theorem mFc.of {M M' : zM} (f : ∀ c i, ¬ mF3 c i → M' c i = M c i) : mW M M' := fun c i k => f c i (by omega)
abbrev pr_X12_faultOfRule (d : Int) (M : zM) : Prop := (mI M) ∧ (0 ≤ d ∧ d < 8)
abbrev po_X12_faultOfRule (d : Int) (M : zM) (r : Int) (M' : zM) : Prop := (mW M M') ∧ (∀ φ, (∀ k, φ k = 0) → (0 ≤ r ∧ gRb (fun i => zland (M 142 (120 * d + i)) 255) (M 141 d) φ r) ∨ (r = -1 ∧ ∃ v, (v = 0 ∨ v = 1) ∧ gRy (fun i => zland (M 142 (120 * d + i)) 255) (M 141 d) φ v)) ∧ (-1 ≤ r ∧ r ≤ 120)
set_option maxHeartbeats 1000000 in
theorem ok_X12_faultOfRule : zSnd zS 145 0 0 yX12_faultOfRule cX12_faultOfRule 2 (some .int) 10 [2, 0] (F_X12_faultOfRule pr_X12_faultOfRule po_X12_faultOfRule) := by
  refine (sn_X12_faultOfRule ok_X12_readRule).mono ?_
  rintro xs P M hz hR ⟨d, rfl, ⟨hI, hd⟩, hP⟩
  refine ⟨_, rfl, ?_⟩
  have z_d := zall_h (zall_t hz) (by decide)
  change vc_X12_faultOfRule pr_X12_readRule po_X12_readRule d P M
  unfold vc_X12_faultOfRule
  have S := hI.s d hd.1 hd.2
  intro M1 e_M1
  have o1 : zin (120 * d) := by
    omega
  refine ⟨o1, ?_⟩
  intro M5 e_M5
  have o2 : ((0 : Int) ≤ d ∧ d < 8) := by
    first | with_reducible assumption | omega | exact trivial | with_reducible rfl  -- o2
  refine ⟨o2, ?_⟩
  intro M9 e_M9
  have f9 : ∀ c i, ¬ (c = 103 ∧ (i = 21 ∨ i = 22 ∨ i = 58)) → M9 c i = M c i := fun c i k => by rw [e_M9, zset_n _ (by omega), e_M5, zset_n _ (by omega), e_M1, zset_n _ (by omega)]
  have g58 : M9 103 58 = 0 := by rw [e_M9, zset_n _ (by omega), e_M5, zset_n _ (by omega), e_M1, zset_s]
  have g21 : M9 103 21 = 120 * d := by rw [e_M9, zset_n _ (by omega), e_M5, zset_s]
  have g22 : M9 103 22 = M 141 d := by rw [e_M9, zset_s, e_M5, zset_n _ (by omega), e_M1, zset_n _ (by omega)]
  have h : ∀ i, i ≠ 23 → (zset M9 103 23 0) 103 i = M9 103 i := fun i k => zset_n _ (by omega)
  have C9 : mC (zset M9 103 23 0) := by
    refine ⟨?_, ?_, ?_, ?_⟩
    · rw [h 21 (by decide), h 58 (by decide), g21]; omega
    · rw [h 22 (by decide), g22]; exact S.1
    · rw [zset_s, h 22 (by decide), g22]; omega
    · rw [h 58 (by decide)]; exact fun k => absurd g58 k
  have eT : mTT M9 = fun i => zland (M 142 (120 * d + i)) 255 := by
    unfold mTT
    rw [if_pos g58, g21, show M9 142 = M 142 from funext fun i => f9 142 i (by omega)]
  have P9 : ∀ φ : Int → Int, (∀ k, φ k = 0) → mPh M9 φ := fun φ hφ => ⟨fun _ => hφ, fun k => absurd g58 k⟩
  have gc1 : pr_X12_readRule M9 := by
    show mC (zset M9 103 23 0)
    exact C9
  refine ⟨gc1, ?_⟩
  rintro r12 M13 ⟨pc1_hf, pc1_hr, pc1_hp, pc1_h24, pc1_ho⟩ z_r12 z_M13
  rw [eT, g22] at pc1_ho
  have w : mW M M13 := fun c i k => by rw [pc1_hf c i (by omega)]; exact f9 c i (by omega)
  refine ⟨fun b1 => ?_, fun b1 => ?_⟩
  · -- b1.1
    refine hP _ _ ⟨?_, ?_, ?_⟩
    · show mW M M13  -- p1.hw
      exact w
    · show ∀ φ, (∀ k, φ k = 0) → (0 ≤ (-1) ∧ gRb (fun i => zland (M 142 (120 * d + i)) 255) (M 141 d) φ (-1)) ∨ ((-1) = -1 ∧ ∃ v, (v = 0 ∨ v = 1) ∧ gRy (fun i => zland (M 142 (120 * d + i)) 255) (M 141 d) φ v)  -- p1.ho
      intro φ hφ; rcases pc1_ho φ (P9 φ hφ) with ⟨a, b⟩ | ⟨a, b⟩
      · omega
      · exact .inr ⟨rfl, _, pc1_hr, b⟩
    · show -1 ≤ (-1) ∧ (-1) ≤ 120  -- p1.hb
      omega
  · -- b1.2
    refine hP _ _ ⟨?_, ?_, ?_⟩
    · show mW M M13  -- p2.hw
      exact w
    · show ∀ φ, (∀ k, φ k = 0) → (0 ≤ (M13 103 23) ∧ gRb (fun i => zland (M 142 (120 * d + i)) 255) (M 141 d) φ (M13 103 23)) ∨ ((M13 103 23) = -1 ∧ ∃ v, (v = 0 ∨ v = 1) ∧ gRy (fun i => zland (M 142 (120 * d + i)) 255) (M 141 d) φ v)  -- p2.ho
      intro φ hφ; rcases pc1_ho φ (P9 φ hφ) with ⟨a, b⟩ | ⟨a, b⟩
      · exact .inl ⟨pc1_hp.1, b⟩
      · omega
    · show -1 ≤ (M13 103 23) ∧ (M13 103 23) ≤ 120  -- p2.hb
      have := pc1_hp; rw [g22] at this; omega

abbrev pr_X12_ruleFault (d : Int) (M : zM) : Prop := (mI M)
abbrev po_X12_ruleFault (d : Int) (M : zM) (r : Int) (M' : zM) : Prop := (mW M M') ∧ (¬ mTok M d → r = qRf d (M 134 d)) ∧ (mTok M d → ∀ φ, (∀ k, φ k = 0) → (r = -4 ∧ ∃ v, (v = 0 ∨ v = 1) ∧ gRy (fun i => zland (M 142 (120 * d + i)) 255) (M 141 d) φ v) ∨ (0 ≤ r ∧ gRb (fun i => zland (M 142 (120 * d + i)) 255) (M 141 d) φ r))
set_option maxHeartbeats 1000000 in
theorem ok_X12_ruleFault : zSnd zS 145 0 0 yX12_ruleFault cX12_ruleFault 4 (some .int) 11 [2, 0] (F_X12_ruleFault pr_X12_ruleFault po_X12_ruleFault) := by
  refine (sn_X12_ruleFault ok_X12_lacks ok_X12_faultOfRule).mono ?_
  rintro xs P M hz hR ⟨d, rfl, hI, hP⟩
  refine ⟨_, rfl, ?_⟩
  have z_d := zall_h (zall_t hz) (by decide)
  change vc_X12_ruleFault pr_X12_lacks po_X12_lacks pr_X12_faultOfRule po_X12_faultOfRule d P M
  unfold vc_X12_ruleFault
  intro M1 e_M1
  have I1 : mI M1 := hI.fr (fun c i k _ => by rw [e_M1, zset_n _ (by omega)])
  have w1 : mW M M1 := fun c i k => by rw [e_M1, zset_n _ (by omega)]
  have w134 := w1 134 d (by omega)
  have w141 := w1 141 d (by omega)
  have w142 : M1 142 = M 142 := funext fun i => w1 142 i (by omega)
  have gc1 : pr_X12_lacks d M1 := trivial
  refine ⟨gc1, ?_⟩
  rintro r4 M5 ⟨q_rfl, e_r4⟩ z_r4 z_M5
  have q_rfl := q_rfl.symm
  subst q_rfl
  refine ⟨fun b1 => ?_, fun b1 => ?_⟩
  · -- b1.1
    have yes : mTok M1 d := by
      apply Classical.byContradiction
      intro k; have := (mTok.no k e_r4).2; omega
    have gc2 : pr_X12_faultOfRule d M1 := by
      refine ⟨?_, ?_⟩
      · show mI M1  -- c2.hI
        exact I1
      · show 0 ≤ d ∧ d < 8  -- c2.hd
        exact yes.1
    refine ⟨gc2, ?_⟩
    rintro r11 M12 ⟨pc2_hw, pc2_ho, pc2_hb⟩ z_r11 z_M12
    rw [w142, w141] at pc2_ho
    refine ⟨fun b2 => ?_, fun b2 => ?_⟩
    · -- b2.1
      refine hP _ _ ⟨?_, ?_, ?_⟩
      · show mW M M12  -- p1.hw
        exact w1.tr pc2_hw
      · show ¬ mTok M d → r11 = qRf d (M 134 d)  -- p1.hn
        intro k; exact absurd ((mTok.w w1).1 yes) k
      · show mTok M d → ∀ φ, (∀ k, φ k = 0) → (r11 = -4 ∧ ∃ v, (v = 0 ∨ v = 1) ∧ gRy (fun i => zland (M 142 (120 * d + i)) 255) (M 141 d) φ v) ∨ (0 ≤ r11 ∧ gRb (fun i => zland (M 142 (120 * d + i)) 255) (M 141 d) φ r11)  -- p1.hy
        intro _ φ hφ; rcases pc2_ho φ hφ with a | ⟨a, _⟩
        · exact .inr a
        · omega
    · -- b2.2
      refine hP _ _ ⟨?_, ?_, ?_⟩
      · show mW M M12  -- p2.hw
        exact w1.tr pc2_hw
      · show ¬ mTok M d → (-4) = qRf d (M 134 d)  -- p2.hn
        intro k; exact absurd ((mTok.w w1).1 yes) k
      · show mTok M d → ∀ φ, (∀ k, φ k = 0) → ((-4) = -4 ∧ ∃ v, (v = 0 ∨ v = 1) ∧ gRy (fun i => zland (M 142 (120 * d + i)) 255) (M 141 d) φ v) ∨ (0 ≤ (-4) ∧ gRb (fun i => zland (M 142 (120 * d + i)) 255) (M 141 d) φ (-4))  -- p2.hy
        intro _ φ hφ; rcases pc2_ho φ hφ with ⟨a, _⟩ | ⟨_, a⟩
        · omega
        · exact .inl ⟨rfl, a⟩
  · -- b1.2
    refine hP _ _ ⟨?_, ?_, ?_⟩
    · show mW M M1  -- p3.hw
      exact w1
    · show ¬ mTok M d → r4 = qRf d (M 134 d)  -- p3.hn
      intro k; rw [← w134]; exact (mTok.no (fun q => k ((mTok.w w1).1 q)) e_r4).1
    · show mTok M d → ∀ φ, (∀ k, φ k = 0) → (r4 = -4 ∧ ∃ v, (v = 0 ∨ v = 1) ∧ gRy (fun i => zland (M 142 (120 * d + i)) 255) (M 141 d) φ v) ∨ (0 ≤ r4 ∧ gRb (fun i => zland (M 142 (120 * d + i)) 255) (M 141 d) φ r4)  -- p3.hy
      intro k; have := mTok.yes ((mTok.w w1).2 k) e_r4; omega

abbrev pr_X12_rule (d : Int) (M : zM) : Prop := (mI M)
abbrev po_X12_rule (d : Int) (M : zM) (r : Int) (M' : zM) : Prop := (¬ (0 ≤ d ∧ d < 8) → r = -1 ∧ mW M M') ∧ (0 ≤ d ∧ d < 8 → M 103 9 = 12 → r = -2 ∧ mW M M') ∧ (0 ≤ d ∧ d < 8 → M 103 9 < 12 → ¬ mTok M d → r = qRf d (M 134 d) ∧ mW M M') ∧ (mTok M d → M 103 9 < 12 → ∀ φ, (∀ k, φ k = 0) → (∃ q, gRb (fun i => zland (M 142 (120 * d + i)) 255) (M 141 d) φ q ∧ r = -100 - q ∧ mW M M') ∨ ((∃ v, (v = 0 ∨ v = 1) ∧ gRy (fun i => zland (M 142 (120 * d + i)) 255) (M 141 d) φ v) ∧ r = M 103 9 ∧ (M' 103 9 = M 103 9 + 1 ∧ M' 108 (M 103 9) = M 141 d ∧ M' 109 (M 103 9) = 1) ∧ (∀ i, 0 ≤ i → i < M 141 d → M' 107 (120 * M 103 9 + i) = zland (M 142 (120 * d + i)) 255) ∧ ∀ c i, ¬ mWk c i → ¬ (c = 103 ∧ i = 9) → ¬ (c = 108 ∧ i = M 103 9) → ¬ (c = 109 ∧ i = M 103 9) → ¬ (c = 107 ∧ 120 * M 103 9 ≤ i ∧ i < 120 * M 103 9 + M 141 d) → M' c i = M c i))
set_option maxHeartbeats 2000000 in
theorem ok_X12_rule : zSnd zS 145 0 0 yX12_rule cX12_rule 5 (some .int) 11 [2, 0] (F_X12_rule pr_X12_rule po_X12_rule) := by
  refine (sn_X12_rule ok_X12_in ok_X12_lacks ok_X12_faultOfRule).mono ?_
  rintro xs P M hz hR ⟨d, rfl, hI, hP⟩
  refine ⟨_, rfl, ?_⟩
  have z_d := zall_h (zall_t hz) (by decide)
  change vc_X12_rule pr_X12_in po_X12_in pr_X12_lacks po_X12_lacks pr_X12_faultOfRule po_X12_faultOfRule d P M
  unfold vc_X12_rule
  have R0 := hI.r.1
  intro M1 e_M1
  have I1 : mI M1 := hI.fr (fun c i k _ => by rw [e_M1, zset_n _ (by omega)])
  have w1 : mW M M1 := fun c i k => by rw [e_M1, zset_n _ (by omega)]
  have w134 := w1 134 d (by omega)
  have w141 := w1 141 d (by omega)
  have w9 := w1 103 9 (by omega)
  have w142 : M1 142 = M 142 := funext fun i => w1 142 i (by omega)
  have gc1 : pr_X12_in d 0 7 M1 := trivial
  refine ⟨gc1, ?_⟩
  rintro r4 M5 ⟨q_rfl, e_r4⟩ z_r4 z_M5
  have q_rfl := q_rfl.symm
  subst q_rfl
  have z1 := zif01 e_r4
  refine ⟨fun b1 => ?_, fun b1 => ?_⟩
  · -- b1.1
    have hd := z1.ne.1 b1
    refine ⟨fun b2 => ?_, fun b2 => ?_⟩
    · -- b2.1
      have gc2 : pr_X12_lacks d M1 := trivial
      refine ⟨gc2, ?_⟩
      rintro r12 M13 ⟨q_rfl, e_r12⟩ z_r12 z_M13
      have q_rfl := q_rfl.symm
      subst q_rfl
      refine ⟨fun b3 => ?_, fun b3 => ?_⟩
      · -- b3.1
        have yes : mTok M1 d := by
          apply Classical.byContradiction
          intro k; have := (mTok.no k e_r12).2; omega
        have S := hI.s d yes.1.1 yes.1.2
        have gc3 : pr_X12_faultOfRule d M1 := by
          refine ⟨?_, ?_⟩
          · show mI M1  -- c3.hI
            exact I1
          · show 0 ≤ d ∧ d < 8  -- c3.hd
            exact yes.1
        refine ⟨gc3, ?_⟩
        rintro r19 M20 ⟨pc3_hw, pc3_ho, pc3_hb⟩ z_r19 z_M20
        rw [w142, w141] at pc3_ho
        have w3 : mW M M20 := w1.tr pc3_hw
        have v9 := w3 103 9 (by omega)
        have v141 := w3 141 d (by omega)
        refine ⟨fun b4 => ?_, fun b4 => ?_⟩
        · -- b4.1
          refine ⟨fun v26 M28 n30 => (n30 : Int) = (200 - v26) ∧ (0 ≤ v26 ∧ v26 ≤ M 141 d) ∧ (∀ c i, ¬ (c = 107 ∧ 120 * M 103 9 ≤ i ∧ i < 120 * M 103 9 + M 141 d) → M28 c i = M20 c i) ∧ (∀ i, 0 ≤ i → i < v26 → M28 107 (120 * M 103 9 + i) = zland (M 142 (120 * d + i)) 255), ⟨Int.toNat (200 - 0), by omega, ?_, ?_, ?_⟩, ?_⟩
          · show 0 ≤ 0 ∧ 0 ≤ M 141 d  -- I61#1.0.hv
            first | with_reducible assumption | omega | exact trivial | with_reducible rfl
          · show ∀ c i, ¬ (c = 107 ∧ 120 * M 103 9 ≤ i ∧ i < 120 * M 103 9 + M 141 d) → M20 c i = M20 c i  -- I61#1.0.kf
            intro c i _; rfl
          · show ∀ i, 0 ≤ i → i < 0 → M20 107 (120 * M 103 9 + i) = zland (M 142 (120 * d + i)) 255  -- I61#1.0.kx
            intro i i0 i1; omega
          rintro v26 M28 n30 ⟨h_n30, hv, kf, kx⟩ z_v26 z_M28
          have k9 : M28 103 9 = M 103 9 := by rw [kf 103 9 (by omega)]; exact v9
          have k141 : M28 141 d = M 141 d := by rw [kf 141 d (by omega)]; exact v141
          have o1 : ((0 : Int) ≤ d ∧ d < 8) := by
            omega
          refine ⟨o1, ?_⟩
          refine ⟨fun b5 => ?_, fun b5 => ?_⟩
          · -- b5.1
            have o2 : ((0 : Int) ≤ (M28 103 9) ∧ (M28 103 9) < 12) := by
              omega
            refine ⟨o2, ?_⟩
            intro M40 e_M40
            have a9 : M40 103 9 = M 103 9 := by rw [e_M40, zset_n _ (by omega)]; exact k9
            have o3 : ((0 : Int) ≤ (M40 103 9) ∧ (M40 103 9) < 12) := by
              omega
            refine ⟨o3, ?_⟩
            intro M44 e_M44
            have b9 : M44 103 9 = M 103 9 := by rw [e_M44, zset_n _ (by omega)]; exact a9
            have o4 : zin ((M44 103 9) + 1) := by
              omega
            refine ⟨o4, ?_⟩
            intro M48 e_M48
            have c9 : M48 103 9 = M 103 9 + 1 := by rw [e_M48, zset_s, b9]
            have o5 : zin ((M48 103 9) - 1) := by
              omega
            refine ⟨o5, ?_⟩
            refine hP _ _ ⟨?_, ?_, ?_, ?_⟩
            · show ¬ (0 ≤ d ∧ d < 8) → ((M48 103 9) - 1) = -1 ∧ mW M M48  -- p1.hn1
              intro k; exact absurd (by omega) k
            · show 0 ≤ d ∧ d < 8 → M 103 9 = 12 → ((M48 103 9) - 1) = -2 ∧ mW M M48  -- p1.hn2
              intro _ h; omega
            · show 0 ≤ d ∧ d < 8 → M 103 9 < 12 → ¬ mTok M d → ((M48 103 9) - 1) = qRf d (M 134 d) ∧ mW M M48  -- p1.hn3
              intro _ _ k; exact absurd ((mTok.w w1).1 yes) k
            · show mTok M d → M 103 9 < 12 → ∀ φ, (∀ k, φ k = 0) → (∃ q, gRb (fun i => zland (M 142 (120 * d + i)) 255) (M 141 d) φ q ∧ ((M48 103 9) - 1) = -100 - q ∧ mW M M48) ∨ ((∃ v, (v = 0 ∨ v = 1) ∧ gRy (fun i => zland (M 142 (120 * d + i)) 255) (M 141 d) φ v) ∧ ((M48 103 9) - 1) = M 103 9 ∧ (M48 103 9 = M 103 9 + 1 ∧ M48 108 (M 103 9) = M 141 d ∧ M48 109 (M 103 9) = 1) ∧ (∀ i, 0 ≤ i → i < M 141 d → M48 107 (120 * M 103 9 + i) = zland (M 142 (120 * d + i)) 255) ∧ ∀ c i, ¬ mWk c i → ¬ (c = 103 ∧ i = 9) → ¬ (c = 108 ∧ i = M 103 9) → ¬ (c = 109 ∧ i = M 103 9) → ¬ (c = 107 ∧ 120 * M 103 9 ≤ i ∧ i < 120 * M 103 9 + M 141 d) → M48 c i = M c i)  -- p1.hy
              intro _ _ φ hφ; rcases pc3_ho φ hφ with ⟨a, _⟩ | ⟨_, a⟩
              · omega
              · refine .inr ⟨a, by omega, ⟨c9, ?_, ?_⟩, fun i i0 i1 => ?_, fun c i k1 k2 k3 k4 k5 => ?_⟩
                · rw [e_M48, zset_n _ (by omega), e_M44, zset_n _ (by omega), e_M40, k9, zset_s]; exact k141
                · rw [e_M48, zset_n _ (by omega), e_M44, a9, zset_s]
                · rw [e_M48, zset_n _ (by omega), e_M44, zset_n _ (by omega), e_M40, zset_n _ (by omega)]; exact kx i i0 (by omega)
                · rw [e_M48, zset_n _ (by omega), e_M44, zset_n _ (by omega), e_M40, zset_n _ (by omega), kf c i k5]; exact w3 c i k1
          · -- b5.2
            have o6 : ((0 : Int) ≤ ((120 * d) + v26) ∧ ((120 * d) + v26) < 960) := by
              omega
            refine ⟨o6, ?_⟩
            have o7 : ((0 : Int) ≤ ((120 * (M28 103 9)) + v26) ∧ ((120 * (M28 103 9)) + v26) < 1440) := by
              omega
            refine ⟨o7, ?_⟩
            intro M54 e_M54
            have o8 : zin (v26 + 1) := by
              first | with_reducible assumption | omega | exact trivial | with_reducible rfl  -- o8
            refine ⟨o8, ?_⟩
            refine ⟨Int.toNat (200 - (v26 + 1)), by omega, by omega, ?_, ?_, ?_⟩
            · show 0 ≤ (v26 + 1) ∧ (v26 + 1) ≤ M 141 d  -- I61.1.hv
              first | with_reducible assumption | omega | exact trivial | with_reducible rfl
            · show ∀ c i, ¬ (c = 107 ∧ 120 * M 103 9 ≤ i ∧ i < 120 * M 103 9 + M 141 d) → M54 c i = M20 c i  -- I61.1.kf
              intro c i k; rw [e_M54, zset_n _ (by omega)]; exact kf c i k
            · show ∀ i, 0 ≤ i → i < (v26 + 1) → M54 107 (120 * M 103 9 + i) = zland (M 142 (120 * d + i)) 255  -- I61.1.kx
              intro i i0 i1
              by_cases e : i = v26
              · rw [e, e_M54, k9, zset_s, show M28 142 (120 * d + v26) = M 142 (120 * d + v26) by rw [kf 142 _ (by omega)]; exact w3 142 _ (by omega)]
              · rw [e_M54, k9, zset_n _ (by omega)]; exact kx i i0 (by omega)
        · -- b4.2
          have o9 : zin ((-100) - r19) := by
            omega
          refine ⟨o9, ?_⟩
          refine hP _ _ ⟨?_, ?_, ?_, ?_⟩
          · show ¬ (0 ≤ d ∧ d < 8) → ((-100) - r19) = -1 ∧ mW M M20  -- p2.hn1
            intro k; exact absurd (by omega) k
          · show 0 ≤ d ∧ d < 8 → M 103 9 = 12 → ((-100) - r19) = -2 ∧ mW M M20  -- p2.hn2
            intro _ h; omega
          · show 0 ≤ d ∧ d < 8 → M 103 9 < 12 → ¬ mTok M d → ((-100) - r19) = qRf d (M 134 d) ∧ mW M M20  -- p2.hn3
            intro _ _ k; exact absurd ((mTok.w w1).1 yes) k
          · show mTok M d → M 103 9 < 12 → ∀ φ, (∀ k, φ k = 0) → (∃ q, gRb (fun i => zland (M 142 (120 * d + i)) 255) (M 141 d) φ q ∧ ((-100) - r19) = -100 - q ∧ mW M M20) ∨ ((∃ v, (v = 0 ∨ v = 1) ∧ gRy (fun i => zland (M 142 (120 * d + i)) 255) (M 141 d) φ v) ∧ ((-100) - r19) = M 103 9 ∧ (M20 103 9 = M 103 9 + 1 ∧ M20 108 (M 103 9) = M 141 d ∧ M20 109 (M 103 9) = 1) ∧ (∀ i, 0 ≤ i → i < M 141 d → M20 107 (120 * M 103 9 + i) = zland (M 142 (120 * d + i)) 255) ∧ ∀ c i, ¬ mWk c i → ¬ (c = 103 ∧ i = 9) → ¬ (c = 108 ∧ i = M 103 9) → ¬ (c = 109 ∧ i = M 103 9) → ¬ (c = 107 ∧ 120 * M 103 9 ≤ i ∧ i < 120 * M 103 9 + M 141 d) → M20 c i = M c i)  -- p2.hy
            intro _ _ φ hφ; rcases pc3_ho φ hφ with ⟨_, a⟩ | ⟨a, _⟩
            · exact .inl ⟨_, a, rfl, w3⟩
            · omega
      · -- b3.2
        refine hP _ _ ⟨?_, ?_, ?_, ?_⟩
        · show ¬ (0 ≤ d ∧ d < 8) → r12 = -1 ∧ mW M M1  -- p3.hn1
          intro k; exact absurd (by omega) k
        · show 0 ≤ d ∧ d < 8 → M 103 9 = 12 → r12 = -2 ∧ mW M M1  -- p3.hn2
          intro _ h; omega
        · show 0 ≤ d ∧ d < 8 → M 103 9 < 12 → ¬ mTok M d → r12 = qRf d (M 134 d) ∧ mW M M1  -- p3.hn3
          intro _ _ k; rw [← w134]; exact ⟨(mTok.no (fun q => k ((mTok.w w1).1 q)) e_r12).1, w1⟩
        · show mTok M d → M 103 9 < 12 → ∀ φ, (∀ k, φ k = 0) → (∃ q, gRb (fun i => zland (M 142 (120 * d + i)) 255) (M 141 d) φ q ∧ r12 = -100 - q ∧ mW M M1) ∨ ((∃ v, (v = 0 ∨ v = 1) ∧ gRy (fun i => zland (M 142 (120 * d + i)) 255) (M 141 d) φ v) ∧ r12 = M 103 9 ∧ (M1 103 9 = M 103 9 + 1 ∧ M1 108 (M 103 9) = M 141 d ∧ M1 109 (M 103 9) = 1) ∧ (∀ i, 0 ≤ i → i < M 141 d → M1 107 (120 * M 103 9 + i) = zland (M 142 (120 * d + i)) 255) ∧ ∀ c i, ¬ mWk c i → ¬ (c = 103 ∧ i = 9) → ¬ (c = 108 ∧ i = M 103 9) → ¬ (c = 109 ∧ i = M 103 9) → ¬ (c = 107 ∧ 120 * M 103 9 ≤ i ∧ i < 120 * M 103 9 + M 141 d) → M1 c i = M c i)  -- p3.hy
          intro k; have := mTok.yes ((mTok.w w1).2 k) e_r12; omega
    · -- b2.2
      refine hP _ _ ⟨?_, ?_, ?_, ?_⟩
      · show ¬ (0 ≤ d ∧ d < 8) → (-2) = -1 ∧ mW M M1  -- p4.hn1
        intro k; exact absurd (by omega) k
      · show 0 ≤ d ∧ d < 8 → M 103 9 = 12 → (-2) = -2 ∧ mW M M1  -- p4.hn2
        intro _ _; exact ⟨rfl, w1⟩
      · show 0 ≤ d ∧ d < 8 → M 103 9 < 12 → ¬ mTok M d → (-2) = qRf d (M 134 d) ∧ mW M M1  -- p4.hn3
        intro _ h; omega
      · show mTok M d → M 103 9 < 12 → ∀ φ, (∀ k, φ k = 0) → (∃ q, gRb (fun i => zland (M 142 (120 * d + i)) 255) (M 141 d) φ q ∧ (-2) = -100 - q ∧ mW M M1) ∨ ((∃ v, (v = 0 ∨ v = 1) ∧ gRy (fun i => zland (M 142 (120 * d + i)) 255) (M 141 d) φ v) ∧ (-2) = M 103 9 ∧ (M1 103 9 = M 103 9 + 1 ∧ M1 108 (M 103 9) = M 141 d ∧ M1 109 (M 103 9) = 1) ∧ (∀ i, 0 ≤ i → i < M 141 d → M1 107 (120 * M 103 9 + i) = zland (M 142 (120 * d + i)) 255) ∧ ∀ c i, ¬ mWk c i → ¬ (c = 103 ∧ i = 9) → ¬ (c = 108 ∧ i = M 103 9) → ¬ (c = 109 ∧ i = M 103 9) → ¬ (c = 107 ∧ 120 * M 103 9 ≤ i ∧ i < 120 * M 103 9 + M 141 d) → M1 c i = M c i)  -- p4.hy
        intro _ h; omega
  · -- b1.2
    refine hP _ _ ⟨?_, ?_, ?_, ?_⟩
    · show ¬ (0 ≤ d ∧ d < 8) → (-1) = -1 ∧ mW M M1  -- p5.hn1
      intro _; exact ⟨rfl, w1⟩
    · show 0 ≤ d ∧ d < 8 → M 103 9 = 12 → (-1) = -2 ∧ mW M M1  -- p5.hn2
      intro h; exact absurd (by omega) (z1.z.1 b1)
    · show 0 ≤ d ∧ d < 8 → M 103 9 < 12 → ¬ mTok M d → (-1) = qRf d (M 134 d) ∧ mW M M1  -- p5.hn3
      intro h; exact absurd (by omega) (z1.z.1 b1)
    · show mTok M d → M 103 9 < 12 → ∀ φ, (∀ k, φ k = 0) → (∃ q, gRb (fun i => zland (M 142 (120 * d + i)) 255) (M 141 d) φ q ∧ (-1) = -100 - q ∧ mW M M1) ∨ ((∃ v, (v = 0 ∨ v = 1) ∧ gRy (fun i => zland (M 142 (120 * d + i)) 255) (M 141 d) φ v) ∧ (-1) = M 103 9 ∧ (M1 103 9 = M 103 9 + 1 ∧ M1 108 (M 103 9) = M 141 d ∧ M1 109 (M 103 9) = 1) ∧ (∀ i, 0 ≤ i → i < M 141 d → M1 107 (120 * M 103 9 + i) = zland (M 142 (120 * d + i)) 255) ∧ ∀ c i, ¬ mWk c i → ¬ (c = 103 ∧ i = 9) → ¬ (c = 108 ∧ i = M 103 9) → ¬ (c = 109 ∧ i = M 103 9) → ¬ (c = 107 ∧ 120 * M 103 9 ≤ i ∧ i < 120 * M 103 9 + M 141 d) → M1 c i = M c i)  -- p5.hy
      intro h; exact absurd (by omega) (z1.z.1 b1)

def qFj (w h t : Int) (D L F : Int → Int) (N f : Int) (φ : Int → Int) : Prop := (∀ k r, 0 ≤ k → k < 12 → qFa w h t D L F N f k r → r = φ k) ∧ φ 12 = zc (fun g => gLk w h L g f) N
abbrev pr_X12_sign (f : Int) (M : zM) : Prop := (mI M)
abbrev po_X12_sign (f : Int) (M : zM) (r : Int) (M' : zM) : Prop := (mW M M') ∧ (mFok M') ∧ (¬ (0 ≤ f ∧ f < M' 103 30) → r = -1) ∧ (0 ≤ f ∧ f < M' 103 30 → ∀ φ, qFj (M' 103 1) (M' 103 2) (M' 103 5) (M' 104) (M' 115) (M' 116) (M' 103 30) f φ → (∀ q, 0 ≤ q → q < M 103 9 → ∃ v, (v = 0 ∨ v = 1) ∧ gRy (fun i => M 107 (120 * q + i)) (M 108 q) φ v) → qSr (M 103 9) (M 109) (fun q i => M 107 (120 * q + i)) (M 108) φ r)
set_option maxHeartbeats 4000000 in
theorem ok_X12_sign : zSnd zS 145 0 0 yX12_sign cX12_sign 3 (some .int) 10 [2, 0] (F_X12_sign pr_X12_sign po_X12_sign) := by
  refine (sn_X12_sign ok_X12_isFace ok_X12_readRule).mono ?_
  rintro xs P M hz hR ⟨f, rfl, hI, hP⟩
  refine ⟨_, rfl, ?_⟩
  have z_f := zall_h (zall_t hz) (by decide)
  change vc_X12_sign pr_X12_isFace po_X12_isFace pr_X12_readRule po_X12_readRule f P M
  unfold vc_X12_sign
  intro M1 e_M1
  have I1 : mI M1 := hI.fr (fun c i k _ => by rw [e_M1, zset_n _ (by omega)])
  have w1 : mW M M1 := fun c i k => by rw [e_M1, zset_n _ (by omega)]
  have gc1 : pr_X12_isFace f M1 := by
    show mI M1
    exact I1
  refine ⟨gc1, ?_⟩
  rintro r4 M5 ⟨pc1_hf, pc1_hF, pc1_hr⟩ z_r4 z_M5
  have I2 := I1.face pc1_hf
  have w2 : mW M M5 := w1.tr (fun c i k => pc1_hf c i (by omega) (by omega) (by omega))
  have N2 := pc1_hF.N I2.d
  refine ⟨fun b1 => ?_, fun b1 => ?_⟩
  · -- b1.1
    have ha := pc1_hr.ne.1 b1
    intro M11 e_M11
    have f11 : ∀ c i, ¬ (c = 103 ∧ i = 59) → M11 c i = M5 c i := fun c i k => by rw [e_M11, zset_n _ (by omega)]
    have g59 : M11 103 59 = f := by rw [e_M11, zset_s]
    have I3 : mI M11 := I2.fr (fun c i k _ => f11 c i (by omega))
    have v11 := mVe.of (M := M5) (M' := M11) (fun c i k => f11 c i (by omega))
    have F3 := pc1_hF.ve v11
    have w3 : mW M M11 := w2.tr (fun c i k => f11 c i (by omega))
    have R3 := hI.r
    refine ⟨fun v14 M16 n18 => (n18 : Int) = (20 - v14) ∧ (0 ≤ v14 ∧ v14 ≤ M 103 9) ∧ (∀ c i, ¬ mF3 c i → ¬ (c = 103 ∧ (i = 21 ∨ i = 22 ∨ i = 58)) → M16 c i = M11 c i) ∧ (∀ φ, qFj (M11 103 1) (M11 103 2) (M11 103 5) (M11 104) (M11 115) (M11 116) (M11 103 30) f φ → (∀ q, 0 ≤ q → q < M 103 9 → ∃ v, (v = 0 ∨ v = 1) ∧ gRy (fun i => M 107 (120 * q + i)) (M 108 q) φ v) → ∀ j, 0 ≤ j → j < v14 → M 109 j ≠ 0 → gRy (fun i => M 107 (120 * j + i)) (M 108 j) φ 0), ⟨Int.toNat (20 - 0), by omega, ?_, ?_, ?_⟩, ?_⟩
    · show 0 ≤ 0 ∧ 0 ≤ M 103 9  -- I22#1.0.hv
      first | with_reducible assumption | omega | exact trivial | with_reducible rfl
    · show ∀ c i, ¬ mF3 c i → ¬ (c = 103 ∧ (i = 21 ∨ i = 22 ∨ i = 58)) → M11 c i = M11 c i  -- I22#1.0.kf
      intro c i _ _; rfl
    · show ∀ φ, qFj (M11 103 1) (M11 103 2) (M11 103 5) (M11 104) (M11 115) (M11 116) (M11 103 30) f φ → (∀ q, 0 ≤ q → q < M 103 9 → ∃ v, (v = 0 ∨ v = 1) ∧ gRy (fun i => M 107 (120 * q + i)) (M 108 q) φ v) → ∀ j, 0 ≤ j → j < 0 → M 109 j ≠ 0 → gRy (fun i => M 107 (120 * j + i)) (M 108 j) φ 0  -- I22#1.0.kx
      intro φ _ _ j j0 j1; omega
    rintro v14 M16 n18 ⟨h_n18, hv, kf, kx⟩ z_v14 z_M16
    have k9 : M16 103 9 = M 103 9 := by rw [kf 103 9 (by omega) (by omega)]; exact w3 103 9 (by omega)
    have v16 := mVe.of (M := M11) (M' := M16) (fun c i k => kf c i (by omega) (by omega))
    have F4 := F3.ve v16
    have w4 : mW M M16 := w3.tr (fun c i k => kf c i (by omega) (by omega))
    refine ⟨fun b2 => ?_, fun b2 => ?_⟩
    · -- b2.1
      refine hP _ _ ⟨?_, ?_, ?_, ?_⟩
      · show mW M M16  -- p1.hw
        exact w4
      · show mFok M16  -- p1.hF
        exact F4
      · show ¬ (0 ≤ f ∧ f < M16 103 30) → (-4) = -1  -- p1.hn
        intro h; exact absurd (by rw [v16.2.2.2.2.2.2, v11.2.2.2.2.2.2]; exact ha) h
      · show 0 ≤ f ∧ f < M16 103 30 → ∀ φ, qFj (M16 103 1) (M16 103 2) (M16 103 5) (M16 104) (M16 115) (M16 116) (M16 103 30) f φ → (∀ q, 0 ≤ q → q < M 103 9 → ∃ v, (v = 0 ∨ v = 1) ∧ gRy (fun i => M 107 (120 * q + i)) (M 108 q) φ v) → qSr (M 103 9) (M 109) (fun q i => M 107 (120 * q + i)) (M 108) φ (-4)  -- p1.hy
        intro _ φ hφ hq
        obtain ⟨v0, v1, v2, v3, v4, v5, v6⟩ := v16
        rw [v0, v1, v2, v3, v4, v5, v6] at hφ
        exact .inr ⟨rfl, fun j j0 j1 => kx φ hφ hq j j0 (by omega)⟩
    · -- b2.2
      intro M26 e_M26
      have o1 : zin (120 * v14) := by
        omega
      refine ⟨o1, ?_⟩
      intro M30 e_M30
      have o2 : ((0 : Int) ≤ v14 ∧ v14 < 12) := by
        omega
      refine ⟨o2, ?_⟩
      intro M34 e_M34
      have f34 : ∀ c i, ¬ (c = 103 ∧ (i = 21 ∨ i = 22 ∨ i = 58)) → M34 c i = M16 c i := fun c i k => by rw [e_M34, zset_n _ (by omega), e_M30, zset_n _ (by omega), e_M26, zset_n _ (by omega)]
      have g58 : M34 103 58 = 1 := by rw [e_M34, zset_n _ (by omega), e_M30, zset_n _ (by omega), e_M26, zset_s]
      have g21 : M34 103 21 = 120 * v14 := by rw [e_M34, zset_n _ (by omega), e_M30, zset_s]
      have g22 : M34 103 22 = M 108 v14 := by rw [e_M34, zset_s, e_M30, zset_n _ (by omega), e_M26, zset_n _ (by omega)]; exact w4 108 v14 (by omega)
      have v34 := mVe.of (M := M16) (M' := M34) (fun c i k => f34 c i (by omega))
      have F5 := F4.ve v34
      have I4 : mI M34 := (hI.w w4).fr (fun c i k _ => f34 c i (by omega))
      have w5 : mW M M34 := w4.tr (fun c i k => f34 c i (by omega))
      have e109 : M34 109 v14 = M 109 v14 := w5 109 v14 (by omega)
      have sz := R3.2.2.2.2 v14 hv.1 (by omega)
      have g59' : M34 103 59 = f := by rw [f34 103 59 (by omega), kf 103 59 (by omega) (by omega)]; exact g59
      have n30 : M34 103 30 = M5 103 30 := by rw [v34.2.2.2.2.2.2, v16.2.2.2.2.2.2, v11.2.2.2.2.2.2]
      refine ⟨fun b3 => ?_, fun b3 => ?_⟩
      · -- b3.1
        have o3 : zin (v14 + 1) := by
          first | with_reducible assumption | omega | exact trivial | with_reducible rfl  -- o3
        refine ⟨o3, ?_⟩
        refine ⟨Int.toNat (20 - (v14 + 1)), by omega, by omega, ?_, ?_, ?_⟩
        · show 0 ≤ (v14 + 1) ∧ (v14 + 1) ≤ M 103 9  -- I22.1.hv
          first | with_reducible assumption | omega | exact trivial | with_reducible rfl
        · show ∀ c i, ¬ mF3 c i → ¬ (c = 103 ∧ (i = 21 ∨ i = 22 ∨ i = 58)) → M34 c i = M11 c i  -- I22.1.kf
          intro c i k1 k2; rw [f34 c i k2]; exact kf c i k1 k2
        · show ∀ φ, qFj (M11 103 1) (M11 103 2) (M11 103 5) (M11 104) (M11 115) (M11 116) (M11 103 30) f φ → (∀ q, 0 ≤ q → q < M 103 9 → ∃ v, (v = 0 ∨ v = 1) ∧ gRy (fun i => M 107 (120 * q + i)) (M 108 q) φ v) → ∀ j, 0 ≤ j → j < (v14 + 1) → M 109 j ≠ 0 → gRy (fun i => M 107 (120 * j + i)) (M 108 j) φ 0  -- I22.1.kx
          intro φ hφ hq j j0 j1 t
          by_cases e : j = v14
          · rw [e] at t; rw [e109] at b3; exact absurd b3 t
          · exact kx φ hφ hq j j0 (by omega) t
      · -- b3.2
        have h : ∀ i, i ≠ 23 → (zset M34 103 23 0) 103 i = M34 103 i := fun i k => zset_n _ (by omega)
        have vz := mVe.of (M := M34) (M' := zset M34 103 23 0) (fun c i k => zset_n _ (by omega))
        have C34 : mC (zset M34 103 23 0) := by
          refine ⟨?_, ?_, ?_, fun _ => ⟨I4.fr (fun c i k _ => zset_n _ (by omega)), F5.ve vz, ?_⟩⟩
          · rw [h 21 (by decide), h 58 (by decide), g21, g58]; omega
          · rw [h 22 (by decide), g22]; exact sz
          · rw [zset_s, h 22 (by decide), g22]; omega
          · rw [h 59 (by decide), h 30 (by decide), g59', n30]; exact ha
        have eT : mTT M34 = fun i => M 107 (120 * v14 + i) := by
          unfold mTT
          rw [if_neg (by omega), g21, show M34 107 = M 107 from funext fun i => w5 107 i (by omega)]
        have P34 : ∀ φ, qFj (M11 103 1) (M11 103 2) (M11 103 5) (M11 104) (M11 115) (M11 116) (M11 103 30) f φ → mPh M34 φ := fun φ hφ => by
          refine ⟨fun k => by omega, fun _ => ?_⟩
          rw [g59', v34.1, v34.2.1, v34.2.2.1, v34.2.2.2.1, v34.2.2.2.2.1, v34.2.2.2.2.2.1, v34.2.2.2.2.2.2, v16.1, v16.2.1, v16.2.2.1, v16.2.2.2.1, v16.2.2.2.2.1, v16.2.2.2.2.2.1, v16.2.2.2.2.2.2]
          exact hφ
        have gc2 : pr_X12_readRule M34 := by
          show mC (zset M34 103 23 0)
          exact C34
        refine ⟨gc2, ?_⟩
        rintro r42 M43 ⟨pc2_hf, pc2_hr, pc2_hp, pc2_h24, pc2_ho⟩ z_r42 z_M43
        rw [eT, g22] at pc2_ho
        have gy : ∀ φ, qFj (M11 103 1) (M11 103 2) (M11 103 5) (M11 104) (M11 115) (M11 116) (M11 103 30) f φ → (∀ q, 0 ≤ q → q < M 103 9 → ∃ v, (v = 0 ∨ v = 1) ∧ gRy (fun i => M 107 (120 * q + i)) (M 108 q) φ v) → gRy (fun i => M 107 (120 * v14 + i)) (M 108 v14) φ r42 := fun φ hφ hq => by
          obtain ⟨v, _, g⟩ := hq v14 hv.1 (by omega)
          rcases pc2_ho φ (P34 φ hφ) with ⟨_, a⟩ | ⟨_, a⟩
          · exact (a.no g).elim
          · exact a
        have v43 := mVe.of (M := M34) (M' := M43) (fun c i k => pc2_hf c i (by omega))
        have F6 := F5.ve v43
        have w6 : mW M M43 := w5.tr (fun c i k => pc2_hf c i (by omega))
        refine ⟨fun b4 => ?_, fun b4 => ?_⟩
        · -- b4.1
          have o4 : zin (v14 + 1) := by
            first | with_reducible assumption | omega | exact trivial | with_reducible rfl  -- o4
          refine ⟨o4, ?_⟩
          refine ⟨Int.toNat (20 - (v14 + 1)), by omega, by omega, ?_, ?_, ?_⟩
          · show 0 ≤ (v14 + 1) ∧ (v14 + 1) ≤ M 103 9  -- I22.2.hv
            first | with_reducible assumption | omega | exact trivial | with_reducible rfl
          · show ∀ c i, ¬ mF3 c i → ¬ (c = 103 ∧ (i = 21 ∨ i = 22 ∨ i = 58)) → M43 c i = M11 c i  -- I22.2.kf
            intro c i k1 k2; rw [pc2_hf c i k1, f34 c i k2]; exact kf c i k1 k2
          · show ∀ φ, qFj (M11 103 1) (M11 103 2) (M11 103 5) (M11 104) (M11 115) (M11 116) (M11 103 30) f φ → (∀ q, 0 ≤ q → q < M 103 9 → ∃ v, (v = 0 ∨ v = 1) ∧ gRy (fun i => M 107 (120 * q + i)) (M 108 q) φ v) → ∀ j, 0 ≤ j → j < (v14 + 1) → M 109 j ≠ 0 → gRy (fun i => M 107 (120 * j + i)) (M 108 j) φ 0  -- I22.2.kx
            intro φ hφ hq j j0 j1 t
            by_cases e : j = v14
            · rw [e, ← b4]; exact gy φ hφ hq
            · exact kx φ hφ hq j j0 (by omega) t
        · -- b4.2
          have o5 : ((0 : Int) ≤ (120 * v14) ∧ (120 * v14) < 1440) := by
            omega
          refine ⟨o5, ?_⟩
          refine hP _ _ ⟨?_, ?_, ?_, ?_⟩
          · show mW M M43  -- p2.hw
            exact w6
          · show mFok M43  -- p2.hF
            exact F6
          · show ¬ (0 ≤ f ∧ f < M43 103 30) → (M43 107 (120 * v14)) = -1  -- p2.hn
            intro h; exact absurd (by rw [v43.2.2.2.2.2.2, n30]; exact ha) h
          · show 0 ≤ f ∧ f < M43 103 30 → ∀ φ, qFj (M43 103 1) (M43 103 2) (M43 103 5) (M43 104) (M43 115) (M43 116) (M43 103 30) f φ → (∀ q, 0 ≤ q → q < M 103 9 → ∃ v, (v = 0 ∨ v = 1) ∧ gRy (fun i => M 107 (120 * q + i)) (M 108 q) φ v) → qSr (M 103 9) (M 109) (fun q i => M 107 (120 * q + i)) (M 108) φ (M43 107 (120 * v14))  -- p2.hy
            intro _ φ hφ hq
            rw [v43.1, v43.2.1, v43.2.2.1, v43.2.2.2.1, v43.2.2.2.2.1, v43.2.2.2.2.2.1, v43.2.2.2.2.2.2, v34.1, v34.2.1, v34.2.2.1, v34.2.2.2.1, v34.2.2.2.2.1, v34.2.2.2.2.2.1, v34.2.2.2.2.2.2, v16.1, v16.2.1, v16.2.2.1, v16.2.2.2.1, v16.2.2.2.2.1, v16.2.2.2.2.2.1, v16.2.2.2.2.2.2] at hφ
            refine .inl ⟨v14, by omega, by rw [← e109]; exact b3, ?_, ?_, kx φ hφ hq⟩
            · have : r42 = 1 := by have := pc2_hr; omega
              rw [← this]; exact gy φ hφ hq
            · rw [w6 107 _ (by omega)]; show _ = M 107 (120 * v14 + 0); rw [show 120 * v14 + 0 = 120 * v14 by omega]
  · -- b1.2
    refine hP _ _ ⟨?_, ?_, ?_, ?_⟩
    · show mW M M5  -- p3.hw
      exact w2
    · show mFok M5  -- p3.hF
      exact pc1_hF
    · show ¬ (0 ≤ f ∧ f < M5 103 30) → (-1) = -1  -- p3.hn
      intro _; rfl
    · show 0 ≤ f ∧ f < M5 103 30 → ∀ φ, qFj (M5 103 1) (M5 103 2) (M5 103 5) (M5 104) (M5 115) (M5 116) (M5 103 30) f φ → (∀ q, 0 ≤ q → q < M 103 9 → ∃ v, (v = 0 ∨ v = 1) ∧ gRy (fun i => M 107 (120 * q + i)) (M 108 q) φ v) → qSr (M 103 9) (M 109) (fun q i => M 107 (120 * q + i)) (M 108) φ (-1)  -- p3.hy
      intro h; exact absurd h (pc1_hr.z.1 b1)

