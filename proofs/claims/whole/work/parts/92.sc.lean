theorem gJ_len {a : Int} : ∀ (S V : List Int), ((gJ a V S).2.length : Int) ≤ S.length
  | [], V => by rw [gJ_nil]; exact Int.le_refl _
  | s :: S, V => by
    by_cases e : s = a
    · match V with
      | [] => exact Int.le_refl _
      | [x] => exact Int.le_refl _
      | x :: y :: V =>
        rw [e, gJ_y]
        have := gJ_len (a := a) S (gCb a y x :: V)
        rw [List.length_cons]; omega
    · rw [gJ_n e]; exact Int.le_refl _
def mRw (M : zM) (w : Int) (V S : List Int) : Prop := rp (M 132) V (M 103 62) ∧ rp (M 133) S (M 103 64) ∧ g01 V ∧ M 103 62 = gBn S + (if w = 0 then 1 else 0) ∧ M 103 62 ≤ M 103 23 ∧ M 103 64 ≤ M 103 23
theorem mRw.r {M : zM} {V S : List Int} (h : mRw M 0 V S) (hp : M 103 23 ≤ 120) : mR M V S := ⟨h.1, h.2.1, h.2.2.1, by have := h.2.2.2.1; rw [if_pos rfl] at this; exact this, by have := h.2.2.2.2; omega, by have := h.2.2.2.2; omega⟩
theorem mRw.of {M : zM} {V S : List Int} (h : mR M V S) (hp : M 103 62 ≤ M 103 23 ∧ M 103 64 ≤ M 103 23) : mRw M 0 V S := ⟨h.1, h.2.1, h.2.2.1, by rw [if_pos rfl]; exact h.2.2.2.1, hp⟩
theorem mR.cg {M M' : zM} {V S : List Int} (h : mR M V S) (e1 : M' 132 = M 132) (e2 : M' 133 = M 133) (e3 : M' 103 62 = M 103 62) (e4 : M' 103 64 = M 103 64) : mR M' V S := by
  unfold mR at h ⊢
  rw [e1, e2, e3, e4]; exact h
abbrev pr_X12_readRule (M : zM) : Prop := (mC (zset M 103 23 0))
abbrev po_X12_readRule (M : zM) (r : Int) (M' : zM) : Prop := (∀ c i, ¬ mF3 c i → M' c i = M c i) ∧ (r = 0 ∨ r = 1) ∧ (0 ≤ M' 103 23 ∧ M' 103 23 ≤ M 103 22) ∧ ((M' 103 24 = 1 ∧ r = 0) ∨ M' 103 24 = 0) ∧ (∀ φ, mPh M φ → (M' 103 24 = 1 ∧ gRb (mTT M) (M 103 22) φ (M' 103 23)) ∨ (M' 103 24 = 0 ∧ gRy (mTT M) (M 103 22) φ r))
set_option maxHeartbeats 8000000 in
theorem ok_X12_readRule : zSnd zS 145 0 0 yX12_readRule cX12_readRule 3 (some .boolean) 9 [2] (F_X12_readRule pr_X12_readRule po_X12_readRule) := by
  refine (sn_X12_readRule ok_X12_look ok_X12_in ok_X12_join ok_X12_testEnds ok_X12_topSign ok_X12_readTest).mono ?_
  rintro xs P M hz hR ⟨rfl, hC, hP⟩
  refine ⟨rfl, ?_⟩
  change vc_X12_readRule pr_X12_look po_X12_look pr_X12_in po_X12_in pr_X12_join po_X12_join pr_X12_testEnds po_X12_testEnds pr_X12_topSign po_X12_topSign pr_X12_readTest po_X12_readTest P M
  unfold vc_X12_readRule
  intro M1 e_M1
  intro M4 e_M4
  intro M7 e_M7
  intro M10 e_M10
  have f10 : ∀ c i, ¬ (c = 103 ∧ (i = 23 ∨ i = 60 ∨ i = 62 ∨ i = 64)) → M10 c i = M c i := fun c i k => by rw [e_M10, zset_n _ (by omega), e_M7, zset_n _ (by omega), e_M4, zset_n _ (by omega), e_M1, zset_n _ (by omega)]
  have g23 : M10 103 23 = 0 := by rw [e_M10, zset_n _ (by omega), e_M7, zset_n _ (by omega), e_M4, zset_n _ (by omega), e_M1, zset_s]
  have g60 : M10 103 60 = 0 := by rw [e_M10, zset_n _ (by omega), e_M7, zset_n _ (by omega), e_M4, zset_s]
  have g62 : M10 103 62 = 0 := by rw [e_M10, zset_n _ (by omega), e_M7, zset_s]
  have g64 : M10 103 64 = 0 := by rw [e_M10, zset_s]
  have C10 : mC M10 := hC.f3 (fun c i k => by rw [zset_n _ (by omega)]; exact f10 c i (by omega)) (by rw [g23, zset_n _ (by omega)]; have := hC.2.1; rw [zset_n _ (by omega)] at this; omega)
  have n22 : M10 103 22 = M 103 22 := f10 103 22 (by omega)
  have nb := C10.2.1
  have T10 := mTT.f3 (M := M) (M' := M10) (fun c i k => f10 c i (by omega))
  have P10 : ∀ φ, mPh M φ → mPh M10 φ := fun φ h => h.f3 (fun c i k => f10 c i (by omega))
  have gc1 : pr_X12_look M10 := by
    show mC M10
    exact C10
  refine ⟨gc1, ?_⟩
  rintro r13 M14 ⟨q_rfl, e_r13⟩ z_r13 z_M14
  have q_rfl := q_rfl.symm
  subst q_rfl
  rw [show mB2 M10 = gBy (mTT M) (M 103 22) 0 by unfold mB2; rw [T10.1, T10.2, g23]] at e_r13
  have gc2 : pr_X12_in r13 65 90 M10 := trivial
  refine ⟨gc2, ?_⟩
  rintro r19 M20 ⟨q_rfl, e_r19⟩ z_r19 z_M20
  have q_rfl := q_rfl.symm
  subst q_rfl
  have z2 := zif01 e_r19
  intro K43 h_K43
  have k_K43 : ∀ (v25 : Int), ((v25 = 0 ∧ (65 ≤ gBy (mTT M) (M 103 22) 0 ∧ gBy (mTT M) (M 103 22) 0 ≤ 90)) ∨ (v25 = 1 ∧ ¬ (65 ≤ gBy (mTT M) (M 103 22) 0 ∧ gBy (mTT M) (M 103 22) 0 ≤ 90))) → K43 v25 := by
    intro v25 kv
    refine h_K43 _ ?_
    intro z_v25
    have o1 : (v25 = 0 ∨ v25 = 1) := by
      omega
    refine ⟨o1, ?_⟩
    intro M28 e_M28
    have f28 : ∀ c i, ¬ (c = 103 ∧ (i = 23 ∨ i = 24 ∨ i = 60 ∨ i = 62 ∨ i = 64)) → M28 c i = M c i := fun c i k => by rw [e_M28, zset_n _ (by omega)]; exact f10 c i (by omega)
    have h23 : M28 103 23 = 0 := by rw [e_M28, zset_n _ (by omega)]; exact g23
    have h24 : M28 103 24 = v25 := by rw [e_M28, zset_s]
    intro K63 h_K63
    have k_K63 : ∀ (v31 : Int), ((v31 = 1 ∧ v25 = 0) ∨ (v31 = 0 ∧ v25 = 1)) → K63 v31 := by
      intro v31 kv2
      refine h_K63 _ ?_
      intro z_v31
      have o2 : zin ((M28 103 23) + v31) := by
        omega
      refine ⟨o2, ?_⟩
      intro M34 e_M34
      have k23 : M34 103 23 = v31 := by rw [e_M34, zset_s]; omega
      have k24 : M34 103 24 = v25 := by rw [e_M34, zset_n _ (by omega)]; exact h24
      have f34 : ∀ c i, ¬ (c = 103 ∧ (i = 23 ∨ i = 24 ∨ i = 60 ∨ i = 62 ∨ i = 64)) → M34 c i = M c i := fun c i k => by rw [e_M34, zset_n _ (by omega)]; exact f28 c i k
      have q60 : M34 103 60 = 0 := by rw [e_M34, zset_n _ (by omega), e_M28, zset_n _ (by omega)]; exact g60
      have q62 : M34 103 62 = 0 := by rw [e_M34, zset_n _ (by omega), e_M28, zset_n _ (by omega)]; exact g62
      have q64 : M34 103 64 = 0 := by rw [e_M34, zset_n _ (by omega), e_M28, zset_n _ (by omega)]; exact g64
      have n1 : v25 = 0 → 1 ≤ M 103 22 := fun k => by
        have := (gBy_i (T := mTT M) (n := M 103 22) (p := 0) (by omega)).2
        omega
      have C34 : mC M34 := C10.f3 (fun c i k => by rw [f34 c i (by omega), f10 c i (by omega)]) (by omega)
      have T34 := mTT.f3 (M := M) (M' := M34) (fun c i k => f34 c i (by omega))
      intro K89 h_K89
      have k_K89 : ∀ (v37 : Int) (M39 : zM), (M39 = M34) → ((v37 = 0 ∧ v25 = 0 ∧ gBy (mTT M) (M 103 22) 1 = 58) ∨ (v37 = 1 ∧ (v25 = 1 ∨ gBy (mTT M) (M 103 22) 1 ≠ 58))) → K89 v37 M39 := by
        intro v37 M39 e39 kv3
        refine h_K89 _ _ ?_
        intro z_v37 z_M39
        subst e39
        have o3 : (v37 = 0 ∨ v37 = 1) := by
          omega
        refine ⟨o3, ?_⟩
        intro M42 e_M42
        have k42 : M42 103 24 = v37 := by rw [e_M42, zset_s]
        have f42 : ∀ c i, ¬ (c = 103 ∧ i = 24) → M42 c i = M39 c i := fun c i k => by rw [e_M42, zset_n _ (by omega)]
        have l23 : M42 103 23 = v31 := by rw [f42 103 23 (by omega)]; exact k23
        refine ⟨fun b1 => ?_, fun b1 => ?_⟩
        · -- b1.1
          have o4 : zin ((M42 103 23) + 1) := by
            omega
          refine ⟨o4, ?_⟩
          intro M47 e_M47
          have n2 : 2 ≤ M 103 22 := by
            have := (gBy_i (T := mTT M) (n := M 103 22) (p := 1) (by omega)).2
            omega
          have m23 : M47 103 23 = 2 := by rw [e_M47, zset_s]; omega
          have f47 : ∀ c i, ¬ (c = 103 ∧ (i = 23 ∨ i = 24)) → M47 c i = M39 c i := fun c i k => by rw [e_M47, zset_n _ (by omega)]; exact f42 c i (by omega)
          have m24 : M47 103 24 = 0 := by rw [e_M47, zset_n _ (by omega)]; omega
          refine ⟨fun v50 M52 n54 => (n54 : Int) = (2 * (200 - M52 103 23) + 1 - M52 103 24) ∧ (v50 = 0 ∨ v50 = 1) ∧ (∀ c i, ¬ mF3 c i → M52 c i = M c i) ∧ (0 ≤ M52 103 23 ∧ M52 103 23 ≤ M 103 22) ∧ (M52 103 24 = 0 ∨ M52 103 24 = 1) ∧ (-M52 103 23 ≤ M52 103 60 ∧ M52 103 60 ≤ 8) ∧ (M42 103 24 ≠ 0 → M52 103 24 ≠ 0) ∧ (M52 103 24 = 0 → ∃ V S, mRw M52 v50 V S ∧ ∀ φ, mPh M φ → gTo (mTT M) (M 103 22) φ (0, 1, 0, 2, [], []) (0, v50, M52 103 60, M52 103 23, V, S)) ∧ (M52 103 24 ≠ 0 → ∀ φ, mPh M φ → gRb (mTT M) (M 103 22) φ (M52 103 23)), ⟨Int.toNat (2 * (200 - M47 103 23) + 1 - M47 103 24), by omega, ?_, ?_, ?_, ?_, ?_, ?_, ?_, ?_⟩, ?_⟩
          · show 1 = 0 ∨ 1 = 1  -- I115#1.0.kw
            exact .inr rfl
          · show ∀ c i, ¬ mF3 c i → M47 c i = M c i  -- I115#1.0.kf
            intro c i k; rw [f47 c i (by omega)]; exact f34 c i (by omega)
          · show 0 ≤ M47 103 23 ∧ M47 103 23 ≤ M 103 22  -- I115#1.0.kp
            omega
          · show M47 103 24 = 0 ∨ M47 103 24 = 1  -- I115#1.0.k24
            omega
          · show -M47 103 23 ≤ M47 103 60 ∧ M47 103 60 ≤ 8  -- I115#1.0.kd
            rw [f47 103 60 (by omega), q60]; omega
          · show M42 103 24 ≠ 0 → M47 103 24 ≠ 0  -- I115#1.0.kc
            intro q; omega
          · show M47 103 24 = 0 → ∃ V S, mRw M47 1 V S ∧ ∀ φ, mPh M φ → gTo (mTT M) (M 103 22) φ (0, 1, 0, 2, [], []) (0, 1, M47 103 60, M47 103 23, V, S)  -- I115#1.0.kr
            intro _; refine ⟨[], [], ⟨?_, ?_, trivial, ?_, ?_, ?_⟩, fun φ _ => ?_⟩
            · show M47 103 62 = 0; rw [f47 103 62 (by omega)]; exact q62
            · show M47 103 64 = 0; rw [f47 103 64 (by omega)]; exact q64
            · rw [f47 103 62 (by omega), q62, if_neg (by decide)]; rfl
            · rw [f47 103 62 (by omega), q62]; omega
            · rw [f47 103 64 (by omega), q64]; omega
            · rw [f47 103 60 (by omega), q60, m23]; exact gTo.r
          · show M47 103 24 ≠ 0 → ∀ φ, mPh M φ → gRb (mTT M) (M 103 22) φ (M47 103 23)  -- I115#1.0.ke
            intro q; omega
          rintro v50 M52 n54 ⟨h_n54, kw, kf, kp, k24, kd, kc, kr, ke⟩ z_v50 z_M52
          have C52 : mC M52 := C10.f3 (fun c i k => by rw [kf c i k, f10 c i (by omega)]) (by omega)
          have T52 := mTT.f3 (M := M) (M' := M52) kf
          have P52 : ∀ φ, mPh M φ → mPh M52 φ := fun φ h => h.f3 kf
          intro K423 h_K423
          have k_K423 : (M52 103 24 ≠ 0 ∨ (M52 103 24 = 0 ∧ v50 = 0 ∧ M 103 22 ≤ M52 103 23)) → K423  := by
            intro  kq
            refine h_K423 ?_
            intro K458 h_K458
            have k_K458 : ∀ (M61 : zM), (∀ c i, ¬ mF3 c i → M61 c i = M c i) → (0 ≤ M61 103 23 ∧ M61 103 23 ≤ M 103 22) → (M61 103 24 = 1 ∨ (M61 103 24 = 0 ∧ (M61 132 0 = 0 ∨ M61 132 0 = 1))) → (∀ φ, mPh M φ → (M61 103 24 = 1 ∧ gRb (mTT M) (M 103 22) φ (M61 103 23)) ∨ (M61 103 24 = 0 ∧ gRy (mTT M) (M 103 22) φ (M61 132 0))) → K458 M61 := by
              intro M61 xf xp x24 xo
              refine h_K458 _ ?_
              intro z_M61
              refine ⟨fun b2 => ?_, fun b2 => ?_⟩
              · -- b2.1
                refine hP _ _ ⟨?_, ?_, ?_, ?_, ?_⟩
                · show ∀ c i, ¬ mF3 c i → M61 c i = M c i  -- p1.hf
                  exact xf
                · show 0 = 0 ∨ 0 = 1  -- p1.hr
                  omega
                · show 0 ≤ M61 103 23 ∧ M61 103 23 ≤ M 103 22  -- p1.hp
                  exact xp
                · show (M61 103 24 = 1 ∧ 0 = 0) ∨ M61 103 24 = 0  -- p1.h24
                  omega
                · show ∀ φ, mPh M φ → (M61 103 24 = 1 ∧ gRb (mTT M) (M 103 22) φ (M61 103 23)) ∨ (M61 103 24 = 0 ∧ gRy (mTT M) (M 103 22) φ 0)  -- p1.ho
                  intro φ h; rcases xo φ h with a | a
                  · exact .inl a
                  · omega
              · -- b2.2
                refine ⟨fun b3 => ?_, fun b3 => ?_⟩
                · -- b3.1
                  refine hP _ _ ⟨?_, ?_, ?_, ?_, ?_⟩
                  · show ∀ c i, ¬ mF3 c i → M61 c i = M c i  -- p2.hf
                    exact xf
                  · show 0 = 0 ∨ 0 = 1  -- p2.hr
                    omega
                  · show 0 ≤ M61 103 23 ∧ M61 103 23 ≤ M 103 22  -- p2.hp
                    exact xp
                  · show (M61 103 24 = 1 ∧ 0 = 0) ∨ M61 103 24 = 0  -- p2.h24
                    omega
                  · show ∀ φ, mPh M φ → (M61 103 24 = 1 ∧ gRb (mTT M) (M 103 22) φ (M61 103 23)) ∨ (M61 103 24 = 0 ∧ gRy (mTT M) (M 103 22) φ 0)  -- p2.ho
                    intro φ h; rcases xo φ h with a | a
                    · omega
                    · rw [b3] at a; exact .inr a
                · -- b3.2
                  refine hP _ _ ⟨?_, ?_, ?_, ?_, ?_⟩
                  · show ∀ c i, ¬ mF3 c i → M61 c i = M c i  -- p3.hf
                    exact xf
                  · show 1 = 0 ∨ 1 = 1  -- p3.hr
                    omega
                  · show 0 ≤ M61 103 23 ∧ M61 103 23 ≤ M 103 22  -- p3.hp
                    exact xp
                  · show (M61 103 24 = 1 ∧ 1 = 0) ∨ M61 103 24 = 0  -- p3.h24
                    omega
                  · show ∀ φ, mPh M φ → (M61 103 24 = 1 ∧ gRb (mTT M) (M 103 22) φ (M61 103 23)) ∨ (M61 103 24 = 0 ∧ gRy (mTT M) (M 103 22) φ 1)  -- p3.ho
                    intro φ h; rcases xo φ h with a | a
                    · omega
                    · rw [show M61 132 0 = 1 by omega] at a; exact .inr a
            refine ⟨fun b4 => ?_, fun b4 => ?_⟩
            · -- b4.1
              refine k_K458 _ ?_ ?_ ?_ ?_
              · show ∀ c i, ¬ mF3 c i → M52 c i = M c i  -- K458.1.xf
                exact kf
              · show 0 ≤ M52 103 23 ∧ M52 103 23 ≤ M 103 22  -- K458.1.xp
                exact kp
              · show M52 103 24 = 1 ∨ (M52 103 24 = 0 ∧ (M52 132 0 = 0 ∨ M52 132 0 = 1))  -- K458.1.x24
                omega
              · show ∀ φ, mPh M φ → (M52 103 24 = 1 ∧ gRb (mTT M) (M 103 22) φ (M52 103 23)) ∨ (M52 103 24 = 0 ∧ gRy (mTT M) (M 103 22) φ (M52 132 0))  -- K458.1.xo
                intro φ h; exact .inl ⟨by omega, ke b4 φ h⟩
            · -- b4.2
              have kq2 : v50 = 0 ∧ M 103 22 ≤ M52 103 23 := by omega
              obtain ⟨V, S, hR1, hT⟩ := kr b4
              have hRm : mR M52 V S := by rw [kq2.1] at hR1; exact hR1.r (by omega)
              have gc3 : pr_X12_join 38 M52 := by
                refine ⟨?_, ?_⟩
                · show 38 = 38 ∨ 38 = 124  -- c3.hq
                  exact .inl rfl
                · show ∃ V S, mR M52 V S  -- c3.hS
                  exact ⟨V, S, hRm⟩
              refine ⟨gc3, ?_⟩
              rintro M66 ⟨pc3_hf, pc3_ho, pc3_hm⟩ z_M66
              have r66 := pc3_ho V S hRm
              have gc4 : pr_X12_join 124 M66 := by
                refine ⟨?_, ?_⟩
                · show 124 = 38 ∨ 124 = 124  -- c4.hq
                  exact .inr rfl
                · show ∃ V S, mR M66 V S  -- c4.hS
                  exact ⟨_, _, r66⟩
              refine ⟨gc4, ?_⟩
              rintro M71 ⟨pc4_hf, pc4_ho, pc4_hm⟩ z_M71
              have r71 : mR M71 (gJJ V S).1 (gJJ V S).2 := pc4_ho _ _ r66
              have f71 : ∀ c i, ¬ (c = 132 ∨ (c = 103 ∧ (i = 62 ∨ i = 64))) → M71 c i = M52 c i := fun c i k => by rw [pc4_hf c i k]; exact pc3_hf c i k
              have l71 := r71.2.1.len
              intro K455 h_K455
              have k_K455 : ∀ (v76 : Int), ((v76 = 0 ∧ M71 103 64 = 0) ∨ (v76 = 1 ∧ M71 103 64 ≠ 0)) → K455 v76 := by
                intro v76 kv5
                refine h_K455 _ ?_
                intro z_v76
                have o5 : (v76 = 0 ∨ v76 = 1) := by
                  omega
                refine ⟨o5, ?_⟩
                intro M79 e_M79
                have e24 : M79 103 24 = v76 := by rw [e_M79, zset_s]
                have f79 : ∀ c i, ¬ (c = 103 ∧ i = 24) → M79 c i = M71 c i := fun c i k => by rw [e_M79, zset_n _ (by omega)]
                have p79 : M79 103 23 = M52 103 23 := by rw [f79 103 23 (by omega)]; exact f71 103 23 (by omega)
                have one : M71 103 64 = 0 → (gJJ V S).2 = [] ∧ (gJJ V S).1 = [M71 132 0] ∧ (M71 132 0 = 0 ∨ M71 132 0 = 1) := fun k => by
                  have e2 : (gJJ V S).2 = [] := by
                    cases h : (gJJ V S).2 with
                    | nil => rfl
                    | cons s S' => rw [h] at l71; rw [List.length_cons] at l71; omega
                  have w := r71.2.2.2.1
                  rw [e2] at w
                  have w : M71 103 62 = 1 := w
                  have a := r71.1
                  have g := r71.2.2.1
                  rw [w] at a
                  cases h : (gJJ V S).1 with
                  | nil => rw [h] at a; have a : (1 : Int) = 0 := a; omega
                  | cons x V' =>
                    rw [h] at a g
                    have z := a.2.2
                    cases V' with
                    | nil =>
                      have e : M71 132 0 = x := a.2.1
                      exact ⟨e2, by rw [e], by rw [e]; exact g.1⟩
                    | cons y V'' => have := z.1; omega
                refine k_K458 _ ?_ ?_ ?_ ?_
                · show ∀ c i, ¬ mF3 c i → M79 c i = M c i  -- K458.2.xf
                  intro c i k; rw [f79 c i (by omega), f71 c i (by omega)]; exact kf c i k
                · show 0 ≤ M79 103 23 ∧ M79 103 23 ≤ M 103 22  -- K458.2.xp
                  omega
                · show M79 103 24 = 1 ∨ (M79 103 24 = 0 ∧ (M79 132 0 = 0 ∨ M79 132 0 = 1))  -- K458.2.x24
                  rcases kv5 with ⟨a, b⟩ | ⟨a, b⟩
                  · exact .inr ⟨by omega, by rw [f79 132 0 (by omega)]; exact (one b).2.2⟩
                  · exact .inl (by omega)
                · show ∀ φ, mPh M φ → (M79 103 24 = 1 ∧ gRb (mTT M) (M 103 22) φ (M79 103 23)) ∨ (M79 103 24 = 0 ∧ gRy (mTT M) (M 103 22) φ (M79 132 0))  -- K458.2.xo
                  intro φ h
                  have hT := hT φ h
                  rw [kq2.1] at hT
                  have v0 : v25 = 0 ∧ v37 = 0 := by
                    have : M42 103 24 = 0 := by
                      apply Classical.byContradiction
                      intro q; exact kc q b4
                    omega
                  have hd1 : 65 ≤ gBy (mTT M) (M 103 22) 0 ∧ gBy (mTT M) (M 103 22) 0 ≤ 90 := by omega
                  have hd2 : gBy (mTT M) (M 103 22) 1 = 58 := by omega
                  rcases kv5 with ⟨a, b⟩ | ⟨a, b⟩
                  · refine .inr ⟨by omega, hd1, hd2, _, _, V, S, hT, kq2.2, ?_⟩
                    have o := one b
                    rw [f79 132 0 (by omega), ← o.2.1, ← o.1]
                  · refine .inl ⟨by omega, .inr (.inr ⟨hd1, hd2, ?_⟩)⟩
                    rw [p79]
                    refine hT.one (gStep_endb kq2.2 (fun z => ?_))
                    rw [z] at l71
                    exact b l71
              refine ⟨fun b5 => ?_, fun b5 => ?_⟩
              · -- b5.1
                refine k_K455 _ ?_
                · show (0 = 0 ∧ M71 103 64 = 0) ∨ (0 = 1 ∧ M71 103 64 ≠ 0)  -- K455.1.kv5
                  omega
              · -- b5.2
                refine k_K455 _ ?_
                · show (1 = 0 ∧ M71 103 64 = 0) ∨ (1 = 1 ∧ M71 103 64 ≠ 0)  -- K455.2.kv5
                  omega
          refine ⟨fun b6 => ?_, fun b6 => ?_⟩
          · -- b6.1
            refine k_K423 ?_
            · show M52 103 24 ≠ 0 ∨ (M52 103 24 = 0 ∧ v50 = 0 ∧ M 103 22 ≤ M52 103 23)  -- K423.1.kq
              exact .inl b6
          · -- b6.2
            intro K137 h_K137
            have k_K137 : (M52 103 24 = 0 ∧ (v50 ≠ 0 ∨ (v50 = 0 ∧ M52 103 23 < M 103 22))) → K137  := by
              intro  kl
              refine h_K137 ?_
              have gc5 : pr_X12_look M52 := by
                show mC M52
                exact C52
              refine ⟨gc5, ?_⟩
              rintro r84 M85 ⟨q_rfl, e_r84⟩ z_r84 z_M85
              have q_rfl := q_rfl.symm
              subst q_rfl
              rw [show mB2 M52 = gBy (mTT M) (M 103 22) (M52 103 23) by unfold mB2; rw [T52.1, T52.2]] at e_r84
              obtain ⟨V, S, hR1, hT⟩ := kr kl.1
              have inn : r84 ≠ -1 → M52 103 23 < M 103 22 := fun k => (gBy_i (T := mTT M) (n := M 103 22) (p := M52 103 23) (by rw [← e_r84]; exact k)).2
              have nle : r84 ≠ -1 → ¬ M 103 22 ≤ M52 103 23 := fun k => by have := inn k; omega
              have v0 : v25 = 0 ∧ v37 = 0 := by
                have : M42 103 24 = 0 := by
                  apply Classical.byContradiction
                  intro q; exact kc q kl.1
                omega
              have hd1 : 65 ≤ gBy (mTT M) (M 103 22) 0 ∧ gBy (mTT M) (M 103 22) 0 ≤ 90 := by omega
              have hd2 : gBy (mTT M) (M 103 22) 1 = 58 := by omega
              have lV := hR1.1.len
              have lS := hR1.2.1.len
              have bnS := gBn_0 S
              have n22' := T52.2
              have cap := hR1.2.2.2.2
              intro K242 h_K242
              have k_K242 : (v50 = 0 ∨ (r84 ≠ 33 ∧ r84 ≠ 40)) → K242  := by
                intro  km
                refine h_K242 ?_
                refine ⟨fun b7 => ?_, fun b7 => ?_⟩
                · -- b7.1
                  have hRm : mR M52 V S := by rw [b7] at hR1; exact hR1.r (by omega)
                  have hT0 : ∀ φ, mPh M φ → gTo (mTT M) (M 103 22) φ (0, 1, 0, 2, [], []) (0, 0, M52 103 60, M52 103 23, V, S) := fun φ h => by have := hT φ h; rw [b7] at this; exact this
                  have lt0 : M52 103 23 < M 103 22 := by omega
                  intro K290 h_K290
                  have k_K290 : (r84 = 38 ∨ r84 = 124) → K290  := by
                    intro  kn
                    refine h_K290 ?_
                    have gc6 : pr_X12_join 38 M52 := by
                      refine ⟨?_, ?_⟩
                      · show 38 = 38 ∨ 38 = 124  -- c6.hq
                        exact .inl rfl
                      · show ∃ V S, mR M52 V S  -- c6.hS
                        exact ⟨V, S, hRm⟩
                    refine ⟨gc6, ?_⟩
                    rintro M91 ⟨pc6_hf, pc6_ho, pc6_hm⟩ z_M91
                    have r91 := pc6_ho V S hRm
                    intro K308 h_K308
                    have k_K308 : ∀ (M96 : zM), (∀ c i, ¬ (c = 132 ∨ (c = 103 ∧ (i = 62 ∨ i = 64))) → M96 c i = M52 c i) → ((r84 = 38 ∧ mR M96 (gJ 38 V S).1 (gJ 38 V S).2) ∨ (r84 = 124 ∧ mR M96 (gJJ V S).1 (gJJ V S).2)) → (M96 103 64 ≤ M52 103 64 ∧ M96 103 62 ≤ M52 103 62) → K308 M96 := by
                      intro M96 yf yr ym
                      refine h_K308 _ ?_
                      intro z_M96
                      obtain ⟨V1, S1, hR2, hN⟩ : ∃ V1 S1, mR M96 V1 S1 ∧ ∀ φ, gStep (mTT M) (M 103 22) φ (0, 0, M52 103 60, M52 103 23, V, S) = some (0, 1, M52 103 60, M52 103 23 + 1, V1, r84 :: S1) := by
                        rcases yr with ⟨a, b⟩ | ⟨a, b⟩
                        · exact ⟨_, _, b, fun φ => by rw [gStep_and (nle (by omega)) (by rw [← e_r84]; exact a), a]⟩
                        · exact ⟨_, _, b, fun φ => by rw [gStep_or (nle (by omega)) (by rw [← e_r84]; exact a), a]⟩
                      have l1 := hR2.1.len
                      have l2 := hR2.2.1.len
                      have y23 : M96 103 23 = M52 103 23 := yf 103 23 (by omega)
                      have y60 : M96 103 60 = M52 103 60 := yf 103 60 (by omega)
                      have y24 : M96 103 24 = M52 103 24 := yf 103 24 (by omega)
                      have o6 : ((0 : Int) ≤ (M96 103 64) ∧ (M96 103 64) < 130) := by
                        omega
                      refine ⟨o6, ?_⟩
                      intro M99 e_M99
                      have e64 : M99 103 64 = M96 103 64 := by rw [e_M99, zset_n _ (by omega)]
                      have o7 : zin ((M99 103 64) + 1) := by
                        omega
                      refine ⟨o7, ?_⟩
                      intro M103 e_M103
                      have e23 : M103 103 23 = M52 103 23 := by rw [e_M103, zset_n _ (by omega), e_M99, zset_n _ (by omega)]; exact y23
                      have o8 : zin ((M103 103 23) + 1) := by
                        omega
                      refine ⟨o8, ?_⟩
                      intro M107 e_M107
                      have h64 : M107 103 64 = M96 103 64 + 1 := by rw [e_M107, zset_n _ (by omega), e_M103, zset_s, e64]
                      have h23' : M107 103 23 = M52 103 23 + 1 := by rw [e_M107, zset_s, e23]
                      have h107 : ∀ c i, c ≠ 133 → ¬ (c = 103 ∧ (i = 23 ∨ i = 64)) → M107 c i = M96 c i := fun c i k1 k2 => by rw [e_M107, zset_n _ (by omega), e_M103, zset_n _ (by omega), e_M99, zset_n _ (by omega)]
                      have h133 : ∀ i, M107 133 i = if i = M96 103 64 then r84 else M96 133 i := fun i => by
                        rw [e_M107, zset_n _ (by omega), e_M103, zset_n _ (by omega), e_M99]
                        by_cases k : i = M96 103 64
                        · rw [k, zset_s, if_pos rfl]
                        · rw [zset_n _ (by omega), if_neg k]
                      have z24 : M107 103 24 = 0 := by rw [h107 103 24 (by decide) (by omega), y24]; exact kl.1
                      have z60 : M107 103 60 = M52 103 60 := by rw [h107 103 60 (by decide) (by omega), y60]
                      have z62 : M107 103 62 = M96 103 62 := h107 103 62 (by decide) (by omega)
                      refine ⟨Int.toNat (2 * (200 - M107 103 23) + 1 - M107 103 24), by omega, by omega, ?_, ?_, ?_, ?_, ?_, ?_, ?_, ?_⟩
                      · show 1 = 0 ∨ 1 = 1  -- I115.1.kw
                        exact .inr rfl
                      · show ∀ c i, ¬ mF3 c i → M107 c i = M c i  -- I115.1.kf
                        intro c i k; rw [h107 c i (by omega) (by omega), yf c i (by omega)]; exact kf c i k
                      · show 0 ≤ M107 103 23 ∧ M107 103 23 ≤ M 103 22  -- I115.1.kp
                        omega
                      · show M107 103 24 = 0 ∨ M107 103 24 = 1  -- I115.1.k24
                        exact .inl z24
                      · show -M107 103 23 ≤ M107 103 60 ∧ M107 103 60 ≤ 8  -- I115.1.kd
                        omega
                      · show M42 103 24 ≠ 0 → M107 103 24 ≠ 0  -- I115.1.kc
                        intro q; exact absurd kl.1 (kc q)
                      · show M107 103 24 = 0 → ∃ V S, mRw M107 1 V S ∧ ∀ φ, mPh M φ → gTo (mTT M) (M 103 22) φ (0, 1, 0, 2, [], []) (0, 1, M107 103 60, M107 103 23, V, S)  -- I115.1.kr
                        intro _; refine ⟨V1, r84 :: S1, ⟨?_, ?_, hR2.2.2.1, ?_, ?_, ?_⟩, fun φ h => ?_⟩
                        · rw [z62]; exact hR2.1.cg (fun i _ => h107 132 i (by decide) (by omega))
                        · rw [h64]; exact hR2.2.1.push (fun i k => by rw [h133, if_neg (by omega)]) (by rw [h133, if_pos rfl])
                        · rw [z62, if_neg (by decide), hR2.2.2.2.1]
                          show _ = gBn S1 + (if r84 = 38 ∨ r84 = 124 then 1 else 0) + 0
                          rw [if_pos kn]; omega
                        · have := hR1.2.2.2.2; omega
                        · have := hR1.2.2.2.2; omega
                        · rw [z60, h23']; exact (hT0 φ h).one (hN φ)
                      · show M107 103 24 ≠ 0 → ∀ φ, mPh M φ → gRb (mTT M) (M 103 22) φ (M107 103 23)  -- I115.1.ke
                        intro q; exact absurd z24 q
                    refine ⟨fun b8 => ?_, fun b8 => ?_⟩
                    · -- b8.1
                      refine k_K308 _ ?_ ?_ ?_
                      · show ∀ c i, ¬ (c = 132 ∨ (c = 103 ∧ (i = 62 ∨ i = 64))) → M91 c i = M52 c i  -- K308.1.yf
                        exact pc6_hf
                      · show (r84 = 38 ∧ mR M91 (gJ 38 V S).1 (gJ 38 V S).2) ∨ (r84 = 124 ∧ mR M91 (gJJ V S).1 (gJJ V S).2)  -- K308.1.yr
                        exact .inl ⟨by omega, r91⟩
                      · show M91 103 64 ≤ M52 103 64 ∧ M91 103 62 ≤ M52 103 62  -- K308.1.ym
                        exact pc6_hm
                    · -- b8.2
                      have gc7 : pr_X12_join 124 M91 := by
                        refine ⟨?_, ?_⟩
                        · show 124 = 38 ∨ 124 = 124  -- c7.hq
                          exact .inr rfl
                        · show ∃ V S, mR M91 V S  -- c7.hS
                          exact ⟨_, _, r91⟩
                      refine ⟨gc7, ?_⟩
                      rintro M114 ⟨pc7_hf, pc7_ho, pc7_hm⟩ z_M114
                      refine k_K308 _ ?_ ?_ ?_
                      · show ∀ c i, ¬ (c = 132 ∨ (c = 103 ∧ (i = 62 ∨ i = 64))) → M114 c i = M52 c i  -- K308.2.yf
                        intro c i k; rw [pc7_hf c i k]; exact pc6_hf c i k
                      · show (r84 = 38 ∧ mR M114 (gJ 38 V S).1 (gJ 38 V S).2) ∨ (r84 = 124 ∧ mR M114 (gJJ V S).1 (gJJ V S).2)  -- K308.2.yr
                        exact .inr ⟨b8, pc7_ho _ _ r91⟩
                      · show M114 103 64 ≤ M52 103 64 ∧ M114 103 62 ≤ M52 103 62  -- K308.2.ym
                        omega
                  refine ⟨fun b9 => ?_, fun b9 => ?_⟩
                  · -- b9.1
                    refine k_K290 ?_
                    · show r84 = 38 ∨ r84 = 124  -- K290.1.kn
                      exact .inl b9
                  · -- b9.2
                    refine ⟨fun b10 => ?_, fun b10 => ?_⟩
                    · -- b10.1
                      have gc8 : pr_X12_join 38 M52 := by
                        refine ⟨?_, ?_⟩
                        · show 38 = 38 ∨ 38 = 124  -- c8.hq
                          exact .inl rfl
                        · show ∃ V S, mR M52 V S  -- c8.hS
                          exact ⟨V, S, hRm⟩
                      refine ⟨gc8, ?_⟩
                      rintro M121 ⟨pc8_hf, pc8_ho, pc8_hm⟩ z_M121
                      have r121 := pc8_ho V S hRm
                      have gc9 : pr_X12_join 124 M121 := by
                        refine ⟨?_, ?_⟩
                        · show 124 = 38 ∨ 124 = 124  -- c9.hq
                          exact .inr rfl
                        · show ∃ V S, mR M121 V S  -- c9.hS
                          exact ⟨_, _, r121⟩
                      refine ⟨gc9, ?_⟩
                      rintro M126 ⟨pc9_hf, pc9_ho, pc9_hm⟩ z_M126
                      have r126 : mR M126 (gJJ V S).1 (gJJ V S).2 := pc9_ho _ _ r121
                      have f126 : ∀ c i, ¬ (c = 132 ∨ (c = 103 ∧ (i = 62 ∨ i = 64))) → M126 c i = M52 c i := fun c i k => by rw [pc9_hf c i k]; exact pc8_hf c i k
                      have hd126 := r126.2.1.hd
                      have l126 := r126.2.1.len
                      intro K376 h_K376
                      have k_K376 : ∀ (v131 : Int) (M133 : zM), (M133 = M126) → ((v131 = 0 ∧ r84 = 41 ∧ (gJJ V S).2.headD 0 = 40) ∨ (v131 = 1 ∧ ¬ (r84 = 41 ∧ (gJJ V S).2.headD 0 = 40))) → K376 v131 M133 := by
                        intro v131 M133 e133 kv6
                        refine h_K376 _ _ ?_
                        intro z_v131 z_M133
                        subst e133
                        have o9 : (v131 = 0 ∨ v131 = 1) := by
                          omega
                        refine ⟨o9, ?_⟩
                        intro M136 e_M136
                        have t24 : M136 103 24 = v131 := by rw [e_M136, zset_s]
                        have f136 : ∀ c i, ¬ (c = 103 ∧ i = 24) → M136 c i = M133 c i := fun c i k => by rw [e_M136, zset_n _ (by omega)]
                        have t23 : M136 103 23 = M52 103 23 := by rw [f136 103 23 (by omega)]; exact f126 103 23 (by omega)
                        have t60 : M136 103 60 = M52 103 60 := by rw [f136 103 60 (by omega)]; exact f126 103 60 (by omega)
                        refine ⟨fun b11 => ?_, fun b11 => ?_⟩
                        · -- b11.1
                          refine ⟨Int.toNat (2 * (200 - M136 103 23) + 1 - M136 103 24), by omega, by omega, ?_, ?_, ?_, ?_, ?_, ?_, ?_, ?_⟩
                          · show v50 = 0 ∨ v50 = 1  -- I115.2.kw
                            first | with_reducible assumption | omega | exact trivial | with_reducible rfl
                          · show ∀ c i, ¬ mF3 c i → M136 c i = M c i  -- I115.2.kf
                            intro c i k; rw [f136 c i (by omega), f126 c i (by omega)]; exact kf c i k
                          · show 0 ≤ M136 103 23 ∧ M136 103 23 ≤ M 103 22  -- I115.2.kp
                            omega
                          · show M136 103 24 = 0 ∨ M136 103 24 = 1  -- I115.2.k24
                            omega
                          · show -M136 103 23 ≤ M136 103 60 ∧ M136 103 60 ≤ 8  -- I115.2.kd
                            omega
                          · show M42 103 24 ≠ 0 → M136 103 24 ≠ 0  -- I115.2.kc
                            intro _; exact b11
                          · show M136 103 24 = 0 → ∃ V S, mRw M136 v50 V S ∧ ∀ φ, mPh M φ → gTo (mTT M) (M 103 22) φ (0, 1, 0, 2, [], []) (0, v50, M136 103 60, M136 103 23, V, S)  -- I115.2.kr
                            intro q; exact absurd q b11
                          · show M136 103 24 ≠ 0 → ∀ φ, mPh M φ → gRb (mTT M) (M 103 22) φ (M136 103 23)  -- I115.2.ke
                            intro _ φ h; rw [t23]
                            refine .inr (.inr ⟨hd1, hd2, (hT0 φ h).one (gStep_else (by omega) (by omega) (by omega) (fun z => ?_))⟩)
                            rw [← e_r84] at z
                            rcases kv6 with a | a
                            · omega
                            · exact a.2 z
                        · -- b11.2
                          have cl : r84 = 41 ∧ (gJJ V S).2.headD 0 = 40 := by omega
                          obtain ⟨S3, eS3⟩ : ∃ S3, (gJJ V S).2 = 40 :: S3 := by
                            cases h : (gJJ V S).2 with
                            | nil => rw [h] at cl; exact absurd (show (0 : Int) = 40 from cl.2) (by decide)
                            | cons s S' => rw [h] at cl; exact ⟨S', by rw [show s = 40 from cl.2]⟩
                          rw [eS3] at r126
                          have l3 := r126.2.1.1
                          have u64 : M136 103 64 = M133 103 64 := f136 103 64 (by omega)
                          have o10 : zin ((M136 103 64) - 1) := by
                            omega
                          refine ⟨o10, ?_⟩
                          intro M144 e_M144
                          have u60 : M144 103 60 = M52 103 60 := by rw [e_M144, zset_n _ (by omega)]; exact t60
                          have o11 : zin ((M144 103 60) - 1) := by
                            omega
                          refine ⟨o11, ?_⟩
                          intro M148 e_M148
                          have u23 : M148 103 23 = M52 103 23 := by rw [e_M148, zset_n _ (by omega), e_M144, zset_n _ (by omega)]; exact t23
                          have o12 : zin ((M148 103 23) + 1) := by
                            omega
                          refine ⟨o12, ?_⟩
                          intro M152 e_M152
                          have f152 : ∀ c i, ¬ (c = 103 ∧ (i = 23 ∨ i = 24 ∨ i = 60 ∨ i = 64)) → M152 c i = M133 c i := fun c i k => by rw [e_M152, zset_n _ (by omega), e_M148, zset_n _ (by omega), e_M144, zset_n _ (by omega)]; exact f136 c i (by omega)
                          have w23 : M152 103 23 = M52 103 23 + 1 := by rw [e_M152, zset_s, u23]
                          have w60 : M152 103 60 = M52 103 60 - 1 := by rw [e_M152, zset_n _ (by omega), e_M148, zset_s, u60]
                          have w64 : M152 103 64 = M133 103 64 - 1 := by rw [e_M152, zset_n _ (by omega), e_M148, zset_n _ (by omega), e_M144, zset_s, u64]
                          have w24 : M152 103 24 = 0 := by rw [e_M152, zset_n _ (by omega), e_M148, zset_n _ (by omega), e_M144, zset_n _ (by omega)]; exact b11
                          have w62 : M152 103 62 = M133 103 62 := f152 103 62 (by omega)
                          have r152 : mR M152 (gJJ V S).1 S3 := by
                            refine ⟨?_, ?_, r126.2.2.1, ?_, ?_, ?_⟩
                            · rw [w62, show M152 132 = M133 132 from funext fun i => f152 132 i (by omega)]; exact r126.1
                            · rw [w64, show M152 133 = M133 133 from funext fun i => f152 133 i (by omega)]; exact r126.2.1.2.2
                            · rw [w62, r126.2.2.2.1]
                              show gBn S3 + (if (40 : Int) = 38 ∨ (40 : Int) = 124 then 1 else 0) + 1 = _
                              rw [if_neg (by decide)]; omega
                            · rw [w62]; exact r126.2.2.2.2.1
                            · rw [w64]; have := r126.2.2.2.2.2; omega
                          have gc10 : pr_X12_testEnds M152 := by
                            show ∃ V S, mR M152 V S
                            exact ⟨_, _, r152⟩
                          refine ⟨gc10, ?_⟩
                          rintro M155 ⟨pc10_hf, pc10_ho, pc10_hm⟩ z_M155
                          have r155 := pc10_ho _ _ r152
                          have x23 : M155 103 23 = M52 103 23 + 1 := by rw [pc10_hf 103 23 (by omega)]; exact w23
                          have x60 : M155 103 60 = M52 103 60 - 1 := by rw [pc10_hf 103 60 (by omega)]; exact w60
                          have x24' : M155 103 24 = 0 := by rw [pc10_hf 103 24 (by omega)]; exact w24
                          have x62 : M155 103 62 = M133 103 62 := by rw [pc10_hf 103 62 (by omega)]; exact w62
                          have mm : M133 103 64 ≤ M52 103 64 ∧ M133 103 62 ≤ M52 103 62 := by omega
                          refine ⟨Int.toNat (2 * (200 - M155 103 23) + 1 - M155 103 24), by omega, by omega, ?_, ?_, ?_, ?_, ?_, ?_, ?_, ?_⟩
                          · show v50 = 0 ∨ v50 = 1  -- I115.3.kw
                            first | with_reducible assumption | omega | exact trivial | with_reducible rfl
                          · show ∀ c i, ¬ mF3 c i → M155 c i = M c i  -- I115.3.kf
                            intro c i k; rw [pc10_hf c i (by omega), f152 c i (by omega), f126 c i (by omega)]; exact kf c i k
                          · show 0 ≤ M155 103 23 ∧ M155 103 23 ≤ M 103 22  -- I115.3.kp
                            have := inn (by omega); omega
                          · show M155 103 24 = 0 ∨ M155 103 24 = 1  -- I115.3.k24
                            exact .inl x24'
                          · show -M155 103 23 ≤ M155 103 60 ∧ M155 103 60 ≤ 8  -- I115.3.kd
                            omega
                          · show M42 103 24 ≠ 0 → M155 103 24 ≠ 0  -- I115.3.kc
                            intro q; exact absurd kl.1 (kc q)
                          · show M155 103 24 = 0 → ∃ V S, mRw M155 v50 V S ∧ ∀ φ, mPh M φ → gTo (mTT M) (M 103 22) φ (0, 1, 0, 2, [], []) (0, v50, M155 103 60, M155 103 23, V, S)  -- I115.3.kr
                            intro _; refine ⟨(gTe (gJJ V S).1 S3).1, (gTe (gJJ V S).1 S3).2, ?_, fun φ h => ?_⟩
                            · rw [b7]; exact mRw.of r155 (by have := hR1.2.2.2.2; omega)
                            · rw [b7, x60, x23]
                              have g := (hT0 φ h).one (gStep_close (T := mTT M) (n := M 103 22) (φ := φ) (nle (by omega)) (by rw [← e_r84]; exact cl.1) cl.2)
                              rw [eS3] at g
                              exact g
                          · show M155 103 24 ≠ 0 → ∀ φ, mPh M φ → gRb (mTT M) (M 103 22) φ (M155 103 23)  -- I115.3.ke
                            intro q; exact absurd x24' q
                      intro K371 h_K371
                      have k_K371 : ∀ (M163 : zM), (M163 = M126) → (¬ (r84 = 41 ∧ (gJJ V S).2.headD 0 = 40)) → K371 M163 := by
                        intro M163 e163 kv7
                        refine h_K371 _ ?_
                        intro z_M163
                        refine k_K376 _ _ ?_ ?_
                        · show M163 = M126  -- K376.1.e133
                          exact e163
                        · show (1 = 0 ∧ r84 = 41 ∧ (gJJ V S).2.headD 0 = 40) ∨ (1 = 1 ∧ ¬ (r84 = 41 ∧ (gJJ V S).2.headD 0 = 40))  -- K376.1.kv6
                          exact .inr ⟨rfl, kv7⟩
                      refine ⟨fun b12 => ?_, fun b12 => ?_⟩
                      · -- b12.1
                        refine k_K371 _ ?_ ?_
                        · show M126 = M126  -- K371.1.e163
                          rfl
                        · show ¬ (r84 = 41 ∧ (gJJ V S).2.headD 0 = 40)  -- K371.1.kv7
                          exact fun z => b12 z.1
                      · -- b12.2
                        have gc11 : pr_X12_topSign M126 := by
                          show 0 ≤ M126 103 64 ∧ M126 103 64 ≤ 130
                          have := r126.2.2.2.2; omega
                        refine ⟨gc11, ?_⟩
                        rintro r166 M167 ⟨q_rfl, e_r166⟩ z_r166 z_M167
                        have q_rfl := q_rfl.symm
                        subst q_rfl
                        rw [← hd126] at e_r166
                        refine ⟨fun b13 => ?_, fun b13 => ?_⟩
                        · -- b13.1
                          refine k_K376 _ _ ?_ ?_
                          · show M126 = M126  -- K376.2.e133
                            first | rfl | assumption
                          · show (0 = 0 ∧ r84 = 41 ∧ (gJJ V S).2.headD 0 = 40) ∨ (0 = 1 ∧ ¬ (r84 = 41 ∧ (gJJ V S).2.headD 0 = 40))  -- K376.2.kv6
                            exact .inl ⟨rfl, b12, by rw [← e_r166]; exact b13⟩
                        · -- b13.2
                          refine k_K371 _ ?_ ?_
                          · show M126 = M126  -- K371.2.e163
                            rfl
                          · show ¬ (r84 = 41 ∧ (gJJ V S).2.headD 0 = 40)  -- K371.2.kv7
                            exact fun z => b13 (by rw [e_r166]; exact z.2)
                    · -- b10.2
                      refine k_K290 ?_
                      · show r84 = 38 ∨ r84 = 124  -- K290.2.kn
                        exact .inr b10
                · -- b7.2
                  have w1 : v50 = 1 := by omega
                  have hTw : ∀ φ, mPh M φ → gTo (mTT M) (M 103 22) φ (0, 1, 0, 2, [], []) (0, 1, M52 103 60, M52 103 23, V, S) := fun φ h => by have := hT φ h; rw [w1] at this; exact this
                  have wf1 : M52 103 62 = gBn S := by have := hR1.2.2.2.1; rw [w1, if_neg (by decide)] at this; omega
                  have c33 : gBy (mTT M) (M 103 22) (M52 103 23) ≠ 33 := by rw [← e_r84]; omega
                  have c40 : gBy (mTT M) (M 103 22) (M52 103 23) ≠ 40 := by rw [← e_r84]; omega
                  have gc12 : pr_X12_readTest M52 := by
                    refine ⟨?_, ?_⟩
                    · show mC M52  -- c12.hC
                      exact C52
                    · show M52 103 24 = 0  -- c12.h0
                      exact kl.1
                  refine ⟨gc12, ?_⟩
                  rintro r173 M174 ⟨pc12_hf, pc12_hr, pc12_hp, pc12_h01, pc12_ho⟩ z_r173 z_M174
                  have f174 : ∀ c i, ¬ mF3 c i → M174 c i = M c i := fun c i k => by rw [pc12_hf c i (by omega)]; exact kf c i k
                  have t22 : M52 103 22 = M 103 22 := T52.2
                  have ho12 : ∀ φ, mPh M φ → ((gTs (mTT M) (M 103 22) φ (M52 103 23)).1 = 0 ∧ M174 103 24 = 0 ∧ M174 103 23 = (gTs (mTT M) (M 103 22) φ (M52 103 23)).2.1 ∧ r173 = (gTs (mTT M) (M 103 22) φ (M52 103 23)).2.2) ∨ ((gTs (mTT M) (M 103 22) φ (M52 103 23)).1 = 1 ∧ M174 103 24 = 1 ∧ M174 103 23 = (gTs (mTT M) (M 103 22) φ (M52 103 23)).2.1) := fun φ h => by
                    have q := pc12_ho φ (P52 φ h)
                    rw [T52.1, T52.2] at q
                    exact q
                  have o13 : ((0 : Int) ≤ (M52 103 62) ∧ (M52 103 62) < 130) := by
                    omega
                  refine ⟨o13, ?_⟩
                  have o14 : (r173 = 0 ∨ r173 = 1) := by
                    exact pc12_hr
                  refine ⟨o14, ?_⟩
                  intro M181 e_M181
                  have e181 : M181 103 62 = M52 103 62 := by rw [e_M181, zset_n _ (by omega)]; exact pc12_hf 103 62 (by omega)
                  have o15 : zin ((M181 103 62) + 1) := by
                    omega
                  refine ⟨o15, ?_⟩
                  intro M185 e_M185
                  have f185 : ∀ c i, ¬ (c = 132 ∨ (c = 103 ∧ i = 62)) → M185 c i = M174 c i := fun c i k => by rw [e_M185, zset_n _ (by omega), e_M181, zset_n _ (by omega)]
                  have a62 : M185 103 62 = M52 103 62 + 1 := by rw [e_M185, zset_s, e181]
                  have a64 : M185 103 64 = M52 103 64 := by rw [f185 103 64 (by omega)]; exact pc12_hf 103 64 (by omega)
                  have a132 : ∀ i, M185 132 i = if i = M52 103 62 then r173 else M52 132 i := fun i => by
                    rw [e_M185, zset_n _ (by omega), e_M181]
                    by_cases k : i = M52 103 62
                    · rw [k, zset_s, if_pos rfl]
                    · rw [zset_n _ (by omega), if_neg k]; exact pc12_hf 132 i (by omega)
                  have r185 : mR M185 (r173 :: V) S := by
                    refine ⟨?_, ?_, ⟨pc12_hr, hR1.2.2.1⟩, ?_, ?_, ?_⟩
                    · rw [a62]; exact hR1.1.push (fun i k => by rw [a132, if_neg (by omega)]) (by rw [a132, if_pos rfl])
                    · rw [a64]; exact hR1.2.1.cg (fun i _ => by rw [f185 133 i (by omega)]; exact pc12_hf 133 i (by omega))
                    · omega
                    · have := hR1.2.2.2.2; omega
                    · have := hR1.2.2.2.2; omega
                  have gc13 : pr_X12_testEnds M185 := by
                    show ∃ V S, mR M185 V S
                    exact ⟨_, _, r185⟩
                  refine ⟨gc13, ?_⟩
                  rintro M188 ⟨pc13_hf, pc13_ho, pc13_hm⟩ z_M188
                  have r188 := pc13_ho _ _ r185
                  have b23' : M188 103 23 = M174 103 23 := by rw [pc13_hf 103 23 (by omega)]; exact f185 103 23 (by omega)
                  have b24' : M188 103 24 = M174 103 24 := by rw [pc13_hf 103 24 (by omega)]; exact f185 103 24 (by omega)
                  have b60' : M188 103 60 = M52 103 60 := by rw [pc13_hf 103 60 (by omega), f185 103 60 (by omega)]; exact pc12_hf 103 60 (by omega)
                  have b62' : M188 103 62 = M52 103 62 + 1 := by rw [pc13_hf 103 62 (by omega)]; exact a62
                  refine ⟨Int.toNat (2 * (200 - M188 103 23) + 1 - M188 103 24), by omega, by omega, ?_, ?_, ?_, ?_, ?_, ?_, ?_, ?_⟩
                  · show 0 = 0 ∨ 0 = 1  -- I115.4.kw
                    exact .inl rfl
                  · show ∀ c i, ¬ mF3 c i → M188 c i = M c i  -- I115.4.kf
                    intro c i k; rw [pc13_hf c i (by omega), f185 c i (by omega)]; exact f174 c i k
                  · show 0 ≤ M188 103 23 ∧ M188 103 23 ≤ M 103 22  -- I115.4.kp
                    omega
                  · show M188 103 24 = 0 ∨ M188 103 24 = 1  -- I115.4.k24
                    omega
                  · show -M188 103 23 ≤ M188 103 60 ∧ M188 103 60 ≤ 8  -- I115.4.kd
                    omega
                  · show M42 103 24 ≠ 0 → M188 103 24 ≠ 0  -- I115.4.kc
                    intro q; exact absurd kl.1 (kc q)
                  · show M188 103 24 = 0 → ∃ V S, mRw M188 0 V S ∧ ∀ φ, mPh M φ → gTo (mTT M) (M 103 22) φ (0, 1, 0, 2, [], []) (0, 0, M188 103 60, M188 103 23, V, S)  -- I115.4.kr
                    intro q; refine ⟨_, _, mRw.of r188 (by have := hR1.2.2.2.2; omega), fun φ h => ?_⟩
                    rcases ho12 φ h with ⟨a, b, c, e⟩ | ⟨a, b, c⟩
                    · have g := (hTw φ h).one (gStep_test c33 c40 a)
                      rw [← e, ← c, ← b23', ← b60'] at g
                      exact g
                    · omega
                  · show M188 103 24 ≠ 0 → ∀ φ, mPh M φ → gRb (mTT M) (M 103 22) φ (M188 103 23)  -- I115.4.ke
                    intro q φ h
                    rcases ho12 φ h with ⟨a, b, c, e⟩ | ⟨a, b, c⟩
                    · omega
                    · rw [b23', c]
                      exact .inr (.inr ⟨hd1, hd2, (hTw φ h).one (gStep_testb c33 c40 (by omega))⟩)
              refine ⟨fun b14 => ?_, fun b14 => ?_⟩
              · -- b14.1
                refine k_K242 ?_
                · show v50 = 0 ∨ (r84 ≠ 33 ∧ r84 ≠ 40)  -- K242.1.km
                  exact .inl b14
              · -- b14.2
                intro K158 h_K158
                have k_K158 : (v50 = 1 ∧ (r84 = 33 ∨ r84 = 40)) → K158  := by
                  intro  kh
                  refine h_K158 ?_
                  have hTw : ∀ φ, mPh M φ → gTo (mTT M) (M 103 22) φ (0, 1, 0, 2, [], []) (0, 1, M52 103 60, M52 103 23, V, S) := fun φ h => by have := hT φ h; rw [kh.1] at this; exact this
                  have wf1 : M52 103 62 = gBn S := by have := hR1.2.2.2.1; rw [kh.1, if_neg (by decide)] at this; omega
                  have inn' := inn (by omega)
                  intro K179 h_K179
                  have k_K179 : ∀ (v197 : Int), ((v197 = 0 ∧ ¬ (r84 = 40 ∧ M52 103 60 = 8)) ∨ (v197 = 1 ∧ r84 = 40 ∧ M52 103 60 = 8)) → K179 v197 := by
                    intro v197 kv8
                    refine h_K179 _ ?_
                    intro z_v197
                    have o16 : (v197 = 0 ∨ v197 = 1) := by
                      omega
                    refine ⟨o16, ?_⟩
                    intro M200 e_M200
                    have d24 : M200 103 24 = v197 := by rw [e_M200, zset_s]
                    have f200 : ∀ c i, ¬ (c = 103 ∧ i = 24) → M200 c i = M52 c i := fun c i k => by rw [e_M200, zset_n _ (by omega)]
                    have d23 : M200 103 23 = M52 103 23 := f200 103 23 (by omega)
                    have d60 : M200 103 60 = M52 103 60 := f200 103 60 (by omega)
                    refine ⟨fun b15 => ?_, fun b15 => ?_⟩
                    · -- b15.1
                      refine ⟨Int.toNat (2 * (200 - M200 103 23) + 1 - M200 103 24), by omega, by omega, ?_, ?_, ?_, ?_, ?_, ?_, ?_, ?_⟩
                      · show v50 = 0 ∨ v50 = 1  -- I115.5.kw
                        first | with_reducible assumption | omega | exact trivial | with_reducible rfl
                      · show ∀ c i, ¬ mF3 c i → M200 c i = M c i  -- I115.5.kf
                        intro c i k; rw [f200 c i (by omega)]; exact kf c i k
                      · show 0 ≤ M200 103 23 ∧ M200 103 23 ≤ M 103 22  -- I115.5.kp
                        omega
                      · show M200 103 24 = 0 ∨ M200 103 24 = 1  -- I115.5.k24
                        omega
                      · show -M200 103 23 ≤ M200 103 60 ∧ M200 103 60 ≤ 8  -- I115.5.kd
                        omega
                      · show M42 103 24 ≠ 0 → M200 103 24 ≠ 0  -- I115.5.kc
                        intro _; exact b15
                      · show M200 103 24 = 0 → ∃ V S, mRw M200 v50 V S ∧ ∀ φ, mPh M φ → gTo (mTT M) (M 103 22) φ (0, 1, 0, 2, [], []) (0, v50, M200 103 60, M200 103 23, V, S)  -- I115.5.kr
                        intro q; exact absurd q b15
                      · show M200 103 24 ≠ 0 → ∀ φ, mPh M φ → gRb (mTT M) (M 103 22) φ (M200 103 23)  -- I115.5.ke
                        intro _ φ h; rw [d23]
                        have k8 : r84 = 40 ∧ M52 103 60 = 8 := by omega
                        exact .inr (.inr ⟨hd1, hd2, (hTw φ h).one (gStep_deep (by rw [← e_r84]; exact k8.1) k8.2)⟩)
                    · -- b15.2
                      intro K205 h_K205
                      have k_K205 : ∀ (v207 : Int), ((v207 = 0 ∧ r84 = 33) ∨ (v207 = 1 ∧ r84 = 40)) → K205 v207 := by
                        intro v207 kv9
                        refine h_K205 _ ?_
                        intro z_v207
                        have o17 : zin ((M200 103 60) + v207) := by
                          omega
                        refine ⟨o17, ?_⟩
                        intro M210 e_M210
                        have i64 : M210 103 64 = M52 103 64 := by rw [e_M210, zset_n _ (by omega)]; exact f200 103 64 (by omega)
                        have o18 : ((0 : Int) ≤ (M210 103 64) ∧ (M210 103 64) < 130) := by
                          have := hR1.2.2.2.2; omega
                        refine ⟨o18, ?_⟩
                        intro M214 e_M214
                        have j64 : M214 103 64 = M52 103 64 := by rw [e_M214, zset_n _ (by omega)]; exact i64
                        have o19 : zin ((M214 103 64) + 1) := by
                          have := hR1.2.2.2.2; omega
                        refine ⟨o19, ?_⟩
                        intro M218 e_M218
                        have j23 : M218 103 23 = M52 103 23 := by rw [e_M218, zset_n _ (by omega), e_M214, zset_n _ (by omega), e_M210, zset_n _ (by omega)]; exact d23
                        have o20 : zin ((M218 103 23) + 1) := by
                          omega
                        refine ⟨o20, ?_⟩
                        intro M222 e_M222
                        have f222 : ∀ c i, c ≠ 133 → ¬ (c = 103 ∧ (i = 23 ∨ i = 24 ∨ i = 60 ∨ i = 64)) → M222 c i = M52 c i := fun c i k1 k2 => by rw [e_M222, zset_n _ (by omega), e_M218, zset_n _ (by omega), e_M214, zset_n _ (by omega), e_M210, zset_n _ (by omega)]; exact f200 c i (by omega)
                        have c23 : M222 103 23 = M52 103 23 + 1 := by rw [e_M222, zset_s, j23]
                        have c64 : M222 103 64 = M52 103 64 + 1 := by rw [e_M222, zset_n _ (by omega), e_M218, zset_s, j64]
                        have c60 : M222 103 60 = M52 103 60 + v207 := by rw [e_M222, zset_n _ (by omega), e_M218, zset_n _ (by omega), e_M214, zset_n _ (by omega), e_M210, zset_s, d60]
                        have c24 : M222 103 24 = 0 := by rw [e_M222, zset_n _ (by omega), e_M218, zset_n _ (by omega), e_M214, zset_n _ (by omega), e_M210, zset_n _ (by omega)]; exact b15
                        have c62 : M222 103 62 = M52 103 62 := f222 103 62 (by decide) (by omega)
                        have c133 : ∀ i, M222 133 i = if i = M52 103 64 then r84 else M52 133 i := fun i => by
                          rw [e_M222, zset_n _ (by omega), e_M218, zset_n _ (by omega), e_M214, i64]
                          by_cases k : i = M52 103 64
                          · rw [k, zset_s, if_pos rfl]
                          · rw [zset_n _ (by omega), if_neg k, e_M210, zset_n _ (by omega)]; exact f200 133 i (by omega)
                        refine ⟨Int.toNat (2 * (200 - M222 103 23) + 1 - M222 103 24), by omega, by omega, ?_, ?_, ?_, ?_, ?_, ?_, ?_, ?_⟩
                        · show v50 = 0 ∨ v50 = 1  -- I115.6.kw
                          first | with_reducible assumption | omega | exact trivial | with_reducible rfl
                        · show ∀ c i, ¬ mF3 c i → M222 c i = M c i  -- I115.6.kf
                          intro c i k; rw [f222 c i (by omega) (by omega)]; exact kf c i k
                        · show 0 ≤ M222 103 23 ∧ M222 103 23 ≤ M 103 22  -- I115.6.kp
                          omega
                        · show M222 103 24 = 0 ∨ M222 103 24 = 1  -- I115.6.k24
                          exact .inl c24
                        · show -M222 103 23 ≤ M222 103 60 ∧ M222 103 60 ≤ 8  -- I115.6.kd
                          omega
                        · show M42 103 24 ≠ 0 → M222 103 24 ≠ 0  -- I115.6.kc
                          intro q; exact absurd kl.1 (kc q)
                        · show M222 103 24 = 0 → ∃ V S, mRw M222 v50 V S ∧ ∀ φ, mPh M φ → gTo (mTT M) (M 103 22) φ (0, 1, 0, 2, [], []) (0, v50, M222 103 60, M222 103 23, V, S)  -- I115.6.kr
                          intro _; refine ⟨V, r84 :: S, ⟨?_, ?_, hR1.2.2.1, ?_, ?_, ?_⟩, fun φ h => ?_⟩
                          · rw [c62]; exact hR1.1.cg (fun i _ => f222 132 i (by decide) (by omega))
                          · rw [c64]; exact hR1.2.1.push (fun i k => by rw [c133, if_neg (by omega)]) (by rw [c133, if_pos rfl])
                          · rw [c62, wf1, kh.1, if_neg (by decide)]
                            show _ = gBn S + (if r84 = 38 ∨ r84 = 124 then 1 else 0) + 0
                            rw [if_neg (by omega)]; omega
                          · have := hR1.2.2.2.2; omega
                          · have := hR1.2.2.2.2; omega
                          · rw [c60, c23, kh.1]
                            rcases kv9 with ⟨a, b⟩ | ⟨a, b⟩
                            · rw [a, b, show M52 103 60 + 0 = M52 103 60 by omega]
                              exact (hTw φ h).one (gStep_not (by rw [← e_r84]; exact b))
                            · rw [a, b]
                              exact (hTw φ h).one (gStep_open (by rw [← e_r84]; exact b) (by omega))
                        · show M222 103 24 ≠ 0 → ∀ φ, mPh M φ → gRb (mTT M) (M 103 22) φ (M222 103 23)  -- I115.6.ke
                          intro q; exact absurd c24 q
                      refine ⟨fun b16 => ?_, fun b16 => ?_⟩
                      · -- b16.1
                        refine k_K205 _ ?_
                        · show (0 = 0 ∧ r84 = 33) ∨ (0 = 1 ∧ r84 = 40)  -- K205.1.kv9
                          omega
                      · -- b16.2
                        refine k_K205 _ ?_
                        · show (1 = 0 ∧ r84 = 33) ∨ (1 = 1 ∧ r84 = 40)  -- K205.2.kv9
                          omega
                  intro K178 h_K178
                  have k_K178 : (¬ (r84 = 40 ∧ M52 103 60 = 8)) → K178  := by
                    intro  kv10
                    refine h_K178 ?_
                    refine k_K179 _ ?_
                    · show (0 = 0 ∧ ¬ (r84 = 40 ∧ M52 103 60 = 8)) ∨ (0 = 1 ∧ r84 = 40 ∧ M52 103 60 = 8)  -- K179.1.kv8
                      exact .inl ⟨rfl, kv10⟩
                  refine ⟨fun b17 => ?_, fun b17 => ?_⟩
                  · -- b17.1
                    refine k_K178 ?_
                    · show ¬ (r84 = 40 ∧ M52 103 60 = 8)  -- K178.1.kv10
                      omega
                  · -- b17.2
                    refine ⟨fun b18 => ?_, fun b18 => ?_⟩
                    · -- b18.1
                      refine k_K178 ?_
                      · show ¬ (r84 = 40 ∧ M52 103 60 = 8)  -- K178.2.kv10
                        omega
                    · -- b18.2
                      refine k_K179 _ ?_
                      · show (1 = 0 ∧ ¬ (r84 = 40 ∧ M52 103 60 = 8)) ∨ (1 = 1 ∧ r84 = 40 ∧ M52 103 60 = 8)  -- K179.2.kv8
                        exact .inr ⟨rfl, b17, b18⟩
                refine ⟨fun b19 => ?_, fun b19 => ?_⟩
                · -- b19.1
                  refine k_K158 ?_
                  · show v50 = 1 ∧ (r84 = 33 ∨ r84 = 40)  -- K158.1.kh
                    omega
                · -- b19.2
                  refine ⟨fun b20 => ?_, fun b20 => ?_⟩
                  · -- b20.1
                    refine k_K242 ?_
                    · show v50 = 0 ∨ (r84 ≠ 33 ∧ r84 ≠ 40)  -- K242.2.km
                      exact .inr ⟨b19, b20⟩
                  · -- b20.2
                    refine k_K158 ?_
                    · show v50 = 1 ∧ (r84 = 33 ∨ r84 = 40)  -- K158.2.kh
                      omega
            refine ⟨fun b21 => ?_, fun b21 => ?_⟩
            · -- b21.1
              refine k_K137 ?_
              · show M52 103 24 = 0 ∧ (v50 ≠ 0 ∨ (v50 = 0 ∧ M52 103 23 < M 103 22))  -- K137.1.kl
                exact ⟨b6, .inl b21⟩
            · -- b21.2
              refine ⟨fun b22 => ?_, fun b22 => ?_⟩
              · -- b22.1
                refine k_K423 ?_
                · show M52 103 24 ≠ 0 ∨ (M52 103 24 = 0 ∧ v50 = 0 ∧ M 103 22 ≤ M52 103 23)  -- K423.2.kq
                  have := T52.2; exact .inr ⟨b6, b21, by omega⟩
              · -- b22.2
                refine k_K137 ?_
                · show M52 103 24 = 0 ∧ (v50 ≠ 0 ∨ (v50 = 0 ∧ M52 103 23 < M 103 22))  -- K137.2.kl
                  have := T52.2; exact ⟨b6, .inr ⟨b21, by omega⟩⟩
        · -- b1.2
          have o21 : zin ((M42 103 23) + 0) := by
            omega
          refine ⟨o21, ?_⟩
          intro M236 e_M236
          have m23 : M236 103 23 = v31 := by rw [e_M236, zset_s]; omega
          have m24 : M236 103 24 = 1 := by rw [e_M236, zset_n _ (by omega)]; omega
          have f236 : ∀ c i, ¬ (c = 103 ∧ (i = 23 ∨ i = 24)) → M236 c i = M39 c i := fun c i k => by rw [e_M236, zset_n _ (by omega)]; exact f42 c i (by omega)
          refine ⟨fun v239 M241 n243 => (n243 : Int) = (2 * (200 - M241 103 23) + 1 - M241 103 24) ∧ (v239 = 0 ∨ v239 = 1) ∧ (∀ c i, ¬ mF3 c i → M241 c i = M c i) ∧ (0 ≤ M241 103 23 ∧ M241 103 23 ≤ M 103 22) ∧ (M241 103 24 = 0 ∨ M241 103 24 = 1) ∧ (-M241 103 23 ≤ M241 103 60 ∧ M241 103 60 ≤ 8) ∧ (M42 103 24 ≠ 0 → M241 103 24 ≠ 0) ∧ (M241 103 24 = 0 → ∃ V S, mRw M241 v239 V S ∧ ∀ φ, mPh M φ → gTo (mTT M) (M 103 22) φ (0, 1, 0, 2, [], []) (0, v239, M241 103 60, M241 103 23, V, S)) ∧ (M241 103 24 ≠ 0 → ∀ φ, mPh M φ → gRb (mTT M) (M 103 22) φ (M241 103 23)), ⟨Int.toNat (2 * (200 - M236 103 23) + 1 - M236 103 24), by omega, ?_, ?_, ?_, ?_, ?_, ?_, ?_, ?_⟩, ?_⟩
          · show 1 = 0 ∨ 1 = 1  -- I115#2.0.kw
            exact .inr rfl
          · show ∀ c i, ¬ mF3 c i → M236 c i = M c i  -- I115#2.0.kf
            intro c i k; rw [f236 c i (by omega)]; exact f34 c i (by omega)
          · show 0 ≤ M236 103 23 ∧ M236 103 23 ≤ M 103 22  -- I115#2.0.kp
            omega
          · show M236 103 24 = 0 ∨ M236 103 24 = 1  -- I115#2.0.k24
            omega
          · show -M236 103 23 ≤ M236 103 60 ∧ M236 103 60 ≤ 8  -- I115#2.0.kd
            rw [f236 103 60 (by omega), q60]; omega
          · show M42 103 24 ≠ 0 → M236 103 24 ≠ 0  -- I115#2.0.kc
            intro q; omega
          · show M236 103 24 = 0 → ∃ V S, mRw M236 1 V S ∧ ∀ φ, mPh M φ → gTo (mTT M) (M 103 22) φ (0, 1, 0, 2, [], []) (0, 1, M236 103 60, M236 103 23, V, S)  -- I115#2.0.kr
            intro q; omega
          · show M236 103 24 ≠ 0 → ∀ φ, mPh M φ → gRb (mTT M) (M 103 22) φ (M236 103 23)  -- I115#2.0.ke
            intro _ φ _; rw [m23]
            rcases kv with ⟨a, a2⟩ | ⟨a, a2⟩
            · exact .inr (.inl ⟨a2, by omega, by omega⟩)
            · exact .inl ⟨a2, by omega⟩
          rintro v239 M241 n243 ⟨h_n243, kw, kf, kp, k24, kd, kc, kr, ke⟩ z_v239 z_M241
          intro K423 h_K423
          have k_K423 : (M241 103 24 ≠ 0 ∨ (M241 103 24 = 0 ∧ v239 = 0 ∧ M 103 22 ≤ M241 103 23)) → K423  := by
            intro  kq
            refine h_K423 ?_
            intro K458 h_K458
            have k_K458 : ∀ (M250 : zM), (∀ c i, ¬ mF3 c i → M250 c i = M c i) → (0 ≤ M250 103 23 ∧ M250 103 23 ≤ M 103 22) → (M250 103 24 = 1 ∨ (M250 103 24 = 0 ∧ (M250 132 0 = 0 ∨ M250 132 0 = 1))) → (∀ φ, mPh M φ → (M250 103 24 = 1 ∧ gRb (mTT M) (M 103 22) φ (M250 103 23)) ∨ (M250 103 24 = 0 ∧ gRy (mTT M) (M 103 22) φ (M250 132 0))) → K458 M250 := by
              intro M250 xf xp x24 xo
              refine h_K458 _ ?_
              intro z_M250
              refine ⟨fun b23 => ?_, fun b23 => ?_⟩
              · -- b23.1
                refine hP _ _ ⟨?_, ?_, ?_, ?_, ?_⟩
                · show ∀ c i, ¬ mF3 c i → M250 c i = M c i  -- p4.hf
                  exact xf
                · show 0 = 0 ∨ 0 = 1  -- p4.hr
                  omega
                · show 0 ≤ M250 103 23 ∧ M250 103 23 ≤ M 103 22  -- p4.hp
                  exact xp
                · show (M250 103 24 = 1 ∧ 0 = 0) ∨ M250 103 24 = 0  -- p4.h24
                  omega
                · show ∀ φ, mPh M φ → (M250 103 24 = 1 ∧ gRb (mTT M) (M 103 22) φ (M250 103 23)) ∨ (M250 103 24 = 0 ∧ gRy (mTT M) (M 103 22) φ 0)  -- p4.ho
                  intro φ h; rcases xo φ h with a | a
                  · exact .inl a
                  · omega
              · -- b23.2
                refine ⟨fun b24 => ?_, fun b24 => ?_⟩
                · -- b24.1
                  refine hP _ _ ⟨?_, ?_, ?_, ?_, ?_⟩
                  · show ∀ c i, ¬ mF3 c i → M250 c i = M c i  -- p5.hf
                    exact xf
                  · show 0 = 0 ∨ 0 = 1  -- p5.hr
                    omega
                  · show 0 ≤ M250 103 23 ∧ M250 103 23 ≤ M 103 22  -- p5.hp
                    exact xp
                  · show (M250 103 24 = 1 ∧ 0 = 0) ∨ M250 103 24 = 0  -- p5.h24
                    omega
                  · show ∀ φ, mPh M φ → (M250 103 24 = 1 ∧ gRb (mTT M) (M 103 22) φ (M250 103 23)) ∨ (M250 103 24 = 0 ∧ gRy (mTT M) (M 103 22) φ 0)  -- p5.ho
                    intro φ h; rcases xo φ h with a | a
                    · omega
                    · rw [b24] at a; exact .inr a
                · -- b24.2
                  refine hP _ _ ⟨?_, ?_, ?_, ?_, ?_⟩
                  · show ∀ c i, ¬ mF3 c i → M250 c i = M c i  -- p6.hf
                    exact xf
                  · show 1 = 0 ∨ 1 = 1  -- p6.hr
                    omega
                  · show 0 ≤ M250 103 23 ∧ M250 103 23 ≤ M 103 22  -- p6.hp
                    exact xp
                  · show (M250 103 24 = 1 ∧ 1 = 0) ∨ M250 103 24 = 0  -- p6.h24
                    omega
                  · show ∀ φ, mPh M φ → (M250 103 24 = 1 ∧ gRb (mTT M) (M 103 22) φ (M250 103 23)) ∨ (M250 103 24 = 0 ∧ gRy (mTT M) (M 103 22) φ 1)  -- p6.ho
                    intro φ h; rcases xo φ h with a | a
                    · omega
                    · rw [show M250 132 0 = 1 by omega] at a; exact .inr a
            refine ⟨fun b25 => ?_, fun b25 => ?_⟩
            · -- b25.1
              refine k_K458 _ ?_ ?_ ?_ ?_
              · show ∀ c i, ¬ mF3 c i → M241 c i = M c i  -- K458.3.xf
                exact kf
              · show 0 ≤ M241 103 23 ∧ M241 103 23 ≤ M 103 22  -- K458.3.xp
                exact kp
              · show M241 103 24 = 1 ∨ (M241 103 24 = 0 ∧ (M241 132 0 = 0 ∨ M241 132 0 = 1))  -- K458.3.x24
                omega
              · show ∀ φ, mPh M φ → (M241 103 24 = 1 ∧ gRb (mTT M) (M 103 22) φ (M241 103 23)) ∨ (M241 103 24 = 0 ∧ gRy (mTT M) (M 103 22) φ (M241 132 0))  -- K458.3.xo
                intro φ h; exact .inl ⟨by omega, ke b25 φ h⟩
            · -- b25.2
              exact absurd b25 (kc b1)
          refine ⟨fun b27 => ?_, fun b27 => ?_⟩
          · -- b27.1
            refine k_K423 ?_
            · show M241 103 24 ≠ 0 ∨ (M241 103 24 = 0 ∧ v239 = 0 ∧ M 103 22 ≤ M241 103 23)  -- K423.3.kq
              exact .inl b27
          · -- b27.2
            exact absurd b27 (kc b1)
      intro K84 h_K84
      have k_K84 : ∀ (M424 : zM), (M424 = M34) → (v25 = 1 ∨ gBy (mTT M) (M 103 22) 1 ≠ 58) → K84 M424 := by
        intro M424 e424 kv4
        refine h_K84 _ ?_
        intro z_M424
        refine k_K89 _ _ ?_ ?_
        · show M424 = M34  -- K89.1.e39
          exact e424
        · show (1 = 0 ∧ v25 = 0 ∧ gBy (mTT M) (M 103 22) 1 = 58) ∨ (1 = 1 ∧ (v25 = 1 ∨ gBy (mTT M) (M 103 22) 1 ≠ 58))  -- K89.1.kv3
          exact .inr ⟨rfl, kv4⟩
      refine ⟨fun b44 => ?_, fun b44 => ?_⟩
      · -- b44.1
        refine k_K84 _ ?_ ?_
        · show M34 = M34  -- K84.1.e424
          rfl
        · show v25 = 1 ∨ gBy (mTT M) (M 103 22) 1 ≠ 58  -- K84.1.kv4
          exact .inl (by omega)
      · -- b44.2
        have gc25 : pr_X12_look M34 := by
          show mC M34
          exact C34
        refine ⟨gc25, ?_⟩
        rintro r427 M428 ⟨q_rfl, e_r427⟩ z_r427 z_M428
        have q_rfl := q_rfl.symm
        subst q_rfl
        have v0 : v25 = 0 := by omega
        rw [show mB2 M34 = gBy (mTT M) (M 103 22) 1 by unfold mB2; rw [T34.1, T34.2, k23, show v31 = 1 by omega]] at e_r427
        refine ⟨fun b45 => ?_, fun b45 => ?_⟩
        · -- b45.1
          refine k_K89 _ _ ?_ ?_
          · show M34 = M34  -- K89.2.e39
            rfl
          · show (0 = 0 ∧ v25 = 0 ∧ gBy (mTT M) (M 103 22) 1 = 58) ∨ (0 = 1 ∧ (v25 = 1 ∨ gBy (mTT M) (M 103 22) 1 ≠ 58))  -- K89.2.kv3
            exact .inl ⟨rfl, v0, by rw [← e_r427]; exact b45⟩
        · -- b45.2
          refine k_K84 _ ?_ ?_
          · show M34 = M34  -- K84.2.e424
            rfl
          · show v25 = 1 ∨ gBy (mTT M) (M 103 22) 1 ≠ 58  -- K84.2.kv4
            exact .inr (by rw [← e_r427]; exact b45)
    refine ⟨fun b46 => ?_, fun b46 => ?_⟩
    · -- b46.1
      refine k_K63 _ ?_
      · show (1 = 1 ∧ v25 = 0) ∨ (1 = 0 ∧ v25 = 1)  -- K63.1.kv2
        omega
    · -- b46.2
      refine k_K63 _ ?_
      · show (0 = 1 ∧ v25 = 0) ∨ (0 = 0 ∧ v25 = 1)  -- K63.2.kv2
        omega
  refine ⟨fun b47 => ?_, fun b47 => ?_⟩
  · -- b47.1
    refine k_K43 _ ?_
    · show (0 = 0 ∧ (65 ≤ gBy (mTT M) (M 103 22) 0 ∧ gBy (mTT M) (M 103 22) 0 ≤ 90)) ∨ (0 = 1 ∧ ¬ (65 ≤ gBy (mTT M) (M 103 22) 0 ∧ gBy (mTT M) (M 103 22) 0 ≤ 90))  -- K43.1.kv
      have := z2.ne.1 b47; omega
  · -- b47.2
    refine k_K43 _ ?_
    · show (1 = 0 ∧ (65 ≤ gBy (mTT M) (M 103 22) 0 ∧ gBy (mTT M) (M 103 22) 0 ≤ 90)) ∨ (1 = 1 ∧ ¬ (65 ≤ gBy (mTT M) (M 103 22) 0 ∧ gBy (mTT M) (M 103 22) 0 ≤ 90))  -- K43.2.kv
      have := z2.z.1 b47; omega

