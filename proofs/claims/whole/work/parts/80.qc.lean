abbrev pr_X12_breadth (a : Int) (k : Int) (M : zM) : Prop := (mI M)
abbrev po_X12_breadth (a : Int) (k : Int) (M : zM) (r : Int) (M' : zM) : Prop := (¬ (gD (M 103 1) (M 103 2) a ∧ 0 ≤ k ∧ k ≤ 1) → r = -1 ∧ mW M M') ∧ (gD (M 103 1) (M 103 2) a ∧ 0 ≤ k ∧ k ≤ 1 → mW M M' ∧ mFok M' ∧ if k = 0 then gBr (zg (M' 103 1) (M' 103 2) (M' 115)) (M' 115 a) (a % 16) (a / 16) r else zB r (gMid (zg (M' 103 1) (M' 103 2) (M' 115)) (M' 115 a) (a % 16) (a / 16)))
set_option maxHeartbeats 1000000 in
theorem ok_X12_breadth : zSnd zS 145 0 0 yX12_breadth cX12_breadth 8 (some .int) 3 [2, 0, 0] (F_X12_breadth pr_X12_breadth po_X12_breadth) := by
  refine (sn_X12_breadth ok_X12_isDot ok_X12_in ok_X12_findFaces ok_X12_radiusOf ok_X12_beside ok_X12_breadthOf).mono ?_
  rintro xs P M hz hR ⟨a, k, rfl, hI, hP⟩
  refine ⟨_, _, rfl, ?_⟩
  have z_a := zall_h (zall_t hz) (by decide)
  have z_k := zall_h (zall_t (zall_t hz)) (by decide)
  change vc_X12_breadth pr_X12_isDot po_X12_isDot pr_X12_in po_X12_in pr_X12_findFaces po_X12_findFaces pr_X12_radiusOf po_X12_radiusOf pr_X12_beside po_X12_beside pr_X12_breadthOf po_X12_breadthOf a k P M
  unfold vc_X12_breadth
  intro M1 e_M1
  have I1 : mI M1 := hI.fr (fun c i k _ => by rw [e_M1, zset_n _ (by omega)])
  have w1 : mW M M1 := fun c i k => by rw [e_M1, zset_n _ (by omega)]
  have q1 := w1 103 1 (by omega)
  have q2 := w1 103 2 (by omega)
  have d0 := hI.d
  have gc1 : pr_X12_isDot a M1 := trivial
  refine ⟨gc1, ?_⟩
  rintro r4 M5 ⟨q_rfl, e_r4⟩ z_r4 z_M5
  have q_rfl := q_rfl.symm
  subst q_rfl
  have zr := zif01 e_r4
  have dd : mDot M1 a ↔ gD (M 103 1) (M 103 2) a := by
    show gD (M1 103 1) (M1 103 2) a ↔ _
    rw [q1, q2]
  refine ⟨fun b1 => ?_, fun b1 => ?_⟩
  · -- b1.1
    refine hP _ _ ⟨?_, ?_⟩
    · show ¬ (gD (M 103 1) (M 103 2) a ∧ 0 ≤ k ∧ k ≤ 1) → (-1) = -1 ∧ mW M M1  -- p1.hn
      intro _; exact ⟨rfl, w1⟩
    · show gD (M 103 1) (M 103 2) a ∧ 0 ≤ k ∧ k ≤ 1 → mW M M1 ∧ mFok M1 ∧ if k = 0 then gBr (zg (M1 103 1) (M1 103 2) (M1 115)) (M1 115 a) (a % 16) (a / 16) (-1) else zB (-1) (gMid (zg (M1 103 1) (M1 103 2) (M1 115)) (M1 115 a) (a % 16) (a / 16))  -- p1.hy
      intro h; exact absurd (dd.2 h.1) (zr.z.1 b1)
  · -- b1.2
    have hD := dd.1 (zr.ne.1 b1)
    have gc2 : pr_X12_in k 0 1 M1 := trivial
    refine ⟨gc2, ?_⟩
    rintro r11 M12 ⟨q_rfl, e_r11⟩ z_r11 z_M12
    have q_rfl := q_rfl.symm
    subst q_rfl
    have z2 := zif01 e_r11
    refine ⟨fun b2 => ?_, fun b2 => ?_⟩
    · -- b2.1
      have hk := z2.ne.1 b2
      have gc3 : pr_X12_findFaces M1 := by
        refine ⟨?_, ?_⟩
        · show mDim M1  -- c3.hd
          exact I1.d
        · show M1 103 5 = 0 ∨ M1 103 5 = 1  -- c3.ht
          exact I1.t
      refine ⟨gc3, ?_⟩
      rintro M18 ⟨pc3_hf, pc3_hL, pc3_hn⟩ z_M18
      have e1 := pc3_hf 103 1 (by omega) (by omega) (by omega)
      have e2 := pc3_hf 103 2 (by omega) (by omega) (by omega)
      have e5 := pc3_hf 103 5 (by omega) (by omega) (by omega)
      have e104 : M18 104 = M1 104 := funext fun i => pc3_hf 104 i (by omega) (by omega) (by omega)
      have F3 : mFok M18 := by unfold mFok; rw [e1, e2, e5, e104]; exact ⟨pc3_hL, pc3_hn⟩
      have I3 := I1.face pc3_hf
      have w3 : mW M M18 := w1.tr (fun c i k => pc3_hf c i (by omega) (by omega) (by omega))
      have d3 := I3.d
      have hD3 : gD (M18 103 1) (M18 103 2) a := by rw [e1, e2, q1, q2]; exact hD
      have rg := F3.1.rng a hD3
      have zgA : zg (M18 103 1) (M18 103 2) (M18 115) (a % 16) (a / 16) = M18 115 a := zg_D hD3 (by omega)
      have o1 : ((0 : Int) ≤ a ∧ a < 192) := by
        omega
      refine ⟨o1, ?_⟩
      refine ⟨fun b3 => ?_, fun b3 => ?_⟩
      · -- b3.1
        have o2 : 0 ≤ a := by
          omega
        refine ⟨o2, ?_⟩
        have gc4 : pr_X12_radiusOf (M18 115 a) (a % 16) (a / 16) M18 := by
          refine ⟨?_, ?_, ?_, ?_⟩
          · show mDim M18  -- c4.hd
            exact d3
          · show 0 ≤ (M18 115 a)  -- c4.hf0
            omega
          · show 0 ≤ (a % 16) ∧ (a % 16) < 16  -- c4.hx
            omega
          · show 0 ≤ (a / 16) ∧ (a / 16) < 12  -- c4.hy
            omega
        refine ⟨gc4, ?_⟩
        rintro r26 M27 ⟨q_rfl, pc4_hr⟩ z_r26 z_M27
        have q_rfl := q_rfl.symm
        subst q_rfl
        refine ⟨fun v32 v33 M36 n38 => (n38 : Int) = (4 - v33) ∧ (0 ≤ v33 ∧ v33 ≤ 4) ∧ (M36 = M18) ∧ (v32 = 0 ∨ v32 = 1) ∧ (v32 = 1 ↔ ∀ d, 0 ≤ d → d < v33 → zg (M18 103 1) (M18 103 2) (M18 115) (a % 16 + zdx d) (a / 16 + zdy d) = M18 115 a → ∀ q, gRad (zg (M18 103 1) (M18 103 2) (M18 115)) (M18 115 a) (a % 16 + zdx d) (a / 16 + zdy d) q → q ≤ r26), ⟨Int.toNat (4 - 0), by omega, ?_, ?_, ?_, ?_⟩, ?_⟩
        · show 0 ≤ 0 ∧ 0 ≤ 4  -- I75.0.hv
          first | with_reducible assumption | omega | exact trivial | with_reducible rfl
        · first | with_reducible assumption | omega | exact trivial | with_reducible rfl  -- I75.0.rfl
        · show 1 = 0 ∨ 1 = 1  -- I75.0.h1
          exact .inr rfl
        · show 1 = 1 ↔ ∀ d, 0 ≤ d → d < 0 → zg (M18 103 1) (M18 103 2) (M18 115) (a % 16 + zdx d) (a / 16 + zdy d) = M18 115 a → ∀ q, gRad (zg (M18 103 1) (M18 103 2) (M18 115)) (M18 115 a) (a % 16 + zdx d) (a / 16 + zdy d) q → q ≤ r26  -- I75.0.h2
          exact ⟨fun _ d d0 d1 => by omega, fun _ => rfl⟩
        rintro v32 v33 M36 n38 ⟨h_n38, hv, q_rfl, h1, h2⟩ z_v32 z_v33 z_M36
        have q_rfl := q_rfl.symm
        subst q_rfl
        refine ⟨fun b4 => ?_, fun b4 => ?_⟩
        · -- b4.1
          have m4 := gMid4 pc4_hr
          have e4 : v33 = 4 := by omega
          rw [e4] at h2
          refine ⟨fun b5 => ?_, fun b5 => ?_⟩
          · -- b5.1
            refine hP _ _ ⟨?_, ?_⟩
            · show ¬ (gD (M 103 1) (M 103 2) a ∧ 0 ≤ k ∧ k ≤ 1) → 0 = -1 ∧ mW M M18  -- p2.hn
              intro h; exact absurd ⟨hD, hk⟩ h
            · show gD (M 103 1) (M 103 2) a ∧ 0 ≤ k ∧ k ≤ 1 → mW M M18 ∧ mFok M18 ∧ if k = 0 then gBr (zg (M18 103 1) (M18 103 2) (M18 115)) (M18 115 a) (a % 16) (a / 16) 0 else zB 0 (gMid (zg (M18 103 1) (M18 103 2) (M18 115)) (M18 115 a) (a % 16) (a / 16))  -- p2.hy
              intro _; refine ⟨w3, F3, ?_⟩; rw [if_neg b3]; exact zB.f (fun q => by have := h2.2 (m4.1 q); omega)
          · -- b5.2
            refine hP _ _ ⟨?_, ?_⟩
            · show ¬ (gD (M 103 1) (M 103 2) a ∧ 0 ≤ k ∧ k ≤ 1) → 1 = -1 ∧ mW M M18  -- p3.hn
              intro h; exact absurd ⟨hD, hk⟩ h
            · show gD (M 103 1) (M 103 2) a ∧ 0 ≤ k ∧ k ≤ 1 → mW M M18 ∧ mFok M18 ∧ if k = 0 then gBr (zg (M18 103 1) (M18 103 2) (M18 115)) (M18 115 a) (a % 16) (a / 16) 1 else zB 1 (gMid (zg (M18 103 1) (M18 103 2) (M18 115)) (M18 115 a) (a % 16) (a / 16))  -- p3.hy
              intro _; refine ⟨w3, F3, ?_⟩; rw [if_neg b3]; exact zB.t (m4.2 (h2.1 (by omega)))
        · -- b4.2
          have gc5 : pr_X12_beside a v33 M18 := by
            refine ⟨?_, ?_, ?_⟩
            · show mDim M18  -- c5.hd
              exact d3
            · show 0 ≤ a  -- c5.h0
              omega
            · show a < 192  -- c5.h1
              omega
          refine ⟨gc5, ?_⟩
          rintro r47 M48 ⟨q_rfl, e_r47⟩ z_r47 z_M48
          have q_rfl := q_rfl.symm
          subst q_rfl
          refine ⟨fun b6 => ?_, fun b6 => ?_⟩
          · -- b6.1
            have o3 : zin (v33 + 1) := by
              first | with_reducible assumption | omega | exact trivial | with_reducible rfl  -- o3
            refine ⟨o3, ?_⟩
            refine ⟨Int.toNat (4 - (v33 + 1)), by omega, by omega, ?_, ?_, ?_, ?_⟩
            · show 0 ≤ (v33 + 1) ∧ (v33 + 1) ≤ 4  -- I75.1.hv
              first | with_reducible assumption | omega | exact trivial | with_reducible rfl
            · first | with_reducible assumption | omega | exact trivial | with_reducible rfl  -- I75.1.rfl
            · show 0 = 0 ∨ 0 = 1  -- I75.1.h1
              exact .inl rfl
            · show 0 = 1 ↔ ∀ d, 0 ≤ d → d < (v33 + 1) → zg (M18 103 1) (M18 103 2) (M18 115) (a % 16 + zdx d) (a / 16 + zdy d) = M18 115 a → ∀ q, gRad (zg (M18 103 1) (M18 103 2) (M18 115)) (M18 115 a) (a % 16 + zdx d) (a / 16 + zdy d) q → q ≤ r26  -- I75.1.h2
              refine ⟨fun q => by omega, fun q => absurd (h2.2 (fun d d0 d1 => q d d0 (by omega))) (by omega)⟩
          · -- b6.2
            have h2' := h2.1 (by omega)
            have oB : ∀ x, 0 ≤ x → zg (M18 103 1) (M18 103 2) (M18 115) (a % 16 + zdx v33) (a / 16 + zdy v33) = x → 0 ≤ r47 ∧ gD (M18 103 1) (M18 103 2) r47 ∧ r47 % 16 = a % 16 + zdx v33 ∧ r47 / 16 = a / 16 + zdy v33 ∧ M18 115 r47 = x := by
              intro x x0 e
              have g := zg_ge e x0
              have y : r47 = 16 * (a / 16 + zdy v33) + (a % 16 + zdx v33) := by
                rw [e_r47]
                exact mBes_E d3 (by omega) (by omega) (by omega)
              rw [← y] at g
              exact ⟨by omega, by omega, by omega, by omega, g.2.2.2.2⟩
            refine ⟨fun b7 => ?_, fun b7 => ?_⟩
            · -- b7.1
              have o4 : zin (v33 + 1) := by
                first | with_reducible assumption | omega | exact trivial | with_reducible rfl  -- o4
              refine ⟨o4, ?_⟩
              refine ⟨Int.toNat (4 - (v33 + 1)), by omega, by omega, ?_, ?_, ?_, ?_⟩
              · show 0 ≤ (v33 + 1) ∧ (v33 + 1) ≤ 4  -- I75.2.hv
                first | with_reducible assumption | omega | exact trivial | with_reducible rfl
              · first | with_reducible assumption | omega | exact trivial | with_reducible rfl  -- I75.2.rfl
              · show 1 = 0 ∨ 1 = 1  -- I75.2.h1
                exact .inr rfl
              · show 1 = 1 ↔ ∀ d, 0 ≤ d → d < (v33 + 1) → zg (M18 103 1) (M18 103 2) (M18 115) (a % 16 + zdx d) (a / 16 + zdy d) = M18 115 a → ∀ q, gRad (zg (M18 103 1) (M18 103 2) (M18 115)) (M18 115 a) (a % 16 + zdx d) (a / 16 + zdy d) q → q ≤ r26  -- I75.2.h2
                refine ⟨fun _ d d0 d1 e q hq => ?_, fun _ => rfl⟩
                by_cases c : d = v33
                · subst c; have := (oB _ rg.1 e).1; omega
                · exact h2' d d0 (by omega) e q hq
            · -- b7.2
              have bD := mBes_D (a := a) (d := v33) d3 (by rw [← e_r47]; omega)
              rw [← e_r47] at bD
              have o5 : ((0 : Int) ≤ r47 ∧ r47 < 192) := by
                omega
              refine ⟨o5, ?_⟩
              refine ⟨fun b8 => ?_, fun b8 => ?_⟩
              · -- b8.1
                have o6 : zin (v33 + 1) := by
                  first | with_reducible assumption | omega | exact trivial | with_reducible rfl  -- o6
                refine ⟨o6, ?_⟩
                refine ⟨Int.toNat (4 - (v33 + 1)), by omega, by omega, ?_, ?_, ?_, ?_⟩
                · show 0 ≤ (v33 + 1) ∧ (v33 + 1) ≤ 4  -- I75.3.hv
                  first | with_reducible assumption | omega | exact trivial | with_reducible rfl
                · first | with_reducible assumption | omega | exact trivial | with_reducible rfl  -- I75.3.rfl
                · show 1 = 0 ∨ 1 = 1  -- I75.3.h1
                  exact .inr rfl
                · show 1 = 1 ↔ ∀ d, 0 ≤ d → d < (v33 + 1) → zg (M18 103 1) (M18 103 2) (M18 115) (a % 16 + zdx d) (a / 16 + zdy d) = M18 115 a → ∀ q, gRad (zg (M18 103 1) (M18 103 2) (M18 115)) (M18 115 a) (a % 16 + zdx d) (a / 16 + zdy d) q → q ≤ r26  -- I75.3.h2
                  refine ⟨fun _ d d0 d1 e q hq => ?_, fun _ => rfl⟩
                  by_cases c : d = v33
                  · subst c; exact absurd (oB _ rg.1 e).2.2.2.2 b8
                  · exact h2' d d0 (by omega) e q hq
              · -- b8.2
                have o7 : 0 ≤ r47 := by
                  omega
                refine ⟨o7, ?_⟩
                have gc6 : pr_X12_radiusOf (M18 115 a) (r47 % 16) (r47 / 16) M18 := by
                  refine ⟨?_, ?_, ?_, ?_⟩
                  · show mDim M18  -- c6.hd
                    exact d3
                  · show 0 ≤ (M18 115 a)  -- c6.hf0
                    omega
                  · show 0 ≤ (r47 % 16) ∧ (r47 % 16) < 16  -- c6.hx
                    omega
                  · show 0 ≤ (r47 / 16) ∧ (r47 / 16) < 12  -- c6.hy
                    omega
                refine ⟨gc6, ?_⟩
                rintro r70 M71 ⟨q_rfl, pc6_hr⟩ z_r70 z_M71
                have q_rfl := q_rfl.symm
                subst q_rfl
                have zgB : zg (M18 103 1) (M18 103 2) (M18 115) (a % 16 + zdx v33) (a / 16 + zdy v33) = M18 115 a := by
                  rw [← bD.2.1, ← bD.2.2, zg_D bD.1 (by omega)]; exact b8
                have hq6 := pc6_hr
                rw [bD.2.1, bD.2.2] at hq6
                refine ⟨fun b9 => ?_, fun b9 => ?_⟩
                · -- b9.1
                  have o8 : zin (v33 + 1) := by
                    first | with_reducible assumption | omega | exact trivial | with_reducible rfl  -- o8
                  refine ⟨o8, ?_⟩
                  refine ⟨Int.toNat (4 - (v33 + 1)), by omega, by omega, ?_, ?_, ?_, ?_⟩
                  · show 0 ≤ (v33 + 1) ∧ (v33 + 1) ≤ 4  -- I75.4.hv
                    first | with_reducible assumption | omega | exact trivial | with_reducible rfl
                  · first | with_reducible assumption | omega | exact trivial | with_reducible rfl  -- I75.4.rfl
                  · show 0 = 0 ∨ 0 = 1  -- I75.4.h1
                    exact .inl rfl
                  · show 0 = 1 ↔ ∀ d, 0 ≤ d → d < (v33 + 1) → zg (M18 103 1) (M18 103 2) (M18 115) (a % 16 + zdx d) (a / 16 + zdy d) = M18 115 a → ∀ q, gRad (zg (M18 103 1) (M18 103 2) (M18 115)) (M18 115 a) (a % 16 + zdx d) (a / 16 + zdy d) q → q ≤ r26  -- I75.4.h2
                    refine ⟨fun q => by omega, fun q => ?_⟩
                    have := q v33 hv.1 (by omega) zgB r70 hq6
                    omega
                · -- b9.2
                  have o9 : zin (v33 + 1) := by
                    first | with_reducible assumption | omega | exact trivial | with_reducible rfl  -- o9
                  refine ⟨o9, ?_⟩
                  refine ⟨Int.toNat (4 - (v33 + 1)), by omega, by omega, ?_, ?_, ?_, ?_⟩
                  · show 0 ≤ (v33 + 1) ∧ (v33 + 1) ≤ 4  -- I75.5.hv
                    first | with_reducible assumption | omega | exact trivial | with_reducible rfl
                  · first | with_reducible assumption | omega | exact trivial | with_reducible rfl  -- I75.5.rfl
                  · show 1 = 0 ∨ 1 = 1  -- I75.5.h1
                    exact .inr rfl
                  · show 1 = 1 ↔ ∀ d, 0 ≤ d → d < (v33 + 1) → zg (M18 103 1) (M18 103 2) (M18 115) (a % 16 + zdx d) (a / 16 + zdy d) = M18 115 a → ∀ q, gRad (zg (M18 103 1) (M18 103 2) (M18 115)) (M18 115 a) (a % 16 + zdx d) (a / 16 + zdy d) q → q ≤ r26  -- I75.5.h2
                    refine ⟨fun _ d d0 d1 e q hq => ?_, fun _ => rfl⟩
                    by_cases c : d = v33
                    · subst c; have := hq.uq hq6; omega
                    · exact h2' d d0 (by omega) e q hq
      · -- b3.2
        have o10 : 0 ≤ a := by
          omega
        refine ⟨o10, ?_⟩
        have gc7 : pr_X12_breadthOf (M18 115 a) (a % 16) (a / 16) M18 := by
          refine ⟨?_, ?_, ?_, ?_, ?_⟩
          · show mDim M18  -- c7.hd
            exact d3
          · show 0 ≤ (M18 115 a)  -- c7.hf0
            omega
          · show 0 ≤ (a % 16) ∧ (a % 16) < 16  -- c7.hx
            omega
          · show 0 ≤ (a / 16) ∧ (a / 16) < 12  -- c7.hy
            omega
          · show zg (M18 103 1) (M18 103 2) (M18 115) (a % 16) (a / 16) = (M18 115 a)  -- c7.hin
            exact zgA
        refine ⟨gc7, ?_⟩
        rintro r86 M87 ⟨q_rfl, pc7_hr⟩ z_r86 z_M87
        have q_rfl := q_rfl.symm
        subst q_rfl
        refine hP _ _ ⟨?_, ?_⟩
        · show ¬ (gD (M 103 1) (M 103 2) a ∧ 0 ≤ k ∧ k ≤ 1) → r86 = -1 ∧ mW M M18  -- p4.hn
          intro h; exact absurd ⟨hD, hk⟩ h
        · show gD (M 103 1) (M 103 2) a ∧ 0 ≤ k ∧ k ≤ 1 → mW M M18 ∧ mFok M18 ∧ if k = 0 then gBr (zg (M18 103 1) (M18 103 2) (M18 115)) (M18 115 a) (a % 16) (a / 16) r86 else zB r86 (gMid (zg (M18 103 1) (M18 103 2) (M18 115)) (M18 115 a) (a % 16) (a / 16))  -- p4.hy
          intro _; refine ⟨w3, F3, ?_⟩; rw [if_pos b3]; exact pc7_hr
    · -- b2.2
      refine hP _ _ ⟨?_, ?_⟩
      · show ¬ (gD (M 103 1) (M 103 2) a ∧ 0 ≤ k ∧ k ≤ 1) → (-1) = -1 ∧ mW M M1  -- p5.hn
        intro _; exact ⟨rfl, w1⟩
      · show gD (M 103 1) (M 103 2) a ∧ 0 ≤ k ∧ k ≤ 1 → mW M M1 ∧ mFok M1 ∧ if k = 0 then gBr (zg (M1 103 1) (M1 103 2) (M1 115)) (M1 115 a) (a % 16) (a / 16) (-1) else zB (-1) (gMid (zg (M1 103 1) (M1 103 2) (M1 115)) (M1 115 a) (a % 16) (a / 16))  -- p5.hy
        intro h; exact absurd h.2 (z2.z.1 b2)

abbrev pr_X12_stroke (f : Int) (n : Int) (M : zM) : Prop := (mI M)
abbrev po_X12_stroke (f : Int) (n : Int) (M : zM) (r : Int) (M' : zM) : Prop := (mW M M') ∧ (mFok M') ∧ (qI ((0 ≤ f ∧ f < M' 103 30) ∧ 1 ≤ n ∧ n ≤ 16) (qStk (M' 103 1) (M' 103 2) (M' 115) f n r) r)
set_option maxHeartbeats 1000000 in
theorem ok_X12_stroke : zSnd zS 145 0 0 yX12_stroke cX12_stroke 4 (some .int) 4 [2, 0, 0] (F_X12_stroke pr_X12_stroke po_X12_stroke) := by
  refine (sn_X12_stroke ok_X12_isFace ok_X12_in ok_X12_greatestOf ok_X12_findBox).mono ?_
  rintro xs P M hz hR ⟨f, n, rfl, hI, hP⟩
  refine ⟨_, _, rfl, ?_⟩
  have z_f := zall_h (zall_t hz) (by decide)
  have z_n := zall_h (zall_t (zall_t hz)) (by decide)
  change vc_X12_stroke pr_X12_isFace po_X12_isFace pr_X12_in po_X12_in pr_X12_greatestOf po_X12_greatestOf pr_X12_findBox po_X12_findBox f n P M
  unfold vc_X12_stroke
  intro M1 e_M1
  have I1 : mI M1 := hI.fr (fun c i k _ => by rw [e_M1, zset_n _ (by omega)])
  have w1 : mW M M1 := fun c i k => by rw [e_M1, zset_n _ (by omega)]
  have gc1 : pr_X12_isFace f M1 := by
    show mI M1
    exact I1
  refine ⟨gc1, ?_⟩
  rintro r4 M5 ⟨pc1_hf, pc1_hF, pc1_hr⟩ z_r4 z_M5
  have I2 := I1.face pc1_hf
  have w2 : mW M M5 := w1.tr (fun c i k => pc1_hf c i (by omega) (by omega) (by omega))
  refine ⟨fun b1 => ?_, fun b1 => ?_⟩
  · -- b1.1
    refine hP _ _ ⟨?_, ?_, ?_⟩
    · show mW M M5  -- p1.hw
      exact w2
    · show mFok M5  -- p1.hF
      exact pc1_hF
    · show qI ((0 ≤ f ∧ f < M5 103 30) ∧ 1 ≤ n ∧ n ≤ 16) (qStk (M5 103 1) (M5 103 2) (M5 115) f n (-1)) (-1)  -- p1.hr
      exact qI.n (fun k => pc1_hr.z.1 b1 k.1)
  · -- b1.2
    have ha := pc1_hr.ne.1 b1
    have gc2 : pr_X12_in n 1 16 M5 := trivial
    refine ⟨gc2, ?_⟩
    rintro r11 M12 ⟨q_rfl, e_r11⟩ z_r11 z_M12
    have q_rfl := q_rfl.symm
    subst q_rfl
    have z2 := zif01 e_r11
    refine ⟨fun b2 => ?_, fun b2 => ?_⟩
    · -- b2.1
      have hk := z2.ne.1 b2
      have gc3 : pr_X12_greatestOf f M5 := by
        refine ⟨?_, ?_⟩
        · show mDim M5  -- c3.hd
          exact I2.d
        · show 0 ≤ f  -- c3.hf0
          omega
      refine ⟨gc3, ?_⟩
      rintro r18 M19 ⟨q_rfl, pc3_hr, pc3_hb⟩ z_r18 z_M19
      have q_rfl := q_rfl.symm
      subst q_rfl
      have gc4 : pr_X12_findBox f M5 := by
        show ∃ k, 0 ≤ k ∧ k < 192 ∧ M5 115 k = f
        exact pc1_hF.ex I2.d ha
      refine ⟨gc4, ?_⟩
      rintro M24 ⟨pc4_hf, pc4_hb⟩ z_M24
      have B := pc1_hF.bxm I2.d ha pc4_hb
      have u := mVe.of (M := M5) (M' := M24) (fun c i k => pc4_hf c i (by omega))
      have F3 := pc1_hF.ve u
      have w3 : mW M M24 := w2.tr (fun c i k => pc4_hf c i (by omega))
      obtain ⟨v0, v1, v2, v3, v4, v5, v6⟩ := u
      refine ⟨fun b3 => ?_, fun b3 => ?_⟩
      · -- b3.1
        refine hP _ _ ⟨?_, ?_, ?_⟩
        · show mW M M24  -- p2.hw
          exact w3
        · show mFok M24  -- p2.hF
          exact F3
        · show qI ((0 ≤ f ∧ f < M24 103 30) ∧ 1 ≤ n ∧ n ≤ 16) (qStk (M24 103 1) (M24 103 2) (M24 115) f n 0) 0  -- p2.hr
          simp only [v0, v1, v4, v6]; exact qI.y ⟨ha, hk⟩ ⟨_, _, _, _, _, pc3_hr, B, zB.f (fun q => by omega)⟩
      · -- b3.2
        have o1 : zin (2 * r18) := by
          omega
        refine ⟨o1, ?_⟩
        refine ⟨fun b4 => ?_, fun b4 => ?_⟩
        · -- b4.1
          refine hP _ _ ⟨?_, ?_, ?_⟩
          · show mW M M24  -- p3.hw
            exact w3
          · show mFok M24  -- p3.hF
            exact F3
          · show qI ((0 ≤ f ∧ f < M24 103 30) ∧ 1 ≤ n ∧ n ≤ 16) (qStk (M24 103 1) (M24 103 2) (M24 115) f n 1) 1  -- p3.hr
            simp only [v0, v1, v4, v6]; exact qI.y ⟨ha, hk⟩ ⟨_, _, _, _, _, pc3_hr, B, zB.t (by omega)⟩
        · -- b4.2
          refine ⟨fun b5 => ?_, fun b5 => ?_⟩
          · -- b5.1
            refine hP _ _ ⟨?_, ?_, ?_⟩
            · show mW M M24  -- p4.hw
              exact w3
            · show mFok M24  -- p4.hF
              exact F3
            · show qI ((0 ≤ f ∧ f < M24 103 30) ∧ 1 ≤ n ∧ n ≤ 16) (qStk (M24 103 1) (M24 103 2) (M24 115) f n 0) 0  -- p4.hr
              simp only [v0, v1, v4, v6]; exact qI.y ⟨ha, hk⟩ ⟨_, _, _, _, _, pc3_hr, B, zB.f (fun q => by omega)⟩
          · -- b5.2
            refine hP _ _ ⟨?_, ?_, ?_⟩
            · show mW M M24  -- p5.hw
              exact w3
            · show mFok M24  -- p5.hF
              exact F3
            · show qI ((0 ≤ f ∧ f < M24 103 30) ∧ 1 ≤ n ∧ n ≤ 16) (qStk (M24 103 1) (M24 103 2) (M24 115) f n 1) 1  -- p5.hr
              simp only [v0, v1, v4, v6]; exact qI.y ⟨ha, hk⟩ ⟨_, _, _, _, _, pc3_hr, B, zB.t (by omega)⟩
    · -- b2.2
      refine hP _ _ ⟨?_, ?_, ?_⟩
      · show mW M M5  -- p6.hw
        exact w2
      · show mFok M5  -- p6.hF
        exact pc1_hF
      · show qI ((0 ≤ f ∧ f < M5 103 30) ∧ 1 ≤ n ∧ n ≤ 16) (qStk (M5 103 1) (M5 103 2) (M5 115) f n (-1)) (-1)  -- p6.hr
        exact qI.n (fun k => z2.z.1 b2 k.2)

abbrev pr_X12_like (a : Int) (b : Int) (M : zM) : Prop := (mI M)
abbrev po_X12_like (a : Int) (b : Int) (M : zM) (r : Int) (M' : zM) : Prop := (mW M M') ∧ (mFok M') ∧ (qI ((0 ≤ a ∧ a < M' 103 30) ∧ (0 ≤ b ∧ b < M' 103 30)) (zB r (gLk (M' 103 1) (M' 103 2) (M' 115) a b)) r)
set_option maxHeartbeats 1000000 in
theorem ok_X12_like : zSnd zS 145 0 0 yX12_like cX12_like 3 (some .int) 4 [2, 0, 0] (F_X12_like pr_X12_like po_X12_like) := by
  refine (sn_X12_like ok_X12_isFace ok_X12_areLike).mono ?_
  rintro xs P M hz hR ⟨a, b, rfl, hI, hP⟩
  refine ⟨_, _, rfl, ?_⟩
  have z_a := zall_h (zall_t hz) (by decide)
  have z_b := zall_h (zall_t (zall_t hz)) (by decide)
  change vc_X12_like pr_X12_isFace po_X12_isFace pr_X12_areLike po_X12_areLike a b P M
  unfold vc_X12_like
  intro M1 e_M1
  have I1 : mI M1 := hI.fr (fun c i k _ => by rw [e_M1, zset_n _ (by omega)])
  have w1 : mW M M1 := fun c i k => by rw [e_M1, zset_n _ (by omega)]
  have gc1 : pr_X12_isFace a M1 := by
    show mI M1
    exact I1
  refine ⟨gc1, ?_⟩
  rintro r4 M5 ⟨pc1_hf, pc1_hF, pc1_hr⟩ z_r4 z_M5
  have I2 := I1.face pc1_hf
  have w2 : mW M M5 := w1.tr (fun c i k => pc1_hf c i (by omega) (by omega) (by omega))
  refine ⟨fun b1 => ?_, fun b1 => ?_⟩
  · -- b1.1
    refine hP _ _ ⟨?_, ?_, ?_⟩
    · show mW M M5  -- p1.hw
      exact w2
    · show mFok M5  -- p1.hF
      exact pc1_hF
    · show qI ((0 ≤ a ∧ a < M5 103 30) ∧ (0 ≤ b ∧ b < M5 103 30)) (zB (-1) (gLk (M5 103 1) (M5 103 2) (M5 115) a b)) (-1)  -- p1.hr
      exact qI.n (fun k => pc1_hr.z.1 b1 k.1)
  · -- b1.2
    have ha0 := pc1_hr.ne.1 b1
    have gc2 : pr_X12_isFace b M5 := by
      show mI M5
      exact I2
    refine ⟨gc2, ?_⟩
    rintro r11 M12 ⟨pc2_hf, pc2_hF, pc2_hr⟩ z_r11 z_M12
    have I3 := I2.face pc2_hf
    have w3 : mW M M12 := w2.tr (fun c i k => pc2_hf c i (by omega) (by omega) (by omega))
    have nn := pc1_hF.nn pc2_hF pc2_hf
    have ha : 0 ≤ a ∧ a < M12 103 30 := by omega
    refine ⟨fun b2 => ?_, fun b2 => ?_⟩
    · -- b2.1
      have hb' := pc2_hr.ne.1 b2
      have gc3 : pr_X12_areLike a b M12 := by
        refine ⟨?_, ?_, ?_, ?_⟩
        · show mDim M12  -- c3.hd
          exact I3.d
        · show mFok M12  -- c3.hF
          exact pc2_hF
        · show 0 ≤ a ∧ a < M12 103 30  -- c3.ha
          exact ha
        · show 0 ≤ b ∧ b < M12 103 30  -- c3.hb0
          exact hb'
      refine ⟨gc3, ?_⟩
      rintro r18 M19 ⟨pc3_hf, pc3_hr⟩ z_r18 z_M19
      have u := mVe.of (M := M12) (M' := M19) (fun c i k => pc3_hf c i (by omega))
      have F4 := pc2_hF.ve u
      have w4 : mW M M19 := w3.tr (fun c i k => pc3_hf c i (by omega))
      obtain ⟨v0, v1, v2, v3, v4, v5, v6⟩ := u
      refine ⟨fun b3 => ?_, fun b3 => ?_⟩
      · -- b3.1
        refine hP _ _ ⟨?_, ?_, ?_⟩
        · show mW M M19  -- p2.hw
          exact w4
        · show mFok M19  -- p2.hF
          exact F4
        · show qI ((0 ≤ a ∧ a < M19 103 30) ∧ (0 ≤ b ∧ b < M19 103 30)) (zB 0 (gLk (M19 103 1) (M19 103 2) (M19 115) a b)) 0  -- p2.hr
          rw [v0, v1, v4, v6]; exact qI.y ⟨ha, hb'⟩ (zB.f (pc3_hr.z.1 b3))
      · -- b3.2
        refine hP _ _ ⟨?_, ?_, ?_⟩
        · show mW M M19  -- p3.hw
          exact w4
        · show mFok M19  -- p3.hF
          exact F4
        · show qI ((0 ≤ a ∧ a < M19 103 30) ∧ (0 ≤ b ∧ b < M19 103 30)) (zB 1 (gLk (M19 103 1) (M19 103 2) (M19 115) a b)) 1  -- p3.hr
          rw [v0, v1, v4, v6]; exact qI.y ⟨ha, hb'⟩ (zB.t (pc3_hr.ne.1 b3))
    · -- b2.2
      refine hP _ _ ⟨?_, ?_, ?_⟩
      · show mW M M12  -- p4.hw
        exact w3
      · show mFok M12  -- p4.hF
        exact pc2_hF
      · show qI ((0 ≤ a ∧ a < M12 103 30) ∧ (0 ≤ b ∧ b < M12 103 30)) (zB (-1) (gLk (M12 103 1) (M12 103 2) (M12 115) a b)) (-1)  -- p4.hr
        exact qI.n (fun k => pc2_hr.z.1 b2 k.2)

abbrev pr_X12_leader (f : Int) (M : zM) : Prop := (mI M)
abbrev po_X12_leader (f : Int) (M : zM) (r : Int) (M' : zM) : Prop := (mW M M') ∧ (mFok M') ∧ (qI (0 ≤ f ∧ f < M' 103 30) (gLd (M' 103 1) (M' 103 2) (M' 115) f r) r)
set_option maxHeartbeats 1000000 in
theorem ok_X12_leader : zSnd zS 145 0 0 yX12_leader cX12_leader 2 (some .int) 4 [2, 0] (F_X12_leader pr_X12_leader po_X12_leader) := by
  refine (sn_X12_leader ok_X12_isFace ok_X12_leaderOf).mono ?_
  rintro xs P M hz hR ⟨f, rfl, hI, hP⟩
  refine ⟨_, rfl, ?_⟩
  have z_f := zall_h (zall_t hz) (by decide)
  change vc_X12_leader pr_X12_isFace po_X12_isFace pr_X12_leaderOf po_X12_leaderOf f P M
  unfold vc_X12_leader
  intro M1 e_M1
  have I1 : mI M1 := hI.fr (fun c i k _ => by rw [e_M1, zset_n _ (by omega)])
  have w1 : mW M M1 := fun c i k => by rw [e_M1, zset_n _ (by omega)]
  have gc1 : pr_X12_isFace f M1 := by
    show mI M1
    exact I1
  refine ⟨gc1, ?_⟩
  rintro r4 M5 ⟨pc1_hf, pc1_hF, pc1_hr⟩ z_r4 z_M5
  have I2 := I1.face pc1_hf
  have w2 : mW M M5 := w1.tr (fun c i k => pc1_hf c i (by omega) (by omega) (by omega))
  refine ⟨fun b1 => ?_, fun b1 => ?_⟩
  · -- b1.1
    refine hP _ _ ⟨?_, ?_, ?_⟩
    · show mW M M5  -- p1.hw
      exact w2
    · show mFok M5  -- p1.hF
      exact pc1_hF
    · show qI (0 ≤ f ∧ f < M5 103 30) (gLd (M5 103 1) (M5 103 2) (M5 115) f (-1)) (-1)  -- p1.hr
      exact qI.n (fun k => pc1_hr.z.1 b1 k)
  · -- b1.2
    have ha := pc1_hr.ne.1 b1
    have gc2 : pr_X12_leaderOf f M5 := by
      refine ⟨?_, ?_, ?_⟩
      · show mDim M5  -- c2.hd
        exact I2.d
      · show mFok M5  -- c2.hF
        exact pc1_hF
      · show 0 ≤ f ∧ f < M5 103 30  -- c2.ha
        exact ha
    refine ⟨gc2, ?_⟩
    rintro r11 M12 ⟨pc2_hf, pc2_hr⟩ z_r11 z_M12
    have u := mVe.of (M := M5) (M' := M12) (fun c i k => pc2_hf c i (by omega))
    have F4 := pc1_hF.ve u
    have w4 : mW M M12 := w2.tr (fun c i k => pc2_hf c i (by omega))
    obtain ⟨v0, v1, v2, v3, v4, v5, v6⟩ := u
    refine hP _ _ ⟨?_, ?_, ?_⟩
    · show mW M M12  -- p2.hw
      exact w4
    · show mFok M12  -- p2.hF
      exact F4
    · show qI (0 ≤ f ∧ f < M12 103 30) (gLd (M12 103 1) (M12 103 2) (M12 115) f r11) r11  -- p2.hr
      rw [v0, v1, v4, v6]; exact qI.y ha pc2_hr

abbrev pr_X12_butFor (a : Int) (b : Int) (M : zM) : Prop := (mI M)
abbrev po_X12_butFor (a : Int) (b : Int) (M : zM) (r : Int) (M' : zM) : Prop := (mW M M') ∧ (mFok M') ∧ (qI ((0 ≤ a ∧ a < M' 103 30) ∧ (0 ≤ b ∧ b < M' 103 30)) (qBut (M' 103 1) (M' 103 2) (M' 115) a b r) r)
set_option maxHeartbeats 2000000 in
theorem ok_X12_butFor : zSnd zS 145 0 0 yX12_butFor cX12_butFor 10 (some .int) 4 [2, 0, 0] (F_X12_butFor pr_X12_butFor po_X12_butFor) := by
  refine (sn_X12_butFor ok_X12_isFace ok_X12_findBox ok_X12_isOf).mono ?_
  rintro xs P M hz hR ⟨a, b, rfl, hI, hP⟩
  refine ⟨_, _, rfl, ?_⟩
  have z_a := zall_h (zall_t hz) (by decide)
  have z_b := zall_h (zall_t (zall_t hz)) (by decide)
  change vc_X12_butFor pr_X12_isFace po_X12_isFace pr_X12_findBox po_X12_findBox pr_X12_isOf po_X12_isOf a b P M
  unfold vc_X12_butFor
  intro M1 e_M1
  have I1 : mI M1 := hI.fr (fun c i k _ => by rw [e_M1, zset_n _ (by omega)])
  have w1 : mW M M1 := fun c i k => by rw [e_M1, zset_n _ (by omega)]
  have gc1 : pr_X12_isFace a M1 := by
    show mI M1
    exact I1
  refine ⟨gc1, ?_⟩
  rintro r4 M5 ⟨pc1_hf, pc1_hF, pc1_hr⟩ z_r4 z_M5
  have I2 := I1.face pc1_hf
  have w2 : mW M M5 := w1.tr (fun c i k => pc1_hf c i (by omega) (by omega) (by omega))
  refine ⟨fun b1 => ?_, fun b1 => ?_⟩
  · -- b1.1
    refine hP _ _ ⟨?_, ?_, ?_⟩
    · show mW M M5  -- p1.hw
      exact w2
    · show mFok M5  -- p1.hF
      exact pc1_hF
    · show qI ((0 ≤ a ∧ a < M5 103 30) ∧ (0 ≤ b ∧ b < M5 103 30)) (qBut (M5 103 1) (M5 103 2) (M5 115) a b (-1)) (-1)  -- p1.hr
      exact qI.n (fun k => pc1_hr.z.1 b1 k.1)
  · -- b1.2
    have ha0 := pc1_hr.ne.1 b1
    have gc2 : pr_X12_isFace b M5 := by
      show mI M5
      exact I2
    refine ⟨gc2, ?_⟩
    rintro r11 M12 ⟨pc2_hf, pc2_hF, pc2_hr⟩ z_r11 z_M12
    have I3 := I2.face pc2_hf
    have w3 : mW M M12 := w2.tr (fun c i k => pc2_hf c i (by omega) (by omega) (by omega))
    have nn := pc1_hF.nn pc2_hF pc2_hf
    have ha : 0 ≤ a ∧ a < M12 103 30 := by omega
    have d3 := I3.d
    refine ⟨fun b2 => ?_, fun b2 => ?_⟩
    · -- b2.1
      have hb' := pc2_hr.ne.1 b2
      have gc3 : pr_X12_findBox b M12 := by
        show ∃ k, 0 ≤ k ∧ k < 192 ∧ M12 115 k = b
        exact pc2_hF.ex I3.d hb'
      refine ⟨gc3, ?_⟩
      rintro M18 ⟨pc3_hf, pc3_hb⟩ z_M18
      have u := mVe.of (M := M12) (M' := M18) (fun c i k => pc3_hf c i (by omega))
      have F4 := pc2_hF.ve u
      have w4 : mW M M18 := w3.tr (fun c i k => pc3_hf c i (by omega))
      have I4 : mI M18 := I3.fr (fun c i k _ => pc3_hf c i (by omega))
      have Bb0 := pc2_hF.bxm I3.d hb' pc3_hb
      obtain ⟨v0, v1, v2, v3, v4, v5, v6⟩ := u
      have gc4 : pr_X12_findBox a M18 := by
        show ∃ k, 0 ≤ k ∧ k < 192 ∧ M18 115 k = a
        exact F4.ex I4.d (by omega)
      refine ⟨gc4, ?_⟩
      rintro M23 ⟨pc4_hf, pc4_hb⟩ z_M23
      have u := mVe.of (M := M18) (M' := M23) (fun c i k => pc4_hf c i (by omega))
      have F5 := F4.ve u
      have w5 : mW M M23 := w4.tr (fun c i k => pc4_hf c i (by omega))
      have I5 : mI M23 := I4.fr (fun c i k _ => pc4_hf c i (by omega))
      have Ba := F4.bxm I4.d (show 0 ≤ a ∧ a < M18 103 30 by omega) pc4_hb
      obtain ⟨u0, u1, u2, u3, u4, u5, u6⟩ := u
      have Bb := Bb0
      rw [← v0, ← v1, ← v4, ← u0, ← u1, ← u4] at Bb
      rw [← u0, ← u1, ← u4] at Ba
      have d5 := I5.d
      have na : 0 ≤ a := ha.1
      have nb : 0 ≤ b := hb'.1
      have ra : (0 ≤ M23 103 32 ∧ M23 103 32 < 16) ∧ (0 ≤ M23 103 33 ∧ M23 103 33 < 12) ∧ (M23 103 34 ≤ 16 ∧ M23 103 35 ≤ 12) := by
        obtain ⟨_, ⟨a1, da1, _, a1e⟩, ⟨a2, da2, _, a2e⟩, ⟨a3, da3, _, a3e⟩, ⟨a4, da4, _, a4e⟩⟩ := Ba
        omega
      have rb : (0 ≤ M18 103 32 ∧ M18 103 32 < 16) ∧ (0 ≤ M18 103 33 ∧ M18 103 33 < 12) ∧ (0 < M18 103 34 + M18 103 32 ∧ M18 103 34 ≤ 16 ∧ M18 103 35 ≤ 12) := by
        obtain ⟨_, ⟨a1, da1, _, a1e⟩, ⟨a2, da2, _, a2e⟩, ⟨a3, da3, _, a3e⟩, ⟨a4, da4, _, a4e⟩⟩ := Bb
        omega
      have E : qBut (M23 103 1) (M23 103 2) (M23 115) a b (gDf (zg (M23 103 1) (M23 103 2) (M23 115)) a b (M23 103 32) (M23 103 33) (M23 103 34) (M23 103 35) (M18 103 32) (M18 103 33) (M18 103 34) (M18 103 35)) := ⟨_, _, _, _, _, _, _, _, Ba, Bb, by
        rw [show M23 103 32 + M23 103 34 - 1 - M23 103 32 + 1 = M23 103 34 by omega, show M23 103 33 + M23 103 35 - 1 - M23 103 33 + 1 = M23 103 35 by omega, show M18 103 32 + M18 103 34 - 1 - M18 103 32 + 1 = M18 103 34 by omega, show M18 103 33 + M18 103 35 - 1 - M18 103 33 + 1 = M18 103 35 by omega]⟩
      refine ⟨fun b3 => ?_, fun b3 => ?_⟩
      · -- b3.1
        refine hP _ _ ⟨?_, ?_, ?_⟩
        · show mW M M23  -- p2.hw
          exact w5
        · show mFok M23  -- p2.hF
          exact F5
        · show qI ((0 ≤ a ∧ a < M23 103 30) ∧ (0 ≤ b ∧ b < M23 103 30)) (qBut (M23 103 1) (M23 103 2) (M23 115) a b (-4)) (-4)  -- p2.hr
          have := E; unfold gDf at this; rw [if_neg (by omega)] at this; exact qI.y ⟨by omega, by omega⟩ this
      · -- b3.2
        refine ⟨fun b4 => ?_, fun b4 => ?_⟩
        · -- b4.1
          unfold gDf at E
          rw [if_pos (by omega)] at E
          generalize hp : (fun k => k % 16 < M23 103 34 ∧ k / 16 < M23 103 35 ∧ ¬ (zg (M23 103 1) (M23 103 2) (M23 115) (M23 103 32 + k % 16) (M23 103 33 + k / 16) = a ↔ zg (M23 103 1) (M23 103 2) (M23 115) (M18 103 32 + k % 16) (M18 103 33 + k / 16) = b)) = p at E
          refine ⟨fun v30 v31 M34 n36 => (n36 : Int) = (20 - v31) ∧ (0 ≤ v31 ∧ (v31 ≤ M18 103 35 ∨ v31 = 0)) ∧ (M34 = M23) ∧ (v30 = zc p (16 * v31)), ⟨Int.toNat (20 - 0), by omega, ?_, ?_, ?_⟩, ?_⟩
          · show 0 ≤ 0 ∧ (0 ≤ M18 103 35 ∨ 0 = 0)  -- I83.0.hv
            first | with_reducible assumption | omega | exact trivial | with_reducible rfl
          · first | with_reducible assumption | omega | exact trivial | with_reducible rfl  -- I83.0.rfl
          · show 0 = zc p (16 * 0)  -- I83.0.h1
            rfl
          rintro v30 v31 M34 n36 ⟨h_n36, hv, q_rfl, h1⟩ z_v30 z_v31 z_M34
          have q_rfl := q_rfl.symm
          subst q_rfl
          have u := zc_b p (16 * v31) (by omega)
          refine ⟨fun b5 => ?_, fun b5 => ?_⟩
          · -- b5.1
            refine hP _ _ ⟨?_, ?_, ?_⟩
            · show mW M M23  -- p3.hw
              exact w5
            · show mFok M23  -- p3.hF
              exact F5
            · show qI ((0 ≤ a ∧ a < M23 103 30) ∧ (0 ≤ b ∧ b < M23 103 30)) (qBut (M23 103 1) (M23 103 2) (M23 115) a b v30) v30  -- p3.hr
              have e : v30 = zc p 192 := by
                rw [h1]
                refine (zc_skip (by omega) 192 (by omega) (fun i i0 i1 q => ?_)).symm
                rw [← hp] at q
                have := q.2.1
                omega
              rw [e]; exact qI.y ⟨by omega, by omega⟩ E
          · -- b5.2
            refine ⟨fun v44 v45 M48 n50 => (n50 : Int) = (20 - v45) ∧ (0 ≤ v45 ∧ (v45 ≤ M18 103 34 ∨ v45 = 0)) ∧ (M48 = M23) ∧ (v44 = zc p (16 * v31 + v45)), ⟨Int.toNat (20 - 0), by omega, ?_, ?_, ?_⟩, ?_⟩
            · show 0 ≤ 0 ∧ (0 ≤ M18 103 34 ∨ 0 = 0)  -- I93.0.hv2
              first | with_reducible assumption | omega | exact trivial | with_reducible rfl
            · first | with_reducible assumption | omega | exact trivial | with_reducible rfl  -- I93.0.rfl
            · show v30 = zc p (16 * v31 + 0)  -- I93.0.h2
              rw [show 16 * v31 + 0 = 16 * v31 by omega]; exact h1
            rintro v44 v45 M48 n50 ⟨h_n50, hv2, q_rfl, h2⟩ z_v44 z_v45 z_M48
            have q_rfl := q_rfl.symm
            subst q_rfl
            have u2 := zc_b p (16 * v31 + v45) (by omega)
            refine ⟨fun b6 => ?_, fun b6 => ?_⟩
            · -- b6.1
              have o1 : zin (v31 + 1) := by
                first | with_reducible assumption | omega | exact trivial | with_reducible rfl  -- o1
              refine ⟨o1, ?_⟩
              refine ⟨Int.toNat (20 - (v31 + 1)), by omega, by omega, ?_, ?_, ?_⟩
              · show 0 ≤ (v31 + 1) ∧ ((v31 + 1) ≤ M18 103 35 ∨ (v31 + 1) = 0)  -- I83.1.hv
                first | with_reducible assumption | omega | exact trivial | with_reducible rfl
              · first | with_reducible assumption | omega | exact trivial | with_reducible rfl  -- I83.1.rfl
              · show v44 = zc p (16 * (v31 + 1))  -- I83.1.h1
                rw [h2]
                refine (zc_skip (by omega) _ (by omega) (fun i i0 i1 q => ?_)).symm
                rw [← hp] at q
                have := q.1
                omega
            · -- b6.2
              have o2 : zin ((M23 103 33) + v31) := by
                first | with_reducible assumption | omega | exact trivial | with_reducible rfl  -- o2
              refine ⟨o2, ?_⟩
              have o3 : zin ((M23 103 32) + v45) := by
                first | with_reducible assumption | omega | exact trivial | with_reducible rfl  -- o3
              refine ⟨o3, ?_⟩
              have gc5 : pr_X12_isOf a ((M23 103 32) + v45) ((M23 103 33) + v31) M23 := by
                show mDim M23
                exact d5
              refine ⟨gc5, ?_⟩
              rintro r64 M65 ⟨q_rfl, e_r64⟩ z_r64 z_M65
              have q_rfl := q_rfl.symm
              subst q_rfl
              have o4 : zin ((M18 103 33) + v31) := by
                first | with_reducible assumption | omega | exact trivial | with_reducible rfl  -- o4
              refine ⟨o4, ?_⟩
              have o5 : zin ((M18 103 32) + v45) := by
                first | with_reducible assumption | omega | exact trivial | with_reducible rfl  -- o5
              refine ⟨o5, ?_⟩
              have gc6 : pr_X12_isOf b ((M18 103 32) + v45) ((M18 103 33) + v31) M23 := by
                show mDim M23
                exact d5
              refine ⟨gc6, ?_⟩
              rintro r72 M73 ⟨q_rfl, e_r72⟩ z_r72 z_M73
              have q_rfl := q_rfl.symm
              subst q_rfl
              have z5 := (zif01 e_r64).iff (mOf_g na)
              have z6 := (zif01 e_r72).iff (mOf_g nb)
              have ip : p (16 * v31 + v45) ↔ ¬ (zg (M23 103 1) (M23 103 2) (M23 115) (M23 103 32 + v45) (M23 103 33 + v31) = a ↔ zg (M23 103 1) (M23 103 2) (M23 115) (M18 103 32 + v45) (M18 103 33 + v31) = b) := by
                rw [← hp]
                show ((16 * v31 + v45) % 16 < _ ∧ (16 * v31 + v45) / 16 < _ ∧ ¬ (zg (M23 103 1) (M23 103 2) (M23 115) (M23 103 32 + (16 * v31 + v45) % 16) (M23 103 33 + (16 * v31 + v45) / 16) = a ↔ zg (M23 103 1) (M23 103 2) (M23 115) (M18 103 32 + (16 * v31 + v45) % 16) (M18 103 33 + (16 * v31 + v45) / 16) = b)) ↔ _
                rw [show (16 * v31 + v45) % 16 = v45 by omega, show (16 * v31 + v45) / 16 = v31 by omega]
                exact ⟨fun h => h.2.2, fun h => ⟨by omega, by omega, h⟩⟩
              have n5 := z5.ne
              have n6 := z6.ne
              have m5 := z5.b
              have m6 := z6.b
              refine ⟨fun b7 => ?_, fun b7 => ?_⟩
              · -- b7.1
                have o6 : zin (v44 + 0) := by
                  first | with_reducible assumption | omega | exact trivial | with_reducible rfl  -- o6
                refine ⟨o6, ?_⟩
                have o7 : zin (v45 + 1) := by
                  first | with_reducible assumption | omega | exact trivial | with_reducible rfl  -- o7
                refine ⟨o7, ?_⟩
                refine ⟨Int.toNat (20 - (v45 + 1)), by omega, by omega, ?_, ?_, ?_⟩
                · show 0 ≤ (v45 + 1) ∧ ((v45 + 1) ≤ M18 103 34 ∨ (v45 + 1) = 0)  -- I93.1.hv2
                  first | with_reducible assumption | omega | exact trivial | with_reducible rfl
                · first | with_reducible assumption | omega | exact trivial | with_reducible rfl  -- I93.1.rfl
                · show (v44 + 0) = zc p (16 * v31 + (v45 + 1))  -- I93.1.h2
                  rw [show 16 * v31 + (v45 + 1) = 16 * v31 + v45 + 1 by omega, zc_n (by omega) (by rw [ip, ← n5, ← n6]; omega)]; omega
              · -- b7.2
                have o8 : zin (v44 + 1) := by
                  first | with_reducible assumption | omega | exact trivial | with_reducible rfl  -- o8
                refine ⟨o8, ?_⟩
                have o9 : zin (v45 + 1) := by
                  first | with_reducible assumption | omega | exact trivial | with_reducible rfl  -- o9
                refine ⟨o9, ?_⟩
                refine ⟨Int.toNat (20 - (v45 + 1)), by omega, by omega, ?_, ?_, ?_⟩
                · show 0 ≤ (v45 + 1) ∧ ((v45 + 1) ≤ M18 103 34 ∨ (v45 + 1) = 0)  -- I93.2.hv2
                  first | with_reducible assumption | omega | exact trivial | with_reducible rfl
                · first | with_reducible assumption | omega | exact trivial | with_reducible rfl  -- I93.2.rfl
                · show (v44 + 1) = zc p (16 * v31 + (v45 + 1))  -- I93.2.h2
                  rw [show 16 * v31 + (v45 + 1) = 16 * v31 + v45 + 1 by omega, zc_p (by omega) (by rw [ip, ← n5, ← n6]; omega)]; omega
        · -- b4.2
          refine hP _ _ ⟨?_, ?_, ?_⟩
          · show mW M M23  -- p4.hw
            exact w5
          · show mFok M23  -- p4.hF
            exact F5
          · show qI ((0 ≤ a ∧ a < M23 103 30) ∧ (0 ≤ b ∧ b < M23 103 30)) (qBut (M23 103 1) (M23 103 2) (M23 115) a b (-4)) (-4)  -- p4.hr
            have := E; unfold gDf at this; rw [if_neg (by omega)] at this; exact qI.y ⟨by omega, by omega⟩ this
    · -- b2.2
      refine hP _ _ ⟨?_, ?_, ?_⟩
      · show mW M M12  -- p5.hw
        exact w3
      · show mFok M12  -- p5.hF
        exact pc2_hF
      · show qI ((0 ≤ a ∧ a < M12 103 30) ∧ (0 ≤ b ∧ b < M12 103 30)) (qBut (M12 103 1) (M12 103 2) (M12 115) a b (-1)) (-1)  -- p5.hr
        exact qI.n (fun k => pc2_hr.z.1 b2 k.2)

