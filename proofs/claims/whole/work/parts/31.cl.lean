theorem zbm8 {e : Int} (h : -128 ≤ e ∧ e ≤ 127) : Int.bmod e 256 = e := by
  simp only [Int.bmod]
  split <;> omega
abbrev pr_X2_liesIn (a : Int) (b : Int) (M : zM) : Prop := (bDim M) ∧ (M 1 2 = 0 ∨ M 1 2 = 1) ∧ (bFok M) ∧ (0 ≤ a ∧ a < M 5 2) ∧ (0 ≤ b ∧ b < M 5 2) ∧ (a ≠ b)
abbrev po_X2_liesIn (a : Int) (b : Int) (M : zM) (r : Int) (M' : zM) : Prop := (∀ c i, c ≠ 16 → c ≠ 13 → ¬ (c = 5 ∧ 14 ≤ i ∧ i ≤ 17) → M' c i = M c i) ∧ (zB r (gLies (M 1 0) (M 1 1) (M 1 2) (M 12) (M 7) a b))
set_option maxHeartbeats 2000000 in
theorem ok_X2_liesIn : zSnd zS 145 0 0 yX2_liesIn cX2_liesIn 6 (some .boolean) 3 [2, 0, 0] (F_X2_liesIn pr_X2_liesIn po_X2_liesIn) := by
  refine (sn_X2_liesIn ok_X2_markHoles ok_X2_markAt ok_X2_faceAt).mono ?_
  rintro xs P M hz hR ⟨a, b, rfl, ⟨hd, ht, hF, ha, hb0, hne⟩, hP⟩
  refine ⟨_, _, rfl, ?_⟩
  have z_a := zall_h (zall_t hz) (by decide)
  have z_b := zall_h (zall_t (zall_t hz)) (by decide)
  change vc_X2_liesIn pr_X2_markHoles po_X2_markHoles pr_X2_markAt po_X2_markAt pr_X2_faceAt po_X2_faceAt a b P M
  unfold vc_X2_liesIn
  have hN := hF.N hd
  have hFa := hF.1.fst a ha.1 ha.2
  obtain ⟨hba, hba2⟩ := (hF.2.2 a ha.1 ha.2).box (by omega) (by omega)
  obtain ⟨hbb, hbb2⟩ := (hF.2.2 b hb0.1 hb0.2).box (by omega) (by omega)
  have S : gLies (M 1 0) (M 1 1) (M 1 2) (M 12) (M 7) a b → M 8 b < M 8 a ∧ M 10 a < M 10 b ∧ M 9 b < M 9 a ∧ M 11 a < M 11 b := by
    rintro ⟨Q, N, H, h1, h2⟩
    have s : ∀ k, gD (M 1 0) (M 1 1) k → M 12 k = a → M 8 b < k % 16 ∧ k % 16 < M 10 b ∧ M 9 b < k / 16 ∧ k / 16 < M 11 b := by
      intro k dk e
      have hh := hC_D (f := b) (L := M 12) dk (by omega) (by omega)
      have e2 : hC k = 18 * (k / 16 + 1) + (k % 16 + 1) := by unfold hC; omega
      have q := h2 k dk e
      rw [e2] at hh q
      have := gHo.ins H (by omega) (by omega) hbb hb0.1 (by omega) (by omega) (by omega) (by omega) (X := k % 16 + 1) (Y := k / 16 + 1) hh (by omega) (by omega) (by omega) (by omega) (by omega)
      omega
    obtain ⟨_, ⟨x1, d1, e1, f1⟩, ⟨x2, d2, e2, f2⟩, ⟨x3, d3, e3, f3⟩, ⟨x4, d4, e4, f4⟩⟩ := (hF.2.2 a ha.1 ha.2).2
    have := s x1 d1 e1
    have := s x2 d2 e2
    have := s x3 d3 e3
    have := s x4 d4 e4
    omega
  have o1 : ((0 : Int) ≤ a ∧ a < 192) := by
    first | with_reducible assumption | omega | exact trivial | with_reducible rfl  -- o1
  refine ⟨o1, ?_⟩
  have o2 : ((0 : Int) ≤ b ∧ b < 192) := by
    first | with_reducible assumption | omega | exact trivial | with_reducible rfl  -- o2
  refine ⟨o2, ?_⟩
  refine ⟨fun b1 => ?_, fun b1 => ?_⟩
  · -- b1.1
    refine hP _ _ ⟨?_, ?_⟩
    · show ∀ c i, c ≠ 16 → c ≠ 13 → ¬ (c = 5 ∧ 14 ≤ i ∧ i ≤ 17) → M c i = M c i  -- p1.hf
      intro _ _ _ _ _; rfl
    · show zB 0 (gLies (M 1 0) (M 1 1) (M 1 2) (M 12) (M 7) a b)  -- p1.hr
      exact zB.f (fun h => by have := S h; omega)
  · -- b1.2
    refine ⟨fun b2 => ?_, fun b2 => ?_⟩
    · -- b2.1
      refine hP _ _ ⟨?_, ?_⟩
      · show ∀ c i, c ≠ 16 → c ≠ 13 → ¬ (c = 5 ∧ 14 ≤ i ∧ i ≤ 17) → M c i = M c i  -- p2.hf
        intro _ _ _ _ _; rfl
      · show zB 0 (gLies (M 1 0) (M 1 1) (M 1 2) (M 12) (M 7) a b)  -- p2.hr
        exact zB.f (fun h => by have := S h; omega)
    · -- b2.2
      refine ⟨fun b3 => ?_, fun b3 => ?_⟩
      · -- b3.1
        refine hP _ _ ⟨?_, ?_⟩
        · show ∀ c i, c ≠ 16 → c ≠ 13 → ¬ (c = 5 ∧ 14 ≤ i ∧ i ≤ 17) → M c i = M c i  -- p3.hf
          intro _ _ _ _ _; rfl
        · show zB 0 (gLies (M 1 0) (M 1 1) (M 1 2) (M 12) (M 7) a b)  -- p3.hr
          exact zB.f (fun h => by have := S h; omega)
      · -- b3.2
        refine ⟨fun b4 => ?_, fun b4 => ?_⟩
        · -- b4.1
          have gc1 : pr_X2_markHoles b M := by
            refine ⟨?_, ?_, ?_, ?_⟩
            · show bDim M  -- c1.hd
              first | with_reducible assumption | omega | exact trivial | with_reducible rfl
            · show M 1 2 = 0 ∨ M 1 2 = 1  -- c1.ht
              first | with_reducible assumption | omega | exact trivial | with_reducible rfl
            · show bFok M  -- c1.hF
              first | with_reducible assumption | omega | exact trivial | with_reducible rfl
            · show 0 ≤ b ∧ b < M 5 2  -- c1.ha
              first | with_reducible assumption | omega | exact trivial | with_reducible rfl
          refine ⟨gc1, ?_⟩
          rintro r7 M8 ⟨pc1_hf, pc1_h14, pc1_h15, pc1_h16, pc1_h17, pc1_hL⟩ z_r7 z_M8
          have w0 := pc1_hf 1 0 (by decide) (by decide) (by omega)
          have w1 := pc1_hf 1 1 (by decide) (by decide) (by omega)
          have w7 : M8 7 = M 7 := funext fun i => pc1_hf 7 i (by decide) (by decide) (by omega)
          have w12 : M8 12 = M 12 := funext fun i => pc1_hf 12 i (by decide) (by decide) (by omega)
          have w9a := pc1_hf 9 a (by decide) (by decide) (by omega)
          have w8a := pc1_hf 8 a (by decide) (by decide) (by omega)
          have w10a := pc1_hf 10 a (by decide) (by decide) (by omega)
          have w11a := pc1_hf 11 a (by decide) (by decide) (by omega)
          have eQ : ∀ k : Int, 0 ≤ k → bMk M8 (k % 16) (k / 16) - 1 = hQ (M 8 b) (M 10 b) (M 9 b) (M 11 b) (fun m => M8 16 m - 1) (hC k) := fun k k0 => bMk_Q pc1_h14 pc1_h15 pc1_h16 pc1_h17 k0
          have E := gLies_iff pc1_hL (by omega) hne hFa.1 hFa.2
          rw [← eQ _ hFa.1.1] at E
          have o3 : 0 ≤ (M8 7 a) := by
            rw [w7]; exact hFa.1.1
          refine ⟨o3, ?_⟩
          have gc2 : pr_X2_markAt ((M8 7 a) % 16) ((M8 7 a) / 16) M8 := by
            refine ⟨?_, ?_, ?_, ?_, ?_, ?_⟩
            · show 0 ≤ ((M8 7 a) % 16) ∧ ((M8 7 a) % 16) < 16  -- c2.hx
              rw [w7]; omega
            · show 0 ≤ ((M8 7 a) / 16) ∧ ((M8 7 a) / 16) < 12  -- c2.hy
              rw [w7]; omega
            · show -1 ≤ M8 5 14 ∧ M8 5 14 ≤ 16  -- c2.h14
              omega
            · show -1 ≤ M8 5 15 ∧ M8 5 15 ≤ 16  -- c2.h15
              omega
            · show M8 5 16 ≤ 18  -- c2.h16
              omega
            · show M8 5 17 ≤ 14  -- c2.h17
              omega
          refine ⟨gc2, ?_⟩
          rintro r14 M15 ⟨q_rfl, e_r14⟩ z_r14 z_M15
          have q_rfl := q_rfl.symm
          subst q_rfl
          rw [w7] at e_r14
          refine ⟨fun b5 => ?_, fun b5 => ?_⟩
          · -- b5.1
            refine ⟨fun v21 M23 n25 => (n25 : Int) = (20 - v21) ∧ (M 9 a ≤ v21 ∧ v21 ≤ M 11 a + 1) ∧ (M23 = M8) ∧ (∀ k, gD (M 1 0) (M 1 1) k → k < 16 * v21 → M 12 k = a → bMk M8 (k % 16) (k / 16) = r14), ⟨Int.toNat (20 - (M8 9 a)), by omega, ?_, ?_, ?_⟩, ?_⟩
            · show M 9 a ≤ (M8 9 a) ∧ (M8 9 a) ≤ M 11 a + 1  -- I106.0.hv
              omega
            · first | with_reducible assumption | omega | exact trivial | with_reducible rfl  -- I106.0.rfl
            · show ∀ k, gD (M 1 0) (M 1 1) k → k < 16 * (M8 9 a) → M 12 k = a → bMk M8 (k % 16) (k / 16) = r14  -- I106.0.hall
              intro k dk l e; have := hba k dk e; omega
            rintro v21 M23 n25 ⟨h_n25, hv, q_rfl, hall⟩ z_v21 z_M23
            have q_rfl := q_rfl.symm
            subst q_rfl
            refine ⟨fun b6 => ?_, fun b6 => ?_⟩
            · -- b6.1
              refine hP _ _ ⟨?_, ?_⟩
              · show ∀ c i, c ≠ 16 → c ≠ 13 → ¬ (c = 5 ∧ 14 ≤ i ∧ i ≤ 17) → M8 c i = M c i  -- p4.hf
                first | with_reducible assumption | omega | exact trivial | with_reducible rfl
              · show zB 1 (gLies (M 1 0) (M 1 1) (M 1 2) (M 12) (M 7) a b)  -- p4.hr
                refine zB.t (E.2 ⟨by omega, fun k dk e => ?_⟩)
                have := hba k dk e
                have := hall k dk (by omega) e
                rw [← eQ k dk.1]
                omega
            · -- b6.2
              refine ⟨fun v33 M35 n37 => (n37 : Int) = (20 - v33) ∧ (M 8 a ≤ v33 ∧ v33 ≤ M 10 a + 1) ∧ (M35 = M8) ∧ (∀ k, gD (M 1 0) (M 1 1) k → k < 16 * v21 + v33 → M 12 k = a → bMk M8 (k % 16) (k / 16) = r14), ⟨Int.toNat (20 - (M8 8 a)), by omega, ?_, ?_, ?_⟩, ?_⟩
              · show M 8 a ≤ (M8 8 a) ∧ (M8 8 a) ≤ M 10 a + 1  -- I125.0.hv2
                first | with_reducible assumption | omega | exact trivial | with_reducible rfl
              · first | with_reducible assumption | omega | exact trivial | with_reducible rfl  -- I125.0.rfl
              · show ∀ k, gD (M 1 0) (M 1 1) k → k < 16 * v21 + (M8 8 a) → M 12 k = a → bMk M8 (k % 16) (k / 16) = r14  -- I125.0.hall2
                intro k dk l e; have := hba k dk e; exact hall k dk (by omega) e
              rintro v33 M35 n37 ⟨h_n37, hv2, q_rfl, hall2⟩ z_v33 z_M35
              have q_rfl := q_rfl.symm
              subst q_rfl
              refine ⟨fun b7 => ?_, fun b7 => ?_⟩
              · -- b7.1
                have o4 : zin (v21 + 1) := by
                  first | with_reducible assumption | omega | exact trivial | with_reducible rfl  -- o4
                refine ⟨o4, ?_⟩
                refine ⟨Int.toNat (20 - (v21 + 1)), by omega, by omega, ?_, ?_, ?_⟩
                · show M 9 a ≤ (v21 + 1) ∧ (v21 + 1) ≤ M 11 a + 1  -- I106.1.hv
                  first | with_reducible assumption | omega | exact trivial | with_reducible rfl
                · first | with_reducible assumption | omega | exact trivial | with_reducible rfl  -- I106.1.rfl
                · show ∀ k, gD (M 1 0) (M 1 1) k → k < 16 * (v21 + 1) → M 12 k = a → bMk M8 (k % 16) (k / 16) = r14  -- I106.1.hall
                  intro k dk l e; have := hba k dk e; exact hall2 k dk (by omega) e
              · -- b7.2
                have gc3 : pr_X2_faceAt v33 v21 M8 := by
                  show bDim M8
                  unfold bDim; omega
                refine ⟨gc3, ?_⟩
                rintro r49 M50 ⟨q_rfl, e_r49⟩ z_r49 z_M50
                have q_rfl := q_rfl.symm
                subst q_rfl
                have e49 : r49 = M 12 (16 * v21 + v33) := by rw [e_r49, w0, w1, w12]; exact zg_i (L := M 12) (by omega)
                refine ⟨fun b8 => ?_, fun b8 => ?_⟩
                · -- b8.1
                  have o5 : zin (v33 + 1) := by
                    first | with_reducible assumption | omega | exact trivial | with_reducible rfl  -- o5
                  refine ⟨o5, ?_⟩
                  refine ⟨Int.toNat (20 - (v33 + 1)), by omega, by omega, ?_, ?_, ?_⟩
                  · show M 8 a ≤ (v33 + 1) ∧ (v33 + 1) ≤ M 10 a + 1  -- I125.1.hv2
                    first | with_reducible assumption | omega | exact trivial | with_reducible rfl
                  · first | with_reducible assumption | omega | exact trivial | with_reducible rfl  -- I125.1.rfl
                  · show ∀ k, gD (M 1 0) (M 1 1) k → k < 16 * v21 + (v33 + 1) → M 12 k = a → bMk M8 (k % 16) (k / 16) = r14  -- I125.1.hall2
                    intro k dk l e
                    by_cases c : k = 16 * v21 + v33
                    · subst c; exact absurd (e49.trans e) b8
                    · exact hall2 k dk (by omega) e
                · -- b8.2
                  have gc4 : pr_X2_markAt v33 v21 M8 := by
                    refine ⟨?_, ?_, ?_, ?_, ?_, ?_⟩
                    · show 0 ≤ v33 ∧ v33 < 16  -- c4.hx
                      omega
                    · show 0 ≤ v21 ∧ v21 < 12  -- c4.hy
                      omega
                    · show -1 ≤ M8 5 14 ∧ M8 5 14 ≤ 16  -- c4.h14
                      first | with_reducible assumption | omega | exact trivial | with_reducible rfl
                    · show -1 ≤ M8 5 15 ∧ M8 5 15 ≤ 16  -- c4.h15
                      first | with_reducible assumption | omega | exact trivial | with_reducible rfl
                    · show M8 5 16 ≤ 18  -- c4.h16
                      first | with_reducible assumption | omega | exact trivial | with_reducible rfl
                    · show M8 5 17 ≤ 14  -- c4.h17
                      first | with_reducible assumption | omega | exact trivial | with_reducible rfl
                  refine ⟨gc4, ?_⟩
                  rintro r60 M61 ⟨q_rfl, e_r60⟩ z_r60 z_M61
                  have q_rfl := q_rfl.symm
                  subst q_rfl
                  refine ⟨fun b9 => ?_, fun b9 => ?_⟩
                  · -- b9.1
                    have o6 : zin (v33 + 1) := by
                      first | with_reducible assumption | omega | exact trivial | with_reducible rfl  -- o6
                    refine ⟨o6, ?_⟩
                    refine ⟨Int.toNat (20 - (v33 + 1)), by omega, by omega, ?_, ?_, ?_⟩
                    · show M 8 a ≤ (v33 + 1) ∧ (v33 + 1) ≤ M 10 a + 1  -- I125.2.hv2
                      first | with_reducible assumption | omega | exact trivial | with_reducible rfl
                    · first | with_reducible assumption | omega | exact trivial | with_reducible rfl  -- I125.2.rfl
                    · show ∀ k, gD (M 1 0) (M 1 1) k → k < 16 * v21 + (v33 + 1) → M 12 k = a → bMk M8 (k % 16) (k / 16) = r14  -- I125.2.hall2
                      intro k dk l e
                      by_cases c : k = 16 * v21 + v33
                      · subst c
                        rw [show (16 * v21 + v33) % 16 = v33 by omega, show (16 * v21 + v33) / 16 = v21 by omega, ← e_r60]
                        exact b9
                      · exact hall2 k dk (by omega) e
                  · -- b9.2
                    refine hP _ _ ⟨?_, ?_⟩
                    · show ∀ c i, c ≠ 16 → c ≠ 13 → ¬ (c = 5 ∧ 14 ≤ i ∧ i ≤ 17) → M8 c i = M c i  -- p5.hf
                      first | with_reducible assumption | omega | exact trivial | with_reducible rfl
                    · show zB 0 (gLies (M 1 0) (M 1 1) (M 1 2) (M 12) (M 7) a b)  -- p5.hr
                      refine zB.f (fun h => b9 ?_)
                      have := (E.1 h).2 (16 * v21 + v33) (by omega) (by omega)
                      rw [← eQ _ (by omega), show (16 * v21 + v33) % 16 = v33 by omega, show (16 * v21 + v33) / 16 = v21 by omega, ← e_r60] at this
                      omega
          · -- b5.2
            refine hP _ _ ⟨?_, ?_⟩
            · show ∀ c i, c ≠ 16 → c ≠ 13 → ¬ (c = 5 ∧ 14 ≤ i ∧ i ≤ 17) → M8 c i = M c i  -- p6.hf
              first | with_reducible assumption | omega | exact trivial | with_reducible rfl
            · show zB 0 (gLies (M 1 0) (M 1 1) (M 1 2) (M 12) (M 7) a b)  -- p6.hr
              exact zB.f (fun h => by have := (E.1 h).1; omega)
        · -- b4.2
          refine hP _ _ ⟨?_, ?_⟩
          · show ∀ c i, c ≠ 16 → c ≠ 13 → ¬ (c = 5 ∧ 14 ≤ i ∧ i ≤ 17) → M c i = M c i  -- p7.hf
            intro _ _ _ _ _; rfl
          · show zB 0 (gLies (M 1 0) (M 1 1) (M 1 2) (M 12) (M 7) a b)  -- p7.hr
            exact zB.f (fun h => by have := S h; omega)

theorem bFok.mem {M M' : zM} (H : bFok M) (e0 : M' 1 0 = M 1 0) (e1 : M' 1 1 = M 1 1) (e2 : M' 1 2 = M 1 2) (ec : M' 2 = M 2) (e5 : M' 5 2 = M 5 2) (e : ∀ c i, 6 ≤ c → c ≤ 12 → M' c i = M c i) : bFok M' := by
  obtain ⟨a, b, c⟩ := H
  have e12 : M' 12 = M 12 := funext fun i => e 12 i (by decide) (by decide)
  have e7 : M' 7 = M 7 := funext fun i => e 7 i (by decide) (by decide)
  refine ⟨?_, ?_, ?_⟩
  · rw [e0, e1, e2, ec, e5, e12, e7]; exact a
  · rw [e0, e1, e12]; exact b
  · rw [e0, e1, e5]; intro k k0 k1; exact (c k k0 k1).mem e
abbrev pr_X2_depth (f : Int) (M : zM) : Prop := (bDim M) ∧ (M 1 2 = 0 ∨ M 1 2 = 1) ∧ (bFok M) ∧ (0 ≤ f ∧ f < M 5 2)
abbrev po_X2_depth (f : Int) (M : zM) (r : Int) (M' : zM) : Prop := (∀ c i, c ≠ 16 → c ≠ 13 → ¬ (c = 5 ∧ 14 ≤ i ∧ i ≤ 17) → M' c i = M c i) ∧ (r = zc (fun o => o ≠ f ∧ gLies (M 1 0) (M 1 1) (M 1 2) (M 12) (M 7) f o) (M 5 2))
set_option maxHeartbeats 1000000 in
theorem ok_X2_depth : zSnd zS 145 0 0 yX2_depth cX2_depth 4 (some .int) 4 [2, 0] (F_X2_depth pr_X2_depth po_X2_depth) := by
  refine (sn_X2_depth ok_X2_liesIn).mono ?_
  rintro xs P M hz hR ⟨f, rfl, ⟨hd, ht, hF, ha⟩, hP⟩
  refine ⟨_, rfl, ?_⟩
  have z_f := zall_h (zall_t hz) (by decide)
  change vc_X2_depth pr_X2_liesIn po_X2_liesIn f P M
  unfold vc_X2_depth
  have hN := hF.N hd
  refine ⟨fun v1 v2 M5 n7 => (n7 : Int) = (192 - v2) ∧ (0 ≤ v2 ∧ v2 ≤ M 5 2) ∧ (∀ c i, c ≠ 16 → c ≠ 13 → ¬ (c = 5 ∧ 14 ≤ i ∧ i ≤ 17) → M5 c i = M c i) ∧ (v1 = zc (fun o => o ≠ f ∧ gLies (M 1 0) (M 1 1) (M 1 2) (M 12) (M 7) f o) v2), ⟨Int.toNat (192 - 0), by omega, ?_, ?_, ?_⟩, ?_⟩
  · show 0 ≤ 0 ∧ 0 ≤ M 5 2  -- I4.0.hv
    first | with_reducible assumption | omega | exact trivial | with_reducible rfl
  · show ∀ c i, c ≠ 16 → c ≠ 13 → ¬ (c = 5 ∧ 14 ≤ i ∧ i ≤ 17) → M c i = M c i  -- I4.0.hf
    intro _ _ _ _ _; rfl
  · show 0 = zc (fun o => o ≠ f ∧ gLies (M 1 0) (M 1 1) (M 1 2) (M 12) (M 7) f o) 0  -- I4.0.h1
    rfl
  rintro v1 v2 M5 n7 ⟨h_n7, hv, hf, h1⟩ z_v1 z_v2 z_M5
  have u := zc_b (fun o => o ≠ f ∧ gLies (M 1 0) (M 1 1) (M 1 2) (M 12) (M 7) f o) v2 hv.1
  have w0 := hf 1 0 (by decide) (by decide) (by omega)
  have w1 := hf 1 1 (by decide) (by decide) (by omega)
  have w2 := hf 1 2 (by decide) (by decide) (by omega)
  have w5 := hf 5 2 (by decide) (by decide) (by omega)
  have w7 : M5 7 = M 7 := funext fun i => hf 7 i (by decide) (by decide) (by omega)
  have w12 : M5 12 = M 12 := funext fun i => hf 12 i (by decide) (by decide) (by omega)
  have wc : M5 2 = M 2 := funext fun i => hf 2 i (by decide) (by decide) (by omega)
  refine ⟨fun b1 => ?_, fun b1 => ?_⟩
  · -- b1.1
    refine hP _ _ ⟨?_, ?_⟩
    · show ∀ c i, c ≠ 16 → c ≠ 13 → ¬ (c = 5 ∧ 14 ≤ i ∧ i ≤ 17) → M5 c i = M c i  -- p1.hf
      first | with_reducible assumption | omega | exact trivial | with_reducible rfl
    · show v1 = zc (fun o => o ≠ f ∧ gLies (M 1 0) (M 1 1) (M 1 2) (M 12) (M 7) f o) (M 5 2)  -- p1.hr
      rw [h1, show v2 = M 5 2 by omega]
  · -- b1.2
    refine ⟨fun b2 => ?_, fun b2 => ?_⟩
    · -- b2.1
      have o1 : zin (v2 + 1) := by
        first | with_reducible assumption | omega | exact trivial | with_reducible rfl  -- o1
      refine ⟨o1, ?_⟩
      refine ⟨Int.toNat (192 - (v2 + 1)), by omega, by omega, ?_, ?_, ?_⟩
      · show 0 ≤ (v2 + 1) ∧ (v2 + 1) ≤ M 5 2  -- I4.1.hv
        first | with_reducible assumption | omega | exact trivial | with_reducible rfl
      · show ∀ c i, c ≠ 16 → c ≠ 13 → ¬ (c = 5 ∧ 14 ≤ i ∧ i ≤ 17) → M5 c i = M c i  -- I4.1.hf
        first | with_reducible assumption | omega | exact trivial | with_reducible rfl
      · show v1 = zc (fun o => o ≠ f ∧ gLies (M 1 0) (M 1 1) (M 1 2) (M 12) (M 7) f o) (v2 + 1)  -- I4.1.h1
        rw [zc_n hv.1 (fun h => h.1 b2)]; omega
    · -- b2.2
      have gc1 : pr_X2_liesIn f v2 M5 := by
        refine ⟨?_, ?_, ?_, ?_, ?_, ?_⟩
        · show bDim M5  -- c1.hd
          unfold bDim; omega
        · show M5 1 2 = 0 ∨ M5 1 2 = 1  -- c1.ht
          first | with_reducible assumption | omega | exact trivial | with_reducible rfl
        · show bFok M5  -- c1.hF
          exact hF.mem w0 w1 w2 wc w5 (fun c i c1 c2 => hf c i (by omega) (by omega) (by omega))
        · show 0 ≤ f ∧ f < M5 5 2  -- c1.ha
          omega
        · show 0 ≤ v2 ∧ v2 < M5 5 2  -- c1.hb0
          omega
        · show f ≠ v2  -- c1.hne
          exact fun e => b2 e.symm
      refine ⟨gc1, ?_⟩
      rintro r20 M21 ⟨pc1_hf, pc1_hr⟩ z_r20 z_M21
      rw [w0, w1, w2, w7, w12] at pc1_hr
      refine ⟨fun b3 => ?_, fun b3 => ?_⟩
      · -- b3.1
        have o2 : zin (v2 + 1) := by
          first | with_reducible assumption | omega | exact trivial | with_reducible rfl  -- o2
        refine ⟨o2, ?_⟩
        refine ⟨Int.toNat (192 - (v2 + 1)), by omega, by omega, ?_, ?_, ?_⟩
        · show 0 ≤ (v2 + 1) ∧ (v2 + 1) ≤ M 5 2  -- I4.2.hv
          first | with_reducible assumption | omega | exact trivial | with_reducible rfl
        · show ∀ c i, c ≠ 16 → c ≠ 13 → ¬ (c = 5 ∧ 14 ≤ i ∧ i ≤ 17) → M21 c i = M c i  -- I4.2.hf
          intro c i c1 c2 c3; rw [pc1_hf c i c1 c2 c3]; exact hf c i c1 c2 c3
        · show v1 = zc (fun o => o ≠ f ∧ gLies (M 1 0) (M 1 1) (M 1 2) (M 12) (M 7) f o) (v2 + 1)  -- I4.2.h1
          rw [zc_n hv.1 (fun h => pc1_hr.z.1 b3 h.2)]; omega
      · -- b3.2
        have o3 : zin (v1 + 1) := by
          first | with_reducible assumption | omega | exact trivial | with_reducible rfl  -- o3
        refine ⟨o3, ?_⟩
        have o4 : zin (v2 + 1) := by
          first | with_reducible assumption | omega | exact trivial | with_reducible rfl  -- o4
        refine ⟨o4, ?_⟩
        refine ⟨Int.toNat (192 - (v2 + 1)), by omega, by omega, ?_, ?_, ?_⟩
        · show 0 ≤ (v2 + 1) ∧ (v2 + 1) ≤ M 5 2  -- I4.3.hv
          first | with_reducible assumption | omega | exact trivial | with_reducible rfl
        · show ∀ c i, c ≠ 16 → c ≠ 13 → ¬ (c = 5 ∧ 14 ≤ i ∧ i ≤ 17) → M21 c i = M c i  -- I4.3.hf
          intro c i c1 c2 c3; rw [pc1_hf c i c1 c2 c3]; exact hf c i c1 c2 c3
        · show (v1 + 1) = zc (fun o => o ≠ f ∧ gLies (M 1 0) (M 1 1) (M 1 2) (M 12) (M 7) f o) (v2 + 1)  -- I4.3.h1
          rw [zc_p hv.1 ⟨b2, pc1_hr.ne.1 b3⟩]; omega

abbrev pr_X2_countSides (x : Int) (y : Int) (f : Int) (M : zM) : Prop := (bDim M) ∧ (0 ≤ x ∧ x < M 1 0) ∧ (0 ≤ y ∧ y < M 1 1) ∧ (M 12 (16 * y + x) = f) ∧ (0 ≤ f) ∧ (∀ c, 0 ≤ c → c < 16 → 0 ≤ M 15 c ∧ M 15 c ≤ 1000)
abbrev po_X2_countSides (x : Int) (y : Int) (f : Int) (M : zM) (M' : zM) : Prop := (∀ c i, c ≠ 15 → M' c i = M c i) ∧ (∀ c, 0 ≤ c → c < 16 → M' 15 c = M 15 c + zc (gSd (M 1 0) (M 1 1) (M 12) (M 2) f c) (4 * (16 * y + x) + 4) - zc (gSd (M 1 0) (M 1 1) (M 12) (M 2) f c) (4 * (16 * y + x)))
set_option maxHeartbeats 1000000 in
theorem ok_X2_countSides : zSnd zS 145 0 0 yX2_countSides cX2_countSides 8 none 1 [2, 0, 0, 0] (F_X2_countSides pr_X2_countSides po_X2_countSides) := by
  refine (sn_X2_countSides ok_X0_colourAt ok_X2_faceAt).mono ?_
  rintro xs P M hz hR ⟨x, y, f, rfl, ⟨hd, hx, hy, hl, hf0, h15⟩, hP⟩
  refine ⟨_, _, _, rfl, ?_⟩
  have z_x := zall_h (zall_t hz) (by decide)
  have z_y := zall_h (zall_t (zall_t hz)) (by decide)
  have z_f := zall_h (zall_t (zall_t (zall_t hz))) (by decide)
  change vc_X2_countSides pr_X0_colourAt po_X0_colourAt pr_X2_faceAt po_X2_faceAt x y f P M
  unfold vc_X2_countSides
  refine ⟨fun v1 M3 n5 => (n5 : Int) = (4 - v1) ∧ (0 ≤ v1 ∧ v1 ≤ 4) ∧ (∀ c i, c ≠ 15 → M3 c i = M c i) ∧ (∀ c, 0 ≤ c → c < 16 → M3 15 c = M 15 c + zc (gSd (M 1 0) (M 1 1) (M 12) (M 2) f c) (4 * (16 * y + x) + v1) - zc (gSd (M 1 0) (M 1 1) (M 12) (M 2) f c) (4 * (16 * y + x))) ∧ (∀ c, 0 ≤ c → c < 16 → 0 ≤ M3 15 c ∧ M3 15 c ≤ 1000 + v1), ⟨Int.toNat (4 - 0), by omega, ?_, ?_, ?_, ?_⟩, ?_⟩
  · show 0 ≤ 0 ∧ 0 ≤ 4  -- I3.0.hv
    first | with_reducible assumption | omega | exact trivial | with_reducible rfl
  · show ∀ c i, c ≠ 15 → M c i = M c i  -- I3.0.hf
    first | with_reducible assumption | omega | exact trivial | with_reducible rfl
  · show ∀ c, 0 ≤ c → c < 16 → M 15 c = M 15 c + zc (gSd (M 1 0) (M 1 1) (M 12) (M 2) f c) (4 * (16 * y + x) + 0) - zc (gSd (M 1 0) (M 1 1) (M 12) (M 2) f c) (4 * (16 * y + x))  -- I3.0.hs
    intro c c0 c1; rw [show 4 * (16 * y + x) + 0 = 4 * (16 * y + x) by omega]; omega
  · show ∀ c, 0 ≤ c → c < 16 → 0 ≤ M 15 c ∧ M 15 c ≤ 1000 + 0  -- I3.0.hb
    intro c c0 c1; have := h15 c c0 c1; omega
  rintro v1 M3 n5 ⟨h_n5, hv, hf, hs, hb⟩ z_v1 z_M3
  have w0 := hf 1 0 (by decide)
  have w1 := hf 1 1 (by decide)
  have w12 : M3 12 = M 12 := funext fun i => hf 12 i (by decide)
  have wc : M3 2 = M 2 := funext fun i => hf 2 i (by decide)
  refine ⟨fun b1 => ?_, fun b1 => ?_⟩
  · -- b1.1
    refine hP _ ⟨?_, ?_⟩
    · show ∀ c i, c ≠ 15 → M3 c i = M c i  -- p1.hf
      first | with_reducible assumption | omega | exact trivial | with_reducible rfl
    · show ∀ c, 0 ≤ c → c < 16 → M3 15 c = M 15 c + zc (gSd (M 1 0) (M 1 1) (M 12) (M 2) f c) (4 * (16 * y + x) + 4) - zc (gSd (M 1 0) (M 1 1) (M 12) (M 2) f c) (4 * (16 * y + x))  -- p1.hs
      have e : v1 = 4 := by omega
      subst e
      exact hs
  · -- b1.2
    have zz := zac_b hv.1 (show v1 < 8 by omega)
    have z4 := zdx4 hv.1 (show v1 < 4 by omega)
    have es : ∀ c, gSd (M 1 0) (M 1 1) (M 12) (M 2) f c (4 * (16 * y + x) + v1) ↔ M 12 (16 * y + x) = f ∧ zg (M 1 0) (M 1 1) (M 2) (x + zac v1.toNat) (y + zdn v1.toNat) = c ∧ zg (M 1 0) (M 1 1) (M 12) (x + zac v1.toNat) (y + zdn v1.toNat) ≠ f := by
      intro c
      rw [gSd_s hv.1 (show v1 < 4 by omega), z4.1, z4.2, show (16 * y + x) % 16 = x by omega, show (16 * y + x) / 16 = y by omega]
    have o1 : ((0 : Int) ≤ v1 ∧ v1 < 8) := by
      first | with_reducible assumption | omega | exact trivial | with_reducible rfl  -- o1
    refine ⟨o1, ?_⟩
    have o2 : zin (y + (zdn (Int.toNat v1))) := by
      first | with_reducible assumption | omega | exact trivial | with_reducible rfl  -- o2
    refine ⟨o2, ?_⟩
    have o3 : zin (x + (zac (Int.toNat v1))) := by
      first | with_reducible assumption | omega | exact trivial | with_reducible rfl  -- o3
    refine ⟨o3, ?_⟩
    have gc1 : pr_X0_colourAt (x + (zac (Int.toNat v1))) (y + (zdn (Int.toNat v1))) M3 := by
      show bDim M3
      unfold bDim; omega
    refine ⟨gc1, ?_⟩
    rintro r16 M17 ⟨q_rfl, e_r16⟩ z_r16 z_M17
    have q_rfl := q_rfl.symm
    subst q_rfl
    have e16 : r16 = zg (M 1 0) (M 1 1) (M 2) (x + zac v1.toNat) (y + zdn v1.toNat) := by rw [e_r16]; unfold bCol; rw [w0, w1, wc]; rfl
    rw [← e16] at es
    have st : ∀ c, 0 ≤ c → ¬ gSd (M 1 0) (M 1 1) (M 12) (M 2) f c (4 * (16 * y + x) + v1) → zc (gSd (M 1 0) (M 1 1) (M 12) (M 2) f c) (4 * (16 * y + x) + (v1 + 1)) = zc (gSd (M 1 0) (M 1 1) (M 12) (M 2) f c) (4 * (16 * y + x) + v1) := by
      intro c c0 n
      rw [show 4 * (16 * y + x) + (v1 + 1) = 4 * (16 * y + x) + v1 + 1 by omega, zc_n (by omega) n]
    refine ⟨fun b2 => ?_, fun b2 => ?_⟩
    · -- b2.1
      have o4 : zin (v1 + 1) := by
        first | with_reducible assumption | omega | exact trivial | with_reducible rfl  -- o4
      refine ⟨o4, ?_⟩
      refine ⟨Int.toNat (4 - (v1 + 1)), by omega, by omega, ?_, ?_, ?_, ?_⟩
      · show 0 ≤ (v1 + 1) ∧ (v1 + 1) ≤ 4  -- I3.1.hv
        first | with_reducible assumption | omega | exact trivial | with_reducible rfl
      · show ∀ c i, c ≠ 15 → M3 c i = M c i  -- I3.1.hf
        first | with_reducible assumption | omega | exact trivial | with_reducible rfl
      · show ∀ c, 0 ≤ c → c < 16 → M3 15 c = M 15 c + zc (gSd (M 1 0) (M 1 1) (M 12) (M 2) f c) (4 * (16 * y + x) + (v1 + 1)) - zc (gSd (M 1 0) (M 1 1) (M 12) (M 2) f c) (4 * (16 * y + x))  -- I3.1.hs
        intro c c0 c1; rw [st c c0 (by rw [es]; omega)]; exact hs c c0 c1
      · show ∀ c, 0 ≤ c → c < 16 → 0 ≤ M3 15 c ∧ M3 15 c ≤ 1000 + (v1 + 1)  -- I3.1.hb
        intro c c0 c1; have := hb c c0 c1; omega
    · -- b2.2
      refine ⟨fun b3 => ?_, fun b3 => ?_⟩
      · -- b3.1
        have o5 : zin (v1 + 1) := by
          first | with_reducible assumption | omega | exact trivial | with_reducible rfl  -- o5
        refine ⟨o5, ?_⟩
        refine ⟨Int.toNat (4 - (v1 + 1)), by omega, by omega, ?_, ?_, ?_, ?_⟩
        · show 0 ≤ (v1 + 1) ∧ (v1 + 1) ≤ 4  -- I3.2.hv
          first | with_reducible assumption | omega | exact trivial | with_reducible rfl
        · show ∀ c i, c ≠ 15 → M3 c i = M c i  -- I3.2.hf
          first | with_reducible assumption | omega | exact trivial | with_reducible rfl
        · show ∀ c, 0 ≤ c → c < 16 → M3 15 c = M 15 c + zc (gSd (M 1 0) (M 1 1) (M 12) (M 2) f c) (4 * (16 * y + x) + (v1 + 1)) - zc (gSd (M 1 0) (M 1 1) (M 12) (M 2) f c) (4 * (16 * y + x))  -- I3.2.hs
          intro c c0 c1; rw [st c c0 (by rw [es]; omega)]; exact hs c c0 c1
        · show ∀ c, 0 ≤ c → c < 16 → 0 ≤ M3 15 c ∧ M3 15 c ≤ 1000 + (v1 + 1)  -- I3.2.hb
          intro c c0 c1; have := hb c c0 c1; omega
      · -- b3.2
        have gc2 : pr_X2_faceAt (x + (zac (Int.toNat v1))) (y + (zdn (Int.toNat v1))) M3 := by
          show bDim M3
          unfold bDim; omega
        refine ⟨gc2, ?_⟩
        rintro r32 M33 ⟨q_rfl, e_r32⟩ z_r32 z_M33
        have q_rfl := q_rfl.symm
        subst q_rfl
        have e32 : r32 = zg (M 1 0) (M 1 1) (M 12) (x + zac v1.toNat) (y + zdn v1.toNat) := by rw [e_r32, w0, w1, w12]; rfl
        rw [← e32] at es
        refine ⟨fun b4 => ?_, fun b4 => ?_⟩
        · -- b4.1
          have o6 : zin (v1 + 1) := by
            first | with_reducible assumption | omega | exact trivial | with_reducible rfl  -- o6
          refine ⟨o6, ?_⟩
          refine ⟨Int.toNat (4 - (v1 + 1)), by omega, by omega, ?_, ?_, ?_, ?_⟩
          · show 0 ≤ (v1 + 1) ∧ (v1 + 1) ≤ 4  -- I3.3.hv
            first | with_reducible assumption | omega | exact trivial | with_reducible rfl
          · show ∀ c i, c ≠ 15 → M3 c i = M c i  -- I3.3.hf
            first | with_reducible assumption | omega | exact trivial | with_reducible rfl
          · show ∀ c, 0 ≤ c → c < 16 → M3 15 c = M 15 c + zc (gSd (M 1 0) (M 1 1) (M 12) (M 2) f c) (4 * (16 * y + x) + (v1 + 1)) - zc (gSd (M 1 0) (M 1 1) (M 12) (M 2) f c) (4 * (16 * y + x))  -- I3.3.hs
            intro c c0 c1; rw [st c c0 (by rw [es]; omega)]; exact hs c c0 c1
          · show ∀ c, 0 ≤ c → c < 16 → 0 ≤ M3 15 c ∧ M3 15 c ≤ 1000 + (v1 + 1)  -- I3.3.hb
            intro c c0 c1; have := hb c c0 c1; omega
        · -- b4.2
          have o7 : ((0 : Int) ≤ r16 ∧ r16 < 16) := by
            first | with_reducible assumption | omega | exact trivial | with_reducible rfl  -- o7
          refine ⟨o7, ?_⟩
          have o8 : zin ((M3 15 r16) + 1) := by
            have := hb r16 o7.1 o7.2; omega
          refine ⟨o8, ?_⟩
          intro M45 e_M45
          have o9 : zin (v1 + 1) := by
            first | with_reducible assumption | omega | exact trivial | with_reducible rfl  -- o9
          refine ⟨o9, ?_⟩
          refine ⟨Int.toNat (4 - (v1 + 1)), by omega, by omega, ?_, ?_, ?_, ?_⟩
          · show 0 ≤ (v1 + 1) ∧ (v1 + 1) ≤ 4  -- I3.4.hv
            first | with_reducible assumption | omega | exact trivial | with_reducible rfl
          · show ∀ c i, c ≠ 15 → M45 c i = M c i  -- I3.4.hf
            intro c i h; rw [e_M45, zset_n _ (.inl h)]; exact hf c i h
          · show ∀ c, 0 ≤ c → c < 16 → M45 15 c = M 15 c + zc (gSd (M 1 0) (M 1 1) (M 12) (M 2) f c) (4 * (16 * y + x) + (v1 + 1)) - zc (gSd (M 1 0) (M 1 1) (M 12) (M 2) f c) (4 * (16 * y + x))  -- I3.4.hs
            intro c c0 c1
            by_cases k : c = r16
            · rw [e_M45, k, zset_s, show 4 * (16 * y + x) + (v1 + 1) = 4 * (16 * y + x) + v1 + 1 by omega, zc_p (by omega) (by rw [es]; exact ⟨hl, rfl, b4⟩), hs r16 o7.1 o7.2]
              omega
            · rw [e_M45, zset_n _ (.inr k), st c c0 (by rw [es]; omega)]; exact hs c c0 c1
          · show ∀ c, 0 ≤ c → c < 16 → 0 ≤ M45 15 c ∧ M45 15 c ≤ 1000 + (v1 + 1)  -- I3.4.hb
            intro c c0 c1
            rw [e_M45]
            have := hb c c0 c1
            have := hb r16 o7.1 o7.2
            unfold zset
            split <;> omega

abbrev pr_X2_colourMostBeside (f : Int) (M : zM) : Prop := (bDim M) ∧ (bFok M) ∧ (0 ≤ f ∧ f < M 5 2)
abbrev po_X2_colourMostBeside (f : Int) (M : zM) (r : Int) (M' : zM) : Prop := (∀ c i, c ≠ 15 → M' c i = M c i) ∧ (gMost (fun c => zc (gSd (M 1 0) (M 1 1) (M 12) (M 2) f c) 768) r)
set_option maxHeartbeats 1000000 in
theorem ok_X2_colourMostBeside : zSnd zS 145 0 0 yX2_colourMostBeside cX2_colourMostBeside 4 (some .int) 2 [2, 0] (F_X2_colourMostBeside pr_X2_colourMostBeside po_X2_colourMostBeside) := by
  refine (sn_X2_colourMostBeside ok_J7_fill_53178 ok_X2_faceAt ok_X2_countSides).mono ?_
  rintro xs P M hz hR ⟨f, rfl, ⟨hd, hF, ha⟩, hP⟩
  refine ⟨_, rfl, ?_⟩
  have z_f := zall_h (zall_t hz) (by decide)
  change vc_X2_colourMostBeside pr_J7_fill_53178 po_J7_fill_53178 pr_X2_faceAt po_X2_faceAt pr_X2_countSides po_X2_countSides f P M
  unfold vc_X2_colourMostBeside
  have hN := hF.N hd
  obtain ⟨hb, hb2⟩ := (hF.2.2 f ha.1 ha.2).box (by omega) (by omega)
  have hno : ∀ c i, 0 ≤ i → i < 768 → gSd (M 1 0) (M 1 1) (M 12) (M 2) f c i → M 8 f ≤ i / 4 % 16 ∧ i / 4 % 16 ≤ M 10 f ∧ M 9 f ≤ i / 4 / 16 ∧ i / 4 / 16 ≤ M 11 f := by
    intro c i i0 i1 g
    have e := g.1
    refine hb (i / 4) ?_ e
    apply Classical.byContradiction
    intro n
    have := hF.2.1 (i / 4) (by omega) (by omega) n
    omega
  have hsk : ∀ c a b, 0 ≤ a → a ≤ b → b ≤ 768 → (∀ i, a ≤ i → i < b → ¬ (M 8 f ≤ i / 4 % 16 ∧ i / 4 % 16 ≤ M 10 f ∧ M 9 f ≤ i / 4 / 16 ∧ i / 4 / 16 ≤ M 11 f)) → zc (gSd (M 1 0) (M 1 1) (M 12) (M 2) f c) b = zc (gSd (M 1 0) (M 1 1) (M 12) (M 2) f c) a :=
    fun c a b a0 ab b7 h => zc_skip a0 b ab (fun i i0 i1 g => h i i0 i1 (hno c i (by omega) (by omega) g))
  have gc1 : pr_J7_fill_53178 15 0 M := by
    refine ⟨?_, ?_⟩
    · show zia 15  -- c1.ha
      exact zia_k (c := 15) (by decide +kernel)
    · show zin 0  -- c1.hv
      decide
  refine ⟨gc1, ?_⟩
  rintro M1 ⟨pc1_hi, pc1_hf⟩ z_M1
  have e15 : zlni 15 = 16 := rfl
  rw [e15] at pc1_hi pc1_hf
  have q8 := pc1_hf 8 f (.inl (by decide))
  have q9 := pc1_hf 9 f (.inl (by decide))
  have q10 := pc1_hf 10 f (.inl (by decide))
  have q11 := pc1_hf 11 f (.inl (by decide))
  have o1 : ((0 : Int) ≤ f ∧ f < 192) := by
    first | with_reducible assumption | omega | exact trivial | with_reducible rfl  -- o1
  refine ⟨o1, ?_⟩
  refine ⟨fun v7 M9 n11 => (n11 : Int) = (20 - v7) ∧ (M 9 f ≤ v7 ∧ v7 ≤ M 11 f + 1) ∧ (∀ c i, c ≠ 15 → M9 c i = M c i) ∧ (∀ c, 0 ≤ c → c < 16 → M9 15 c = zc (gSd (M 1 0) (M 1 1) (M 12) (M 2) f c) (4 * (16 * v7))), ⟨Int.toNat (20 - (M1 9 f)), by omega, ?_, ?_, ?_⟩, ?_⟩
  · show M 9 f ≤ (M1 9 f) ∧ (M1 9 f) ≤ M 11 f + 1  -- I15.0.hv
    omega
  · show ∀ c i, c ≠ 15 → M1 c i = M c i  -- I15.0.hf
    intro c i h; exact pc1_hf c i (.inl h)
  · show ∀ c, 0 ≤ c → c < 16 → M1 15 c = zc (gSd (M 1 0) (M 1 1) (M 12) (M 2) f c) (4 * (16 * (M1 9 f)))  -- I15.0.hs
    intro c c0 c1
    rw [pc1_hi c c0 c1, hsk c 0 _ (by omega) (by omega) (by omega) (fun i i0 i1 => by omega), zc_z]
  rintro v7 M9 n11 ⟨h_n11, hv, hf, hs⟩ z_v7 z_M9
  have w8 := hf 8 f (by decide)
  have w10 := hf 10 f (by decide)
  have w11 := hf 11 f (by decide)
  refine ⟨fun b1 => ?_, fun b1 => ?_⟩
  · -- b1.1
    have hs9 : ∀ c, 0 ≤ c → c < 16 → M9 15 c = zc (gSd (M 1 0) (M 1 1) (M 12) (M 2) f c) 768 := fun c c0 c1 => by
      rw [hs c c0 c1, hsk c (4 * (16 * v7)) 768 (by omega) (by omega) (by omega) (fun i i0 i1 => by omega)]
    refine ⟨fun v19 v20 n23 => (n23 : Int) = (16 - v20) ∧ (0 ≤ v20 ∧ v20 ≤ 16) ∧ (gMo (fun c => zc (gSd (M 1 0) (M 1 1) (M 12) (M 2) f c) 768) v20 v19) ∧ (-1 ≤ v19 ∧ v19 < 16), ⟨Int.toNat (16 - 0), by omega, ?_, ?_, ?_⟩, ?_⟩
    · show 0 ≤ 0 ∧ 0 ≤ 16  -- I75.0.hv2
      first | with_reducible assumption | omega | exact trivial | with_reducible rfl
    · show gMo (fun c => zc (gSd (M 1 0) (M 1 1) (M 12) (M 2) f c) 768) 0 (-1)  -- I75.0.hm
      exact .inl ⟨rfl, fun c c0 c1 => by omega⟩
    · show -1 ≤ (-1) ∧ (-1) < 16  -- I75.0.hb19
      first | with_reducible assumption | omega | exact trivial | with_reducible rfl
    rintro v19 v20 n23 ⟨h_n23, hv2, hm, hb19⟩ z_v19 z_v20
    refine ⟨fun b2 => ?_, fun b2 => ?_⟩
    · -- b2.1
      refine hP _ _ ⟨?_, ?_⟩
      · show ∀ c i, c ≠ 15 → M9 c i = M c i  -- p1.hf
        first | with_reducible assumption | omega | exact trivial | with_reducible rfl
      · show gMost (fun c => zc (gSd (M 1 0) (M 1 1) (M 12) (M 2) f c) 768) v19  -- p1.hr
        rw [show v20 = 16 by omega] at hm
        exact hm
    · -- b2.2
      have h20 := hs9 v20 hv2.1 (by omega)
      have o2 : ((0 : Int) ≤ v20 ∧ v20 < 16) := by
        first | with_reducible assumption | omega | exact trivial | with_reducible rfl  -- o2
      refine ⟨o2, ?_⟩
      refine ⟨fun b3 => ?_, fun b3 => ?_⟩
      · -- b3.1
        have o3 : zin (v20 + 1) := by
          first | with_reducible assumption | omega | exact trivial | with_reducible rfl  -- o3
        refine ⟨o3, ?_⟩
        refine ⟨Int.toNat (16 - (v20 + 1)), by omega, by omega, ?_, ?_, ?_⟩
        · show 0 ≤ (v20 + 1) ∧ (v20 + 1) ≤ 16  -- I75.1.hv2
          first | with_reducible assumption | omega | exact trivial | with_reducible rfl
        · show gMo (fun c => zc (gSd (M 1 0) (M 1 1) (M 12) (M 2) f c) 768) (v20 + 1) v19  -- I75.1.hm
          exact hm.no (.inl (by rw [← h20]; exact b3))
        · show -1 ≤ v19 ∧ v19 < 16  -- I75.1.hb19
          first | with_reducible assumption | omega | exact trivial | with_reducible rfl
      · -- b3.2
        refine ⟨fun b4 => ?_, fun b4 => ?_⟩
        · -- b4.1
          have o4 : zin (v20 + 1) := by
            first | with_reducible assumption | omega | exact trivial | with_reducible rfl  -- o4
          refine ⟨o4, ?_⟩
          refine ⟨Int.toNat (16 - (v20 + 1)), by omega, by omega, ?_, ?_, ?_⟩
          · show 0 ≤ (v20 + 1) ∧ (v20 + 1) ≤ 16  -- I75.2.hv2
            first | with_reducible assumption | omega | exact trivial | with_reducible rfl
          · show gMo (fun c => zc (gSd (M 1 0) (M 1 1) (M 12) (M 2) f c) 768) (v20 + 1) v20  -- I75.2.hm
            exact hm.yes hv2.1 (by rw [← h20]; omega) (.inl b4)
          · show -1 ≤ v20 ∧ v20 < 16  -- I75.2.hb19
            first | with_reducible assumption | omega | exact trivial | with_reducible rfl
        · -- b4.2
          have o5 : ((0 : Int) ≤ v19 ∧ v19 < 16) := by
            first | with_reducible assumption | omega | exact trivial | with_reducible rfl  -- o5
          refine ⟨o5, ?_⟩
          refine ⟨fun b5 => ?_, fun b5 => ?_⟩
          · -- b5.1
            have o6 : zin (v20 + 1) := by
              first | with_reducible assumption | omega | exact trivial | with_reducible rfl  -- o6
            refine ⟨o6, ?_⟩
            refine ⟨Int.toNat (16 - (v20 + 1)), by omega, by omega, ?_, ?_, ?_⟩
            · show 0 ≤ (v20 + 1) ∧ (v20 + 1) ≤ 16  -- I75.3.hv2
              first | with_reducible assumption | omega | exact trivial | with_reducible rfl
            · show gMo (fun c => zc (gSd (M 1 0) (M 1 1) (M 12) (M 2) f c) 768) (v20 + 1) v19  -- I75.3.hm
              exact hm.no (.inr ⟨by omega, by rw [← h20, ← hs9 v19 (by omega) (by omega)]; exact b5⟩)
            · show -1 ≤ v19 ∧ v19 < 16  -- I75.3.hb19
              first | with_reducible assumption | omega | exact trivial | with_reducible rfl
          · -- b5.2
            have o7 : zin (v20 + 1) := by
              first | with_reducible assumption | omega | exact trivial | with_reducible rfl  -- o7
            refine ⟨o7, ?_⟩
            refine ⟨Int.toNat (16 - (v20 + 1)), by omega, by omega, ?_, ?_, ?_⟩
            · show 0 ≤ (v20 + 1) ∧ (v20 + 1) ≤ 16  -- I75.4.hv2
              first | with_reducible assumption | omega | exact trivial | with_reducible rfl
            · show gMo (fun c => zc (gSd (M 1 0) (M 1 1) (M 12) (M 2) f c) 768) (v20 + 1) v20  -- I75.4.hm
              exact hm.yes hv2.1 (by rw [← h20]; omega) (.inr (by rw [← h20, ← hs9 v19 (by omega) (by omega)]; omega))
            · show -1 ≤ v20 ∧ v20 < 16  -- I75.4.hb19
              first | with_reducible assumption | omega | exact trivial | with_reducible rfl
  · -- b1.2
    refine ⟨fun v52 M54 n56 => (n56 : Int) = (20 - v52) ∧ (M 8 f ≤ v52 ∧ v52 ≤ M 10 f + 1) ∧ (∀ c i, c ≠ 15 → M54 c i = M c i) ∧ (∀ c, 0 ≤ c → c < 16 → M54 15 c = zc (gSd (M 1 0) (M 1 1) (M 12) (M 2) f c) (4 * (16 * v7 + v52))), ⟨Int.toNat (20 - (M9 8 f)), by omega, ?_, ?_, ?_⟩, ?_⟩
    · show M 8 f ≤ (M9 8 f) ∧ (M9 8 f) ≤ M 10 f + 1  -- I32.0.hv3
      first | with_reducible assumption | omega | exact trivial | with_reducible rfl
    · show ∀ c i, c ≠ 15 → M9 c i = M c i  -- I32.0.hf2
      first | with_reducible assumption | omega | exact trivial | with_reducible rfl
    · show ∀ c, 0 ≤ c → c < 16 → M9 15 c = zc (gSd (M 1 0) (M 1 1) (M 12) (M 2) f c) (4 * (16 * v7 + (M9 8 f)))  -- I32.0.hs2
      intro c c0 c1
      rw [hs c c0 c1, w8, hsk c (4 * (16 * v7)) (4 * (16 * v7 + M 8 f)) (by omega) (by omega) (by omega) (fun i i0 i1 => by omega)]
    rintro v52 M54 n56 ⟨h_n56, hv3, hf2, hs2⟩ z_v52 z_M54
    have y0 := hf2 1 0 (by decide)
    have y1 := hf2 1 1 (by decide)
    have y10 := hf2 10 f (by decide)
    have y12 : M54 12 = M 12 := funext fun i => hf2 12 i (by decide)
    have yc : M54 2 = M 2 := funext fun i => hf2 2 i (by decide)
    refine ⟨fun b6 => ?_, fun b6 => ?_⟩
    · -- b6.1
      have o8 : zin (v7 + 1) := by
        first | with_reducible assumption | omega | exact trivial | with_reducible rfl  -- o8
      refine ⟨o8, ?_⟩
      refine ⟨Int.toNat (20 - (v7 + 1)), by omega, by omega, ?_, ?_, ?_⟩
      · show M 9 f ≤ (v7 + 1) ∧ (v7 + 1) ≤ M 11 f + 1  -- I15.1.hv
        first | with_reducible assumption | omega | exact trivial | with_reducible rfl
      · show ∀ c i, c ≠ 15 → M54 c i = M c i  -- I15.1.hf
        first | with_reducible assumption | omega | exact trivial | with_reducible rfl
      · show ∀ c, 0 ≤ c → c < 16 → M54 15 c = zc (gSd (M 1 0) (M 1 1) (M 12) (M 2) f c) (4 * (16 * (v7 + 1)))  -- I15.1.hs
        intro c c0 c1
        rw [hs2 c c0 c1, hsk c (4 * (16 * v7 + v52)) (4 * (16 * (v7 + 1))) (by omega) (by omega) (by omega) (fun i i0 i1 => by omega)]
    · -- b6.2
      have gc2 : pr_X2_faceAt v52 v7 M54 := by
        show bDim M54
        unfold bDim; omega
      refine ⟨gc2, ?_⟩
      rintro r68 M69 ⟨q_rfl, e_r68⟩ z_r68 z_M69
      have q_rfl := q_rfl.symm
      subst q_rfl
      have e68 : r68 = M 12 (16 * v7 + v52) := by rw [e_r68, y0, y1, y12]; exact zg_i (L := M 12) (by omega)
      refine ⟨fun b7 => ?_, fun b7 => ?_⟩
      · -- b7.1
        have o9 : zin (v52 + 1) := by
          first | with_reducible assumption | omega | exact trivial | with_reducible rfl  -- o9
        refine ⟨o9, ?_⟩
        refine ⟨Int.toNat (20 - (v52 + 1)), by omega, by omega, ?_, ?_, ?_⟩
        · show M 8 f ≤ (v52 + 1) ∧ (v52 + 1) ≤ M 10 f + 1  -- I32.1.hv3
          first | with_reducible assumption | omega | exact trivial | with_reducible rfl
        · show ∀ c i, c ≠ 15 → M54 c i = M c i  -- I32.1.hf2
          first | with_reducible assumption | omega | exact trivial | with_reducible rfl
        · show ∀ c, 0 ≤ c → c < 16 → M54 15 c = zc (gSd (M 1 0) (M 1 1) (M 12) (M 2) f c) (4 * (16 * v7 + (v52 + 1)))  -- I32.1.hs2
          intro c c0 c1
          rw [hs2 c c0 c1, show 4 * (16 * v7 + (v52 + 1)) = 4 * (16 * v7 + v52) + 4 by omega]
          refine (zc_skip (by omega) _ (by omega) (fun i i0 i1 g => ?_)).symm
          have := g.1
          rw [show i / 4 = 16 * v7 + v52 by omega] at this
          exact b7 (e68.trans this)
      · -- b7.2
        have gc3 : pr_X2_countSides v52 v7 f M54 := by
          refine ⟨?_, ?_, ?_, ?_, ?_, ?_⟩
          · show bDim M54  -- c3.hd
            unfold bDim; omega
          · show 0 ≤ v52 ∧ v52 < M54 1 0  -- c3.hx
            omega
          · show 0 ≤ v7 ∧ v7 < M54 1 1  -- c3.hy
            omega
          · show M54 12 (16 * v7 + v52) = f  -- c3.hl
            rw [y12, ← e68]; exact b7
          · show 0 ≤ f  -- c3.hf0
            first | with_reducible assumption | omega | exact trivial | with_reducible rfl
          · show ∀ c, 0 ≤ c → c < 16 → 0 ≤ M54 15 c ∧ M54 15 c ≤ 1000  -- c3.h15
            intro c c0 c1; rw [hs2 c c0 c1]; have := zc_b (gSd (M 1 0) (M 1 1) (M 12) (M 2) f c) (4 * (16 * v7 + v52)) (by omega); omega
        refine ⟨gc3, ?_⟩
        rintro M79 ⟨pc3_hf, pc3_hs⟩ z_M79
        rw [y0, y1, y12, yc] at pc3_hs
        have o10 : zin (v52 + 1) := by
          first | with_reducible assumption | omega | exact trivial | with_reducible rfl  -- o10
        refine ⟨o10, ?_⟩
        refine ⟨Int.toNat (20 - (v52 + 1)), by omega, by omega, ?_, ?_, ?_⟩
        · show M 8 f ≤ (v52 + 1) ∧ (v52 + 1) ≤ M 10 f + 1  -- I32.2.hv3
          first | with_reducible assumption | omega | exact trivial | with_reducible rfl
        · show ∀ c i, c ≠ 15 → M79 c i = M c i  -- I32.2.hf2
          intro c i h; rw [pc3_hf c i h]; exact hf2 c i h
        · show ∀ c, 0 ≤ c → c < 16 → M79 15 c = zc (gSd (M 1 0) (M 1 1) (M 12) (M 2) f c) (4 * (16 * v7 + (v52 + 1)))  -- I32.2.hs2
          intro c c0 c1
          rw [pc3_hs c c0 c1, hs2 c c0 c1, show 4 * (16 * v7 + (v52 + 1)) = 4 * (16 * v7 + v52) + 4 by omega]
          omega

abbrev pr_X2_paintDraft (f : Int) (e : Int) (M : zM) : Prop := (bDim M) ∧ (bFok M) ∧ (0 ≤ f ∧ f < M 5 2) ∧ (e ≤ 15)
abbrev po_X2_paintDraft (f : Int) (e : Int) (M : zM) (M' : zM) : Prop := (∀ c i, c ≠ 4 → M' c i = M c i) ∧ (∀ i, 0 ≤ i → i < 192 → M' 4 i = if 0 ≤ e ∧ M 12 i = f then e else M 4 i)
set_option maxHeartbeats 1000000 in
theorem ok_X2_paintDraft : zSnd zS 145 0 0 yX2_paintDraft cX2_paintDraft 5 none 1 [2, 0, 0] (F_X2_paintDraft pr_X2_paintDraft po_X2_paintDraft) := by
  refine (sn_X2_paintDraft ok_X2_faceAt).mono ?_
  rintro xs P M hz hR ⟨f, e, rfl, ⟨hd, hF, ha, he⟩, hP⟩
  refine ⟨_, _, rfl, ?_⟩
  have z_f := zall_h (zall_t hz) (by decide)
  have z_e := zall_h (zall_t (zall_t hz)) (by decide)
  change vc_X2_paintDraft pr_X2_faceAt po_X2_faceAt f e P M
  unfold vc_X2_paintDraft
  have hN := hF.N hd
  obtain ⟨hb, hb2⟩ := (hF.2.2 f ha.1 ha.2).box (by omega) (by omega)
  have hb3 : ∀ k, 0 ≤ k → k < 192 → M 12 k = f → M 8 f ≤ k % 16 ∧ k % 16 ≤ M 10 f ∧ M 9 f ≤ k / 16 ∧ k / 16 ≤ M 11 f := by
    intro k k0 k1 e
    refine hb k ?_ e
    apply Classical.byContradiction
    intro n
    have := hF.2.1 k k0 k1 n
    omega
  refine ⟨fun b1 => ?_, fun b1 => ?_⟩
  · -- b1.1
    have o1 : ((0 : Int) ≤ f ∧ f < 192) := by
      first | with_reducible assumption | omega | exact trivial | with_reducible rfl  -- o1
    refine ⟨o1, ?_⟩
    refine ⟨fun v3 M5 n7 => (n7 : Int) = (20 - v3) ∧ (M 9 f ≤ v3 ∧ v3 ≤ M 11 f + 1) ∧ (∀ c i, c ≠ 4 → M5 c i = M c i) ∧ (∀ i, 0 ≤ i → i < 192 → M5 4 i = if i < 16 * v3 ∧ M 12 i = f then e else M 4 i), ⟨Int.toNat (20 - (M 9 f)), by omega, ?_, ?_, ?_⟩, ?_⟩
    · show M 9 f ≤ (M 9 f) ∧ (M 9 f) ≤ M 11 f + 1  -- I12.0.hv
      omega
    · show ∀ c i, c ≠ 4 → M c i = M c i  -- I12.0.hf
      first | with_reducible assumption | omega | exact trivial | with_reducible rfl
    · show ∀ i, 0 ≤ i → i < 192 → M 4 i = if i < 16 * (M 9 f) ∧ M 12 i = f then e else M 4 i  -- I12.0.hp
      intro i i0 i1; rw [if_neg]; rintro ⟨h, h2⟩; have := hb3 i i0 i1 h2; omega
    rintro v3 M5 n7 ⟨h_n7, hv, hf, hp⟩ z_v3 z_M5
    have w8 := hf 8 f (by decide)
    have w11 := hf 11 f (by decide)
    refine ⟨fun b2 => ?_, fun b2 => ?_⟩
    · -- b2.1
      refine hP _ ⟨?_, ?_⟩
      · show ∀ c i, c ≠ 4 → M5 c i = M c i  -- p1.hf
        first | with_reducible assumption | omega | exact trivial | with_reducible rfl
      · show ∀ i, 0 ≤ i → i < 192 → M5 4 i = if 0 ≤ e ∧ M 12 i = f then e else M 4 i  -- p1.hp
        intro i i0 i1
        rw [hp i i0 i1]
        by_cases c : M 12 i = f
        · have := hb3 i i0 i1 c
          rw [if_pos ⟨by omega, c⟩, if_pos ⟨by omega, c⟩]
        · rw [if_neg (fun h => c h.2), if_neg (fun h => c h.2)]
    · -- b2.2
      refine ⟨fun v15 M17 n19 => (n19 : Int) = (20 - v15) ∧ (M 8 f ≤ v15 ∧ v15 ≤ M 10 f + 1) ∧ (∀ c i, c ≠ 4 → M17 c i = M c i) ∧ (∀ i, 0 ≤ i → i < 192 → M17 4 i = if i < 16 * v3 + v15 ∧ M 12 i = f then e else M 4 i), ⟨Int.toNat (20 - (M5 8 f)), by omega, ?_, ?_, ?_⟩, ?_⟩
      · show M 8 f ≤ (M5 8 f) ∧ (M5 8 f) ≤ M 10 f + 1  -- I30.0.hv2
        first | with_reducible assumption | omega | exact trivial | with_reducible rfl
      · show ∀ c i, c ≠ 4 → M5 c i = M c i  -- I30.0.hf2
        first | with_reducible assumption | omega | exact trivial | with_reducible rfl
      · show ∀ i, 0 ≤ i → i < 192 → M5 4 i = if i < 16 * v3 + (M5 8 f) ∧ M 12 i = f then e else M 4 i  -- I30.0.hp2
        intro i i0 i1
        rw [hp i i0 i1]
        by_cases c : M 12 i = f
        · have := hb3 i i0 i1 c
          by_cases k : i < 16 * v3
          · rw [if_pos ⟨k, c⟩, if_pos ⟨by omega, c⟩]
          · rw [if_neg (fun h => k h.1), if_neg (by omega)]
        · rw [if_neg (fun h => c h.2), if_neg (fun h => c h.2)]
      rintro v15 M17 n19 ⟨h_n19, hv2, hf2, hp2⟩ z_v15 z_M17
      have y0 := hf2 1 0 (by decide)
      have y1 := hf2 1 1 (by decide)
      have y10 := hf2 10 f (by decide)
      have y12 : M17 12 = M 12 := funext fun i => hf2 12 i (by decide)
      refine ⟨fun b3 => ?_, fun b3 => ?_⟩
      · -- b3.1
        have o2 : zin (v3 + 1) := by
          first | with_reducible assumption | omega | exact trivial | with_reducible rfl  -- o2
        refine ⟨o2, ?_⟩
        refine ⟨Int.toNat (20 - (v3 + 1)), by omega, by omega, ?_, ?_, ?_⟩
        · show M 9 f ≤ (v3 + 1) ∧ (v3 + 1) ≤ M 11 f + 1  -- I12.1.hv
          first | with_reducible assumption | omega | exact trivial | with_reducible rfl
        · show ∀ c i, c ≠ 4 → M17 c i = M c i  -- I12.1.hf
          first | with_reducible assumption | omega | exact trivial | with_reducible rfl
        · show ∀ i, 0 ≤ i → i < 192 → M17 4 i = if i < 16 * (v3 + 1) ∧ M 12 i = f then e else M 4 i  -- I12.1.hp
          intro i i0 i1
          rw [hp2 i i0 i1]
          by_cases c : M 12 i = f
          · have := hb3 i i0 i1 c
            by_cases k : i < 16 * v3 + v15
            · rw [if_pos ⟨k, c⟩, if_pos ⟨by omega, c⟩]
            · rw [if_neg (fun h => k h.1), if_neg (by omega)]
          · rw [if_neg (fun h => c h.2), if_neg (fun h => c h.2)]
      · -- b3.2
        have gc1 : pr_X2_faceAt v15 v3 M17 := by
          show bDim M17
          unfold bDim; omega
        refine ⟨gc1, ?_⟩
        rintro r31 M32 ⟨q_rfl, e_r31⟩ z_r31 z_M32
        have q_rfl := q_rfl.symm
        subst q_rfl
        have e31 : r31 = M 12 (16 * v3 + v15) := by rw [e_r31, y0, y1, y12]; exact zg_i (L := M 12) (by omega)
        refine ⟨fun b4 => ?_, fun b4 => ?_⟩
        · -- b4.1
          have o3 : zin (v15 + 1) := by
            first | with_reducible assumption | omega | exact trivial | with_reducible rfl  -- o3
          refine ⟨o3, ?_⟩
          refine ⟨Int.toNat (20 - (v15 + 1)), by omega, by omega, ?_, ?_, ?_⟩
          · show M 8 f ≤ (v15 + 1) ∧ (v15 + 1) ≤ M 10 f + 1  -- I30.1.hv2
            first | with_reducible assumption | omega | exact trivial | with_reducible rfl
          · show ∀ c i, c ≠ 4 → M17 c i = M c i  -- I30.1.hf2
            first | with_reducible assumption | omega | exact trivial | with_reducible rfl
          · show ∀ i, 0 ≤ i → i < 192 → M17 4 i = if i < 16 * v3 + (v15 + 1) ∧ M 12 i = f then e else M 4 i  -- I30.1.hp2
            intro i i0 i1
            rw [hp2 i i0 i1]
            by_cases c : M 12 i = f
            · have : i ≠ 16 * v3 + v15 := fun h => b4 (by rw [e31, ← h]; exact c)
              by_cases k : i < 16 * v3 + v15
              · rw [if_pos ⟨k, c⟩, if_pos ⟨by omega, c⟩]
              · rw [if_neg (fun h => k h.1), if_neg (by omega)]
            · rw [if_neg (fun h => c h.2), if_neg (fun h => c h.2)]
        · -- b4.2
          have o4 : ((0 : Int) ≤ ((16 * v3) + v15) ∧ ((16 * v3) + v15) < 192) := by
            first | with_reducible assumption | omega | exact trivial | with_reducible rfl  -- o4
          refine ⟨o4, ?_⟩
          intro M43 e_M43
          have eb : Int.bmod e 256 = e := zbm8 (by omega)
          have o5 : zin (v15 + 1) := by
            first | with_reducible assumption | omega | exact trivial | with_reducible rfl  -- o5
          refine ⟨o5, ?_⟩
          refine ⟨Int.toNat (20 - (v15 + 1)), by omega, by omega, ?_, ?_, ?_⟩
          · show M 8 f ≤ (v15 + 1) ∧ (v15 + 1) ≤ M 10 f + 1  -- I30.2.hv2
            first | with_reducible assumption | omega | exact trivial | with_reducible rfl
          · show ∀ c i, c ≠ 4 → M43 c i = M c i  -- I30.2.hf2
            intro c i h; rw [e_M43, zset_n _ (.inl h)]; exact hf2 c i h
          · show ∀ i, 0 ≤ i → i < 192 → M43 4 i = if i < 16 * v3 + (v15 + 1) ∧ M 12 i = f then e else M 4 i  -- I30.2.hp2
            intro i i0 i1
            by_cases c : i = 16 * v3 + v15
            · rw [e_M43, c, zset_s, eb, if_pos ⟨by omega, by rw [← e31]; exact b4⟩]
            · rw [e_M43, zset_n _ (.inr c), hp2 i i0 i1]
              by_cases k : i < 16 * v3 + v15 ∧ M 12 i = f
              · rw [if_pos k, if_pos ⟨by omega, k.2⟩]
              · rw [if_neg k, if_neg (by omega)]
  · -- b1.2
    refine hP _ ⟨?_, ?_⟩
    · show ∀ c i, c ≠ 4 → M c i = M c i  -- p2.hf
      first | with_reducible assumption | omega | exact trivial | with_reducible rfl
    · show ∀ i, 0 ≤ i → i < 192 → M 4 i = if 0 ≤ e ∧ M 12 i = f then e else M 4 i  -- p2.hp
      intro i i0 i1; rw [if_neg (fun h => b1 h.1)]

