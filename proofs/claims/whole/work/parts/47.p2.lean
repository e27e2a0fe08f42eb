/-- the dots have colours -/
def bCo (M : zM) : Prop := ∀ i, 0 ≤ i → i < 192 → 0 ≤ M 2 i ∧ M 2 i ≤ 15
abbrev pr_X4_countColours (M : zM) : Prop := (bDim M) ∧ (bCo M)
abbrev po_X4_countColours (M : zM) (r : Int) (M' : zM) : Prop := (∀ c i, c ≠ 51 → c ≠ 52 → M' c i = M c i) ∧ (∀ c, 0 ≤ c → c < 16 → M' 51 c = gCn (M 1 0) (M 1 1) (M 2) c) ∧ (r = zc (fun c => 0 < gCn (M 1 0) (M 1 1) (M 2) c) 16) ∧ (gOc (gCn (M 1 0) (M 1 1) (M 2)) r (M' 52))
set_option maxHeartbeats 2000000 in
theorem ok_X4_countColours : zSnd zS 145 0 0 yX4_countColours cX4_countColours 4 (some .int) 1 [2] (F_X4_countColours pr_X4_countColours po_X4_countColours) := by
  refine (sn_X4_countColours ok_J7_fill_53178 ok_X0_colourAt ok_X11_isColour).mono ?_
  rintro xs P M hz hR ⟨rfl, ⟨hd, hc⟩, hP⟩
  refine ⟨rfl, ?_⟩
  change vc_X4_countColours pr_J7_fill_53178 po_J7_fill_53178 pr_X0_colourAt po_X0_colourAt pr_X11_isColour po_X11_isColour P M
  unfold vc_X4_countColours
  have gc1 : pr_J7_fill_53178 51 0 M := by
    refine ⟨?_, ?_⟩
    · show zia 51  -- c1.ha
      exact zia_k (c := 51) (by decide +kernel)
    · show zin 0  -- c1.hv
      decide
  refine ⟨gc1, ?_⟩
  rintro M1 ⟨pc1_hi, pc1_hf⟩ z_M1
  have e51 : zlni 51 = 16 := rfl
  rw [e51] at pc1_hi pc1_hf
  refine ⟨fun v6 M8 n10 => (n10 : Int) = (20 - v6) ∧ (0 ≤ v6 ∧ v6 ≤ M 1 1) ∧ (∀ c i, c ≠ 51 → M8 c i = M c i) ∧ (∀ c, 0 ≤ c → c < 16 → M8 51 c = zc (fun a => gD (M 1 0) (M 1 1) a ∧ M 2 a = c) (16 * v6)), ⟨Int.toNat (20 - 0), by omega, ?_, ?_, ?_⟩, ?_⟩
  · show 0 ≤ 0 ∧ 0 ≤ M 1 1  -- I10.0.hv
    first | with_reducible assumption | omega | exact trivial | with_reducible rfl
  · show ∀ c i, c ≠ 51 → M1 c i = M c i  -- I10.0.hf
    intro c i h; exact pc1_hf c i (.inl h)
  · show ∀ c, 0 ≤ c → c < 16 → M1 51 c = zc (fun a => gD (M 1 0) (M 1 1) a ∧ M 2 a = c) (16 * 0)  -- I10.0.hq
    intro c c0 c1; rw [pc1_hi c c0 c1]; rfl
  rintro v6 M8 n10 ⟨h_n10, hv, hf, hq⟩ z_v6 z_M8
  have w0 := hf 1 0 (by decide)
  have w1 := hf 1 1 (by decide)
  refine ⟨fun b1 => ?_, fun b1 => ?_⟩
  · -- b1.1
    have hq9 : ∀ c, 0 ≤ c → c < 16 → M8 51 c = gCn (M 1 0) (M 1 1) (M 2) c := fun c c0 c1 => by
      rw [hq c c0 c1]
      exact (zc_skip (by omega) 192 (by omega) (fun i i0 i1 g => by have := g.1; omega)).symm
    refine ⟨fun v18 v19 M22 n24 => (n24 : Int) = (16 - v19) ∧ (0 ≤ v19 ∧ v19 ≤ 16) ∧ (∀ c i, c ≠ 52 → M22 c i = M8 c i) ∧ (v18 = zc (fun c => 0 < gCn (M 1 0) (M 1 1) (M 2) c) v19) ∧ (∀ c, 0 ≤ c → c < v19 → 0 < gCn (M 1 0) (M 1 1) (M 2) c → M22 52 (zc (fun c => 0 < gCn (M 1 0) (M 1 1) (M 2) c) c) = c), ⟨Int.toNat (16 - 0), by omega, ?_, ?_, ?_, ?_⟩, ?_⟩
    · show 0 ≤ 0 ∧ 0 ≤ 16  -- I77.0.hv2
      first | with_reducible assumption | omega | exact trivial | with_reducible rfl
    · show ∀ c i, c ≠ 52 → M8 c i = M8 c i  -- I77.0.hf2
      intro _ _ _; rfl
    · show 0 = zc (fun c => 0 < gCn (M 1 0) (M 1 1) (M 2) c) 0  -- I77.0.h18
      rfl
    · show ∀ c, 0 ≤ c → c < 0 → 0 < gCn (M 1 0) (M 1 1) (M 2) c → M8 52 (zc (fun c => 0 < gCn (M 1 0) (M 1 1) (M 2) c) c) = c  -- I77.0.ho
      intro c c0 c1; omega
    rintro v18 v19 M22 n24 ⟨h_n24, hv2, hf2, h18, ho⟩ z_v18 z_v19 z_M22
    have u := zc_b (fun c => 0 < gCn (M 1 0) (M 1 1) (M 2) c) v19 hv2.1
    refine ⟨fun b2 => ?_, fun b2 => ?_⟩
    · -- b2.1
      refine hP _ _ ⟨?_, ?_, ?_, ?_⟩
      · show ∀ c i, c ≠ 51 → c ≠ 52 → M22 c i = M c i  -- p1.hf
        intro c i c1 c2; rw [hf2 c i c2]; exact hf c i c1
      · show ∀ c, 0 ≤ c → c < 16 → M22 51 c = gCn (M 1 0) (M 1 1) (M 2) c  -- p1.hm
        intro c c0 c1; rw [hf2 51 c (by decide)]; exact hq9 c c0 c1
      · show v18 = zc (fun c => 0 < gCn (M 1 0) (M 1 1) (M 2) c) 16  -- p1.hr
        rw [h18, show v19 = 16 by omega]
      · show gOc (gCn (M 1 0) (M 1 1) (M 2)) v18 (M22 52)  -- p1.ho
        exact ⟨by rw [h18, show v19 = 16 by omega], fun c c0 c1 => ho c c0 (by omega)⟩
    · -- b2.2
      have e19 := (hf2 51 v19 (by decide)).trans (hq9 v19 hv2.1 (by omega))
      have o1 : ((0 : Int) ≤ v19 ∧ v19 < 16) := by
        first | with_reducible assumption | omega | exact trivial | with_reducible rfl  -- o1
      refine ⟨o1, ?_⟩
      refine ⟨fun b3 => ?_, fun b3 => ?_⟩
      · -- b3.1
        have o2 : zin (v19 + 1) := by
          first | with_reducible assumption | omega | exact trivial | with_reducible rfl  -- o2
        refine ⟨o2, ?_⟩
        refine ⟨Int.toNat (16 - (v19 + 1)), by omega, by omega, ?_, ?_, ?_, ?_⟩
        · show 0 ≤ (v19 + 1) ∧ (v19 + 1) ≤ 16  -- I77.1.hv2
          first | with_reducible assumption | omega | exact trivial | with_reducible rfl
        · show ∀ c i, c ≠ 52 → M22 c i = M8 c i  -- I77.1.hf2
          first | with_reducible assumption | omega | exact trivial | with_reducible rfl
        · show v18 = zc (fun c => 0 < gCn (M 1 0) (M 1 1) (M 2) c) (v19 + 1)  -- I77.1.h18
          rw [zc_n (p := fun c => 0 < gCn (M 1 0) (M 1 1) (M 2) c) hv2.1 (by omega)]; exact h18
        · show ∀ c, 0 ≤ c → c < (v19 + 1) → 0 < gCn (M 1 0) (M 1 1) (M 2) c → M22 52 (zc (fun c => 0 < gCn (M 1 0) (M 1 1) (M 2) c) c) = c  -- I77.1.ho
          intro c c0 c1 o
          by_cases k : c = v19
          · subst k; omega
          · exact ho c c0 (by omega) o
      · -- b3.2
        have o3 : ((0 : Int) ≤ v18 ∧ v18 < 16) := by
          first | with_reducible assumption | omega | exact trivial | with_reducible rfl  -- o3
        refine ⟨o3, ?_⟩
        intro M39 e_M39
        have o4 : zin (v18 + 1) := by
          first | with_reducible assumption | omega | exact trivial | with_reducible rfl  -- o4
        refine ⟨o4, ?_⟩
        have o5 : zin (v19 + 1) := by
          first | with_reducible assumption | omega | exact trivial | with_reducible rfl  -- o5
        refine ⟨o5, ?_⟩
        refine ⟨Int.toNat (16 - (v19 + 1)), by omega, by omega, ?_, ?_, ?_, ?_⟩
        · show 0 ≤ (v19 + 1) ∧ (v19 + 1) ≤ 16  -- I77.2.hv2
          first | with_reducible assumption | omega | exact trivial | with_reducible rfl
        · show ∀ c i, c ≠ 52 → M39 c i = M8 c i  -- I77.2.hf2
          intro c i h; rw [e_M39, zset_n _ (.inl h)]; exact hf2 c i h
        · show (v18 + 1) = zc (fun c => 0 < gCn (M 1 0) (M 1 1) (M 2) c) (v19 + 1)  -- I77.2.h18
          rw [zc_p (p := fun c => 0 < gCn (M 1 0) (M 1 1) (M 2) c) hv2.1 (by omega)]; omega
        · show ∀ c, 0 ≤ c → c < (v19 + 1) → 0 < gCn (M 1 0) (M 1 1) (M 2) c → M39 52 (zc (fun c => 0 < gCn (M 1 0) (M 1 1) (M 2) c) c) = c  -- I77.2.ho
          intro c c0 c1 o
          by_cases k : c = v19
          · subst k; rw [e_M39, h18, zset_s]
          · have := zc_lt2 c0 (show c < v19 by omega) (p := fun c => 0 < gCn (M 1 0) (M 1 1) (M 2) c) o
            rw [e_M39, zset_n _ (.inr (by omega))]
            exact ho c c0 (by omega) o
  · -- b1.2
    refine ⟨fun v47 M49 n51 => (n51 : Int) = (20 - v47) ∧ (0 ≤ v47 ∧ v47 ≤ M 1 0) ∧ (∀ c i, c ≠ 51 → M49 c i = M c i) ∧ (∀ c, 0 ≤ c → c < 16 → M49 51 c = zc (fun a => gD (M 1 0) (M 1 1) a ∧ M 2 a = c) (16 * v6 + v47)), ⟨Int.toNat (20 - 0), by omega, ?_, ?_, ?_⟩, ?_⟩
    · show 0 ≤ 0 ∧ 0 ≤ M 1 0  -- I23.0.hv2
      first | with_reducible assumption | omega | exact trivial | with_reducible rfl
    · show ∀ c i, c ≠ 51 → M8 c i = M c i  -- I23.0.hf2
      first | with_reducible assumption | omega | exact trivial | with_reducible rfl
    · show ∀ c, 0 ≤ c → c < 16 → M8 51 c = zc (fun a => gD (M 1 0) (M 1 1) a ∧ M 2 a = c) (16 * v6 + 0)  -- I23.0.hq2
      intro c c0 c1; rw [show 16 * v6 + 0 = 16 * v6 by omega]; exact hq c c0 c1
    rintro v47 M49 n51 ⟨h_n51, hv2, hf2, hq2⟩ z_v47 z_M49
    have y0 := hf2 1 0 (by decide)
    have y1 := hf2 1 1 (by decide)
    have y2 : M49 2 = M 2 := funext fun i => hf2 2 i (by decide)
    refine ⟨fun b4 => ?_, fun b4 => ?_⟩
    · -- b4.1
      have o6 : zin (v6 + 1) := by
        first | with_reducible assumption | omega | exact trivial | with_reducible rfl  -- o6
      refine ⟨o6, ?_⟩
      refine ⟨Int.toNat (20 - (v6 + 1)), by omega, by omega, ?_, ?_, ?_⟩
      · show 0 ≤ (v6 + 1) ∧ (v6 + 1) ≤ M 1 1  -- I10.1.hv
        first | with_reducible assumption | omega | exact trivial | with_reducible rfl
      · show ∀ c i, c ≠ 51 → M49 c i = M c i  -- I10.1.hf
        first | with_reducible assumption | omega | exact trivial | with_reducible rfl
      · show ∀ c, 0 ≤ c → c < 16 → M49 51 c = zc (fun a => gD (M 1 0) (M 1 1) a ∧ M 2 a = c) (16 * (v6 + 1))  -- I10.1.hq
        intro c c0 c1; rw [hq2 c c0 c1]
        exact (zc_skip (by omega) _ (by omega) (fun i i0 i1 g => by have := g.1; omega)).symm
    · -- b4.2
      have gc2 : pr_X0_colourAt v47 v6 M49 := by
        show bDim M49
        unfold bDim; omega
      refine ⟨gc2, ?_⟩
      rintro r63 M64 ⟨q_rfl, e_r63⟩ z_r63 z_M64
      have q_rfl := q_rfl.symm
      subst q_rfl
      have e63 : r63 = M 2 (16 * v6 + v47) := by rw [e_r63]; unfold bCol; rw [y0, y1, y2, if_pos (by omega)]
      have cb := hc (16 * v6 + v47) (by omega) (by omega)
      have gc3 : pr_X11_isColour r63 M49 := trivial
      refine ⟨gc3, ?_⟩
      rintro r69 M70 ⟨q_rfl, e_r69⟩ z_r69 z_M70
      have q_rfl := q_rfl.symm
      subst q_rfl
      refine ⟨fun b5 => ?_, fun b5 => ?_⟩
      · -- b5.1
        exfalso
        rw [if_pos (by omega)] at e_r69
        omega
      · -- b5.2
        have o8 : ((0 : Int) ≤ r63 ∧ r63 < 16) := by
          first | with_reducible assumption | omega | exact trivial | with_reducible rfl  -- o8
        refine ⟨o8, ?_⟩
        have o9 : zin ((M49 51 r63) + 1) := by
          rw [hq2 r63 o8.1 o8.2]; have := zc_b (fun a => gD (M 1 0) (M 1 1) a ∧ M 2 a = r63) (16 * v6 + v47) (by omega); omega
        refine ⟨o9, ?_⟩
        intro M82 e_M82
        have o10 : zin (v47 + 1) := by
          first | with_reducible assumption | omega | exact trivial | with_reducible rfl  -- o10
        refine ⟨o10, ?_⟩
        refine ⟨Int.toNat (20 - (v47 + 1)), by omega, by omega, ?_, ?_, ?_⟩
        · show 0 ≤ (v47 + 1) ∧ (v47 + 1) ≤ M 1 0  -- I23.2.hv2
          first | with_reducible assumption | omega | exact trivial | with_reducible rfl
        · show ∀ c i, c ≠ 51 → M82 c i = M c i  -- I23.2.hf2
          intro c i h; rw [e_M82, zset_n _ (.inl h)]; exact hf2 c i h
        · show ∀ c, 0 ≤ c → c < 16 → M82 51 c = zc (fun a => gD (M 1 0) (M 1 1) a ∧ M 2 a = c) (16 * v6 + (v47 + 1))  -- I23.2.hq2
          intro c c0 c1
          rw [show 16 * v6 + (v47 + 1) = 16 * v6 + v47 + 1 by omega, e_M82]
          by_cases k : c = r63
          · rw [k, zset_s, zc_p (by omega) ⟨by omega, e63.symm⟩, hq2 r63 o8.1 o8.2]
          · rw [zset_n _ (.inr k), zc_n (by omega) (fun g => k (by rw [e63]; exact g.2.symm))]; exact hq2 c c0 c1

theorem gSm_cg {many many' tone : Int → Int} {set : Int} (h : ∀ c, 0 ≤ c → c < 16 → many c = many' c) : ∀ v, 0 ≤ v → v ≤ 16 → gSm many tone set v = gSm many' tone set v := by
  apply zind (P := fun v => v ≤ 16 → gSm many tone set v = gSm many' tone set v)
  · intro _; rfl
  · intro v hv ih c
    rw [gSm_s hv, gSm_s hv, ih (by omega), h v hv (by omega)]
theorem zpc8 {c : Int} (c0 : 0 ≤ c) (c1 : c < 256) : zpc 8 c.toNat = zc (zbt c) 16 := by
  rw [zpc_c 8 c.toNat]
  have : zc (fun i => c.toNat.testBit i.toNat = true) ((8 : Nat) : Int) = zc (zbt c) 8 := rfl
  rw [this]
  exact (zc_skip (by decide) 16 (by decide) (fun i i0 i1 => zbt_lt2 (k := 8) c0 (by omega) i0)).symm
abbrev pr_X4_choose (k : Int) (M : zM) : Prop := (bDim M) ∧ (bCo M) ∧ (∀ c, 0 ≤ c → c < 16 → 0 ≤ M 3 c ∧ M 3 c ≤ 255) ∧ (1 ≤ k ∧ k ≤ 4)
abbrev po_X4_choose (k : Int) (M : zM) (r : Int) (M' : zM) : Prop := (∀ c i, c ≠ 51 → c ≠ 52 → ¬ (c = 50 ∧ (i = 1 ∨ i = 2)) → M' c i = M c i) ∧ (zB r (zc (fun c => 0 < gCn (M 1 0) (M 1 1) (M 2) c) 16 ≤ 8)) ∧ (zc (fun c => 0 < gCn (M 1 0) (M 1 1) (M 2) c) 16 ≤ 8 → gFw (gCn (M 1 0) (M 1 1) (M 2)) (M 3) k (M' 50 1) (M' 50 2))
set_option maxHeartbeats 4000000 in
theorem ok_X4_choose : zSnd zS 145 0 0 yX4_choose cX4_choose 6 (some .boolean) 4 [2, 0] (F_X4_choose pr_X4_choose po_X4_choose) := by
  refine (sn_X4_choose ok_X4_countColours ok_J6_bitCount_0f7a4 ok_X4_asSet ok_X4_sumWith).mono ?_
  rintro xs P M hz hR ⟨k, rfl, ⟨hd, hc, ht, hk⟩, hP⟩
  refine ⟨_, rfl, ?_⟩
  have z_k := zall_h (zall_t hz) (by decide)
  change vc_X4_choose pr_X4_countColours po_X4_countColours pr_J6_bitCount_0f7a4 po_J6_bitCount_0f7a4 pr_X4_asSet po_X4_asSet pr_X4_sumWith po_X4_sumWith k P M
  unfold vc_X4_choose
  have gc1 : pr_X4_countColours M := by
    refine ⟨?_, ?_⟩
    · show bDim M  -- c1.hd
      first | with_reducible assumption | omega | exact trivial | with_reducible rfl
    · show bCo M  -- c1.hc
      first | with_reducible assumption | omega | exact trivial | with_reducible rfl
  refine ⟨gc1, ?_⟩
  rintro r1 M2 ⟨pc1_hf, pc1_hm, pc1_hr, pc1_ho⟩ z_r1 z_M2
  have u := zc_b (fun c => 0 < gCn (M 1 0) (M 1 1) (M 2) c) 16 (by decide)
  have OC := pc1_ho
  -- at least one colour occurs
  have one : 1 ≤ r1 := by
    have c0 := hc 0 (by decide) (by decide)
    have d0 : gD (M 1 0) (M 1 1) 0 := by unfold gD; omega
    have g0 := zc_lt2 (p := fun a => gD (M 1 0) (M 1 1) a ∧ M 2 a = M 2 0) (i := 0) (n := 192) (by decide) (by decide) ⟨d0, rfl⟩
    have g1 : 0 < gCn (M 1 0) (M 1 1) (M 2) (M 2 0) := by
      unfold gCn
      have := (zc_b (fun a => gD (M 1 0) (M 1 1) a ∧ M 2 a = M 2 0) 0 (by decide)).1
      omega
    have g2 := zc_lt2 (p := fun c => 0 < gCn (M 1 0) (M 1 1) (M 2) c) (i := M 2 0) (n := 16) c0.1 (by omega) g1
    have := (zc_b (fun c => 0 < gCn (M 1 0) (M 1 1) (M 2) c) (M 2 0) c0.1).1
    omega
  refine ⟨fun b1 => ?_, fun b1 => ?_⟩
  · -- b1.1
    intro M8 e_M8
    intro M11 e_M11
    have q : ∀ c i, ¬ (c = 50 ∧ (i = 1 ∨ i = 2)) → M11 c i = M2 c i := fun c i h => by rw [e_M11, zset_n _ (by omega), e_M8, zset_n _ (by omega)]
    have q2 : M11 50 2 = 0 := by rw [e_M11, zset_s]
    have q1 : M11 50 1 = 0 := by rw [e_M11, zset_n _ (by omega), e_M8, zset_s]
    have e2n : zshl 1 r1 = 2 ^ r1.toNat := by
      have := zsh1 ⟨r1.toNat, by omega⟩
      simp only [] at this
      rw [Int.toNat_of_nonneg (by omega)] at this
      rw [this]; simp
    have p8 : (2 : Int) ^ r1.toNat ≤ 256 := by
      have a : 2 ^ r1.toNat ≤ 2 ^ 8 := Nat.pow_le_pow_right (by decide) (by omega)
      have b : ((2 ^ r1.toNat : Nat) : Int) = 2 ^ r1.toNat := by simp
      omega
    have p1 : (2 : Int) ≤ 2 ^ r1.toNat := by
      have a : 2 ^ 1 ≤ 2 ^ r1.toNat := Nat.pow_le_pow_right (by decide) (by omega)
      have b : ((2 ^ r1.toNat : Nat) : Int) = 2 ^ r1.toNat := by simp
      omega
    have q51 : ∀ c, 0 ≤ c → c < 16 → M11 51 c = gCn (M 1 0) (M 1 1) (M 2) c := fun c c0 c1 => by rw [q 51 c (by omega)]; exact pc1_hm c c0 c1
    have q52 : M11 52 = M2 52 := funext fun i => q 52 i (by omega)
    have q3 : M11 3 = M 3 := funext fun i => (q 3 i (by omega)).trans (pc1_hf 3 i (by decide) (by decide))
    refine ⟨fun v14 M16 n18 => (n18 : Int) = (256 - v14) ∧ (1 ≤ v14 ∧ v14 ≤ 256) ∧ (∀ c i, ¬ (c = 50 ∧ (i = 1 ∨ i = 2)) → M16 c i = M11 c i) ∧ ((M16 50 2 = 0 ∧ ∀ c T, 1 ≤ c → c < v14 → gAs (M2 52) r1 c T → ¬ zc (zbt T) 16 ≤ k) ∨ ((1 ≤ M16 50 2 ∧ M16 50 2 < 65536) ∧ (∃ c, 1 ≤ c ∧ c < v14 ∧ gAs (M2 52) r1 c (M16 50 2)) ∧ zc (zbt (M16 50 2)) 16 ≤ k ∧ M16 50 1 = gSm (gCn (M 1 0) (M 1 1) (M 2)) (M 3) (M16 50 2) 16 ∧ ∀ c T, 1 ≤ c → c < v14 → gAs (M2 52) r1 c T → zc (zbt T) 16 ≤ k → M16 50 1 ≤ gSm (gCn (M 1 0) (M 1 1) (M 2)) (M 3) T 16 ∧ (T < M16 50 2 → M16 50 1 < gSm (gCn (M 1 0) (M 1 1) (M 2)) (M 3) T 16))), ⟨Int.toNat (256 - 1), by omega, ?_, ?_, ?_⟩, ?_⟩
    · show 1 ≤ 1 ∧ 1 ≤ 256  -- I25.0.hv
      first | with_reducible assumption | omega | exact trivial | with_reducible rfl
    · show ∀ c i, ¬ (c = 50 ∧ (i = 1 ∨ i = 2)) → M11 c i = M11 c i  -- I25.0.hf
      intro _ _ _; rfl
    · show (M11 50 2 = 0 ∧ ∀ c T, 1 ≤ c → c < 1 → gAs (M2 52) r1 c T → ¬ zc (zbt T) 16 ≤ k) ∨ ((1 ≤ M11 50 2 ∧ M11 50 2 < 65536) ∧ (∃ c, 1 ≤ c ∧ c < 1 ∧ gAs (M2 52) r1 c (M11 50 2)) ∧ zc (zbt (M11 50 2)) 16 ≤ k ∧ M11 50 1 = gSm (gCn (M 1 0) (M 1 1) (M 2)) (M 3) (M11 50 2) 16 ∧ ∀ c T, 1 ≤ c → c < 1 → gAs (M2 52) r1 c T → zc (zbt T) 16 ≤ k → M11 50 1 ≤ gSm (gCn (M 1 0) (M 1 1) (M 2)) (M 3) T 16 ∧ (T < M11 50 2 → M11 50 1 < gSm (gCn (M 1 0) (M 1 1) (M 2)) (M 3) T 16))  -- I25.0.hw
      exact .inl ⟨q2, fun c T c0 c1 => by omega⟩
    rintro v14 M16 n18 ⟨h_n18, hv, hf, hw⟩ z_v14 z_M16
    have y51 : ∀ c, 0 ≤ c → c < 16 → M16 51 c = gCn (M 1 0) (M 1 1) (M 2) c := fun c c0 c1 => by rw [hf 51 c (by omega)]; exact q51 c c0 c1
    have y52 : M16 52 = M2 52 := by rw [← q52]; exact funext fun i => hf 52 i (by omega)
    have y3 : M16 3 = M 3 := by rw [← q3]; exact funext fun i => hf 3 i (by omega)
    refine ⟨fun b2 => ?_, fun b2 => ?_⟩
    · -- b2.1
      refine hP _ _ ⟨?_, ?_, ?_⟩
      · show ∀ c i, c ≠ 51 → c ≠ 52 → ¬ (c = 50 ∧ (i = 1 ∨ i = 2)) → M16 c i = M c i  -- p1.hf
        intro c i c1 c2 c3; rw [hf c i c3, q c i c3]; exact pc1_hf c i c1 c2
      · show zB 1 (zc (fun c => 0 < gCn (M 1 0) (M 1 1) (M 2) c) 16 ≤ 8)  -- p1.hr
        exact zB.t (by omega)
      · show zc (fun c => 0 < gCn (M 1 0) (M 1 1) (M 2) c) 16 ≤ 8 → gFw (gCn (M 1 0) (M 1 1) (M 2)) (M 3) k (M16 50 1) (M16 50 2)  -- p1.hw
        intro _
        rw [e2n] at b2
        rcases hw with ⟨_, none⟩ | ⟨w1, ⟨c, c0, c1, cT⟩, w3, w4, w5⟩
        · exfalso
          -- the first colour alone
          have o := OC.at (show (0 : Int) ≤ 0 by decide) (show 0 < r1 by omega)
          obtain ⟨T, t0, t1, t2⟩ := zbt_mk (fun d => d = M2 52 0) 16
          have t1 : T < 65536 := by simpa using t1
          obtain ⟨c, c0, c1, cT⟩ := gAs_ex OC ⟨by omega, b1⟩ t0 t1 (fun d d0 d1 b => by rw [(t2 d d0 (by omega)).1 b]; exact o.2.2.1)
          have cne : c ≠ 0 := by
            intro e
            subst e
            have := (gAs_bit OC cT (show (0 : Int) ≤ 0 by decide) (by omega)).1 ((t2 _ o.1 (by omega)).2 rfl)
            unfold zbt at this
            simp at this
          refine none c T (by omega) (by omega) cT ?_
          have e1 : zc (zbt T) 16 = zc (fun d => d = M2 52 0) 16 := zc_c 16 (by decide) (fun i i0 i1 => t2 i i0 (by omega))
          have l := zc_1 (p := fun _ => False) (q := fun d => d = M2 52 0) (y := M2 52 0) o.1 (fun h => h) rfl (fun i hi => ⟨fun h => h.elim, fun b => hi b⟩) 16 (by decide) o.2.1
          rw [zc_0 (p := fun _ => False) (by decide) (fun _ _ _ h => h)] at l
          omega
        · refine ⟨w1, fun d d0 d1 b => ?_, w3, w4, fun T T0 T1 sub pc => ?_⟩
          · obtain ⟨n, n0, n1, n2, n3⟩ := (cT.2 d d0).1 b
            rw [← n3]; exact (OC.at n0 n1).2.2.1
          · obtain ⟨c', c0', c1', cT'⟩ := gAs_ex OC ⟨by omega, b1⟩ (by omega) T1 sub
            have cne : c' ≠ 0 := by
              intro e
              subst e
              obtain ⟨d, d0, d1, b⟩ := zbt_ne T0 T1
              obtain ⟨n, n0, n1, n2, n3⟩ := (cT'.2 d d0).1 b
              unfold zbt at n2
              simp at n2
            exact w5 c' T (by omega) (by omega) cT' pc
    · -- b2.2
      have b2' : v14 < 2 ^ r1.toNat := by rw [← e2n]; omega
      have gc2 : pr_J6_bitCount_0f7a4 v14 M16 := by
        show 0 ≤ v14 ∧ v14 < 256
        first | with_reducible assumption | omega | exact trivial | with_reducible rfl  -- c2.h
      refine ⟨gc2, ?_⟩
      rintro r26 M27 ⟨q_rfl, e_r26⟩ z_r26 z_M27
      have q_rfl := q_rfl.symm
      subst q_rfl
      rw [zpc8 (by omega) (by omega)] at e_r26
      refine ⟨fun b3 => ?_, fun b3 => ?_⟩
      · -- b3.1
        have o1 : zin (v14 + 1) := by
          first | with_reducible assumption | omega | exact trivial | with_reducible rfl  -- o1
        refine ⟨o1, ?_⟩
        refine ⟨Int.toNat (256 - (v14 + 1)), by omega, by omega, ?_, ?_, ?_⟩
        · show 1 ≤ (v14 + 1) ∧ (v14 + 1) ≤ 256  -- I25.1.hv
          first | with_reducible assumption | omega | exact trivial | with_reducible rfl
        · show ∀ c i, ¬ (c = 50 ∧ (i = 1 ∨ i = 2)) → M16 c i = M11 c i  -- I25.1.hf
          first | with_reducible assumption | omega | exact trivial | with_reducible rfl
        · show (M16 50 2 = 0 ∧ ∀ c T, 1 ≤ c → c < (v14 + 1) → gAs (M2 52) r1 c T → ¬ zc (zbt T) 16 ≤ k) ∨ ((1 ≤ M16 50 2 ∧ M16 50 2 < 65536) ∧ (∃ c, 1 ≤ c ∧ c < (v14 + 1) ∧ gAs (M2 52) r1 c (M16 50 2)) ∧ zc (zbt (M16 50 2)) 16 ≤ k ∧ M16 50 1 = gSm (gCn (M 1 0) (M 1 1) (M 2)) (M 3) (M16 50 2) 16 ∧ ∀ c T, 1 ≤ c → c < (v14 + 1) → gAs (M2 52) r1 c T → zc (zbt T) 16 ≤ k → M16 50 1 ≤ gSm (gCn (M 1 0) (M 1 1) (M 2)) (M 3) T 16 ∧ (T < M16 50 2 → M16 50 1 < gSm (gCn (M 1 0) (M 1 1) (M 2)) (M 3) T 16))  -- I25.1.hw
          have no : ∀ T, gAs (M2 52) r1 v14 T → ¬ zc (zbt T) 16 ≤ k := fun T a => by
            have := gAs_pc OC ⟨by omega, b1⟩ (by omega) b2' a
            omega
          rcases hw with ⟨w0, none⟩ | ⟨w1, ⟨c, c0, c1, cT⟩, w3, w4, w5⟩
          · refine .inl ⟨w0, fun c T c0 c1 a => ?_⟩
            by_cases e : c = v14
            · subst e; exact no T a
            · exact none c T c0 (by omega) a
          · refine .inr ⟨w1, ⟨c, c0, by omega, cT⟩, w3, w4, fun c T c0 c1 a pc => ?_⟩
            by_cases e : c = v14
            · subst e; exact absurd pc (no T a)
            · exact w5 c T c0 (by omega) a pc
      · -- b3.2
        have gc3 : pr_X4_asSet v14 r1 M16 := by
          refine ⟨?_, ?_, ?_⟩
          · show 0 ≤ v14 ∧ v14 < 65536  -- c3.hc
            first | with_reducible assumption | omega | exact trivial | with_reducible rfl
          · show 0 ≤ r1 ∧ r1 ≤ 16  -- c3.hn
            first | with_reducible assumption | omega | exact trivial | with_reducible rfl
          · show ∀ i, 0 ≤ i → i < r1 → 0 ≤ M16 52 i ∧ M16 52 i < 16  -- c3.ho
            intro i i0 i1; rw [y52]; have := OC.at i0 i1; omega
        refine ⟨gc3, ?_⟩
        rintro r37 M38 ⟨q_rfl, pc3_hr⟩ z_r37 z_M38
        have q_rfl := q_rfl.symm
        subst q_rfl
        rw [y52] at pc3_hr
        have PC := gAs_pc OC ⟨by omega, b1⟩ (by omega) b2' pc3_hr
        have T1 : 1 ≤ r37 := by
          obtain ⟨i, i0, i1, b⟩ := zbt_ne (T := v14) hv.1 (by omega)
          have iN : i < r1 := Classical.byContradiction fun q => zbt_lt2 (by omega) b2' (by omega) b
          have o := OC.at i0 iN
          have := (gAs_bit OC pc3_hr i0 iN).2 b
          apply Classical.byContradiction
          intro q
          have e : r37 = 0 := by have := pc3_hr.1; omega
          rw [e] at this
          unfold zbt at this
          simp at this
        have mono : ∀ c T, 1 ≤ c → c < v14 → gAs (M2 52) r1 c T → T < r37 := fun c T c0 c1 a => gAs_lt OC ⟨by omega, b1⟩ (by omega) c1 b2' (by omega) a pc3_hr
        have gc4 : pr_X4_sumWith r37 M16 := by
          refine ⟨?_, ?_, ?_, ?_⟩
          · show ∀ c, 0 ≤ c → c < 16 → 0 ≤ M16 3 c ∧ M16 3 c ≤ 255  -- c4.ht
            rw [y3]; exact ht
          · show ∀ c, 0 ≤ c → c < 16 → 0 ≤ M16 51 c ∧ M16 51 c ≤ 192  -- c4.hm
            intro c c0 c1; rw [y51 c c0 c1]; exact gCn_b
          · show 0 ≤ r37 ∧ r37 < 65536  -- c4.hs
            exact pc3_hr.1
          · show ∃ k, 0 ≤ k ∧ k < 16 ∧ zbt r37 k  -- c4.he
            exact zbt_ne T1 pc3_hr.1.2
        refine ⟨gc4, ?_⟩
        rintro r43 M44 ⟨q_rfl, e_r43⟩ z_r43 z_M44
        have q_rfl := q_rfl.symm
        subst q_rfl
        rw [y3, gSm_cg (fun c c0 c1 => y51 c c0 c1) 16 (by decide) (by decide)] at e_r43
        have uq : ∀ T, gAs (M2 52) r1 v14 T → T = r37 := fun T a => zbt_ext a.1.1 a.1.2 pc3_hr.1.1 pc3_hr.1.2 (fun d d0 _ => by rw [a.2 d d0, pc3_hr.2 d d0])
        refine ⟨fun b4 => ?_, fun b4 => ?_⟩
        · -- b4.1
          intro M50 e_M50
          intro M53 e_M53
          have x2 : M53 50 2 = r37 := by rw [e_M53, zset_s]
          have x1 : M53 50 1 = r43 := by rw [e_M53, zset_n _ (by omega), e_M50, zset_s]
          have o2 : zin (v14 + 1) := by
            first | with_reducible assumption | omega | exact trivial | with_reducible rfl  -- o2
          refine ⟨o2, ?_⟩
          refine ⟨Int.toNat (256 - (v14 + 1)), by omega, by omega, ?_, ?_, ?_⟩
          · show 1 ≤ (v14 + 1) ∧ (v14 + 1) ≤ 256  -- I25.2.hv
            first | with_reducible assumption | omega | exact trivial | with_reducible rfl
          · show ∀ c i, ¬ (c = 50 ∧ (i = 1 ∨ i = 2)) → M53 c i = M11 c i  -- I25.2.hf
            intro c i h; rw [e_M53, zset_n _ (by omega), e_M50, zset_n _ (by omega)]; exact hf c i h
          · show (M53 50 2 = 0 ∧ ∀ c T, 1 ≤ c → c < (v14 + 1) → gAs (M2 52) r1 c T → ¬ zc (zbt T) 16 ≤ k) ∨ ((1 ≤ M53 50 2 ∧ M53 50 2 < 65536) ∧ (∃ c, 1 ≤ c ∧ c < (v14 + 1) ∧ gAs (M2 52) r1 c (M53 50 2)) ∧ zc (zbt (M53 50 2)) 16 ≤ k ∧ M53 50 1 = gSm (gCn (M 1 0) (M 1 1) (M 2)) (M 3) (M53 50 2) 16 ∧ ∀ c T, 1 ≤ c → c < (v14 + 1) → gAs (M2 52) r1 c T → zc (zbt T) 16 ≤ k → M53 50 1 ≤ gSm (gCn (M 1 0) (M 1 1) (M 2)) (M 3) T 16 ∧ (T < M53 50 2 → M53 50 1 < gSm (gCn (M 1 0) (M 1 1) (M 2)) (M 3) T 16))  -- I25.2.hw
            rw [x1, x2]
            rcases hw with ⟨w0, none⟩ | ⟨w1, _⟩
            · refine .inr ⟨⟨T1, pc3_hr.1.2⟩, ⟨v14, hv.1, by omega, pc3_hr⟩, by omega, e_r43, fun c T c0 c1 a pc => ?_⟩
              by_cases e : c = v14
              · subst e; rw [uq T a, e_r43]; omega
              · exact absurd pc (none c T c0 (by omega) a)
            · omega
        · -- b4.2
          refine ⟨fun b5 => ?_, fun b5 => ?_⟩
          · -- b5.1
            have o3 : zin (v14 + 1) := by
              first | with_reducible assumption | omega | exact trivial | with_reducible rfl  -- o3
            refine ⟨o3, ?_⟩
            refine ⟨Int.toNat (256 - (v14 + 1)), by omega, by omega, ?_, ?_, ?_⟩
            · show 1 ≤ (v14 + 1) ∧ (v14 + 1) ≤ 256  -- I25.3.hv
              first | with_reducible assumption | omega | exact trivial | with_reducible rfl
            · show ∀ c i, ¬ (c = 50 ∧ (i = 1 ∨ i = 2)) → M16 c i = M11 c i  -- I25.3.hf
              first | with_reducible assumption | omega | exact trivial | with_reducible rfl
            · show (M16 50 2 = 0 ∧ ∀ c T, 1 ≤ c → c < (v14 + 1) → gAs (M2 52) r1 c T → ¬ zc (zbt T) 16 ≤ k) ∨ ((1 ≤ M16 50 2 ∧ M16 50 2 < 65536) ∧ (∃ c, 1 ≤ c ∧ c < (v14 + 1) ∧ gAs (M2 52) r1 c (M16 50 2)) ∧ zc (zbt (M16 50 2)) 16 ≤ k ∧ M16 50 1 = gSm (gCn (M 1 0) (M 1 1) (M 2)) (M 3) (M16 50 2) 16 ∧ ∀ c T, 1 ≤ c → c < (v14 + 1) → gAs (M2 52) r1 c T → zc (zbt T) 16 ≤ k → M16 50 1 ≤ gSm (gCn (M 1 0) (M 1 1) (M 2)) (M 3) T 16 ∧ (T < M16 50 2 → M16 50 1 < gSm (gCn (M 1 0) (M 1 1) (M 2)) (M 3) T 16))  -- I25.3.hw
              rcases hw with ⟨w0, none⟩ | ⟨w1, ⟨c, c0, c1, cT⟩, w3, w4, w5⟩
              · exact absurd w0 b4
              · refine .inr ⟨w1, ⟨c, c0, by omega, cT⟩, w3, w4, fun c' T c0' c1' a pc => ?_⟩
                by_cases e : c' = v14
                · subst e; have := mono c _ c0 c1 cT; rw [uq T a, ← e_r43]; omega
                · exact w5 c' T c0' (by omega) a pc
          · -- b5.2
            intro M65 e_M65
            intro M68 e_M68
            have x2 : M68 50 2 = r37 := by rw [e_M68, zset_s]
            have x1 : M68 50 1 = r43 := by rw [e_M68, zset_n _ (by omega), e_M65, zset_s]
            have o4 : zin (v14 + 1) := by
              first | with_reducible assumption | omega | exact trivial | with_reducible rfl  -- o4
            refine ⟨o4, ?_⟩
            refine ⟨Int.toNat (256 - (v14 + 1)), by omega, by omega, ?_, ?_, ?_⟩
            · show 1 ≤ (v14 + 1) ∧ (v14 + 1) ≤ 256  -- I25.4.hv
              first | with_reducible assumption | omega | exact trivial | with_reducible rfl
            · show ∀ c i, ¬ (c = 50 ∧ (i = 1 ∨ i = 2)) → M68 c i = M11 c i  -- I25.4.hf
              intro c i h; rw [e_M68, zset_n _ (by omega), e_M65, zset_n _ (by omega)]; exact hf c i h
            · show (M68 50 2 = 0 ∧ ∀ c T, 1 ≤ c → c < (v14 + 1) → gAs (M2 52) r1 c T → ¬ zc (zbt T) 16 ≤ k) ∨ ((1 ≤ M68 50 2 ∧ M68 50 2 < 65536) ∧ (∃ c, 1 ≤ c ∧ c < (v14 + 1) ∧ gAs (M2 52) r1 c (M68 50 2)) ∧ zc (zbt (M68 50 2)) 16 ≤ k ∧ M68 50 1 = gSm (gCn (M 1 0) (M 1 1) (M 2)) (M 3) (M68 50 2) 16 ∧ ∀ c T, 1 ≤ c → c < (v14 + 1) → gAs (M2 52) r1 c T → zc (zbt T) 16 ≤ k → M68 50 1 ≤ gSm (gCn (M 1 0) (M 1 1) (M 2)) (M 3) T 16 ∧ (T < M68 50 2 → M68 50 1 < gSm (gCn (M 1 0) (M 1 1) (M 2)) (M 3) T 16))  -- I25.4.hw
              rw [x1, x2]
              rcases hw with ⟨w0, none⟩ | ⟨w1, ⟨c, c0, c1, cT⟩, w3, w4, w5⟩
              · exact absurd w0 b4
              · refine .inr ⟨⟨T1, pc3_hr.1.2⟩, ⟨v14, hv.1, by omega, pc3_hr⟩, by omega, e_r43, fun c' T c0' c1' a pc => ?_⟩
                by_cases e : c' = v14
                · subst e; rw [uq T a, e_r43]; omega
                · have := w5 c' T c0' (by omega) a pc; omega
  · -- b1.2
    refine hP _ _ ⟨?_, ?_, ?_⟩
    · show ∀ c i, c ≠ 51 → c ≠ 52 → ¬ (c = 50 ∧ (i = 1 ∨ i = 2)) → M2 c i = M c i  -- p2.hf
      intro c i c1 c2 _; exact pc1_hf c i c1 c2
    · show zB 0 (zc (fun c => 0 < gCn (M 1 0) (M 1 1) (M 2) c) 16 ≤ 8)  -- p2.hr
      exact zB.f (by omega)
    · show zc (fun c => 0 < gCn (M 1 0) (M 1 1) (M 2) c) 16 ≤ 8 → gFw (gCn (M 1 0) (M 1 1) (M 2)) (M 3) k (M2 50 1) (M2 50 2)  -- p2.hw
      intro h; omega

abbrev pr_X4_paintDraft (M : zM) : Prop := (bDim M) ∧ (bCo M) ∧ (∀ c, 0 ≤ c → c < 16 → 0 ≤ M 3 c ∧ M 3 c ≤ 255) ∧ (1 ≤ M 50 2 ∧ M 50 2 < 65536)
abbrev po_X4_paintDraft (M : zM) (M' : zM) : Prop := (∀ c i, c ≠ 4 → M' c i = M c i) ∧ (∀ i, 0 ≤ i → i < 192 → M' 4 i = if gD (M 1 0) (M 1 1) i then gNe (M 3) (M 50 2) (M 2 i) 16 else M 4 i)
set_option maxHeartbeats 1000000 in
theorem ok_X4_paintDraft : zSnd zS 145 0 0 yX4_paintDraft cX4_paintDraft 2 none 3 [2] (F_X4_paintDraft pr_X4_paintDraft po_X4_paintDraft) := by
  refine (sn_X4_paintDraft ok_X0_isDot ok_X4_nearest).mono ?_
  rintro xs P M hz hR ⟨rfl, ⟨hd, hc, ht, hs⟩, hP⟩
  refine ⟨rfl, ?_⟩
  change vc_X4_paintDraft pr_X0_isDot po_X0_isDot pr_X4_nearest po_X4_nearest P M
  unfold vc_X4_paintDraft
  refine ⟨fun v1 M3 n5 => (n5 : Int) = (192 - v1) ∧ (0 ≤ v1 ∧ v1 ≤ 192) ∧ (∀ c i, c ≠ 4 → M3 c i = M c i) ∧ (∀ i, 0 ≤ i → i < v1 → M3 4 i = if gD (M 1 0) (M 1 1) i then gNe (M 3) (M 50 2) (M 2 i) 16 else M 4 i) ∧ (∀ i, v1 ≤ i → M3 4 i = M 4 i), ⟨Int.toNat (192 - 0), by omega, ?_, ?_, ?_, ?_⟩, ?_⟩
  · show 0 ≤ 0 ∧ 0 ≤ 192  -- I2.0.hv
    first | with_reducible assumption | omega | exact trivial | with_reducible rfl
  · show ∀ c i, c ≠ 4 → M c i = M c i  -- I2.0.hf
    first | with_reducible assumption | omega | exact trivial | with_reducible rfl
  · show ∀ i, 0 ≤ i → i < 0 → M 4 i = if gD (M 1 0) (M 1 1) i then gNe (M 3) (M 50 2) (M 2 i) 16 else M 4 i  -- I2.0.hp
    intro i i0 i1; omega
  · show ∀ i, 0 ≤ i → M 4 i = M 4 i  -- I2.0.hp2
    intro i _; rfl
  rintro v1 M3 n5 ⟨h_n5, hv, hf, hp, hp2⟩ z_v1 z_M3
  have w0 := hf 1 0 (by decide)
  have w1 := hf 1 1 (by decide)
  have w2 := hf 50 2 (by decide)
  have wc : M3 2 = M 2 := funext fun i => hf 2 i (by decide)
  have wt : M3 3 = M 3 := funext fun i => hf 3 i (by decide)
  refine ⟨fun b1 => ?_, fun b1 => ?_⟩
  · -- b1.1
    refine hP _ ⟨?_, ?_⟩
    · show ∀ c i, c ≠ 4 → M3 c i = M c i  -- p1.hf
      first | with_reducible assumption | omega | exact trivial | with_reducible rfl
    · show ∀ i, 0 ≤ i → i < 192 → M3 4 i = if gD (M 1 0) (M 1 1) i then gNe (M 3) (M 50 2) (M 2 i) 16 else M 4 i  -- p1.hp
      intro i i0 i1; exact hp i i0 (by omega)
  · -- b1.2
    have gc1 : pr_X0_isDot v1 M3 := by
      show bDim M3
      unfold bDim; omega
    refine ⟨gc1, ?_⟩
    rintro r13 M14 ⟨q_rfl, e_r13⟩ z_r13 z_M14
    have q_rfl := q_rfl.symm
    subst q_rfl
    have B := (zif01 e_r13).iff (q := gD (M 1 0) (M 1 1) v1) (by omega)
    refine ⟨fun b2 => ?_, fun b2 => ?_⟩
    · -- b2.1
      have o1 : zin (v1 + 1) := by
        first | with_reducible assumption | omega | exact trivial | with_reducible rfl  -- o1
      refine ⟨o1, ?_⟩
      refine ⟨Int.toNat (192 - (v1 + 1)), by omega, by omega, ?_, ?_, ?_, ?_⟩
      · show 0 ≤ (v1 + 1) ∧ (v1 + 1) ≤ 192  -- I2.1.hv
        first | with_reducible assumption | omega | exact trivial | with_reducible rfl
      · show ∀ c i, c ≠ 4 → M3 c i = M c i  -- I2.1.hf
        first | with_reducible assumption | omega | exact trivial | with_reducible rfl
      · show ∀ i, 0 ≤ i → i < (v1 + 1) → M3 4 i = if gD (M 1 0) (M 1 1) i then gNe (M 3) (M 50 2) (M 2 i) 16 else M 4 i  -- I2.1.hp
        intro i i0 i1
        by_cases c : i = v1
        · subst c; rw [hp2 i (by omega), if_neg (B.z.1 b2)]
        · exact hp i i0 (by omega)
      · show ∀ i, (v1 + 1) ≤ i → M3 4 i = M 4 i  -- I2.1.hp2
        intro i h; exact hp2 i (by omega)
    · -- b2.2
      have o2 : ((0 : Int) ≤ v1 ∧ v1 < 192) := by
        first | with_reducible assumption | omega | exact trivial | with_reducible rfl  -- o2
      refine ⟨o2, ?_⟩
      have gc2 : pr_X4_nearest (M3 2 v1) (M3 50 2) M3 := by
        refine ⟨?_, ?_, ?_⟩
        · rw [wt]; exact ht  -- c2.ht
        · show 0 ≤ (M3 2 v1) ∧ (M3 2 v1) < 16  -- c2.hc
          have := hc v1 o2.1 o2.2; rw [wc]; omega
        · show 0 ≤ (M3 50 2) ∧ (M3 50 2) < 65536  -- c2.hs
          omega
      refine ⟨gc2, ?_⟩
      rintro r25 M26 ⟨q_rfl, e_r25⟩ z_r25 z_M26
      have q_rfl := q_rfl.symm
      subst q_rfl
      have n0 := gNe_0 (tone := M 3) (c := M 2 v1) (zbt_ne hs.1 hs.2)
      have n1 := @gNe_b (M 3) (M 50 2) (M 2 v1) 16 (by decide)
      rw [wt, w2, wc, if_neg (by omega)] at e_r25
      intro M31 e_M31
      have eb : Int.bmod r25 256 = r25 := zbm8 (by omega)
      have o3 : zin (v1 + 1) := by
        first | with_reducible assumption | omega | exact trivial | with_reducible rfl  -- o3
      refine ⟨o3, ?_⟩
      refine ⟨Int.toNat (192 - (v1 + 1)), by omega, by omega, ?_, ?_, ?_, ?_⟩
      · show 0 ≤ (v1 + 1) ∧ (v1 + 1) ≤ 192  -- I2.2.hv
        first | with_reducible assumption | omega | exact trivial | with_reducible rfl
      · show ∀ c i, c ≠ 4 → M31 c i = M c i  -- I2.2.hf
        intro c i h; rw [e_M31, zset_n _ (.inl h)]; exact hf c i h
      · show ∀ i, 0 ≤ i → i < (v1 + 1) → M31 4 i = if gD (M 1 0) (M 1 1) i then gNe (M 3) (M 50 2) (M 2 i) 16 else M 4 i  -- I2.2.hp
        intro i i0 i1
        by_cases c : i = v1
        · subst c; rw [e_M31, zset_s, eb, if_pos (B.ne.1 b2)]; exact e_r25
        · rw [e_M31, zset_n _ (.inr c)]; exact hp i i0 (by omega)
      · show ∀ i, (v1 + 1) ≤ i → M31 4 i = M 4 i  -- I2.2.hp2
        intro i h; rw [e_M31, zset_n _ (.inr (by omega))]; exact hp2 i (by omega)

