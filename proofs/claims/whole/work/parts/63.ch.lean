abbrev pr_X12_change (M : zM) : Prop := (0 ≤ M 103 8 ∧ M 103 8 ≤ 20)
abbrev po_X12_change (M : zM) (r : Int) (M' : zM) : Prop := (r = zc (fun i => M 114 i ≠ M 104 i) 192) ∧ (r = 0 → M' = M) ∧ (∀ c i, c ≠ 104 → c ≠ 106 → ¬ (c = 103 ∧ (i = 7 ∨ i = 8)) → M' c i = M c i) ∧ (r ≠ 0 → M' 103 8 = (if M 103 8 = 20 then 20 else M 103 8 + 1) ∧ M' 103 7 = M' 103 8 ∧ (∀ i, 0 ≤ i → i < 192 → M' 104 i = M 114 i) ∧ (∀ i, 0 ≤ i → i < 192 → M' 106 (192 * (M' 103 8 - 1) + i) = M 104 i) ∧ ∀ i, 0 ≤ i → i < 192 * (M' 103 8 - 1) → M' 106 i = if M 103 8 = 20 then M 106 (i + 192) else M 106 i)
set_option maxHeartbeats 1000000 in
theorem ok_X12_change : zSnd zS 145 0 0 yX12_change cX12_change 3 (some .int) 0 [2] (F_X12_change pr_X12_change po_X12_change) := by
  refine (sn_X12_change).mono ?_
  rintro xs P M hz hR ⟨rfl, h8, hP⟩
  refine ⟨rfl, ?_⟩
  change vc_X12_change P M
  unfold vc_X12_change
  refine ⟨fun v1 v2 n5 => (n5 : Int) = (192 - v2) ∧ (0 ≤ v2 ∧ v2 ≤ 192) ∧ (v1 = zc (fun i => M 114 i ≠ M 104 i) v2), ⟨Int.toNat (192 - 0), by omega, ?_, ?_⟩, ?_⟩
  · show 0 ≤ 0 ∧ 0 ≤ 192  -- I4.0.hv
    first | with_reducible assumption | omega | exact trivial | with_reducible rfl
  · show 0 = zc (fun i => M 114 i ≠ M 104 i) 0  -- I4.0.h1
    exact (zc_z _).symm
  rintro v1 v2 n5 ⟨h_n5, hv, h1⟩ z_v1 z_v2
  refine ⟨fun b1 => ?_, fun b1 => ?_⟩
  · -- b1.1
    have e1 : v1 = zc (fun i => M 114 i ≠ M 104 i) 192 := by rw [h1, show v2 = 192 by omega]
    refine ⟨fun b2 => ?_, fun b2 => ?_⟩
    · -- b2.1
      refine ⟨fun b3 => ?_, fun b3 => ?_⟩
      · -- b3.1
        refine ⟨fun v15 M17 n19 => (n19 : Int) = (192 - v15) ∧ (0 ≤ v15 ∧ v15 ≤ 192) ∧ (∀ c i, c ≠ 104 → c ≠ 106 → ¬ (c = 103 ∧ (i = 7 ∨ i = 8)) → M17 c i = M c i) ∧ (M17 103 8 = if M 103 8 = 20 then 19 else M 103 8) ∧ (0 ≤ M17 103 8 ∧ M17 103 8 ≤ 19) ∧ (∀ i, M17 104 i = if 0 ≤ i ∧ i < v15 then M 114 i else M 104 i) ∧ (∀ i, 0 ≤ i → i < v15 → M17 106 (192 * M17 103 8 + i) = M 104 i) ∧ (∀ i, 0 ≤ i → i < 192 * M17 103 8 → M17 106 i = if M 103 8 = 20 then M 106 (i + 192) else M 106 i), ⟨Int.toNat (192 - 0), by omega, ?_, ?_, ?_, ?_, ?_, ?_, ?_⟩, ?_⟩
        · show 0 ≤ 0 ∧ 0 ≤ 192  -- I98.0.hw
          first | with_reducible assumption | omega | exact trivial | with_reducible rfl
        · show ∀ c i, c ≠ 104 → c ≠ 106 → ¬ (c = 103 ∧ (i = 7 ∨ i = 8)) → M c i = M c i  -- I98.0.hf
          intro c i c1 c2 c3; first | rfl | exact wf c i c2 c3
        · show M 103 8 = if M 103 8 = 20 then 19 else M 103 8  -- I98.0.k8
          first | (rw [if_neg b3]) | (rw [w8, if_pos b3])
        · show 0 ≤ M 103 8 ∧ M 103 8 ≤ 19  -- I98.0.k9
          first | omega | (rw [w8]; omega)
        · show ∀ i, M 104 i = if 0 ≤ i ∧ i < 0 then M 114 i else M 104 i  -- I98.0.g4
          intro i; first | (rw [w104, if_neg (by omega)]) | (rw [if_neg (by omega)])
        · show ∀ i, 0 ≤ i → i < 0 → M 106 (192 * M 103 8 + i) = M 104 i  -- I98.0.g6
          intro i i0 i1; omega
        · show ∀ i, 0 ≤ i → i < 192 * M 103 8 → M 106 i = if M 103 8 = 20 then M 106 (i + 192) else M 106 i  -- I98.0.gb
          intro i i0 i1; first | (rw [if_neg b3]) | (rw [w8] at i1; rw [wb i i0 i1, if_pos b3])
        rintro v15 M17 n19 ⟨h_n19, hw, hf, k8, k9, g4, g6, gb⟩ z_v15 z_M17
        refine ⟨fun b4 => ?_, fun b4 => ?_⟩
        · -- b4.1
          have o1 : zin ((M17 103 8) + 1) := by
            first | with_reducible assumption | omega | exact trivial | with_reducible rfl  -- o1
          refine ⟨o1, ?_⟩
          intro M28 e_M28
          intro M31 e_M31
          have y8 : M31 103 8 = M17 103 8 + 1 := by rw [e_M31, zset_n _ (by omega), e_M28, zset_s]
          have y7 : M31 103 7 = M31 103 8 := by rw [y8, e_M31, zset_s, e_M28, zset_s]
          have yn : ∀ c i, ¬ (c = 103 ∧ (i = 7 ∨ i = 8)) → M31 c i = M17 c i := fun c i k => by rw [e_M31, zset_n _ (by omega), e_M28, zset_n _ (by omega)]
          refine hP _ _ ⟨?_, ?_, ?_, ?_⟩
          · show v1 = zc (fun i => M 114 i ≠ M 104 i) 192  -- p1.hr
            first | with_reducible assumption | omega | exact trivial | with_reducible rfl
          · show v1 = 0 → M31 = M  -- p1.hs
            intro h; exact absurd h b2
          · show ∀ c i, c ≠ 104 → c ≠ 106 → ¬ (c = 103 ∧ (i = 7 ∨ i = 8)) → M31 c i = M c i  -- p1.hf
            intro c i c1 c2 c3; rw [yn c i c3]; exact hf c i c1 c2 c3
          · show v1 ≠ 0 → M31 103 8 = (if M 103 8 = 20 then 20 else M 103 8 + 1) ∧ M31 103 7 = M31 103 8 ∧ (∀ i, 0 ≤ i → i < 192 → M31 104 i = M 114 i) ∧ (∀ i, 0 ≤ i → i < 192 → M31 106 (192 * (M31 103 8 - 1) + i) = M 104 i) ∧ ∀ i, 0 ≤ i → i < 192 * (M31 103 8 - 1) → M31 106 i = if M 103 8 = 20 then M 106 (i + 192) else M 106 i  -- p1.hd
            intro _
            refine ⟨by rw [y8, k8]; split <;> omega, y7, fun i i0 i1 => ?_, fun i i0 i1 => ?_, fun i i0 i1 => ?_⟩
            · rw [yn 104 i (by omega), g4, if_pos (by omega)]
            · rw [y8, show M17 103 8 + 1 - 1 = M17 103 8 by omega, yn 106 _ (by omega)]; exact g6 i i0 (by omega)
            · rw [yn 106 i (by omega)]; exact gb i i0 (by omega)
        · -- b4.2
          have o2 : ((0 : Int) ≤ v15 ∧ v15 < 192) := by
            first | with_reducible assumption | omega | exact trivial | with_reducible rfl  -- o2
          refine ⟨o2, ?_⟩
          have o3 : ((0 : Int) ≤ ((192 * (M17 103 8)) + v15) ∧ ((192 * (M17 103 8)) + v15) < 4032) := by
            first | with_reducible assumption | omega | exact trivial | with_reducible rfl  -- o3
          refine ⟨o3, ?_⟩
          intro M36 e_M36
          intro M39 e_M39
          have yn : ∀ c i, c ≠ 104 → ¬ (c = 106 ∧ i = 192 * M17 103 8 + v15) → M39 c i = M17 c i := fun c i k l => by rw [e_M39, zset_n _ (by omega), e_M36, zset_n _ (by omega)]
          have y8 : M39 103 8 = M17 103 8 := yn 103 8 (by decide) (by omega)
          have y114 : M36 114 v15 = M 114 v15 := by rw [e_M36, zset_n _ (by omega)]; exact hf 114 v15 (by decide) (by decide) (by omega)
          have o4 : zin (v15 + 1) := by
            first | with_reducible assumption | omega | exact trivial | with_reducible rfl  -- o4
          refine ⟨o4, ?_⟩
          refine ⟨Int.toNat (192 - (v15 + 1)), by omega, by omega, ?_, ?_, ?_, ?_, ?_, ?_, ?_⟩
          · show 0 ≤ (v15 + 1) ∧ (v15 + 1) ≤ 192  -- I98.1.hw
            first | with_reducible assumption | omega | exact trivial | with_reducible rfl
          · show ∀ c i, c ≠ 104 → c ≠ 106 → ¬ (c = 103 ∧ (i = 7 ∨ i = 8)) → M39 c i = M c i  -- I98.1.hf
            intro c i c1 c2 c3; rw [yn c i c1 (by omega)]; exact hf c i c1 c2 c3
          · show M39 103 8 = if M 103 8 = 20 then 19 else M 103 8  -- I98.1.k8
            rw [y8]; exact k8
          · show 0 ≤ M39 103 8 ∧ M39 103 8 ≤ 19  -- I98.1.k9
            rw [y8]; exact k9
          · show ∀ i, M39 104 i = if 0 ≤ i ∧ i < (v15 + 1) then M 114 i else M 104 i  -- I98.1.g4
            intro i
            by_cases c : i = v15
            · rw [c, e_M39, zset_s, y114, if_pos (by omega)]
            · rw [e_M39, zset_n _ (by omega), e_M36, zset_n _ (by omega), g4 i]
              by_cases l : 0 ≤ i ∧ i < v15
              · rw [if_pos l, if_pos (by omega)]
              · rw [if_neg l, if_neg (by omega)]
          · show ∀ i, 0 ≤ i → i < (v15 + 1) → M39 106 (192 * M39 103 8 + i) = M 104 i  -- I98.1.g6
            intro i i0 i1
            rw [y8]
            by_cases c : i = v15
            · rw [c, e_M39, zset_n _ (by omega), e_M36, zset_s, g4, if_neg (by omega)]
            · rw [yn 106 _ (by decide) (by omega)]; exact g6 i i0 (by omega)
          · show ∀ i, 0 ≤ i → i < 192 * M39 103 8 → M39 106 i = if M 103 8 = 20 then M 106 (i + 192) else M 106 i  -- I98.1.gb
            intro i i0 i1
            rw [y8] at i1
            rw [yn 106 i (by decide) (by omega)]; exact gb i i0 i1
      · -- b3.2
        refine ⟨fun v46 M48 n50 => (n50 : Int) = (3648 - v46) ∧ (0 ≤ v46 ∧ v46 ≤ 3648) ∧ (∀ c i, c ≠ 106 → M48 c i = M c i) ∧ (∀ i, M48 106 i = if 0 ≤ i ∧ i < v46 then M 106 (i + 192) else M 106 i), ⟨Int.toNat (3648 - 0), by omega, ?_, ?_, ?_⟩, ?_⟩
        · show 0 ≤ 0 ∧ 0 ≤ 3648  -- I57.0.hx
          first | with_reducible assumption | omega | exact trivial | with_reducible rfl
        · show ∀ c i, c ≠ 106 → M c i = M c i  -- I57.0.hg
          first | with_reducible assumption | omega | exact trivial | with_reducible rfl
        · show ∀ i, M 106 i = if 0 ≤ i ∧ i < 0 then M 106 (i + 192) else M 106 i  -- I57.0.h6
          intro i; rw [if_neg (by omega)]
        rintro v46 M48 n50 ⟨h_n50, hx, hg, h6⟩ z_v46 z_M48
        refine ⟨fun b5 => ?_, fun b5 => ?_⟩
        · -- b5.1
          have o5 : zin ((M48 103 8) - 1) := by
            rw [hg 103 8 (by decide)]; omega
          refine ⟨o5, ?_⟩
          intro M59 e_M59
          have w8 : M59 103 8 = 19 := by rw [e_M59, zset_s, hg 103 8 (by decide)]; omega
          have wf : ∀ c i, c ≠ 106 → ¬ (c = 103 ∧ (i = 7 ∨ i = 8)) → M59 c i = M c i := fun c i c1 c2 => by rw [e_M59, zset_n _ (by omega)]; exact hg c i c1
          have w104 : M59 104 = M 104 := funext fun i => wf 104 i (by decide) (by omega)
          have wb : ∀ i, 0 ≤ i → i < 192 * 19 → M59 106 i = M 106 (i + 192) := fun i i0 i1 => by rw [e_M59, zset_n _ (by omega), h6, if_pos (by omega)]
          refine ⟨fun v62 M64 n66 => (n66 : Int) = (192 - v62) ∧ (0 ≤ v62 ∧ v62 ≤ 192) ∧ (∀ c i, c ≠ 104 → c ≠ 106 → ¬ (c = 103 ∧ (i = 7 ∨ i = 8)) → M64 c i = M c i) ∧ (M64 103 8 = if M 103 8 = 20 then 19 else M 103 8) ∧ (0 ≤ M64 103 8 ∧ M64 103 8 ≤ 19) ∧ (∀ i, M64 104 i = if 0 ≤ i ∧ i < v62 then M 114 i else M 104 i) ∧ (∀ i, 0 ≤ i → i < v62 → M64 106 (192 * M64 103 8 + i) = M 104 i) ∧ (∀ i, 0 ≤ i → i < 192 * M64 103 8 → M64 106 i = if M 103 8 = 20 then M 106 (i + 192) else M 106 i), ⟨Int.toNat (192 - 0), by omega, ?_, ?_, ?_, ?_, ?_, ?_, ?_⟩, ?_⟩
          · show 0 ≤ 0 ∧ 0 ≤ 192  -- I98.0.hw
            first | with_reducible assumption | omega | exact trivial | with_reducible rfl
          · show ∀ c i, c ≠ 104 → c ≠ 106 → ¬ (c = 103 ∧ (i = 7 ∨ i = 8)) → M59 c i = M c i  -- I98.0.hf
            intro c i c1 c2 c3; first | rfl | exact wf c i c2 c3
          · show M59 103 8 = if M 103 8 = 20 then 19 else M 103 8  -- I98.0.k8
            first | (rw [if_neg b3]) | (rw [w8, if_pos b3])
          · show 0 ≤ M59 103 8 ∧ M59 103 8 ≤ 19  -- I98.0.k9
            first | omega | (rw [w8]; omega)
          · show ∀ i, M59 104 i = if 0 ≤ i ∧ i < 0 then M 114 i else M 104 i  -- I98.0.g4
            intro i; first | (rw [w104, if_neg (by omega)]) | (rw [if_neg (by omega)])
          · show ∀ i, 0 ≤ i → i < 0 → M59 106 (192 * M59 103 8 + i) = M 104 i  -- I98.0.g6
            intro i i0 i1; omega
          · show ∀ i, 0 ≤ i → i < 192 * M59 103 8 → M59 106 i = if M 103 8 = 20 then M 106 (i + 192) else M 106 i  -- I98.0.gb
            intro i i0 i1; first | (rw [if_neg b3]) | (rw [w8] at i1; rw [wb i i0 i1, if_pos b3])
          rintro v62 M64 n66 ⟨h_n66, hw, hf, k8, k9, g4, g6, gb⟩ z_v62 z_M64
          refine ⟨fun b6 => ?_, fun b6 => ?_⟩
          · -- b6.1
            have o6 : zin ((M64 103 8) + 1) := by
              first | with_reducible assumption | omega | exact trivial | with_reducible rfl  -- o6
            refine ⟨o6, ?_⟩
            intro M75 e_M75
            intro M78 e_M78
            have y8 : M78 103 8 = M64 103 8 + 1 := by rw [e_M78, zset_n _ (by omega), e_M75, zset_s]
            have y7 : M78 103 7 = M78 103 8 := by rw [y8, e_M78, zset_s, e_M75, zset_s]
            have yn : ∀ c i, ¬ (c = 103 ∧ (i = 7 ∨ i = 8)) → M78 c i = M64 c i := fun c i k => by rw [e_M78, zset_n _ (by omega), e_M75, zset_n _ (by omega)]
            refine hP _ _ ⟨?_, ?_, ?_, ?_⟩
            · show v1 = zc (fun i => M 114 i ≠ M 104 i) 192  -- p2.hr
              first | with_reducible assumption | omega | exact trivial | with_reducible rfl
            · show v1 = 0 → M78 = M  -- p2.hs
              intro h; exact absurd h b2
            · show ∀ c i, c ≠ 104 → c ≠ 106 → ¬ (c = 103 ∧ (i = 7 ∨ i = 8)) → M78 c i = M c i  -- p2.hf
              intro c i c1 c2 c3; rw [yn c i c3]; exact hf c i c1 c2 c3
            · show v1 ≠ 0 → M78 103 8 = (if M 103 8 = 20 then 20 else M 103 8 + 1) ∧ M78 103 7 = M78 103 8 ∧ (∀ i, 0 ≤ i → i < 192 → M78 104 i = M 114 i) ∧ (∀ i, 0 ≤ i → i < 192 → M78 106 (192 * (M78 103 8 - 1) + i) = M 104 i) ∧ ∀ i, 0 ≤ i → i < 192 * (M78 103 8 - 1) → M78 106 i = if M 103 8 = 20 then M 106 (i + 192) else M 106 i  -- p2.hd
              intro _
              refine ⟨by rw [y8, k8]; split <;> omega, y7, fun i i0 i1 => ?_, fun i i0 i1 => ?_, fun i i0 i1 => ?_⟩
              · rw [yn 104 i (by omega), g4, if_pos (by omega)]
              · rw [y8, show M64 103 8 + 1 - 1 = M64 103 8 by omega, yn 106 _ (by omega)]; exact g6 i i0 (by omega)
              · rw [yn 106 i (by omega)]; exact gb i i0 (by omega)
          · -- b6.2
            have o7 : ((0 : Int) ≤ v62 ∧ v62 < 192) := by
              first | with_reducible assumption | omega | exact trivial | with_reducible rfl  -- o7
            refine ⟨o7, ?_⟩
            have o8 : ((0 : Int) ≤ ((192 * (M64 103 8)) + v62) ∧ ((192 * (M64 103 8)) + v62) < 4032) := by
              first | with_reducible assumption | omega | exact trivial | with_reducible rfl  -- o8
            refine ⟨o8, ?_⟩
            intro M83 e_M83
            intro M86 e_M86
            have yn : ∀ c i, c ≠ 104 → ¬ (c = 106 ∧ i = 192 * M64 103 8 + v62) → M86 c i = M64 c i := fun c i k l => by rw [e_M86, zset_n _ (by omega), e_M83, zset_n _ (by omega)]
            have y8 : M86 103 8 = M64 103 8 := yn 103 8 (by decide) (by omega)
            have y114 : M83 114 v62 = M 114 v62 := by rw [e_M83, zset_n _ (by omega)]; exact hf 114 v62 (by decide) (by decide) (by omega)
            have o9 : zin (v62 + 1) := by
              first | with_reducible assumption | omega | exact trivial | with_reducible rfl  -- o9
            refine ⟨o9, ?_⟩
            refine ⟨Int.toNat (192 - (v62 + 1)), by omega, by omega, ?_, ?_, ?_, ?_, ?_, ?_, ?_⟩
            · show 0 ≤ (v62 + 1) ∧ (v62 + 1) ≤ 192  -- I98.2.hw
              first | with_reducible assumption | omega | exact trivial | with_reducible rfl
            · show ∀ c i, c ≠ 104 → c ≠ 106 → ¬ (c = 103 ∧ (i = 7 ∨ i = 8)) → M86 c i = M c i  -- I98.2.hf
              intro c i c1 c2 c3; rw [yn c i c1 (by omega)]; exact hf c i c1 c2 c3
            · show M86 103 8 = if M 103 8 = 20 then 19 else M 103 8  -- I98.2.k8
              rw [y8]; exact k8
            · show 0 ≤ M86 103 8 ∧ M86 103 8 ≤ 19  -- I98.2.k9
              rw [y8]; exact k9
            · show ∀ i, M86 104 i = if 0 ≤ i ∧ i < (v62 + 1) then M 114 i else M 104 i  -- I98.2.g4
              intro i
              by_cases c : i = v62
              · rw [c, e_M86, zset_s, y114, if_pos (by omega)]
              · rw [e_M86, zset_n _ (by omega), e_M83, zset_n _ (by omega), g4 i]
                by_cases l : 0 ≤ i ∧ i < v62
                · rw [if_pos l, if_pos (by omega)]
                · rw [if_neg l, if_neg (by omega)]
            · show ∀ i, 0 ≤ i → i < (v62 + 1) → M86 106 (192 * M86 103 8 + i) = M 104 i  -- I98.2.g6
              intro i i0 i1
              rw [y8]
              by_cases c : i = v62
              · rw [c, e_M86, zset_n _ (by omega), e_M83, zset_s, g4, if_neg (by omega)]
              · rw [yn 106 _ (by decide) (by omega)]; exact g6 i i0 (by omega)
            · show ∀ i, 0 ≤ i → i < 192 * M86 103 8 → M86 106 i = if M 103 8 = 20 then M 106 (i + 192) else M 106 i  -- I98.2.gb
              intro i i0 i1
              rw [y8] at i1
              rw [yn 106 i (by decide) (by omega)]; exact gb i i0 i1
        · -- b5.2
          have o10 : ((0 : Int) ≤ (v46 + 192) ∧ (v46 + 192) < 4032) := by
            first | with_reducible assumption | omega | exact trivial | with_reducible rfl  -- o10
          refine ⟨o10, ?_⟩
          have o11 : ((0 : Int) ≤ v46 ∧ v46 < 4032) := by
            first | with_reducible assumption | omega | exact trivial | with_reducible rfl  -- o11
          refine ⟨o11, ?_⟩
          intro M95 e_M95
          have o12 : zin (v46 + 1) := by
            first | with_reducible assumption | omega | exact trivial | with_reducible rfl  -- o12
          refine ⟨o12, ?_⟩
          refine ⟨Int.toNat (3648 - (v46 + 1)), by omega, by omega, ?_, ?_, ?_⟩
          · show 0 ≤ (v46 + 1) ∧ (v46 + 1) ≤ 3648  -- I57.1.hx
            first | with_reducible assumption | omega | exact trivial | with_reducible rfl
          · show ∀ c i, c ≠ 106 → M95 c i = M c i  -- I57.1.hg
            intro c i c1; rw [e_M95, zset_n _ (by omega)]; exact hg c i c1
          · show ∀ i, M95 106 i = if 0 ≤ i ∧ i < (v46 + 1) then M 106 (i + 192) else M 106 i  -- I57.1.h6
            intro i
            by_cases c : i = v46
            · rw [c, e_M95, zset_s, h6, if_neg (by omega), if_pos (by omega)]
            · rw [e_M95, zset_n _ (by omega), h6 i]
              by_cases l : 0 ≤ i ∧ i < v46
              · rw [if_pos l, if_pos (by omega)]
              · rw [if_neg l, if_neg (by omega)]
    · -- b2.2
      refine hP _ _ ⟨?_, ?_, ?_, ?_⟩
      · show 0 = zc (fun i => M 114 i ≠ M 104 i) 192  -- p3.hr
        rw [← e1, b2]
      · show 0 = 0 → M = M  -- p3.hs
        intro _; rfl
      · show ∀ c i, c ≠ 104 → c ≠ 106 → ¬ (c = 103 ∧ (i = 7 ∨ i = 8)) → M c i = M c i  -- p3.hf
        intro c i c1 c2 c3; rfl
      · show 0 ≠ 0 → M 103 8 = (if M 103 8 = 20 then 20 else M 103 8 + 1) ∧ M 103 7 = M 103 8 ∧ (∀ i, 0 ≤ i → i < 192 → M 104 i = M 114 i) ∧ (∀ i, 0 ≤ i → i < 192 → M 106 (192 * (M 103 8 - 1) + i) = M 104 i) ∧ ∀ i, 0 ≤ i → i < 192 * (M 103 8 - 1) → M 106 i = if M 103 8 = 20 then M 106 (i + 192) else M 106 i  -- p3.hd
        intro h; exact absurd rfl h
  · -- b1.2
    have zb := zc_b (fun i => M 114 i ≠ M 104 i) v2 hv.1
    have o13 : ((0 : Int) ≤ v2 ∧ v2 < 192) := by
      first | with_reducible assumption | omega | exact trivial | with_reducible rfl  -- o13
    refine ⟨o13, ?_⟩
    refine ⟨fun b7 => ?_, fun b7 => ?_⟩
    · -- b7.1
      have o14 : zin (v1 + 0) := by
        first | with_reducible assumption | omega | exact trivial | with_reducible rfl  -- o14
      refine ⟨o14, ?_⟩
      have o15 : zin (v2 + 1) := by
        first | with_reducible assumption | omega | exact trivial | with_reducible rfl  -- o15
      refine ⟨o15, ?_⟩
      refine ⟨Int.toNat (192 - (v2 + 1)), by omega, by omega, ?_, ?_⟩
      · show 0 ≤ (v2 + 1) ∧ (v2 + 1) ≤ 192  -- I4.1.hv
        first | with_reducible assumption | omega | exact trivial | with_reducible rfl
      · show (v1 + 0) = zc (fun i => M 114 i ≠ M 104 i) (v2 + 1)  -- I4.1.h1
        rw [zc_n hv.1 (fun k => k b7)]; omega
    · -- b7.2
      have o16 : zin (v1 + 1) := by
        first | with_reducible assumption | omega | exact trivial | with_reducible rfl  -- o16
      refine ⟨o16, ?_⟩
      have o17 : zin (v2 + 1) := by
        first | with_reducible assumption | omega | exact trivial | with_reducible rfl  -- o17
      refine ⟨o17, ?_⟩
      refine ⟨Int.toNat (192 - (v2 + 1)), by omega, by omega, ?_, ?_⟩
      · show 0 ≤ (v2 + 1) ∧ (v2 + 1) ≤ 192  -- I4.2.hv
        first | with_reducible assumption | omega | exact trivial | with_reducible rfl
      · show (v1 + 1) = zc (fun i => M 114 i ≠ M 104 i) (v2 + 1)  -- I4.2.h1
        rw [zc_p hv.1 b7]; omega

