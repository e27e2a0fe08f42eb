abbrev pr_X8_add (a : Int) (n : Int) (M : zM) : Prop := (zia a) ∧ (0 ≤ n ∧ n ≤ 120 ∧ n ≤ zlni a) ∧ (0 ≤ M 57 0 ∧ M 57 0 ≤ 12)
abbrev po_X8_add (a : Int) (n : Int) (M : zM) (r : Int) (M' : zM) : Prop := ((M 57 0 = 12 ∧ r = -2 ∧ M' = M) ∨ (M 57 0 < 12 ∧ r = M 57 0 ∧ M' 57 0 = M 57 0 + 1 ∧ M' 71 (M 57 0) = n ∧ M' 72 (M 57 0) = 1 ∧ (∀ i, 0 ≤ i → i < n → M' (59 + M 57 0) i = M a i) ∧ ∀ c i, ¬ (c = 57 ∧ i = 0) → ¬ (c = 71 ∧ i = M 57 0) → ¬ (c = 72 ∧ i = M 57 0) → ¬ (c = 59 + M 57 0 ∧ 0 ≤ i ∧ i < n) → M' c i = M c i))
set_option maxHeartbeats 1000000 in
theorem ok_X8_add : zSnd zS 145 0 0 yX8_add cX8_add 3 (some .int) 1 [2, 2, 0] (F_X8_add pr_X8_add po_X8_add) := by
  refine (sn_X8_add).mono ?_
  rintro xs P M hz hR ⟨a, n, rfl, ⟨ha, hn, h0⟩, hP⟩
  refine ⟨_, _, rfl, ?_⟩
  have z_n := zall_h (zall_t (zall_t hz)) (by decide)
  change vc_X8_add a n P M
  unfold vc_X8_add
  have hl2 : ((zln a : Nat) : Int) = zlni a := rfl
  refine ⟨fun b1 => ?_, fun b1 => ?_⟩
  · -- b1.1
    refine hP _ _ ?_
    · show (M 57 0 = 12 ∧ (-2) = -2 ∧ M = M) ∨ (M 57 0 < 12 ∧ (-2) = M 57 0 ∧ M 57 0 = M 57 0 + 1 ∧ M 71 (M 57 0) = n ∧ M 72 (M 57 0) = 1 ∧ (∀ i, 0 ≤ i → i < n → M (59 + M 57 0) i = M a i) ∧ ∀ c i, ¬ (c = 57 ∧ i = 0) → ¬ (c = 71 ∧ i = M 57 0) → ¬ (c = 72 ∧ i = M 57 0) → ¬ (c = 59 + M 57 0 ∧ 0 ≤ i ∧ i < n) → M c i = M c i)  -- p1.ho
      exact .inl ⟨by omega, rfl, rfl⟩
  · -- b1.2
    refine ⟨fun b2 => ?_, fun b2 => ?_⟩
    · -- b2.1
      have o1 : ((0 : Int) ≤ (M 57 0) ∧ (M 57 0) < 12) := by
        first | with_reducible assumption | omega | exact trivial | with_reducible rfl  -- o1
      refine ⟨o1, ?_⟩
      have o2 : zia a := by
        first | with_reducible assumption | omega | exact trivial | with_reducible rfl  -- o2
      refine ⟨o2, ?_⟩
      have o3 : ((0 : Int) ≤ 0 ∧ (0 : Int) ≤ 0 ∧ (0 : Int) ≤ n ∧ 0 + n ≤ (zln a) ∧ 0 + n ≤ 120) := by
        first | with_reducible assumption | omega | exact trivial | with_reducible rfl  -- o3
      refine ⟨o3, ?_⟩
      intro M6 e_M6
      have q0 : M6 57 0 = M 57 0 := by rw [e_M6, zcpy_n _ (by omega)]
      have o4 : ((0 : Int) ≤ (M6 57 0) ∧ (M6 57 0) < 12) := by
        rw [q0]; omega
      refine ⟨o4, ?_⟩
      intro M10 e_M10
      have q1 : M10 57 0 = M 57 0 := by rw [e_M10, zset_n _ (by omega), q0]
      have o5 : ((0 : Int) ≤ (M10 57 0) ∧ (M10 57 0) < 12) := by
        rw [q1]; omega
      refine ⟨o5, ?_⟩
      intro M14 e_M14
      have q2 : M14 57 0 = M 57 0 := by rw [e_M14, zset_n _ (by omega), q1]
      have o6 : zin ((M14 57 0) + 1) := by
        rw [q2]; omega
      refine ⟨o6, ?_⟩
      intro M18 e_M18
      have q3 : M18 57 0 = M 57 0 + 1 := by rw [e_M18, zset_s, q2]
      have o7 : zin ((M18 57 0) - 1) := by
        rw [q3]; omega
      refine ⟨o7, ?_⟩
      refine hP _ _ ?_
      · show (M 57 0 = 12 ∧ ((M18 57 0) - 1) = -2 ∧ M18 = M) ∨ (M 57 0 < 12 ∧ ((M18 57 0) - 1) = M 57 0 ∧ M18 57 0 = M 57 0 + 1 ∧ M18 71 (M 57 0) = n ∧ M18 72 (M 57 0) = 1 ∧ (∀ i, 0 ≤ i → i < n → M18 (59 + M 57 0) i = M a i) ∧ ∀ c i, ¬ (c = 57 ∧ i = 0) → ¬ (c = 71 ∧ i = M 57 0) → ¬ (c = 72 ∧ i = M 57 0) → ¬ (c = 59 + M 57 0 ∧ 0 ≤ i ∧ i < n) → M18 c i = M c i)  -- p2.ho
        refine .inr ⟨by omega, by omega, q3, ?_, ?_, fun i i0 i1 => ?_, fun c i c1 c2 c3 c4 => ?_⟩
        · rw [e_M18, zset_n _ (by omega), e_M14, zset_n _ (by omega), e_M10, q0, zset_s]
        · rw [e_M18, zset_n _ (by omega), e_M14, q1, zset_s]
        · rw [e_M18, zset_n _ (by omega), e_M14, zset_n _ (by omega), e_M10, zset_n _ (by omega), e_M6, zcpy_s _ (by omega), show 0 + (i - 0) = i by omega]
        · rw [e_M18, zset_n _ (by omega), e_M14, q1, zset_n _ (by omega), e_M10, q0, zset_n _ (by omega), e_M6, zcpy_n _ (by omega)]
    · -- b2.2
      refine hP _ _ ?_
      · show (M 57 0 = 12 ∧ (-2) = -2 ∧ M = M) ∨ (M 57 0 < 12 ∧ (-2) = M 57 0 ∧ M 57 0 = M 57 0 + 1 ∧ M 71 (M 57 0) = n ∧ M 72 (M 57 0) = 1 ∧ (∀ i, 0 ≤ i → i < n → M (59 + M 57 0) i = M a i) ∧ ∀ c i, ¬ (c = 57 ∧ i = 0) → ¬ (c = 71 ∧ i = M 57 0) → ¬ (c = 72 ∧ i = M 57 0) → ¬ (c = 59 + M 57 0 ∧ 0 ≤ i ∧ i < n) → M c i = M c i)  -- p3.ho
        exact absurd hn.2.1 b2

abbrev pr_X8_countTold (M : zM) : Prop := (0 ≤ M 57 0 ∧ M 57 0 ≤ 12)
abbrev po_X8_countTold (M : zM) (r : Int) (M' : zM) : Prop := M' = M ∧ r = zc (fun k => M 72 k ≠ 0) (M 57 0)
set_option maxHeartbeats 1000000 in
theorem ok_X8_countTold : zSnd zS 145 0 0 yX8_countTold cX8_countTold 3 (some .int) 0 [2] (F_X8_countTold pr_X8_countTold po_X8_countTold) := by
  refine (sn_X8_countTold).mono ?_
  rintro xs P M hz hR ⟨rfl, h0, hP⟩
  refine ⟨rfl, ?_⟩
  change vc_X8_countTold P M
  unfold vc_X8_countTold
  refine ⟨fun v1 v2 n5 => (n5 : Int) = (M 57 0 - v2) ∧ (0 ≤ v2 ∧ v2 ≤ M 57 0) ∧ (v1 = zc (fun k => M 72 k ≠ 0) v2), ⟨Int.toNat (M 57 0 - 0), by omega, ?_, ?_⟩, ?_⟩
  · show 0 ≤ 0 ∧ 0 ≤ M 57 0  -- I4.0.hv
    first | with_reducible assumption | omega | exact trivial | with_reducible rfl
  · show 0 = zc (fun k => M 72 k ≠ 0) 0  -- I4.0.h1
    exact (zc_z _).symm
  rintro v1 v2 n5 ⟨h_n5, hv, h1⟩ z_v1 z_v2
  refine ⟨fun b1 => ?_, fun b1 => ?_⟩
  · -- b1.1
    refine hP _ _ ⟨rfl, ?_⟩
    · rw [h1, show v2 = M 57 0 by omega]  -- p1
  · -- b1.2
    have o1 : ((0 : Int) ≤ v2 ∧ v2 < 12) := by
      first | with_reducible assumption | omega | exact trivial | with_reducible rfl  -- o1
    refine ⟨o1, ?_⟩
    refine ⟨fun b2 => ?_, fun b2 => ?_⟩
    · -- b2.1
      have o2 : zin (v2 + 1) := by
        first | with_reducible assumption | omega | exact trivial | with_reducible rfl  -- o2
      refine ⟨o2, ?_⟩
      refine ⟨Int.toNat (M 57 0 - (v2 + 1)), by omega, by omega, ?_, ?_⟩
      · show 0 ≤ (v2 + 1) ∧ (v2 + 1) ≤ M 57 0  -- I4.1.hv
        first | with_reducible assumption | omega | exact trivial | with_reducible rfl
      · show v1 = zc (fun k => M 72 k ≠ 0) (v2 + 1)  -- I4.1.h1
        rw [zc_n hv.1 (fun k => k b2)]; exact h1
    · -- b2.2
      have o3 : zin (v1 + 1) := by
        have := zc_b (fun k => M 72 k ≠ 0) v2 hv.1; omega
      refine ⟨o3, ?_⟩
      have o4 : zin (v2 + 1) := by
        first | with_reducible assumption | omega | exact trivial | with_reducible rfl  -- o4
      refine ⟨o4, ?_⟩
      refine ⟨Int.toNat (M 57 0 - (v2 + 1)), by omega, by omega, ?_, ?_⟩
      · show 0 ≤ (v2 + 1) ∧ (v2 + 1) ≤ M 57 0  -- I4.2.hv
        first | with_reducible assumption | omega | exact trivial | with_reducible rfl
      · show (v1 + 1) = zc (fun k => M 72 k ≠ 0) (v2 + 1)  -- I4.2.h1
        rw [zc_p hv.1 b2, ← h1]

abbrev pr_X8_takeImage (M : zM) : Prop := (∀ k, 0 ≤ k → k < 12 → M 72 k = 0 ∨ M 72 k = 1)
abbrev po_X8_takeImage (M : zM) (M' : zM) : Prop := (∀ c i, c ≠ 73 → ¬ (c = 57 ∧ i = 4) → M' c i = M c i) ∧ (M' 57 4 = M 57 0) ∧ (∀ k, 0 ≤ k → k < 12 → M' 73 k = M 72 k)
set_option maxHeartbeats 1000000 in
theorem ok_X8_takeImage : zSnd zS 145 0 0 yX8_takeImage cX8_takeImage 2 none 0 [2] (F_X8_takeImage pr_X8_takeImage po_X8_takeImage) := by
  refine (sn_X8_takeImage).mono ?_
  rintro xs P M hz hR ⟨rfl, hb, hP⟩
  refine ⟨rfl, ?_⟩
  change vc_X8_takeImage P M
  unfold vc_X8_takeImage
  intro M1 e_M1
  refine ⟨fun v4 M6 n8 => (n8 : Int) = (12 - v4) ∧ (0 ≤ v4 ∧ v4 ≤ 12) ∧ (∀ c i, c ≠ 73 → ¬ (c = 57 ∧ i = 4) → M6 c i = M c i) ∧ (M6 57 4 = M 57 0) ∧ (∀ k, 0 ≤ k → k < v4 → M6 73 k = M 72 k), ⟨Int.toNat (12 - 0), by omega, ?_, ?_, ?_, ?_⟩, ?_⟩
  · show 0 ≤ 0 ∧ 0 ≤ 12  -- I10.0.hv
    first | with_reducible assumption | omega | exact trivial | with_reducible rfl
  · show ∀ c i, c ≠ 73 → ¬ (c = 57 ∧ i = 4) → M1 c i = M c i  -- I10.0.hf
    intro c i c1 c2; rw [e_M1, zset_n _ (by omega)]
  · show M1 57 4 = M 57 0  -- I10.0.h4
    rw [e_M1, zset_s]
  · show ∀ k, 0 ≤ k → k < 0 → M1 73 k = M 72 k  -- I10.0.hk
    intro k k0 k1; omega
  rintro v4 M6 n8 ⟨h_n8, hv, hf, h4, hk⟩ z_v4 z_M6
  refine ⟨fun b1 => ?_, fun b1 => ?_⟩
  · -- b1.1
    refine hP _ ⟨?_, ?_, ?_⟩
    · show ∀ c i, c ≠ 73 → ¬ (c = 57 ∧ i = 4) → M6 c i = M c i  -- p1.hf
      first | with_reducible assumption | omega | exact trivial | with_reducible rfl
    · show M6 57 4 = M 57 0  -- p1.h4
      first | with_reducible assumption | omega | exact trivial | with_reducible rfl
    · show ∀ k, 0 ≤ k → k < 12 → M6 73 k = M 72 k  -- p1.hk
      intro k k0 k1; exact hk k k0 (by omega)
  · -- b1.2
    have o1 : ((0 : Int) ≤ v4 ∧ v4 < 12) := by
      first | with_reducible assumption | omega | exact trivial | with_reducible rfl  -- o1
    refine ⟨o1, ?_⟩
    have o2 : ((M6 72 v4) = 0 ∨ (M6 72 v4) = 1) := by
      rw [hf 72 v4 (by decide) (by omega)]; exact hb v4 hv.1 (by omega)
    refine ⟨o2, ?_⟩
    intro M18 e_M18
    have o3 : zin (v4 + 1) := by
      first | with_reducible assumption | omega | exact trivial | with_reducible rfl  -- o3
    refine ⟨o3, ?_⟩
    refine ⟨Int.toNat (12 - (v4 + 1)), by omega, by omega, ?_, ?_, ?_, ?_⟩
    · show 0 ≤ (v4 + 1) ∧ (v4 + 1) ≤ 12  -- I10.1.hv
      first | with_reducible assumption | omega | exact trivial | with_reducible rfl
    · show ∀ c i, c ≠ 73 → ¬ (c = 57 ∧ i = 4) → M18 c i = M c i  -- I10.1.hf
      intro c i c1 c2; rw [e_M18, zset_n _ (by omega)]; exact hf c i c1 c2
    · show M18 57 4 = M 57 0  -- I10.1.h4
      rw [e_M18, zset_n _ (by omega)]; exact h4
    · show ∀ k, 0 ≤ k → k < (v4 + 1) → M18 73 k = M 72 k  -- I10.1.hk
      intro k k0 k1
      by_cases c : k = v4
      · rw [c, e_M18, zset_s]; exact hf 72 v4 (by decide) (by omega)
      · rw [e_M18, zset_n _ (by omega)]; exact hk k k0 (by omega)

abbrev pr_X8_bringBack (M : zM) : Prop := (∀ k, 0 ≤ k → k < 12 → M 73 k = 0 ∨ M 73 k = 1)
abbrev po_X8_bringBack (M : zM) (M' : zM) : Prop := (∀ c i, c ≠ 72 → ¬ (c = 57 ∧ i = 0) → M' c i = M c i) ∧ (M' 57 0 = M 57 4) ∧ (∀ k, 0 ≤ k → k < 12 → M' 72 k = M 73 k)
set_option maxHeartbeats 1000000 in
theorem ok_X8_bringBack : zSnd zS 145 0 0 yX8_bringBack cX8_bringBack 2 none 0 [2] (F_X8_bringBack pr_X8_bringBack po_X8_bringBack) := by
  refine (sn_X8_bringBack).mono ?_
  rintro xs P M hz hR ⟨rfl, hb, hP⟩
  refine ⟨rfl, ?_⟩
  change vc_X8_bringBack P M
  unfold vc_X8_bringBack
  intro M1 e_M1
  refine ⟨fun v4 M6 n8 => (n8 : Int) = (12 - v4) ∧ (0 ≤ v4 ∧ v4 ≤ 12) ∧ (∀ c i, c ≠ 72 → ¬ (c = 57 ∧ i = 0) → M6 c i = M c i) ∧ (M6 57 0 = M 57 4) ∧ (∀ k, 0 ≤ k → k < v4 → M6 72 k = M 73 k), ⟨Int.toNat (12 - 0), by omega, ?_, ?_, ?_, ?_⟩, ?_⟩
  · show 0 ≤ 0 ∧ 0 ≤ 12  -- I10.0.hv
    first | with_reducible assumption | omega | exact trivial | with_reducible rfl
  · show ∀ c i, c ≠ 72 → ¬ (c = 57 ∧ i = 0) → M1 c i = M c i  -- I10.0.hf
    intro c i c1 c2; rw [e_M1, zset_n _ (by omega)]
  · show M1 57 0 = M 57 4  -- I10.0.h4
    rw [e_M1, zset_s]
  · show ∀ k, 0 ≤ k → k < 0 → M1 72 k = M 73 k  -- I10.0.hk
    intro k k0 k1; omega
  rintro v4 M6 n8 ⟨h_n8, hv, hf, h4, hk⟩ z_v4 z_M6
  refine ⟨fun b1 => ?_, fun b1 => ?_⟩
  · -- b1.1
    refine hP _ ⟨?_, ?_, ?_⟩
    · show ∀ c i, c ≠ 72 → ¬ (c = 57 ∧ i = 0) → M6 c i = M c i  -- p1.hf
      first | with_reducible assumption | omega | exact trivial | with_reducible rfl
    · show M6 57 0 = M 57 4  -- p1.h4
      first | with_reducible assumption | omega | exact trivial | with_reducible rfl
    · show ∀ k, 0 ≤ k → k < 12 → M6 72 k = M 73 k  -- p1.hk
      intro k k0 k1; exact hk k k0 (by omega)
  · -- b1.2
    have o1 : ((0 : Int) ≤ v4 ∧ v4 < 12) := by
      first | with_reducible assumption | omega | exact trivial | with_reducible rfl  -- o1
    refine ⟨o1, ?_⟩
    have o2 : ((M6 73 v4) = 0 ∨ (M6 73 v4) = 1) := by
      rw [hf 73 v4 (by decide) (by omega)]; exact hb v4 hv.1 (by omega)
    refine ⟨o2, ?_⟩
    intro M18 e_M18
    have o3 : zin (v4 + 1) := by
      first | with_reducible assumption | omega | exact trivial | with_reducible rfl  -- o3
    refine ⟨o3, ?_⟩
    refine ⟨Int.toNat (12 - (v4 + 1)), by omega, by omega, ?_, ?_, ?_, ?_⟩
    · show 0 ≤ (v4 + 1) ∧ (v4 + 1) ≤ 12  -- I10.1.hv
      first | with_reducible assumption | omega | exact trivial | with_reducible rfl
    · show ∀ c i, c ≠ 72 → ¬ (c = 57 ∧ i = 0) → M18 c i = M c i  -- I10.1.hf
      intro c i c1 c2; rw [e_M18, zset_n _ (by omega)]; exact hf c i c1 c2
    · show M18 57 0 = M 57 4  -- I10.1.h4
      rw [e_M18, zset_n _ (by omega)]; exact h4
    · show ∀ k, 0 ≤ k → k < (v4 + 1) → M18 72 k = M 73 k  -- I10.1.hk
      intro k k0 k1
      by_cases c : k = v4
      · rw [c, e_M18, zset_s]; exact hf 73 v4 (by decide) (by omega)
      · rw [e_M18, zset_n _ (by omega)]; exact hk k k0 (by omega)

