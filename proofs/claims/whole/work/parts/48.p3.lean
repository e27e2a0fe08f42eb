/-- the dots have colours -/
def mCo (M : zM) : Prop := ∀ i, 0 ≤ i → i < 192 → 0 ≤ M 104 i ∧ M 104 i ≤ 15
abbrev pr_X12_square (a : Int) (M : zM) : Prop := (-255 ≤ a ∧ a ≤ 255)
abbrev po_X12_square (a : Int) (M : zM) (r : Int) (M' : zM) : Prop := M' = M ∧ r = a * a
set_option maxHeartbeats 1000000 in
theorem ok_X12_square : zSnd zS 145 0 0 yX12_square cX12_square 1 (some .int) 0 [0] (F_X12_square pr_X12_square po_X12_square) := by
  refine (sn_X12_square).mono ?_
  rintro xs P M hz hR ⟨a, rfl, ha, hP⟩
  refine ⟨_, rfl, ?_⟩
  have z_a := zall_h hz (by decide)
  change vc_X12_square a P M
  unfold vc_X12_square
  have q := zsq_b ha
  have o1 : zin (a * a) := by
    first | with_reducible assumption | omega | exact trivial | with_reducible rfl  -- o1
  refine ⟨o1, ?_⟩
  refine hP _ _ ⟨rfl, ?_⟩
  · first | with_reducible assumption | omega | exact trivial | with_reducible rfl  -- p1

abbrev pr_X12_nearestOf (k : Int) (set : Int) (M : zM) : Prop := (∀ c, 0 ≤ c → c < 16 → 0 ≤ M 105 c ∧ M 105 c ≤ 255) ∧ (0 ≤ k ∧ k < 16) ∧ (0 ≤ set ∧ set < 65536)
abbrev po_X12_nearestOf (k : Int) (set : Int) (M : zM) (r : Int) (M' : zM) : Prop := M' = M ∧ r = gNe (M 105) set k 16
set_option maxHeartbeats 1000000 in
theorem ok_X12_nearestOf : zSnd zS 145 0 0 yX12_nearestOf cX12_nearestOf 6 (some .int) 1 [2, 0, 0] (F_X12_nearestOf pr_X12_nearestOf po_X12_nearestOf) := by
  refine (sn_X12_nearestOf ok_X12_square).mono ?_
  rintro xs P M hz hR ⟨k, set, rfl, ⟨ht, hc, hs⟩, hP⟩
  refine ⟨_, _, rfl, ?_⟩
  have z_k := zall_h (zall_t hz) (by decide)
  have z_set := zall_h (zall_t (zall_t hz)) (by decide)
  change vc_X12_nearestOf pr_X12_square po_X12_square k set P M
  unfold vc_X12_nearestOf
  refine ⟨fun v1 v2 M5 n7 => (n7 : Int) = (16 - v2) ∧ (0 ≤ v2 ∧ v2 ≤ 16) ∧ (M5 = M) ∧ (v1 = gNe (M 105) set k v2), ⟨Int.toNat (16 - 0), by omega, ?_, ?_, ?_⟩, ?_⟩
  · show 0 ≤ 0 ∧ 0 ≤ 16  -- I5.0.hv
    first | with_reducible assumption | omega | exact trivial | with_reducible rfl
  · first | with_reducible assumption | omega | exact trivial | with_reducible rfl  -- I5.0.rfl
  · show (-1) = gNe (M 105) set k 0  -- I5.0.h1
    rfl
  rintro v1 v2 M5 n7 ⟨h_n7, hv, q_rfl, h1⟩ z_v1 z_v2 z_M5
  have q_rfl := q_rfl.symm
  subst q_rfl
  refine ⟨fun b1 => ?_, fun b1 => ?_⟩
  · -- b1.1
    refine hP _ _ ⟨rfl, ?_⟩
    · rw [h1, show v2 = 16 by omega]  -- p1
  · -- b1.2
    have gs := @gNe_s (M 105) set k v2 hv.1 hs.1
    have gb := @gNe_b (M 105) set k v2 hv.1
    rw [← h1] at gs gb
    have zb := zbt_0 hs.1 (by omega) hv.1 (show v2 < 16 by omega)
    have tc := ht k hc.1 hc.2
    have tv := ht v2 hv.1 (by omega)
    intro K67 h_K67
    have k_K67 : ∀ (v15 : Int) (M17 : zM), (M17 = M) → (zB v15 (zbt set v2 ∧ (v1 < 0 ∨ (M 105 v2 - M 105 k) * (M 105 v2 - M 105 k) < (M 105 v1 - M 105 k) * (M 105 v1 - M 105 k)))) → K67 v15 M17 := by
      intro v15 M17 hM hk
      refine h_K67 _ _ ?_
      intro z_v15 z_M17
      refine ⟨fun b2 => ?_, fun b2 => ?_⟩
      · -- b2.1
        have o1 : zin (v2 + 1) := by
          first | with_reducible assumption | omega | exact trivial | with_reducible rfl  -- o1
        refine ⟨o1, ?_⟩
        refine ⟨Int.toNat (16 - (v2 + 1)), by omega, by omega, ?_, ?_, ?_⟩
        · show 0 ≤ (v2 + 1) ∧ (v2 + 1) ≤ 16  -- I5.1.hv
          first | with_reducible assumption | omega | exact trivial | with_reducible rfl
        · exact hM  -- I5.1.rfl
        · show v1 = gNe (M 105) set k (v2 + 1)  -- I5.1.h1
          rcases gs with ⟨_, b⟩ | ⟨e, _⟩
          · exact absurd b (hk.z.1 b2)
          · exact e.symm
      · -- b2.2
        have o2 : zin (v2 + 1) := by
          first | with_reducible assumption | omega | exact trivial | with_reducible rfl  -- o2
        refine ⟨o2, ?_⟩
        refine ⟨Int.toNat (16 - (v2 + 1)), by omega, by omega, ?_, ?_, ?_⟩
        · show 0 ≤ (v2 + 1) ∧ (v2 + 1) ≤ 16  -- I5.2.hv
          first | with_reducible assumption | omega | exact trivial | with_reducible rfl
        · exact hM  -- I5.2.rfl
        · show v2 = gNe (M 105) set k (v2 + 1)  -- I5.2.h1
          rcases gs with ⟨e, _⟩ | ⟨_, b⟩
          · exact e.symm
          · exact absurd (hk.ne.1 b2) b
    intro K66 h_K66
    have k_K66 : ∀ (M28 : zM), (M28 = M) → (¬ (zbt set v2 ∧ (v1 < 0 ∨ (M 105 v2 - M 105 k) * (M 105 v2 - M 105 k) < (M 105 v1 - M 105 k) * (M 105 v1 - M 105 k)))) → K66 M28 := by
      intro M28 hM6 hk6
      refine h_K66 _ ?_
      intro z_M28
      refine k_K67 _ _ ?_ ?_
      · show M28 = M  -- K67.1.hM
        first | with_reducible assumption | omega | exact trivial | with_reducible rfl
      · show zB 0 (zbt set v2 ∧ (v1 < 0 ∨ (M 105 v2 - M 105 k) * (M 105 v2 - M 105 k) < (M 105 v1 - M 105 k) * (M 105 v1 - M 105 k)))  -- K67.1.hk
        exact zB.f hk6
    refine ⟨fun b3 => ?_, fun b3 => ?_⟩
    · -- b3.1
      refine k_K66 _ ?_ ?_
      · show M = M  -- K66.1.hM6
        rfl
      · show ¬ (zbt set v2 ∧ (v1 < 0 ∨ (M 105 v2 - M 105 k) * (M 105 v2 - M 105 k) < (M 105 v1 - M 105 k) * (M 105 v1 - M 105 k)))  -- K66.1.hk6
        exact fun h => b3 (zb.2.2 h.1)
    · -- b3.2
      intro K62 h_K62
      have k_K62 : ∀ (M31 : zM), (M31 = M) → (zbt set v2 ∧ (v1 < 0 ∨ (M 105 v2 - M 105 k) * (M 105 v2 - M 105 k) < (M 105 v1 - M 105 k) * (M 105 v1 - M 105 k))) → K62 M31 := by
        intro M31 hM2 hk2
        refine h_K62 _ ?_
        intro z_M31
        refine k_K67 _ _ ?_ ?_
        · show M31 = M  -- K67.2.hM
          first | with_reducible assumption | omega | exact trivial | with_reducible rfl
        · show zB 1 (zbt set v2 ∧ (v1 < 0 ∨ (M 105 v2 - M 105 k) * (M 105 v2 - M 105 k) < (M 105 v1 - M 105 k) * (M 105 v1 - M 105 k)))  -- K67.2.hk
          exact zB.t hk2
      refine ⟨fun b4 => ?_, fun b4 => ?_⟩
      · -- b4.1
        refine k_K62 _ ?_ ?_
        · show M = M  -- K62.1.hM2
          rfl
        · show zbt set v2 ∧ (v1 < 0 ∨ (M 105 v2 - M 105 k) * (M 105 v2 - M 105 k) < (M 105 v1 - M 105 k) * (M 105 v1 - M 105 k))  -- K62.1.hk2
          exact ⟨zb.2.1 b3, .inl b4⟩
      · -- b4.2
        have t1 := ht v1 (by omega) (by omega)
        have o3 : ((0 : Int) ≤ v2 ∧ v2 < 16) := by
          first | with_reducible assumption | omega | exact trivial | with_reducible rfl  -- o3
        refine ⟨o3, ?_⟩
        have o4 : ((0 : Int) ≤ k ∧ k < 16) := by
          first | with_reducible assumption | omega | exact trivial | with_reducible rfl  -- o4
        refine ⟨o4, ?_⟩
        have o5 : zin ((M 105 v2) - (M 105 k)) := by
          first | with_reducible assumption | omega | exact trivial | with_reducible rfl  -- o5
        refine ⟨o5, ?_⟩
        have gc1 : pr_X12_square ((M 105 v2) - (M 105 k)) M := by
          show -255 ≤ ((M 105 v2) - (M 105 k)) ∧ ((M 105 v2) - (M 105 k)) ≤ 255
          first | with_reducible assumption | omega | exact trivial | with_reducible rfl  -- c1.ha
        refine ⟨gc1, ?_⟩
        rintro r37 M38 ⟨q_rfl, e_r37⟩ z_r37 z_M38
        have q_rfl := q_rfl.symm
        subst q_rfl
        have o6 : ((0 : Int) ≤ v1 ∧ v1 < 16) := by
          first | with_reducible assumption | omega | exact trivial | with_reducible rfl  -- o6
        refine ⟨o6, ?_⟩
        have o7 : zin ((M 105 v1) - (M 105 k)) := by
          first | with_reducible assumption | omega | exact trivial | with_reducible rfl  -- o7
        refine ⟨o7, ?_⟩
        have gc2 : pr_X12_square ((M 105 v1) - (M 105 k)) M := by
          show -255 ≤ ((M 105 v1) - (M 105 k)) ∧ ((M 105 v1) - (M 105 k)) ≤ 255
          first | with_reducible assumption | omega | exact trivial | with_reducible rfl  -- c2.ha
        refine ⟨gc2, ?_⟩
        rintro r45 M46 ⟨q_rfl, e_r45⟩ z_r45 z_M46
        have q_rfl := q_rfl.symm
        subst q_rfl
        refine ⟨fun b5 => ?_, fun b5 => ?_⟩
        · -- b5.1
          refine k_K66 _ ?_ ?_
          · show M = M  -- K66.2.hM6
            rfl
          · show ¬ (zbt set v2 ∧ (v1 < 0 ∨ (M 105 v2 - M 105 k) * (M 105 v2 - M 105 k) < (M 105 v1 - M 105 k) * (M 105 v1 - M 105 k)))  -- K66.2.hk6
            rintro ⟨_, h | h⟩
            · exact b4 h
            · rw [← e_r37, ← e_r45] at h; omega
        · -- b5.2
          refine k_K62 _ ?_ ?_
          · show M = M  -- K62.2.hM2
            rfl
          · show zbt set v2 ∧ (v1 < 0 ∨ (M 105 v2 - M 105 k) * (M 105 v2 - M 105 k) < (M 105 v1 - M 105 k) * (M 105 v1 - M 105 k))  -- K62.2.hk2
            exact ⟨zb.2.1 b3, .inr (by rw [← e_r37, ← e_r45]; omega)⟩

theorem zpc_s {k n : Nat} (h : 0 < n) (hn : n < 2 ^ k) : ∃ j, k = j + 1 ∧ zpc k n = ((n % 2 : Nat) : Int) + zpc j (n / 2) ∧ n / 2 < 2 ^ j := by
  cases k with
  | zero => simp at hn; omega
  | succ j => exact ⟨j, rfl, rfl, by rw [Nat.pow_succ] at hn; omega⟩
theorem zpc_le : ∀ (k n : Nat), 0 ≤ zpc k n ∧ zpc k n ≤ k
  | 0, _ => by unfold zpc; omega
  | k + 1, n => by
    have := zpc_le k (n / 2)
    unfold zpc
    omega
abbrev pr_X12_ones (s : Int) (M : zM) : Prop := (0 ≤ s ∧ s < 65536)
abbrev po_X12_ones (s : Int) (M : zM) (r : Int) (M' : zM) : Prop := M' = M ∧ r = zc (zbt s) 16
set_option maxHeartbeats 1000000 in
theorem ok_X12_ones : zSnd zS 145 0 0 yX12_ones cX12_ones 3 (some .int) 0 [0] (F_X12_ones pr_X12_ones po_X12_ones) := by
  refine (sn_X12_ones).mono ?_
  rintro xs P M hz hR ⟨s, rfl, hs, hP⟩
  refine ⟨_, rfl, ?_⟩
  have z_s := zall_h hz (by decide)
  change vc_X12_ones s P M
  unfold vc_X12_ones
  have E : zc (zbt s) 16 = zpc 16 s.toNat := (zpc_c 16 s.toNat).symm
  refine ⟨fun v1 v2 n5 => (n5 : Int) = (v2) ∧ (0 ≤ v2) ∧ (0 ≤ v1 ∧ v1 ≤ 16) ∧ (∃ j : Nat, j ≤ 16 ∧ v2.toNat < 2 ^ j ∧ v1 + zpc j v2.toNat = zpc 16 s.toNat), ⟨Int.toNat (s), by omega, ?_, ?_, ?_⟩, ?_⟩
  · show 0 ≤ s  -- I4.0.hv
    first | with_reducible assumption | omega | exact trivial | with_reducible rfl
  · show 0 ≤ 0 ∧ 0 ≤ 16  -- I4.0.hb
    first | with_reducible assumption | omega | exact trivial | with_reducible rfl
  · show ∃ j : Nat, j ≤ 16 ∧ s.toNat < 2 ^ j ∧ 0 + zpc j s.toNat = zpc 16 s.toNat  -- I4.0.hq
    exact ⟨16, by decide, by omega, by omega⟩
  rintro v1 v2 n5 ⟨h_n5, hv, hb, hq⟩ z_v1 z_v2
  refine ⟨fun b1 => ?_, fun b1 => ?_⟩
  · -- b1.1
    refine hP _ _ ⟨rfl, ?_⟩
    · obtain ⟨j, _, _, e⟩ := hq  -- p1
      rw [E, ← e, show v2.toNat = 0 by omega, zpc_0]; omega
  · -- b1.2
    obtain ⟨j, j0, j1, je⟩ := hq
    obtain ⟨i, i0, i1, i2⟩ := zpc_s (by omega) j1
    have pb := zpc_le i (v2.toNat / 2)
    have pb16 := zpc_le 16 s.toNat
    have ed : (v2 / 2).toNat = v2.toNat / 2 := by omega
    have o1 : 0 ≤ v2 := by
      first | with_reducible assumption | omega | exact trivial | with_reducible rfl  -- o1
    refine ⟨o1, ?_⟩
    have o2 : zin (v1 + (v2 % 2)) := by
      first | with_reducible assumption | omega | exact trivial | with_reducible rfl  -- o2
    refine ⟨o2, ?_⟩
    refine ⟨Int.toNat ((v2 / 2)), by omega, by omega, ?_, ?_, ?_⟩
    · show 0 ≤ (v2 / 2)  -- I4.1.hv
      first | with_reducible assumption | omega | exact trivial | with_reducible rfl
    · show 0 ≤ (v1 + (v2 % 2)) ∧ (v1 + (v2 % 2)) ≤ 16  -- I4.1.hb
      first | with_reducible assumption | omega | exact trivial | with_reducible rfl
    · show ∃ j : Nat, j ≤ 16 ∧ (v2 / 2).toNat < 2 ^ j ∧ (v1 + (v2 % 2)) + zpc j (v2 / 2).toNat = zpc 16 s.toNat  -- I4.1.hq
      refine ⟨i, by omega, by rw [ed]; exact i2, ?_⟩
      rw [ed, ← je, i1]
      omega

abbrev pr_X12_findColours (M : zM) : Prop := (mDim M) ∧ (mCo M)
abbrev po_X12_findColours (M : zM) (r : Int) (M' : zM) : Prop := (∀ c i, c ≠ 128 → M' c i = M c i) ∧ (∀ c, 0 ≤ c → c < 16 → M' 128 c = gCn (M 103 1) (M 103 2) (M 104) c) ∧ ((0 ≤ r ∧ r < 65536) ∧ ∀ c, 0 ≤ c → (zbt r c ↔ (c < 16 ∧ 0 < gCn (M 103 1) (M 103 2) (M 104) c)))
set_option maxHeartbeats 1000000 in
theorem ok_X12_findColours : zSnd zS 145 0 0 yX12_findColours cX12_findColours 3 (some .int) 1 [2] (F_X12_findColours pr_X12_findColours po_X12_findColours) := by
  refine (sn_X12_findColours ok_X12_isDot).mono ?_
  rintro xs P M hz hR ⟨rfl, ⟨hd, hc⟩, hP⟩
  refine ⟨rfl, ?_⟩
  change vc_X12_findColours pr_X12_isDot po_X12_isDot P M
  unfold vc_X12_findColours
  refine ⟨fun v1 M3 n5 => (n5 : Int) = (16 - v1) ∧ (0 ≤ v1 ∧ v1 ≤ 16) ∧ (∀ c i, c ≠ 128 → M3 c i = M c i) ∧ (∀ c, 0 ≤ c → c < v1 → M3 128 c = 0), ⟨Int.toNat (16 - 0), by omega, ?_, ?_, ?_⟩, ?_⟩
  · show 0 ≤ 0 ∧ 0 ≤ 16  -- I4.0.hv
    first | with_reducible assumption | omega | exact trivial | with_reducible rfl
  · show ∀ c i, c ≠ 128 → M c i = M c i  -- I4.0.hf
    first | with_reducible assumption | omega | exact trivial | with_reducible rfl
  · show ∀ c, 0 ≤ c → c < 0 → M 128 c = 0  -- I4.0.h0
    intro c c0 c1; omega
  rintro v1 M3 n5 ⟨h_n5, hv, hf, h0⟩ z_v1 z_M3
  refine ⟨fun b1 => ?_, fun b1 => ?_⟩
  · -- b1.1
    refine ⟨fun v13 v14 M17 n19 => (n19 : Int) = (192 - v14) ∧ (0 ≤ v14 ∧ v14 ≤ 192) ∧ (∀ c i, c ≠ 128 → M17 c i = M c i) ∧ (∀ c, 0 ≤ c → c < 16 → M17 128 c = zc (fun a => gD (M 103 1) (M 103 2) a ∧ M 104 a = c) v14) ∧ (0 ≤ v13 ∧ v13 < 65536) ∧ (∀ c, 0 ≤ c → (zbt v13 c ↔ (c < 16 ∧ 0 < zc (fun a => gD (M 103 1) (M 103 2) a ∧ M 104 a = c) v14))), ⟨Int.toNat (192 - 0), by omega, ?_, ?_, ?_, ?_, ?_⟩, ?_⟩
    · show 0 ≤ 0 ∧ 0 ≤ 192  -- I25.0.hv2
      first | with_reducible assumption | omega | exact trivial | with_reducible rfl
    · show ∀ c i, c ≠ 128 → M3 c i = M c i  -- I25.0.hf2
      first | with_reducible assumption | omega | exact trivial | with_reducible rfl
    · show ∀ c, 0 ≤ c → c < 16 → M3 128 c = zc (fun a => gD (M 103 1) (M 103 2) a ∧ M 104 a = c) 0  -- I25.0.hm
      intro c c0 c1; rw [h0 c c0 (by omega)]; rfl
    · show 0 ≤ 0 ∧ 0 < 65536  -- I25.0.hb
      first | with_reducible assumption | omega | exact trivial | with_reducible rfl
    · show ∀ c, 0 ≤ c → (zbt 0 c ↔ (c < 16 ∧ 0 < zc (fun a => gD (M 103 1) (M 103 2) a ∧ M 104 a = c) 0))  -- I25.0.hq
      intro c c0; rw [zc_z]; constructor
      · intro b; unfold zbt at b; simp at b
      · intro h; omega
    rintro v13 v14 M17 n19 ⟨h_n19, hv2, hf2, hm, hb, hq⟩ z_v13 z_v14 z_M17
    have w1 := hf2 103 1 (by decide)
    have w2 := hf2 103 2 (by decide)
    have w104 : M17 104 = M 104 := funext fun i => hf2 104 i (by decide)
    refine ⟨fun b2 => ?_, fun b2 => ?_⟩
    · -- b2.1
      have e14 : v14 = 192 := by omega
      refine hP _ _ ⟨?_, ?_, ?_⟩
      · show ∀ c i, c ≠ 128 → M17 c i = M c i  -- p1.hf
        first | with_reducible assumption | omega | exact trivial | with_reducible rfl
      · show ∀ c, 0 ≤ c → c < 16 → M17 128 c = gCn (M 103 1) (M 103 2) (M 104) c  -- p1.hm
        intro c c0 c1; rw [hm c c0 c1, e14]; rfl
      · show (0 ≤ v13 ∧ v13 < 65536) ∧ ∀ c, 0 ≤ c → (zbt v13 c ↔ (c < 16 ∧ 0 < gCn (M 103 1) (M 103 2) (M 104) c))  -- p1.hr
        refine ⟨hb, fun c c0 => ?_⟩
        rw [hq c c0, e14]
        rfl
    · -- b2.2
      have gc1 : pr_X12_isDot v14 M17 := trivial
      refine ⟨gc1, ?_⟩
      rintro r27 M28 ⟨q_rfl, e_r27⟩ z_r27 z_M28
      have q_rfl := q_rfl.symm
      subst q_rfl
      have B := (zif01 e_r27).iff (q := gD (M 103 1) (M 103 2) v14) (by omega)
      refine ⟨fun b3 => ?_, fun b3 => ?_⟩
      · -- b3.1
        have o1 : zin (v14 + 1) := by
          first | with_reducible assumption | omega | exact trivial | with_reducible rfl  -- o1
        refine ⟨o1, ?_⟩
        refine ⟨Int.toNat (192 - (v14 + 1)), by omega, by omega, ?_, ?_, ?_, ?_, ?_⟩
        · show 0 ≤ (v14 + 1) ∧ (v14 + 1) ≤ 192  -- I25.1.hv2
          first | with_reducible assumption | omega | exact trivial | with_reducible rfl
        · show ∀ c i, c ≠ 128 → M17 c i = M c i  -- I25.1.hf2
          first | with_reducible assumption | omega | exact trivial | with_reducible rfl
        · show ∀ c, 0 ≤ c → c < 16 → M17 128 c = zc (fun a => gD (M 103 1) (M 103 2) a ∧ M 104 a = c) (v14 + 1)  -- I25.1.hm
          intro c c0 c1; rw [zc_n hv2.1 (fun g => B.z.1 b3 g.1)]; exact hm c c0 c1
        · show 0 ≤ v13 ∧ v13 < 65536  -- I25.1.hb
          first | with_reducible assumption | omega | exact trivial | with_reducible rfl
        · show ∀ c, 0 ≤ c → (zbt v13 c ↔ (c < 16 ∧ 0 < zc (fun a => gD (M 103 1) (M 103 2) a ∧ M 104 a = c) (v14 + 1)))  -- I25.1.hq
          intro c c0; rw [zc_n hv2.1 (fun g => B.z.1 b3 g.1)]; exact hq c c0
      · -- b3.2
        have cb := hc v14 hv2.1 (by omega)
        rw [← w104] at cb
        have o2 : ((0 : Int) ≤ v14 ∧ v14 < 192) := by
          first | with_reducible assumption | omega | exact trivial | with_reducible rfl  -- o2
        refine ⟨o2, ?_⟩
        have o3 : ((0 : Int) ≤ (M17 104 v14) ∧ (M17 104 v14) < 16) := by
          first | with_reducible assumption | omega | exact trivial | with_reducible rfl  -- o3
        refine ⟨o3, ?_⟩
        have o4 : zin ((M17 128 (M17 104 v14)) + 1) := by
          rw [hm _ (by omega) (by omega)]; have := zc_b (fun a => gD (M 103 1) (M 103 2) a ∧ M 104 a = M17 104 v14) v14 hv2.1; omega
        refine ⟨o4, ?_⟩
        intro M41 e_M41
        have x104 : M41 104 v14 = M 104 v14 := by rw [e_M41, zset_n _ (.inl (by decide)), w104]
        have zo := zbt_or (c := M 104 v14) hb.1 hb.2 (by rw [← w104]; omega) (by rw [← w104]; omega)
        have up : ∀ c, zc (fun a => gD (M 103 1) (M 103 2) a ∧ M 104 a = c) (v14 + 1) = zc (fun a => gD (M 103 1) (M 103 2) a ∧ M 104 a = c) v14 + if c = M 104 v14 then 1 else 0 := fun c => by
          by_cases k : c = M 104 v14
          · rw [if_pos k, zc_p hv2.1 ⟨B.ne.1 b3, k.symm⟩]
          · rw [if_neg k, zc_n hv2.1 (fun g => k g.2.symm)]; omega
        have o5 : zin (v14 + 1) := by
          first | with_reducible assumption | omega | exact trivial | with_reducible rfl  -- o5
        refine ⟨o5, ?_⟩
        refine ⟨Int.toNat (192 - (v14 + 1)), by omega, by omega, ?_, ?_, ?_, ?_, ?_⟩
        · show 0 ≤ (v14 + 1) ∧ (v14 + 1) ≤ 192  -- I25.2.hv2
          first | with_reducible assumption | omega | exact trivial | with_reducible rfl
        · show ∀ c i, c ≠ 128 → M41 c i = M c i  -- I25.2.hf2
          intro c i h; rw [e_M41, zset_n _ (.inl h)]; exact hf2 c i h
        · show ∀ c, 0 ≤ c → c < 16 → M41 128 c = zc (fun a => gD (M 103 1) (M 103 2) a ∧ M 104 a = c) (v14 + 1)  -- I25.2.hm
          intro c c0 c1
          rw [up c, e_M41, w104]
          by_cases k : c = M 104 v14
          · rw [k, zset_s, if_pos rfl, hm _ (by rw [← w104]; omega) (by rw [← w104]; omega)]
          · rw [zset_n _ (.inr k), if_neg k, hm c c0 c1]; omega
        · show 0 ≤ (zlor v13 (zshl 1 (M41 104 v14))) ∧ (zlor v13 (zshl 1 (M41 104 v14))) < 65536  -- I25.2.hb
          rw [x104]; exact zo.1
        · show ∀ c, 0 ≤ c → (zbt (zlor v13 (zshl 1 (M41 104 v14))) c ↔ (c < 16 ∧ 0 < zc (fun a => gD (M 103 1) (M 103 2) a ∧ M 104 a = c) (v14 + 1)))  -- I25.2.hq
          intro c c0
          rw [x104, zo.2 c c0, hq c c0, up c]
          have z := (zc_b (fun a => gD (M 103 1) (M 103 2) a ∧ M 104 a = c) v14 hv2.1).1
          rw [w104] at cb
          by_cases k : c = M 104 v14
          · rw [if_pos k]; omega
          · rw [if_neg k]; omega
  · -- b1.2
    have o6 : ((0 : Int) ≤ v1 ∧ v1 < 16) := by
      first | with_reducible assumption | omega | exact trivial | with_reducible rfl  -- o6
    refine ⟨o6, ?_⟩
    intro M49 e_M49
    have o7 : zin (v1 + 1) := by
      first | with_reducible assumption | omega | exact trivial | with_reducible rfl  -- o7
    refine ⟨o7, ?_⟩
    refine ⟨Int.toNat (16 - (v1 + 1)), by omega, by omega, ?_, ?_, ?_⟩
    · show 0 ≤ (v1 + 1) ∧ (v1 + 1) ≤ 16  -- I4.1.hv
      first | with_reducible assumption | omega | exact trivial | with_reducible rfl
    · show ∀ c i, c ≠ 128 → M49 c i = M c i  -- I4.1.hf
      intro c i h; rw [e_M49, zset_n _ (.inl h)]; exact hf c i h
    · show ∀ c, 0 ≤ c → c < (v1 + 1) → M49 128 c = 0  -- I4.1.h0
      intro c c0 c1
      rw [e_M49]
      by_cases k : c = v1
      · rw [k, zset_s]
      · rw [zset_n _ (.inr k)]; exact h0 c c0 (by omega)

abbrev pr_X12_findFew (k : Int) (M : zM) : Prop := (mDim M) ∧ (mCo M) ∧ (∀ c, 0 ≤ c → c < 16 → 0 ≤ M 105 c ∧ M 105 c ≤ 255) ∧ (1 ≤ k ∧ k ≤ 4)
abbrev po_X12_findFew (k : Int) (M : zM) (r : Int) (M' : zM) : Prop := (∀ c i, c ≠ 128 → ¬ (c = 103 ∧ (i = 52 ∨ i = 53)) → M' c i = M c i) ∧ (zB r (zc (fun c => 0 < gCn (M 103 1) (M 103 2) (M 104) c) 16 ≤ 8)) ∧ (zc (fun c => 0 < gCn (M 103 1) (M 103 2) (M 104) c) 16 ≤ 8 → gFw (gCn (M 103 1) (M 103 2) (M 104)) (M 105) k (M' 103 53) (M' 103 52))
set_option maxHeartbeats 2000000 in
theorem ok_X12_findFew : zSnd zS 145 0 0 yX12_findFew cX12_findFew 6 (some .boolean) 2 [2, 0] (F_X12_findFew pr_X12_findFew po_X12_findFew) := by
  refine (sn_X12_findFew ok_X12_findColours ok_X12_ones ok_X12_nearestOf ok_X12_square).mono ?_
  rintro xs P M hz hR ⟨k, rfl, ⟨hd, hc, ht, hk⟩, hP⟩
  refine ⟨_, rfl, ?_⟩
  have z_k := zall_h (zall_t hz) (by decide)
  change vc_X12_findFew pr_X12_findColours po_X12_findColours pr_X12_ones po_X12_ones pr_X12_nearestOf po_X12_nearestOf pr_X12_square po_X12_square k P M
  unfold vc_X12_findFew
  have gc1 : pr_X12_findColours M := by
    refine ⟨?_, ?_⟩
    · show mDim M  -- c1.hd
      first | with_reducible assumption | omega | exact trivial | with_reducible rfl
    · show mCo M  -- c1.hc
      first | with_reducible assumption | omega | exact trivial | with_reducible rfl
  refine ⟨gc1, ?_⟩
  rintro r1 M2 ⟨pc1_hf, pc1_hm, pc1_hr⟩ z_r1 z_M2
  have EN : zc (zbt r1) 16 = zc (fun c => 0 < gCn (M 103 1) (M 103 2) (M 104) c) 16 := zc_c 16 (by decide) (fun i i0 i1 => by rw [pc1_hr.2 i i0]; exact ⟨fun h => h.2, fun h => ⟨i1, h⟩⟩)
  have gc2 : pr_X12_ones r1 M2 := by
    show 0 ≤ r1 ∧ r1 < 65536
    exact pc1_hr.1
  refine ⟨gc2, ?_⟩
  rintro r7 M8 ⟨q_rfl, e_r7⟩ z_r7 z_M8
  have q_rfl := q_rfl.symm
  subst q_rfl
  refine ⟨fun b1 => ?_, fun b1 => ?_⟩
  · -- b1.1
    intro M14 e_M14
    have q : ∀ c i, ¬ (c = 103 ∧ (i = 52 ∨ i = 53)) → M14 c i = M2 c i := fun c i h => by rw [e_M14, zset_n _ (by omega)]
    have q52 : M14 103 52 = -1 := by rw [e_M14, zset_s]
    have SUB : ∀ v, 1 ≤ v → v < 65536 → (zland v (zlxor r1 (-1)) = 0 ↔ ∀ c, 0 ≤ c → c < 16 → zbt v c → 0 < gCn (M 103 1) (M 103 2) (M 104) c) := fun v v0 v1 => by
      rw [zland_sub (by omega) v1 pc1_hr.1.1 pc1_hr.1.2]
      exact ⟨fun h c c0 c1 b => ((pc1_hr.2 c c0).1 (h c c0 c1 b)).2, fun h c c0 c1 b => (pc1_hr.2 c c0).2 ⟨c1, h c c0 c1 b⟩⟩
    refine ⟨fun v17 M19 n21 => (n21 : Int) = (65536 - v17) ∧ (1 ≤ v17 ∧ v17 ≤ 65536) ∧ (∀ c i, ¬ (c = 103 ∧ (i = 52 ∨ i = 53)) → M19 c i = M2 c i) ∧ ((M19 103 52 < 0 ∧ ∀ T, 1 ≤ T → T < v17 → (∀ c, 0 ≤ c → c < 16 → zbt T c → 0 < gCn (M 103 1) (M 103 2) (M 104) c) → ¬ zc (zbt T) 16 ≤ k) ∨ ((1 ≤ M19 103 52 ∧ M19 103 52 < v17) ∧ (∀ c, 0 ≤ c → c < 16 → zbt (M19 103 52) c → 0 < gCn (M 103 1) (M 103 2) (M 104) c) ∧ zc (zbt (M19 103 52)) 16 ≤ k ∧ M19 103 53 = gSm (gCn (M 103 1) (M 103 2) (M 104)) (M 105) (M19 103 52) 16 ∧ ∀ T, 1 ≤ T → T < v17 → (∀ c, 0 ≤ c → c < 16 → zbt T c → 0 < gCn (M 103 1) (M 103 2) (M 104) c) → zc (zbt T) 16 ≤ k → M19 103 53 ≤ gSm (gCn (M 103 1) (M 103 2) (M 104)) (M 105) T 16 ∧ (T < M19 103 52 → M19 103 53 < gSm (gCn (M 103 1) (M 103 2) (M 104)) (M 105) T 16))), ⟨Int.toNat (65536 - 1), by omega, ?_, ?_, ?_⟩, ?_⟩
    · show 1 ≤ 1 ∧ 1 ≤ 65536  -- I23.0.hv
      first | with_reducible assumption | omega | exact trivial | with_reducible rfl
    · show ∀ c i, ¬ (c = 103 ∧ (i = 52 ∨ i = 53)) → M14 c i = M2 c i  -- I23.0.hf
      intro _ _ h; exact q _ _ h
    · show (M14 103 52 < 0 ∧ ∀ T, 1 ≤ T → T < 1 → (∀ c, 0 ≤ c → c < 16 → zbt T c → 0 < gCn (M 103 1) (M 103 2) (M 104) c) → ¬ zc (zbt T) 16 ≤ k) ∨ ((1 ≤ M14 103 52 ∧ M14 103 52 < 1) ∧ (∀ c, 0 ≤ c → c < 16 → zbt (M14 103 52) c → 0 < gCn (M 103 1) (M 103 2) (M 104) c) ∧ zc (zbt (M14 103 52)) 16 ≤ k ∧ M14 103 53 = gSm (gCn (M 103 1) (M 103 2) (M 104)) (M 105) (M14 103 52) 16 ∧ ∀ T, 1 ≤ T → T < 1 → (∀ c, 0 ≤ c → c < 16 → zbt T c → 0 < gCn (M 103 1) (M 103 2) (M 104) c) → zc (zbt T) 16 ≤ k → M14 103 53 ≤ gSm (gCn (M 103 1) (M 103 2) (M 104)) (M 105) T 16 ∧ (T < M14 103 52 → M14 103 53 < gSm (gCn (M 103 1) (M 103 2) (M 104)) (M 105) T 16))  -- I23.0.hw
      exact .inl ⟨by omega, fun T a b => by omega⟩
    rintro v17 M19 n21 ⟨h_n21, hv, hf, hw⟩ z_v17 z_M19
    have y128 : ∀ c, 0 ≤ c → c < 16 → M19 128 c = gCn (M 103 1) (M 103 2) (M 104) c := fun c c0 c1 => by rw [hf 128 c (by omega)]; exact pc1_hm c c0 c1
    have y105 : M19 105 = M 105 := funext fun i => (hf 105 i (by omega)).trans (pc1_hf 105 i (by decide))
    refine ⟨fun b2 => ?_, fun b2 => ?_⟩
    · -- b2.1
      refine hP _ _ ⟨?_, ?_, ?_⟩
      · show ∀ c i, c ≠ 128 → ¬ (c = 103 ∧ (i = 52 ∨ i = 53)) → M19 c i = M c i  -- p1.hf
        intro c i c1 c2; rw [hf c i c2]; exact pc1_hf c i c1
      · show zB 1 (zc (fun c => 0 < gCn (M 103 1) (M 103 2) (M 104) c) 16 ≤ 8)  -- p1.hr
        exact zB.t (by rw [← EN, ← e_r7]; exact b1)
      · show zc (fun c => 0 < gCn (M 103 1) (M 103 2) (M 104) c) 16 ≤ 8 → gFw (gCn (M 103 1) (M 103 2) (M 104)) (M 105) k (M19 103 53) (M19 103 52)  -- p1.hw
        intro _
        rcases hw with ⟨_, none⟩ | ⟨w1, w2, w3, w4, w5⟩
        · exfalso
          -- some colour occurs: it alone
          have c0 := hc 0 (by decide) (by decide)
          have d0 : gD (M 103 1) (M 103 2) 0 := by unfold gD; omega
          have g0 := zc_lt2 (p := fun a => gD (M 103 1) (M 103 2) a ∧ M 104 a = M 104 0) (i := 0) (n := 192) (by decide) (by decide) ⟨d0, rfl⟩
          have g1 : 0 < gCn (M 103 1) (M 103 2) (M 104) (M 104 0) := by
            unfold gCn
            have := (zc_b (fun a => gD (M 103 1) (M 103 2) a ∧ M 104 a = M 104 0) 0 (by decide)).1
            omega
          obtain ⟨T, t0, t1, t2⟩ := zbt_mk (fun d => d = M 104 0) 16
          have t1 : T < 65536 := by simpa using t1
          have tn : T ≠ 0 := by
            intro e
            have := (t2 (M 104 0) c0.1 (by omega)).2 rfl
            rw [e] at this
            unfold zbt at this
            simp at this
          refine none T (by omega) (by omega) (fun d d0 d1 b => by rw [(t2 d d0 (by omega)).1 b]; exact g1) ?_
          have e1 : zc (zbt T) 16 = zc (fun d => d = M 104 0) 16 := zc_c 16 (by decide) (fun i i0 i1 => t2 i i0 (by omega))
          have l := zc_1 (p := fun _ => False) (q := fun d => d = M 104 0) (y := M 104 0) c0.1 (fun h => h) rfl (fun i hi => ⟨fun h => h.elim, fun b => hi b⟩) 16 (by decide) (by omega)
          rw [zc_0 (p := fun _ => False) (by decide) (fun _ _ _ h => h)] at l
          omega
        · exact ⟨⟨w1.1, by omega⟩, w2, w3, w4, fun T T0 T1 => w5 T T0 (by omega)⟩
    · -- b2.2
      have sub := SUB v17 hv.1 (by omega)
      have lift : ((∀ c, 0 ≤ c → c < 16 → zbt v17 c → 0 < gCn (M 103 1) (M 103 2) (M 104) c) → ¬ zc (zbt v17) 16 ≤ k) → (M19 103 52 < 0 ∧ ∀ T, 1 ≤ T → T < v17 + 1 → (∀ c, 0 ≤ c → c < 16 → zbt T c → 0 < gCn (M 103 1) (M 103 2) (M 104) c) → ¬ zc (zbt T) 16 ≤ k) ∨ ((1 ≤ M19 103 52 ∧ M19 103 52 < v17 + 1) ∧ (∀ c, 0 ≤ c → c < 16 → zbt (M19 103 52) c → 0 < gCn (M 103 1) (M 103 2) (M 104) c) ∧ zc (zbt (M19 103 52)) 16 ≤ k ∧ M19 103 53 = gSm (gCn (M 103 1) (M 103 2) (M 104)) (M 105) (M19 103 52) 16 ∧ ∀ T, 1 ≤ T → T < v17 + 1 → (∀ c, 0 ≤ c → c < 16 → zbt T c → 0 < gCn (M 103 1) (M 103 2) (M 104) c) → zc (zbt T) 16 ≤ k → M19 103 53 ≤ gSm (gCn (M 103 1) (M 103 2) (M 104)) (M 105) T 16 ∧ (T < M19 103 52 → M19 103 53 < gSm (gCn (M 103 1) (M 103 2) (M 104)) (M 105) T 16)) := by
        intro no
        rcases hw with ⟨w0, none⟩ | ⟨w1, w2, w3, w4, w5⟩
        · refine .inl ⟨w0, fun T T0 T1 s => ?_⟩
          by_cases e : T = v17
          · subst e; exact no s
          · exact none T T0 (by omega) s
        · refine .inr ⟨by omega, w2, w3, w4, fun T T0 T1 s pc => ?_⟩
          by_cases e : T = v17
          · subst e; exact absurd pc (no s)
          · exact w5 T T0 (by omega) s pc
      refine ⟨fun b3 => ?_, fun b3 => ?_⟩
      · -- b3.1
        have o1 : zin (v17 + 1) := by
          first | with_reducible assumption | omega | exact trivial | with_reducible rfl  -- o1
        refine ⟨o1, ?_⟩
        refine ⟨Int.toNat (65536 - (v17 + 1)), by omega, by omega, ?_, ?_, ?_⟩
        · show 1 ≤ (v17 + 1) ∧ (v17 + 1) ≤ 65536  -- I23.1.hv
          first | with_reducible assumption | omega | exact trivial | with_reducible rfl
        · show ∀ c i, ¬ (c = 103 ∧ (i = 52 ∨ i = 53)) → M19 c i = M2 c i  -- I23.1.hf
          first | with_reducible assumption | omega | exact trivial | with_reducible rfl
        · show (M19 103 52 < 0 ∧ ∀ T, 1 ≤ T → T < (v17 + 1) → (∀ c, 0 ≤ c → c < 16 → zbt T c → 0 < gCn (M 103 1) (M 103 2) (M 104) c) → ¬ zc (zbt T) 16 ≤ k) ∨ ((1 ≤ M19 103 52 ∧ M19 103 52 < (v17 + 1)) ∧ (∀ c, 0 ≤ c → c < 16 → zbt (M19 103 52) c → 0 < gCn (M 103 1) (M 103 2) (M 104) c) ∧ zc (zbt (M19 103 52)) 16 ≤ k ∧ M19 103 53 = gSm (gCn (M 103 1) (M 103 2) (M 104)) (M 105) (M19 103 52) 16 ∧ ∀ T, 1 ≤ T → T < (v17 + 1) → (∀ c, 0 ≤ c → c < 16 → zbt T c → 0 < gCn (M 103 1) (M 103 2) (M 104) c) → zc (zbt T) 16 ≤ k → M19 103 53 ≤ gSm (gCn (M 103 1) (M 103 2) (M 104)) (M 105) T 16 ∧ (T < M19 103 52 → M19 103 53 < gSm (gCn (M 103 1) (M 103 2) (M 104)) (M 105) T 16))  -- I23.1.hw
          exact lift (fun s => absurd (sub.2 s) b3)
      · -- b3.2
        have gc3 : pr_X12_ones v17 M19 := by
          show 0 ≤ v17 ∧ v17 < 65536
          omega
        refine ⟨gc3, ?_⟩
        rintro r34 M35 ⟨q_rfl, e_r34⟩ z_r34 z_M35
        have q_rfl := q_rfl.symm
        subst q_rfl
        refine ⟨fun b4 => ?_, fun b4 => ?_⟩
        · -- b4.1
          have o2 : zin (v17 + 1) := by
            first | with_reducible assumption | omega | exact trivial | with_reducible rfl  -- o2
          refine ⟨o2, ?_⟩
          refine ⟨Int.toNat (65536 - (v17 + 1)), by omega, by omega, ?_, ?_, ?_⟩
          · show 1 ≤ (v17 + 1) ∧ (v17 + 1) ≤ 65536  -- I23.2.hv
            first | with_reducible assumption | omega | exact trivial | with_reducible rfl
          · show ∀ c i, ¬ (c = 103 ∧ (i = 52 ∨ i = 53)) → M19 c i = M2 c i  -- I23.2.hf
            first | with_reducible assumption | omega | exact trivial | with_reducible rfl
          · show (M19 103 52 < 0 ∧ ∀ T, 1 ≤ T → T < (v17 + 1) → (∀ c, 0 ≤ c → c < 16 → zbt T c → 0 < gCn (M 103 1) (M 103 2) (M 104) c) → ¬ zc (zbt T) 16 ≤ k) ∨ ((1 ≤ M19 103 52 ∧ M19 103 52 < (v17 + 1)) ∧ (∀ c, 0 ≤ c → c < 16 → zbt (M19 103 52) c → 0 < gCn (M 103 1) (M 103 2) (M 104) c) ∧ zc (zbt (M19 103 52)) 16 ≤ k ∧ M19 103 53 = gSm (gCn (M 103 1) (M 103 2) (M 104)) (M 105) (M19 103 52) 16 ∧ ∀ T, 1 ≤ T → T < (v17 + 1) → (∀ c, 0 ≤ c → c < 16 → zbt T c → 0 < gCn (M 103 1) (M 103 2) (M 104) c) → zc (zbt T) 16 ≤ k → M19 103 53 ≤ gSm (gCn (M 103 1) (M 103 2) (M 104)) (M 105) T 16 ∧ (T < M19 103 52 → M19 103 53 < gSm (gCn (M 103 1) (M 103 2) (M 104)) (M 105) T 16))  -- I23.2.hw
            exact lift (fun _ => by rw [← e_r34]; omega)
        · -- b4.2
          refine ⟨fun v45 v46 M49 n51 => (n51 : Int) = (16 - v46) ∧ (0 ≤ v46 ∧ v46 ≤ 16) ∧ (M49 = M19) ∧ (v45 = gSm (gCn (M 103 1) (M 103 2) (M 104)) (M 105) v17 v46), ⟨Int.toNat (16 - 0), by omega, ?_, ?_, ?_⟩, ?_⟩
          · show 0 ≤ 0 ∧ 0 ≤ 16  -- I52.0.hv2
            first | with_reducible assumption | omega | exact trivial | with_reducible rfl
          · first | with_reducible assumption | omega | exact trivial | with_reducible rfl  -- I52.0.rfl
          · show 0 = gSm (gCn (M 103 1) (M 103 2) (M 104)) (M 105) v17 0  -- I52.0.h45
            rfl
          rintro v45 v46 M49 n51 ⟨h_n51, hv2, q_rfl, h45⟩ z_v45 z_v46 z_M49
          have q_rfl := q_rfl.symm
          subst q_rfl
          have ne := zbt_ne hv.1 (show v17 < 65536 by omega)
          have s17 := sub.1 b3
          refine ⟨fun b5 => ?_, fun b5 => ?_⟩
          · -- b5.1
            have e45 : v45 = gSm (gCn (M 103 1) (M 103 2) (M 104)) (M 105) v17 16 := by rw [h45, show v46 = 16 by omega]
            refine ⟨fun b6 => ?_, fun b6 => ?_⟩
            · -- b6.1
              intro M60 e_M60
              intro M63 e_M63
              have x52 : M63 103 52 = v17 := by rw [e_M63, zset_n _ (by omega), e_M60, zset_s]
              have x53 : M63 103 53 = v45 := by rw [e_M63, zset_s]
              have o3 : zin (v17 + 1) := by
                first | with_reducible assumption | omega | exact trivial | with_reducible rfl  -- o3
              refine ⟨o3, ?_⟩
              refine ⟨Int.toNat (65536 - (v17 + 1)), by omega, by omega, ?_, ?_, ?_⟩
              · show 1 ≤ (v17 + 1) ∧ (v17 + 1) ≤ 65536  -- I23.3.hv
                first | with_reducible assumption | omega | exact trivial | with_reducible rfl
              · show ∀ c i, ¬ (c = 103 ∧ (i = 52 ∨ i = 53)) → M63 c i = M2 c i  -- I23.3.hf
                intro c i h; rw [e_M63, zset_n _ (by omega), e_M60, zset_n _ (by omega)]; exact hf c i h
              · show (M63 103 52 < 0 ∧ ∀ T, 1 ≤ T → T < (v17 + 1) → (∀ c, 0 ≤ c → c < 16 → zbt T c → 0 < gCn (M 103 1) (M 103 2) (M 104) c) → ¬ zc (zbt T) 16 ≤ k) ∨ ((1 ≤ M63 103 52 ∧ M63 103 52 < (v17 + 1)) ∧ (∀ c, 0 ≤ c → c < 16 → zbt (M63 103 52) c → 0 < gCn (M 103 1) (M 103 2) (M 104) c) ∧ zc (zbt (M63 103 52)) 16 ≤ k ∧ M63 103 53 = gSm (gCn (M 103 1) (M 103 2) (M 104)) (M 105) (M63 103 52) 16 ∧ ∀ T, 1 ≤ T → T < (v17 + 1) → (∀ c, 0 ≤ c → c < 16 → zbt T c → 0 < gCn (M 103 1) (M 103 2) (M 104) c) → zc (zbt T) 16 ≤ k → M63 103 53 ≤ gSm (gCn (M 103 1) (M 103 2) (M 104)) (M 105) T 16 ∧ (T < M63 103 52 → M63 103 53 < gSm (gCn (M 103 1) (M 103 2) (M 104)) (M 105) T 16))  -- I23.3.hw
                rw [x52, x53]
                rcases hw with ⟨w0, none⟩ | ⟨w1, _⟩
                · refine .inr ⟨by omega, s17, by omega, e45, fun T T0 T1 s pc => ?_⟩
                  by_cases e : T = v17
                  · subst e; omega
                  · exact absurd pc (none T T0 (by omega) s)
                · omega
            · -- b6.2
              refine ⟨fun b7 => ?_, fun b7 => ?_⟩
              · -- b7.1
                have o4 : zin (v17 + 1) := by
                  first | with_reducible assumption | omega | exact trivial | with_reducible rfl  -- o4
                refine ⟨o4, ?_⟩
                refine ⟨Int.toNat (65536 - (v17 + 1)), by omega, by omega, ?_, ?_, ?_⟩
                · show 1 ≤ (v17 + 1) ∧ (v17 + 1) ≤ 65536  -- I23.4.hv
                  first | with_reducible assumption | omega | exact trivial | with_reducible rfl
                · show ∀ c i, ¬ (c = 103 ∧ (i = 52 ∨ i = 53)) → M19 c i = M2 c i  -- I23.4.hf
                  first | with_reducible assumption | omega | exact trivial | with_reducible rfl
                · show (M19 103 52 < 0 ∧ ∀ T, 1 ≤ T → T < (v17 + 1) → (∀ c, 0 ≤ c → c < 16 → zbt T c → 0 < gCn (M 103 1) (M 103 2) (M 104) c) → ¬ zc (zbt T) 16 ≤ k) ∨ ((1 ≤ M19 103 52 ∧ M19 103 52 < (v17 + 1)) ∧ (∀ c, 0 ≤ c → c < 16 → zbt (M19 103 52) c → 0 < gCn (M 103 1) (M 103 2) (M 104) c) ∧ zc (zbt (M19 103 52)) 16 ≤ k ∧ M19 103 53 = gSm (gCn (M 103 1) (M 103 2) (M 104)) (M 105) (M19 103 52) 16 ∧ ∀ T, 1 ≤ T → T < (v17 + 1) → (∀ c, 0 ≤ c → c < 16 → zbt T c → 0 < gCn (M 103 1) (M 103 2) (M 104) c) → zc (zbt T) 16 ≤ k → M19 103 53 ≤ gSm (gCn (M 103 1) (M 103 2) (M 104)) (M 105) T 16 ∧ (T < M19 103 52 → M19 103 53 < gSm (gCn (M 103 1) (M 103 2) (M 104)) (M 105) T 16))  -- I23.4.hw
                  rcases hw with ⟨w0, none⟩ | ⟨w1, w2, w3, w4, w5⟩
                  · exact absurd w0 b6
                  · refine .inr ⟨by omega, w2, w3, w4, fun T T0 T1 s pc => ?_⟩
                    by_cases e : T = v17
                    · subst e; omega
                    · exact w5 T T0 (by omega) s pc
              · -- b7.2
                intro M75 e_M75
                intro M78 e_M78
                have x52 : M78 103 52 = v17 := by rw [e_M78, zset_n _ (by omega), e_M75, zset_s]
                have x53 : M78 103 53 = v45 := by rw [e_M78, zset_s]
                have o5 : zin (v17 + 1) := by
                  first | with_reducible assumption | omega | exact trivial | with_reducible rfl  -- o5
                refine ⟨o5, ?_⟩
                refine ⟨Int.toNat (65536 - (v17 + 1)), by omega, by omega, ?_, ?_, ?_⟩
                · show 1 ≤ (v17 + 1) ∧ (v17 + 1) ≤ 65536  -- I23.5.hv
                  first | with_reducible assumption | omega | exact trivial | with_reducible rfl
                · show ∀ c i, ¬ (c = 103 ∧ (i = 52 ∨ i = 53)) → M78 c i = M2 c i  -- I23.5.hf
                  intro c i h; rw [e_M78, zset_n _ (by omega), e_M75, zset_n _ (by omega)]; exact hf c i h
                · show (M78 103 52 < 0 ∧ ∀ T, 1 ≤ T → T < (v17 + 1) → (∀ c, 0 ≤ c → c < 16 → zbt T c → 0 < gCn (M 103 1) (M 103 2) (M 104) c) → ¬ zc (zbt T) 16 ≤ k) ∨ ((1 ≤ M78 103 52 ∧ M78 103 52 < (v17 + 1)) ∧ (∀ c, 0 ≤ c → c < 16 → zbt (M78 103 52) c → 0 < gCn (M 103 1) (M 103 2) (M 104) c) ∧ zc (zbt (M78 103 52)) 16 ≤ k ∧ M78 103 53 = gSm (gCn (M 103 1) (M 103 2) (M 104)) (M 105) (M78 103 52) 16 ∧ ∀ T, 1 ≤ T → T < (v17 + 1) → (∀ c, 0 ≤ c → c < 16 → zbt T c → 0 < gCn (M 103 1) (M 103 2) (M 104) c) → zc (zbt T) 16 ≤ k → M78 103 53 ≤ gSm (gCn (M 103 1) (M 103 2) (M 104)) (M 105) T 16 ∧ (T < M78 103 52 → M78 103 53 < gSm (gCn (M 103 1) (M 103 2) (M 104)) (M 105) T 16))  -- I23.5.hw
                  rw [x52, x53]
                  rcases hw with ⟨w0, none⟩ | ⟨w1, w2, w3, w4, w5⟩
                  · exact absurd w0 b6
                  · refine .inr ⟨by omega, s17, by omega, e45, fun T T0 T1 s pc => ?_⟩
                    by_cases e : T = v17
                    · subst e; omega
                    · have := w5 T T0 (by omega) s pc; omega
          · -- b5.2
            have gs := @gSm_s (gCn (M 103 1) (M 103 2) (M 104)) (M 105) v17 v46 hv2.1
            have gb := gSm_b (many := gCn (M 103 1) (M 103 2) (M 104)) (fun c _ _ => gCn_b) ht ne v46 hv2.1 hv2.2
            have e46 := y128 v46 hv2.1 (by omega)
            have n0 := gNe_0 (tone := M 105) (c := v46) ne
            have n1 := @gNe_b (M 105) v17 v46 16 (by decide)
            have t1 := ht _ n0 (by omega)
            have t2 := ht v46 hv2.1 (by omega)
            have tb := gTerm_b (@gCn_b (M 103 1) (M 103 2) (M 104) v46) (a := M 105 (gNe (M 105) v17 v46 16) - M 105 v46) (by omega)
            have o6 : ((0 : Int) ≤ v46 ∧ v46 < 16) := by
              first | with_reducible assumption | omega | exact trivial | with_reducible rfl  -- o6
            refine ⟨o6, ?_⟩
            refine ⟨fun b8 => ?_, fun b8 => ?_⟩
            · -- b8.1
              have gc4 : pr_X12_nearestOf v46 v17 M19 := by
                refine ⟨?_, ?_, ?_⟩
                · show ∀ c, 0 ≤ c → c < 16 → 0 ≤ M19 105 c ∧ M19 105 c ≤ 255  -- c4.ht
                  rw [y105]; exact ht
                · show 0 ≤ v46 ∧ v46 < 16  -- c4.hc
                  first | with_reducible assumption | omega | exact trivial | with_reducible rfl
                · show 0 ≤ v17 ∧ v17 < 65536  -- c4.hs
                  omega
              refine ⟨gc4, ?_⟩
              rintro r87 M88 ⟨q_rfl, e_r87⟩ z_r87 z_M88
              have q_rfl := q_rfl.symm
              subst q_rfl
              rw [y105] at e_r87
              have o7 : ((0 : Int) ≤ r87 ∧ r87 < 16) := by
                omega
              refine ⟨o7, ?_⟩
              have o8 : zin ((M19 105 r87) - (M19 105 v46)) := by
                rw [y105, e_r87]; omega
              refine ⟨o8, ?_⟩
              have gc5 : pr_X12_square ((M19 105 r87) - (M19 105 v46)) M19 := by
                show -255 ≤ ((M19 105 r87) - (M19 105 v46)) ∧ ((M19 105 r87) - (M19 105 v46)) ≤ 255
                rw [y105, e_r87]; omega
              refine ⟨gc5, ?_⟩
              rintro r95 M96 ⟨q_rfl, e_r95⟩ z_r95 z_M96
              have q_rfl := q_rfl.symm
              subst q_rfl
              rw [y105, e_r87] at e_r95
              have o9 : zin (v45 + ((M19 128 v46) * r95)) := by
                rw [e46, e_r95]; omega
              refine ⟨o9, ?_⟩
              have o10 : zin (v46 + 1) := by
                first | with_reducible assumption | omega | exact trivial | with_reducible rfl  -- o10
              refine ⟨o10, ?_⟩
              refine ⟨Int.toNat (16 - (v46 + 1)), by omega, by omega, ?_, ?_, ?_⟩
              · show 0 ≤ (v46 + 1) ∧ (v46 + 1) ≤ 16  -- I52.1.hv2
                first | with_reducible assumption | omega | exact trivial | with_reducible rfl
              · first | with_reducible assumption | omega | exact trivial | with_reducible rfl  -- I52.1.rfl
              · show (v45 + ((M19 128 v46) * r95)) = gSm (gCn (M 103 1) (M 103 2) (M 104)) (M 105) v17 (v46 + 1)  -- I52.1.h45
                rw [gs, if_neg (by rw [← e46]; exact b8), e46, e_r95, h45]
            · -- b8.2
              have o11 : zin (v45 + 0) := by
                first | with_reducible assumption | omega | exact trivial | with_reducible rfl  -- o11
              refine ⟨o11, ?_⟩
              have o12 : zin (v46 + 1) := by
                first | with_reducible assumption | omega | exact trivial | with_reducible rfl  -- o12
              refine ⟨o12, ?_⟩
              refine ⟨Int.toNat (16 - (v46 + 1)), by omega, by omega, ?_, ?_, ?_⟩
              · show 0 ≤ (v46 + 1) ∧ (v46 + 1) ≤ 16  -- I52.2.hv2
                first | with_reducible assumption | omega | exact trivial | with_reducible rfl
              · first | with_reducible assumption | omega | exact trivial | with_reducible rfl  -- I52.2.rfl
              · show (v45 + 0) = gSm (gCn (M 103 1) (M 103 2) (M 104)) (M 105) v17 (v46 + 1)  -- I52.2.h45
                rw [gs, if_pos (by rw [← e46]; exact b8), h45]
  · -- b1.2
    refine hP _ _ ⟨?_, ?_, ?_⟩
    · show ∀ c i, c ≠ 128 → ¬ (c = 103 ∧ (i = 52 ∨ i = 53)) → M2 c i = M c i  -- p2.hf
      intro c i c1 _; exact pc1_hf c i c1
    · show zB 0 (zc (fun c => 0 < gCn (M 103 1) (M 103 2) (M 104) c) 16 ≤ 8)  -- p2.hr
      exact zB.f (by rw [← EN, ← e_r7]; exact b1)
    · show zc (fun c => 0 < gCn (M 103 1) (M 103 2) (M 104) c) 16 ≤ 8 → gFw (gCn (M 103 1) (M 103 2) (M 104)) (M 105) k (M2 103 53) (M2 103 52)  -- p2.hw
      intro h; rw [← EN, ← e_r7] at h; exact absurd h b1

