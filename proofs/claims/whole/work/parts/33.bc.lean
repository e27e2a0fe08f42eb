abbrev pr_X1_isInQuarter (f : Int) (x : Int) (y : Int) (q : Int) (M : zM) : Prop := (bDim M) ∧ (0 ≤ q ∧ q ≤ 8) ∧ (-5 ≤ x ∧ x ≤ 20) ∧ (-5 ≤ y ∧ y ≤ 20)
abbrev po_X1_isInQuarter (f : Int) (x : Int) (y : Int) (q : Int) (M : zM) (r : Int) (M' : zM) : Prop := (M' = M) ∧ (zB r (gIn (zg (M 1 0) (M 1 1) (M 12)) f x y (q % 4)))
set_option maxHeartbeats 1000000 in
theorem ok_X1_isInQuarter : zSnd zS 145 0 0 yX1_isInQuarter cX1_isInQuarter 8 (some .boolean) 1 [2, 0, 0, 0, 0] (F_X1_isInQuarter pr_X1_isInQuarter po_X1_isInQuarter) := by
  refine (sn_X1_isInQuarter ok_X2_faceAt).mono ?_
  rintro xs P M hz hR ⟨f, x, y, q, rfl, ⟨hd, hq, hx, hy⟩, hP⟩
  refine ⟨_, _, _, _, rfl, ?_⟩
  have z_f := zall_h (zall_t hz) (by decide)
  have z_x := zall_h (zall_t (zall_t hz)) (by decide)
  have z_y := zall_h (zall_t (zall_t (zall_t hz))) (by decide)
  have z_q := zall_h (zall_t (zall_t (zall_t (zall_t hz)))) (by decide)
  change vc_X1_isInQuarter pr_X2_faceAt po_X2_faceAt f x y q P M
  unfold vc_X1_isInQuarter
  have zl := zl3 (a := q) (by omega)
  intro K25 h_K25
  have k_K25 : ∀ (v1 : Int), (v1 = x + qX (q % 4)) → K25 v1 := by
    intro v1 hk1
    refine h_K25 _ ?_
    intro z_v1
    intro K40 h_K40
    have k_K40 : ∀ (v3 : Int), (v3 = y + qY (q % 4)) → K40 v3 := by
      intro v3 hk2
      refine h_K40 _ ?_
      intro z_v3
      have gc1 : pr_X2_faceAt v1 v3 M := by
        show bDim M
        first | with_reducible assumption | omega | exact trivial | with_reducible rfl  -- c1.hd
      refine ⟨gc1, ?_⟩
      rintro r5 M6 ⟨q_rfl, e_r5⟩ z_r5 z_M6
      have q_rfl := q_rfl.symm
      subst q_rfl
      have e5 : r5 = zg (M 1 0) (M 1 1) (M 12) (x + qX (q % 4)) (y + qY (q % 4)) := by rw [← hk1, ← hk2]; exact e_r5
      refine ⟨fun b1 => ?_, fun b1 => ?_⟩
      · -- b1.1
        refine hP _ _ ⟨?_, ?_⟩
        · show M = M  -- p1.rfl
          first | with_reducible assumption | omega | exact trivial | with_reducible rfl
        · show zB 0 (gIn (zg (M 1 0) (M 1 1) (M 12)) f x y (q % 4))  -- p1.pb
          exact zB.f (by rw [gIn, ← e5]; exact b1)
      · -- b1.2
        refine hP _ _ ⟨?_, ?_⟩
        · show M = M  -- p2.rfl
          first | with_reducible assumption | omega | exact trivial | with_reducible rfl
        · show zB 1 (gIn (zg (M 1 0) (M 1 1) (M 12)) f x y (q % 4))  -- p2.pb
          exact zB.t (by rw [gIn, ← e5]; exact b1)
    refine ⟨fun b2 => ?_, fun b2 => ?_⟩
    · -- b2.1
      refine k_K40 _ ?_
      · show y = y + qY (q % 4)  -- K40.1.hk2
        unfold qY; rw [if_neg (by omega)]; omega
    · -- b2.2
      have o1 : zin (y - 1) := by
        first | with_reducible assumption | omega | exact trivial | with_reducible rfl  -- o1
      refine ⟨o1, ?_⟩
      refine k_K40 _ ?_
      · show (y - 1) = y + qY (q % 4)  -- K40.2.hk2
        unfold qY; rw [if_pos (by omega)]; omega
  intro K18 h_K18
  have k_K18 : (q % 4 = 1 ∨ q % 4 = 2) → K18  := by
    intro  hq1
    refine h_K18 ?_
    have o2 : zin (x - 1) := by
      first | with_reducible assumption | omega | exact trivial | with_reducible rfl  -- o2
    refine ⟨o2, ?_⟩
    refine k_K25 _ ?_
    · show (x - 1) = x + qX (q % 4)  -- K25.1.hk1
      unfold qX; rw [if_pos (by omega)]; omega
  refine ⟨fun b3 => ?_, fun b3 => ?_⟩
  · -- b3.1
    refine k_K18 ?_
    · show q % 4 = 1 ∨ q % 4 = 2  -- K18.1.hq1
      first | with_reducible assumption | omega | exact trivial | with_reducible rfl
  · -- b3.2
    refine ⟨fun b4 => ?_, fun b4 => ?_⟩
    · -- b4.1
      refine k_K25 _ ?_
      · show x = x + qX (q % 4)  -- K25.2.hk1
        unfold qX; rw [if_neg (by omega)]; omega
    · -- b4.2
      refine k_K18 ?_
      · show q % 4 = 1 ∨ q % 4 = 2  -- K18.2.hq1
        first | with_reducible assumption | omega | exact trivial | with_reducible rfl

abbrev pr_X1_wayOn (f : Int) (x : Int) (y : Int) (d : Int) (M : zM) : Prop := (bDim M) ∧ (0 ≤ d ∧ d < 4) ∧ (-5 ≤ x ∧ x ≤ 20) ∧ (-5 ≤ y ∧ y ≤ 20)
abbrev po_X1_wayOn (f : Int) (x : Int) (y : Int) (d : Int) (M : zM) (r : Int) (M' : zM) : Prop := M' = M ∧ r = gND (zg (M 1 0) (M 1 1) (M 12)) f (M 1 2) x y d
set_option maxHeartbeats 1000000 in
theorem ok_X1_wayOn : zSnd zS 145 0 0 yX1_wayOn cX1_wayOn 8 (some .int) 2 [2, 0, 0, 0, 0] (F_X1_wayOn pr_X1_wayOn po_X1_wayOn) := by
  refine (sn_X1_wayOn ok_X1_isInQuarter).mono ?_
  rintro xs P M hz hR ⟨f, x, y, d, rfl, ⟨hd, hdd, hx, hy⟩, hP⟩
  refine ⟨_, _, _, _, rfl, ?_⟩
  have z_f := zall_h (zall_t hz) (by decide)
  have z_x := zall_h (zall_t (zall_t hz)) (by decide)
  have z_y := zall_h (zall_t (zall_t (zall_t hz))) (by decide)
  have z_d := zall_h (zall_t (zall_t (zall_t (zall_t hz)))) (by decide)
  change vc_X1_wayOn pr_X1_isInQuarter po_X1_isInQuarter f x y d P M
  unfold vc_X1_wayOn
  have zl := zl3 (a := d + 3) (by omega)
  have zl1 := zl3 (a := d + 1) (by omega)
  have gc1 : pr_X1_isInQuarter f x y d M := by
    refine ⟨?_, ?_, ?_, ?_⟩
    · show bDim M  -- c1.hd
      first | with_reducible assumption | omega | exact trivial | with_reducible rfl
    · show 0 ≤ d ∧ d ≤ 8  -- c1.hq
      first | with_reducible assumption | omega | exact trivial | with_reducible rfl
    · show -5 ≤ x ∧ x ≤ 20  -- c1.hx
      first | with_reducible assumption | omega | exact trivial | with_reducible rfl
    · show -5 ≤ y ∧ y ≤ 20  -- c1.hy
      first | with_reducible assumption | omega | exact trivial | with_reducible rfl
  refine ⟨gc1, ?_⟩
  rintro r1 M2 ⟨q_rfl, pc1_pb⟩ z_r1 z_M2
  have q_rfl := q_rfl.symm
  subst q_rfl
  have o1 : zin (d + 3) := by
    first | with_reducible assumption | omega | exact trivial | with_reducible rfl  -- o1
  refine ⟨o1, ?_⟩
  have gc2 : pr_X1_isInQuarter f x y (d + 3) M := by
    refine ⟨?_, ?_, ?_, ?_⟩
    · show bDim M  -- c2.hd
      first | with_reducible assumption | omega | exact trivial | with_reducible rfl
    · show 0 ≤ (d + 3) ∧ (d + 3) ≤ 8  -- c2.hq
      first | with_reducible assumption | omega | exact trivial | with_reducible rfl
    · show -5 ≤ x ∧ x ≤ 20  -- c2.hx
      first | with_reducible assumption | omega | exact trivial | with_reducible rfl
    · show -5 ≤ y ∧ y ≤ 20  -- c2.hy
      first | with_reducible assumption | omega | exact trivial | with_reducible rfl
  refine ⟨gc2, ?_⟩
  rintro r8 M9 ⟨q_rfl, pc2_pb⟩ z_r8 z_M9
  have q_rfl := q_rfl.symm
  subst q_rfl
  rw [show d % 4 = d by omega] at pc1_pb
  intro K53 h_K53
  have k_K53 : ∀ (v14 : Int), (zB v14 (gIn (zg (M 1 0) (M 1 1) (M 12)) f x y ((d + 3) % 4) ∧ (gIn (zg (M 1 0) (M 1 1) (M 12)) f x y d ∨ M 1 2 = 1))) → K53 v14 := by
    intro v14 hk
    refine h_K53 _ ?_
    intro z_v14
    refine ⟨fun b1 => ?_, fun b1 => ?_⟩
    · -- b1.1
      refine ⟨fun b2 => ?_, fun b2 => ?_⟩
      · -- b2.1
        refine hP _ _ ⟨rfl, ?_⟩
        · unfold gND; rw [if_neg (hk.z.1 b1), if_neg (pc1_pb.z.1 b2)]; exact zl1  -- p1
      · -- b2.2
        refine hP _ _ ⟨rfl, ?_⟩
        · unfold gND; rw [if_neg (hk.z.1 b1), if_pos (pc1_pb.ne.1 b2)]  -- p2
    · -- b1.2
      refine hP _ _ ⟨rfl, ?_⟩
      · unfold gND; rw [if_pos (hk.ne.1 b1)]; exact zl  -- p3
  intro K52 h_K52
  have k_K52 : (¬ (gIn (zg (M 1 0) (M 1 1) (M 12)) f x y ((d + 3) % 4) ∧ (gIn (zg (M 1 0) (M 1 1) (M 12)) f x y d ∨ M 1 2 = 1))) → K52  := by
    intro  hq1
    refine h_K52 ?_
    refine k_K53 _ ?_
    · show zB 0 (gIn (zg (M 1 0) (M 1 1) (M 12)) f x y ((d + 3) % 4) ∧ (gIn (zg (M 1 0) (M 1 1) (M 12)) f x y d ∨ M 1 2 = 1))  -- K53.1.hk
      exact zB.f hq1
  refine ⟨fun b3 => ?_, fun b3 => ?_⟩
  · -- b3.1
    refine k_K52 ?_
    · show ¬ (gIn (zg (M 1 0) (M 1 1) (M 12)) f x y ((d + 3) % 4) ∧ (gIn (zg (M 1 0) (M 1 1) (M 12)) f x y d ∨ M 1 2 = 1))  -- K52.1.hq1
      exact fun h => pc2_pb.z.1 b3 h.1
  · -- b3.2
    intro K48 h_K48
    have k_K48 : (gIn (zg (M 1 0) (M 1 1) (M 12)) f x y ((d + 3) % 4) ∧ (gIn (zg (M 1 0) (M 1 1) (M 12)) f x y d ∨ M 1 2 = 1)) → K48  := by
      intro  hq2
      refine h_K48 ?_
      refine k_K53 _ ?_
      · show zB 1 (gIn (zg (M 1 0) (M 1 1) (M 12)) f x y ((d + 3) % 4) ∧ (gIn (zg (M 1 0) (M 1 1) (M 12)) f x y d ∨ M 1 2 = 1))  -- K53.2.hk
        exact zB.t hq2
    refine ⟨fun b4 => ?_, fun b4 => ?_⟩
    · -- b4.1
      refine k_K48 ?_
      · show gIn (zg (M 1 0) (M 1 1) (M 12)) f x y ((d + 3) % 4) ∧ (gIn (zg (M 1 0) (M 1 1) (M 12)) f x y d ∨ M 1 2 = 1)  -- K48.1.hq2
        exact ⟨pc2_pb.ne.1 b3, .inl (pc1_pb.ne.1 b4)⟩
    · -- b4.2
      refine ⟨fun b5 => ?_, fun b5 => ?_⟩
      · -- b5.1
        refine k_K52 ?_
        · show ¬ (gIn (zg (M 1 0) (M 1 1) (M 12)) f x y ((d + 3) % 4) ∧ (gIn (zg (M 1 0) (M 1 1) (M 12)) f x y d ∨ M 1 2 = 1))  -- K52.2.hq1
          exact fun h => h.2.elim (pc1_pb.z.1 b4) b5
      · -- b5.2
        refine k_K48 ?_
        · show gIn (zg (M 1 0) (M 1 1) (M 12)) f x y ((d + 3) % 4) ∧ (gIn (zg (M 1 0) (M 1 1) (M 12)) f x y d ∨ M 1 2 = 1)  -- K48.2.hq2
          exact ⟨pc2_pb.ne.1 b3, .inr b5⟩

abbrev pr_X1_turnAt (i : Int) (M : zM) : Prop := (1 ≤ M 17 1 ∧ M 17 1 ≤ 412) ∧ (0 ≤ i ∧ i < M 17 1) ∧ (∀ k, 0 ≤ k → k < M 17 1 → 0 ≤ M 18 k ∧ M 18 k < 4)
abbrev po_X1_turnAt (i : Int) (M : zM) (r : Int) (M' : zM) : Prop := M' = M ∧ r = zTurn (M 18) (M 17 1) i
set_option maxHeartbeats 1000000 in
theorem ok_X1_turnAt : zSnd zS 145 0 0 yX1_turnAt cX1_turnAt 4 (some .int) 0 [2, 0] (F_X1_turnAt pr_X1_turnAt po_X1_turnAt) := by
  refine (sn_X1_turnAt).mono ?_
  rintro xs P M hz hR ⟨i, rfl, ⟨hn, hi, hw⟩, hP⟩
  refine ⟨_, rfl, ?_⟩
  have z_i := zall_h (zall_t hz) (by decide)
  change vc_X1_turnAt i P M
  unfold vc_X1_turnAt
  have h1 := hw i hi.1 hi.2
  have h2 := hw (i - 1)
  have h3 := hw (M 17 1 - 1) (by omega) (by omega)
  intro K26 h_K26
  have k_K26 : ∀ (v1 : Int), (v1 = M 18 (if i = 0 then M 17 1 - 1 else i - 1)) → K26 v1 := by
    intro v1 hk
    refine h_K26 _ ?_
    intro z_v1
    have zl := zl3 (a := M 18 i - v1) (by split at hk <;> omega)
    have o1 : ((0 : Int) ≤ i ∧ i < 413) := by
      first | with_reducible assumption | omega | exact trivial | with_reducible rfl  -- o1
    refine ⟨o1, ?_⟩
    refine ⟨fun b1 => ?_, fun b1 => ?_⟩
    · -- b1.1
      refine ⟨fun b2 => ?_, fun b2 => ?_⟩
      · -- b2.1
        refine hP _ _ ⟨rfl, ?_⟩
        · unfold zTurn; rw [← hk, ← zl, if_neg b1, if_neg b2]  -- p1
      · -- b2.2
        refine hP _ _ ⟨rfl, ?_⟩
        · unfold zTurn; rw [← hk, ← zl, if_neg b1, if_pos b2]  -- p2
    · -- b1.2
      refine hP _ _ ⟨rfl, ?_⟩
      · unfold zTurn; rw [← hk, ← zl, if_pos b1]  -- p3
  refine ⟨fun b3 => ?_, fun b3 => ?_⟩
  · -- b3.1
    have o2 : ((0 : Int) ≤ (i - 1) ∧ (i - 1) < 413) := by
      first | with_reducible assumption | omega | exact trivial | with_reducible rfl  -- o2
    refine ⟨o2, ?_⟩
    refine k_K26 _ ?_
    · show (M 18 (i - 1)) = M 18 (if i = 0 then M 17 1 - 1 else i - 1)  -- K26.1.hk
      rw [if_neg b3]
  · -- b3.2
    have o3 : ((0 : Int) ≤ ((M 17 1) - 1) ∧ ((M 17 1) - 1) < 413) := by
      first | with_reducible assumption | omega | exact trivial | with_reducible rfl  -- o3
    refine ⟨o3, ?_⟩
    refine k_K26 _ ?_
    · show (M 18 ((M 17 1) - 1)) = M 18 (if i = 0 then M 17 1 - 1 else i - 1)  -- K26.2.hk
      rw [if_pos b3]

abbrev pr_X1_listTurns (M : zM) : Prop := (1 ≤ M 17 1 ∧ M 17 1 ≤ 412) ∧ (∀ k, 0 ≤ k → k < M 17 1 → 0 ≤ M 18 k ∧ M 18 k < 4)
abbrev po_X1_listTurns (M : zM) (M' : zM) : Prop := (∀ c i, c ≠ 22 → ¬ (c = 17 ∧ i = 8) → M' c i = M c i) ∧ (gTP (M 18) (M 17 1) (M' 17 8) (M' 22))
set_option maxHeartbeats 1000000 in
theorem ok_X1_listTurns : zSnd zS 145 0 0 yX1_listTurns cX1_listTurns 2 none 1 [2] (F_X1_listTurns pr_X1_listTurns po_X1_listTurns) := by
  refine (sn_X1_listTurns ok_X1_turnAt).mono ?_
  rintro xs P M hz hR ⟨rfl, ⟨hn, hw⟩, hP⟩
  refine ⟨rfl, ?_⟩
  change vc_X1_listTurns pr_X1_turnAt po_X1_turnAt P M
  unfold vc_X1_listTurns
  intro M1 e_M1
  refine ⟨fun v4 M6 n8 => (n8 : Int) = (412 - v4) ∧ (0 ≤ v4 ∧ v4 ≤ M 17 1) ∧ (∀ c i, c ≠ 22 → ¬ (c = 17 ∧ i = 8) → M6 c i = M c i) ∧ (M6 17 8 = zc (fun i => zTurn (M 18) (M 17 1) i ≠ 0) v4) ∧ (∀ i, 0 ≤ i → i < v4 → zTurn (M 18) (M 17 1) i ≠ 0 → M6 22 (zc (fun i => zTurn (M 18) (M 17 1) i ≠ 0) i) = i), ⟨Int.toNat (412 - 0), by omega, ?_, ?_, ?_, ?_⟩, ?_⟩
  · show 0 ≤ 0 ∧ 0 ≤ M 17 1  -- I7#1.0.hv
    first | with_reducible assumption | omega | exact trivial | with_reducible rfl
  · show ∀ c i, c ≠ 22 → ¬ (c = 17 ∧ i = 8) → M1 c i = M c i  -- I7#1.0.hf
    intro c i c1 c2; rw [e_M1, zset_n _ (by omega)]
  · show M1 17 8 = zc (fun i => zTurn (M 18) (M 17 1) i ≠ 0) 0  -- I7#1.0.h8
    rw [e_M1, zset_s, zc_z]
  · show ∀ i, 0 ≤ i → i < 0 → zTurn (M 18) (M 17 1) i ≠ 0 → M1 22 (zc (fun i => zTurn (M 18) (M 17 1) i ≠ 0) i) = i  -- I7#1.0.ht
    intro i i0 i1; omega
  rintro v4 M6 n8 ⟨h_n8, hv, hf, h8, ht⟩ z_v4 z_M6
  have w1 := hf 17 1 (by decide) (by decide)
  have w18 : M6 18 = M 18 := funext fun i => hf 18 i (by decide) (by omega)
  have u := zc_b (fun i => zTurn (M 18) (M 17 1) i ≠ 0) v4 hv.1
  refine ⟨fun b1 => ?_, fun b1 => ?_⟩
  · -- b1.1
    refine hP _ ⟨?_, ?_⟩
    · show ∀ c i, c ≠ 22 → ¬ (c = 17 ∧ i = 8) → M6 c i = M c i  -- p1.hf
      first | with_reducible assumption | omega | exact trivial | with_reducible rfl
    · show gTP (M 18) (M 17 1) (M6 17 8) (M6 22)  -- p1.ht
      have e : v4 = M 17 1 := by omega
      refine ⟨by rw [h8, e], fun i i0 i1 i2 => ht i i0 (by omega) i2⟩
  · -- b1.2
    have gc1 : pr_X1_turnAt v4 M6 := by
      refine ⟨?_, ?_, ?_⟩
      · show 1 ≤ M6 17 1 ∧ M6 17 1 ≤ 412  -- c1.hn
        first | with_reducible assumption | omega | exact trivial | with_reducible rfl
      · show 0 ≤ v4 ∧ v4 < M6 17 1  -- c1.hi
        first | with_reducible assumption | omega | exact trivial | with_reducible rfl
      · show ∀ k, 0 ≤ k → k < M6 17 1 → 0 ≤ M6 18 k ∧ M6 18 k < 4  -- c1.hw
        rw [w1, w18]; exact hw
    refine ⟨gc1, ?_⟩
    rintro r16 M17 ⟨q_rfl, e_r16⟩ z_r16 z_M17
    have q_rfl := q_rfl.symm
    subst q_rfl
    rw [w1, w18] at e_r16
    refine ⟨fun b2 => ?_, fun b2 => ?_⟩
    · -- b2.1
      have o1 : zin (v4 + 1) := by
        first | with_reducible assumption | omega | exact trivial | with_reducible rfl  -- o1
      refine ⟨o1, ?_⟩
      refine ⟨Int.toNat (412 - (v4 + 1)), by omega, by omega, ?_, ?_, ?_, ?_⟩
      · show 0 ≤ (v4 + 1) ∧ (v4 + 1) ≤ M 17 1  -- I7.1.hv
        first | with_reducible assumption | omega | exact trivial | with_reducible rfl
      · show ∀ c i, c ≠ 22 → ¬ (c = 17 ∧ i = 8) → M6 c i = M c i  -- I7.1.hf
        first | with_reducible assumption | omega | exact trivial | with_reducible rfl
      · show M6 17 8 = zc (fun i => zTurn (M 18) (M 17 1) i ≠ 0) (v4 + 1)  -- I7.1.h8
        rw [zc_n hv.1 (by rw [← e_r16]; omega)]; exact h8
      · show ∀ i, 0 ≤ i → i < (v4 + 1) → zTurn (M 18) (M 17 1) i ≠ 0 → M6 22 (zc (fun i => zTurn (M 18) (M 17 1) i ≠ 0) i) = i  -- I7.1.ht
        intro i i0 i1 i2
        by_cases c : i = v4
        · subst c; exact absurd b2 (by rw [e_r16]; exact i2)
        · exact ht i i0 (by omega) i2
    · -- b2.2
      have u2 := zc_lt2 hv.1 (show v4 < M 17 1 by omega) (p := fun i => zTurn (M 18) (M 17 1) i ≠ 0) (by rw [← e_r16]; exact b2)
      have u3 := zc_b (fun i => zTurn (M 18) (M 17 1) i ≠ 0) (M 17 1) (by omega)
      have o2 : ((0 : Int) ≤ (M6 17 8) ∧ (M6 17 8) < 413) := by
        first | with_reducible assumption | omega | exact trivial | with_reducible rfl  -- o2
      refine ⟨o2, ?_⟩
      intro M28 e_M28
      have o3 : zin ((M28 17 8) + 1) := by
        rw [e_M28, zset_n _ (by omega)]; omega
      refine ⟨o3, ?_⟩
      intro M32 e_M32
      have q : ∀ c i, ¬ (c = 17 ∧ i = 8) → ¬ (c = 22 ∧ i = M6 17 8) → M32 c i = M6 c i := fun c i c1 c2 => by rw [e_M32, zset_n _ (by omega), e_M28, zset_n _ (by omega)]
      have q8 : M32 17 8 = M6 17 8 + 1 := by rw [e_M32, zset_s, e_M28, zset_n _ (by omega)]
      have q22 : M32 22 (M6 17 8) = v4 := by rw [e_M32, zset_n _ (by omega), e_M28, zset_s]
      have o4 : zin (v4 + 1) := by
        first | with_reducible assumption | omega | exact trivial | with_reducible rfl  -- o4
      refine ⟨o4, ?_⟩
      refine ⟨Int.toNat (412 - (v4 + 1)), by omega, by omega, ?_, ?_, ?_, ?_⟩
      · show 0 ≤ (v4 + 1) ∧ (v4 + 1) ≤ M 17 1  -- I7.2.hv
        first | with_reducible assumption | omega | exact trivial | with_reducible rfl
      · show ∀ c i, c ≠ 22 → ¬ (c = 17 ∧ i = 8) → M32 c i = M c i  -- I7.2.hf
        intro c i c1 c2; rw [q c i c2 (by omega)]; exact hf c i c1 c2
      · show M32 17 8 = zc (fun i => zTurn (M 18) (M 17 1) i ≠ 0) (v4 + 1)  -- I7.2.h8
        rw [q8, h8, zc_p hv.1 (by rw [← e_r16]; exact b2)]
      · show ∀ i, 0 ≤ i → i < (v4 + 1) → zTurn (M 18) (M 17 1) i ≠ 0 → M32 22 (zc (fun i => zTurn (M 18) (M 17 1) i ≠ 0) i) = i  -- I7.2.ht
        intro i i0 i1 i2
        by_cases c : i = v4
        · subst c; rw [← h8]; exact q22
        · have := zc_lt2 i0 (show i < v4 by omega) (p := fun i => zTurn (M 18) (M 17 1) i ≠ 0) i2
          rw [q 22 _ (by omega) (by omega)]
          exact ht i i0 (by omega) i2

theorem gPer.V {w h f t n : Int} {L : Int → Int} {s : gS} (H : gPer (zg w h L) f t s n) (v : gV (zg w h L) f s) (k : Int) : 0 ≤ (gE (zg w h L) f t s k).2.2 ∧ (gE (zg w h L) f t s k).2.2 < 4 := (gE_V v k).1
/-- what the class keeps of the border of face f is so -/
def bBk (M : zM) (f : Int) : Prop :=
  gPer (zg (M 1 0) (M 1 1) (M 12)) f (M 1 2) (gS0 (M 7 f)) (M 17 1) ∧ (∀ k, 0 ≤ k → k < M 17 1 → M 18 k = (gE (zg (M 1 0) (M 1 1) (M 12)) f (M 1 2) (gS0 (M 7 f)) k).2.2) ∧
  (∀ k, 0 ≤ k → k ≤ M 17 1 → M 19 k = (gE (zg (M 1 0) (M 1 1) (M 12)) f (M 1 2) (gS0 (M 7 f)) k).1 ∧ M 20 k = (gE (zg (M 1 0) (M 1 1) (M 12)) f (M 1 2) (gS0 (M 7 f)) k).2.1) ∧ gTP (M 18) (M 17 1) (M 17 8) (M 22)
theorem bBk.mem {M M' : zM} {f : Int} (H : bBk M f) (e0 : M' 1 0 = M 1 0) (e1 : M' 1 1 = M 1 1) (e2 : M' 1 2 = M 1 2) (e7 : M' 7 f = M 7 f) (e12 : M' 12 = M 12) (ea : M' 17 1 = M 17 1) (eb : M' 17 8 = M 17 8) (e18 : M' 18 = M 18) (e19 : M' 19 = M 19) (e20 : M' 20 = M 20) (e22 : M' 22 = M 22) : bBk M' f := by
  unfold bBk at H ⊢
  rw [e0, e1, e2, e7, e12, ea, eb, e18, e19, e20, e22]
  exact H
abbrev pr_X1_trace (f : Int) (M : zM) : Prop := (bDim M) ∧ (M 1 2 = 0 ∨ M 1 2 = 1) ∧ (bFok M) ∧ (0 ≤ f ∧ f < M 5 2) ∧ (M 17 6 = M 5 1 → M 17 7 = f → bBk M f)
abbrev po_X1_trace (f : Int) (M : zM) (M' : zM) : Prop := (∀ c i, c ≠ 18 → c ≠ 19 → c ≠ 20 → c ≠ 22 → ¬ (c = 17 ∧ (i = 1 ∨ 6 ≤ i ∧ i ≤ 8)) → M' c i = M c i) ∧ (M' 17 6 = M 5 1) ∧ (M' 17 7 = f) ∧ (bBk M' f)
set_option maxHeartbeats 4000000 in
theorem ok_X1_trace : zSnd zS 145 0 0 yX1_trace cX1_trace 8 none 3 [2, 0] (F_X1_trace pr_X1_trace po_X1_trace) := by
  refine (sn_X1_trace ok_X1_listTurns ok_X1_wayOn).mono ?_
  rintro xs P M hz hR ⟨f, rfl, ⟨hd, ht, hF, ha, hk⟩, hP⟩
  refine ⟨_, rfl, ?_⟩
  have z_f := zall_h (zall_t hz) (by decide)
  change vc_X1_trace pr_X1_listTurns po_X1_listTurns pr_X1_wayOn po_X1_wayOn f P M
  unfold vc_X1_trace
  have hN := hF.N hd
  have hff := hF.1.fst f ha.1 ha.2
  have V0 : gV (zg (M 1 0) (M 1 1) (M 12)) f (gS0 (M 7 f)) := gS0_V (by omega) hF.1 rfl ha.1 ha.2 rfl
  obtain ⟨p, hp⟩ := gPer.ex (t := M 1 2) (show M 1 0 ≤ 16 by omega) (show M 1 1 ≤ 12 by omega) ha.1 V0
  intro K23 h_K23
  have k_K23 : True → K23  := by
    intro  _
    refine h_K23 ?_
    intro M1 e_M1
    intro M4 e_M4
    have q : ∀ c i, ¬ (c = 17 ∧ (i = 1 ∨ i = 6 ∨ i = 7)) → M4 c i = M c i := fun c i h => by rw [e_M4, zset_n _ (by omega), e_M1, zset_n _ (by omega)]
    have q6 : M4 17 6 = M 5 1 := by rw [e_M4, zset_n _ (by omega), e_M1, zset_s]
    have q7 : M4 17 7 = f := by rw [e_M4, zset_s]
    have f7 : M4 7 f = M 7 f := by rw [e_M4, zset_n _ (by omega), e_M1, zset_n _ (by omega)]
    rw [f7]
    have o1 : ((0 : Int) ≤ f ∧ f < 192) := by
      first | with_reducible assumption | omega | exact trivial | with_reducible rfl  -- o1
    refine ⟨o1, ?_⟩
    have o2 : 0 ≤ (M 7 f) := by
      exact hff.1.1
    refine ⟨o2, ?_⟩
    refine ⟨fun v9 v10 v11 v12 M17 n19 => (n19 : Int) = (412 - v12) ∧ (0 ≤ v12 ∧ v12 < 412) ∧ (∀ c i, c ≠ 18 → c ≠ 19 → c ≠ 20 → ¬ (c = 17 ∧ i = 1) → M17 c i = M4 c i) ∧ ((v9, v10, v11) = gE (zg (M 1 0) (M 1 1) (M 12)) f (M 1 2) (gS0 (M 7 f)) v12) ∧ (∀ q, 1 ≤ q → q ≤ v12 → gE (zg (M 1 0) (M 1 1) (M 12)) f (M 1 2) (gS0 (M 7 f)) q ≠ gS0 (M 7 f)) ∧ (∀ k, 0 ≤ k → k < v12 → M17 18 k = (gE (zg (M 1 0) (M 1 1) (M 12)) f (M 1 2) (gS0 (M 7 f)) k).2.2) ∧ (∀ k, 0 ≤ k → k < v12 → M17 19 k = (gE (zg (M 1 0) (M 1 1) (M 12)) f (M 1 2) (gS0 (M 7 f)) k).1 ∧ M17 20 k = (gE (zg (M 1 0) (M 1 1) (M 12)) f (M 1 2) (gS0 (M 7 f)) k).2.1), ⟨Int.toNat (412 - 0), by omega, ?_, ?_, ?_, ?_, ?_, ?_⟩, ?_⟩
    · show 0 ≤ 0 ∧ 0 < 412  -- I77#1.0.hv
      omega
    · show ∀ c i, c ≠ 18 → c ≠ 19 → c ≠ 20 → ¬ (c = 17 ∧ i = 1) → M4 c i = M4 c i  -- I77#1.0.hf
      first | with_reducible assumption | omega | exact trivial | with_reducible rfl
    · show (((M 7 f) % 16), ((M 7 f) / 16), 0) = gE (zg (M 1 0) (M 1 1) (M 12)) f (M 1 2) (gS0 (M 7 f)) 0  -- I77#1.0.hE
      rfl
    · show ∀ q, 1 ≤ q → q ≤ 0 → gE (zg (M 1 0) (M 1 1) (M 12)) f (M 1 2) (gS0 (M 7 f)) q ≠ gS0 (M 7 f)  -- I77#1.0.hne
      intro q q1 q2; omega
    · show ∀ k, 0 ≤ k → k < 0 → M4 18 k = (gE (zg (M 1 0) (M 1 1) (M 12)) f (M 1 2) (gS0 (M 7 f)) k).2.2  -- I77#1.0.hw
      intro k k0 k1; omega
    · show ∀ k, 0 ≤ k → k < 0 → M4 19 k = (gE (zg (M 1 0) (M 1 1) (M 12)) f (M 1 2) (gS0 (M 7 f)) k).1 ∧ M4 20 k = (gE (zg (M 1 0) (M 1 1) (M 12)) f (M 1 2) (gS0 (M 7 f)) k).2.1  -- I77#1.0.hxy
      intro k k0 k1; omega
    rintro v9 v10 v11 v12 M17 n19 ⟨h_n19, hv, hf, hE, hne, hw, hxy⟩ z_v9 z_v10 z_v11 z_v12 z_M17
    have VE := gE_V (t := M 1 2) V0 v12
    rw [← hE] at VE
    have VB := VE.bx ha.1
    have VD := VE.1
    dsimp only at VB VD
    have z3 := zl3 (a := v11) (by omega)
    have m4 : v11 % 4 = v11 := by omega
    rw [m4] at z3
    rw [z3]
    intro K177 h_K177
    have k_K177 : ∀ (M26 : zM), (∀ c i, c ≠ 18 → c ≠ 19 → c ≠ 20 → ¬ (c = 17 ∧ i = 1) → M26 c i = M4 c i) → (M26 17 1 = v12 + 1) → (gE (zg (M 1 0) (M 1 1) (M 12)) f (M 1 2) (gS0 (M 7 f)) (v12 + 1) = gS0 (M 7 f)) → (∀ k, 0 ≤ k → k < v12 + 1 → M26 18 k = (gE (zg (M 1 0) (M 1 1) (M 12)) f (M 1 2) (gS0 (M 7 f)) k).2.2) → (∀ k, 0 ≤ k → k < v12 + 1 → M26 19 k = (gE (zg (M 1 0) (M 1 1) (M 12)) f (M 1 2) (gS0 (M 7 f)) k).1 ∧ M26 20 k = (gE (zg (M 1 0) (M 1 1) (M 12)) f (M 1 2) (gS0 (M 7 f)) k).2.1) → K177 M26 := by
      intro M26 hfk h1k hEk hwk hxyk
      refine h_K177 _ ?_
      intro z_M26
      have o3 : ((0 : Int) ≤ (M26 17 1) ∧ (M26 17 1) < 413) := by
        first | with_reducible assumption | omega | exact trivial | with_reducible rfl  -- o3
      refine ⟨o3, ?_⟩
      intro M29 e_M29
      have r1 : M29 17 1 = v12 + 1 := by rw [e_M29, zset_n _ (by omega)]; exact h1k
      have o4 : ((0 : Int) ≤ (M29 17 1) ∧ (M29 17 1) < 413) := by
        first | with_reducible assumption | omega | exact trivial | with_reducible rfl  -- o4
      refine ⟨o4, ?_⟩
      intro M33 e_M33
      have z : ∀ c i, c ≠ 19 → c ≠ 20 → M33 c i = M26 c i := fun c i c1 c2 => by rw [e_M33, zset_n _ (by omega), e_M29, zset_n _ (by omega)]
      have z19 : ∀ i, i ≠ v12 + 1 → M33 19 i = M26 19 i := fun i h => by rw [e_M33, zset_n _ (by omega), e_M29, zset_n _ (by omega)]
      have z20 : ∀ i, i ≠ v12 + 1 → M33 20 i = M26 20 i := fun i h => by rw [e_M33, zset_n _ (by omega), e_M29, zset_n _ (by omega)]
      have z19e : M33 19 (v12 + 1) = M 7 f % 16 := by rw [e_M33, zset_n _ (by omega), e_M29, h1k, zset_s]
      have z20e : M33 20 (v12 + 1) = M 7 f / 16 := by rw [e_M33, r1, zset_s]
      have z1 : M33 17 1 = v12 + 1 := by rw [z 17 1 (by decide) (by decide)]; exact h1k
      have PER : gPer (zg (M 1 0) (M 1 1) (M 12)) f (M 1 2) (gS0 (M 7 f)) (v12 + 1) := ⟨by omega, by omega, hEk, fun q q1 q2 => hne q q1 (by omega)⟩
      have W : ∀ k, 0 ≤ k → k < v12 + 1 → 0 ≤ M33 18 k ∧ M33 18 k < 4 := fun k k0 k1 => by rw [z 18 k (by decide) (by decide), hwk k k0 k1]; exact gPer.V PER V0 k
      have gc1 : pr_X1_listTurns M33 := by
        refine ⟨?_, ?_⟩
        · show 1 ≤ M33 17 1 ∧ M33 17 1 ≤ 412  -- c1.hn
          omega
        · show ∀ k, 0 ≤ k → k < M33 17 1 → 0 ≤ M33 18 k ∧ M33 18 k < 4  -- c1.hw
          rw [z1]; exact W
      refine ⟨gc1, ?_⟩
      rintro M36 ⟨pc1_hf, pc1_ht⟩ z_M36
      rw [z1] at pc1_ht
      have y : ∀ c i, c ≠ 22 → c ≠ 18 → c ≠ 19 → c ≠ 20 → ¬ (c = 17 ∧ (i = 1 ∨ i = 8)) → M36 c i = M4 c i := fun c i c1 c2 c3 c4 c5 => by rw [pc1_hf c i c1 (by omega), z c i c3 c4]; exact hfk c i c2 c3 c4 (by omega)
      have y1 : M36 17 1 = v12 + 1 := by rw [pc1_hf 17 1 (by decide) (by decide)]; exact z1
      have y18 : M36 18 = M33 18 := funext fun i => pc1_hf 18 i (by decide) (by omega)
      have y12 : M36 12 = M 12 := funext fun i => (y 12 i (by decide) (by decide) (by decide) (by decide) (by omega)).trans (q 12 i (by omega))
      refine hP _ ⟨?_, ?_, ?_, ?_⟩
      · show ∀ c i, c ≠ 18 → c ≠ 19 → c ≠ 20 → c ≠ 22 → ¬ (c = 17 ∧ (i = 1 ∨ 6 ≤ i ∧ i ≤ 8)) → M36 c i = M c i  -- p1.hf
        intro c i c1 c2 c3 c4 c5; rw [y c i c4 c1 c2 c3 (by omega)]; exact q c i (by omega)
      · show M36 17 6 = M 5 1  -- p1.h6
        rw [y 17 6 (by decide) (by decide) (by decide) (by decide) (by decide)]; exact q6
      · show M36 17 7 = f  -- p1.h7
        rw [y 17 7 (by decide) (by decide) (by decide) (by decide) (by decide)]; exact q7
      · show bBk M36 f  -- p1.hB
        have a0 : M36 1 0 = M 1 0 := by rw [y 1 0 (by decide) (by decide) (by decide) (by decide) (by decide)]; exact q 1 0 (by decide)
        have a1 : M36 1 1 = M 1 1 := by rw [y 1 1 (by decide) (by decide) (by decide) (by decide) (by decide)]; exact q 1 1 (by decide)
        have a2 : M36 1 2 = M 1 2 := by rw [y 1 2 (by decide) (by decide) (by decide) (by decide) (by decide)]; exact q 1 2 (by decide)
        have a7 : M36 7 f = M 7 f := by rw [y 7 f (by decide) (by decide) (by decide) (by decide) (by omega)]; exact q 7 f (by omega)
        unfold bBk
        rw [a0, a1, a2, a7, y12, y1]
        refine ⟨PER, ?_, ?_, ?_⟩
        · intro k k0 k1; rw [y18, z 18 k (by decide) (by decide)]; exact hwk k k0 k1
        · intro k k0 k1
          rw [pc1_hf 19 k (by decide) (by omega), pc1_hf 20 k (by decide) (by omega)]
          by_cases c : k = v12 + 1
          · rw [c, z19e, z20e, hEk]; exact ⟨rfl, rfl⟩
          · rw [z19 k c, z20 k c]; exact hxyk k k0 (by omega)
        · rw [y18]; exact pc1_ht
    refine ⟨fun b1 => ?_, fun b1 => ?_⟩
    · -- b1.1
      exfalso; omega
    · -- b1.2
      have o5 : ((0 : Int) ≤ v12 ∧ v12 < 413) := by
        first | with_reducible assumption | omega | exact trivial | with_reducible rfl  -- o5
      refine ⟨o5, ?_⟩
      have ze := zdx4 VD.1 VD.2
      intro M43 e_M43
      intro M46 e_M46
      intro M49 e_M49
      have o6 : zin (v12 + 1) := by
        first | with_reducible assumption | omega | exact trivial | with_reducible rfl  -- o6
      refine ⟨o6, ?_⟩
      intro M53 e_M53
      have g : ∀ c i, c ≠ 18 → c ≠ 19 → c ≠ 20 → ¬ (c = 17 ∧ i = 1) → M53 c i = M4 c i := fun c i c1 c2 c3 c4 => by rw [e_M53, zset_n _ (by omega), e_M49, zset_n _ (by omega), e_M46, zset_n _ (by omega), e_M43, zset_n _ (by omega)]; exact hf c i c1 c2 c3 c4
      have g1 : M53 17 1 = v12 + 1 := by rw [e_M53, zset_s]
      have gw : ∀ k, 0 ≤ k → k < v12 + 1 → M53 18 k = (gE (zg (M 1 0) (M 1 1) (M 12)) f (M 1 2) (gS0 (M 7 f)) k).2.2 := fun k k0 k1 => by
        rw [e_M53, zset_n _ (by omega), e_M49, zset_n _ (by omega), e_M46, zset_n _ (by omega), e_M43]
        by_cases c : k = v12
        · rw [c, zset_s, ← hE]
        · rw [zset_n _ (by omega)]; exact hw k k0 (by omega)
      have gxy : ∀ k, 0 ≤ k → k < v12 + 1 → M53 19 k = (gE (zg (M 1 0) (M 1 1) (M 12)) f (M 1 2) (gS0 (M 7 f)) k).1 ∧ M53 20 k = (gE (zg (M 1 0) (M 1 1) (M 12)) f (M 1 2) (gS0 (M 7 f)) k).2.1 := fun k k0 k1 => by
        rw [e_M53, zset_n _ (by omega), zset_n _ (by omega), e_M49, zset_n _ (show (19 : Int) ≠ 20 ∨ k ≠ v12 by omega), e_M46, e_M43]
        by_cases c : k = v12
        · rw [c, zset_s, zset_s, ← hE]; exact ⟨rfl, rfl⟩
        · rw [zset_n _ (by omega), zset_n _ (by omega), zset_n _ (by omega), zset_n _ (by omega), zset_n _ (by omega)]; exact hxy k k0 (by omega)
      have b0 := (g 1 0 (by decide) (by decide) (by decide) (by decide)).trans (q 1 0 (by decide))
      have b1' := (g 1 1 (by decide) (by decide) (by decide) (by decide)).trans (q 1 1 (by decide))
      have b2' := (g 1 2 (by decide) (by decide) (by decide) (by decide)).trans (q 1 2 (by decide))
      have b12' : M53 12 = M 12 := funext fun i => (g 12 i (by decide) (by decide) (by decide) (by omega)).trans (q 12 i (by omega))
      have zb := zdx_b v11
      have o7 : ((0 : Int) ≤ v11 ∧ v11 < 8) := by
        omega
      refine ⟨o7, ?_⟩
      have o8 : zin (v10 + (zdn (Int.toNat v11))) := by
        have := zdx_b v11; rw [ze.2]; omega
      refine ⟨o8, ?_⟩
      have o9 : zin (v9 + (zac (Int.toNat v11))) := by
        have := zdx_b v11; rw [ze.1]; omega
      refine ⟨o9, ?_⟩
      have gc2 : pr_X1_wayOn f (v9 + (zac (Int.toNat v11))) (v10 + (zdn (Int.toNat v11))) v11 M53 := by
        refine ⟨?_, ?_, ?_, ?_⟩
        · show bDim M53  -- c2.hd
          unfold bDim; omega
        · show 0 ≤ v11 ∧ v11 < 4  -- c2.hdd
          first | with_reducible assumption | omega | exact trivial | with_reducible rfl
        · show -5 ≤ (v9 + (zac (Int.toNat v11))) ∧ (v9 + (zac (Int.toNat v11))) ≤ 20  -- c2.hx
          omega
        · show -5 ≤ (v10 + (zdn (Int.toNat v11))) ∧ (v10 + (zdn (Int.toNat v11))) ≤ 20  -- c2.hy
          omega
      refine ⟨gc2, ?_⟩
      rintro r59 M60 ⟨q_rfl, e_r59⟩ z_r59 z_M60
      have q_rfl := q_rfl.symm
      subst q_rfl
      rw [b0, b1', b2', b12', ze.1, ze.2] at e_r59
      have E1 : (v9 + zdx v11, v10 + zdy v11, r59) = gE (zg (M 1 0) (M 1 1) (M 12)) f (M 1 2) (gS0 (M 7 f)) (v12 + 1) := by
        rw [gE_s hv.1, ← hE, e_r59]
        rfl
      rw [ze.1, ze.2]
      have LT : gE (zg (M 1 0) (M 1 1) (M 12)) f (M 1 2) (gS0 (M 7 f)) (v12 + 1) ≠ gS0 (M 7 f) → v12 + 1 < 412 ∧ ∀ q, 1 ≤ q → q ≤ v12 + 1 → gE (zg (M 1 0) (M 1 1) (M 12)) f (M 1 2) (gS0 (M 7 f)) q ≠ gS0 (M 7 f) := by
        intro ne
        have all : ∀ q, 1 ≤ q → q ≤ v12 + 1 → gE (zg (M 1 0) (M 1 1) (M 12)) f (M 1 2) (gS0 (M 7 f)) q ≠ gS0 (M 7 f) := fun q q1 q2 => by
          by_cases c : q = v12 + 1
          · rw [c]; exact ne
          · exact hne q q1 (by omega)
        refine ⟨?_, all⟩
        apply Classical.byContradiction
        intro c
        exact all p hp.1 (by have := hp.2.1; omega) hp.2.2.1
      refine ⟨fun b2 => ?_, fun b2 => ?_⟩
      · -- b2.1
        have NE : gE (zg (M 1 0) (M 1 1) (M 12)) f (M 1 2) (gS0 (M 7 f)) (v12 + 1) ≠ gS0 (M 7 f) := fun h => by rw [← E1] at h; exact b2 (Prod.mk.inj h).1
        have LT2 := LT NE
        refine ⟨Int.toNat (412 - (v12 + 1)), by omega, by omega, ?_, ?_, ?_, ?_, ?_, ?_⟩
        · show 0 ≤ (v12 + 1) ∧ (v12 + 1) < 412  -- I77.1.hv
          omega
        · show ∀ c i, c ≠ 18 → c ≠ 19 → c ≠ 20 → ¬ (c = 17 ∧ i = 1) → M53 c i = M4 c i  -- I77.1.hf
          first | with_reducible assumption | omega | exact trivial | with_reducible rfl
        · show ((v9 + (zdx v11)), (v10 + (zdy v11)), r59) = gE (zg (M 1 0) (M 1 1) (M 12)) f (M 1 2) (gS0 (M 7 f)) (v12 + 1)  -- I77.1.hE
          exact E1
        · show ∀ q, 1 ≤ q → q ≤ (v12 + 1) → gE (zg (M 1 0) (M 1 1) (M 12)) f (M 1 2) (gS0 (M 7 f)) q ≠ gS0 (M 7 f)  -- I77.1.hne
          exact LT2.2
        · show ∀ k, 0 ≤ k → k < (v12 + 1) → M53 18 k = (gE (zg (M 1 0) (M 1 1) (M 12)) f (M 1 2) (gS0 (M 7 f)) k).2.2  -- I77.1.hw
          first | with_reducible assumption | omega | exact trivial | with_reducible rfl
        · show ∀ k, 0 ≤ k → k < (v12 + 1) → M53 19 k = (gE (zg (M 1 0) (M 1 1) (M 12)) f (M 1 2) (gS0 (M 7 f)) k).1 ∧ M53 20 k = (gE (zg (M 1 0) (M 1 1) (M 12)) f (M 1 2) (gS0 (M 7 f)) k).2.1  -- I77.1.hxy
          first | with_reducible assumption | omega | exact trivial | with_reducible rfl
      · -- b2.2
        refine ⟨fun b3 => ?_, fun b3 => ?_⟩
        · -- b3.1
          have NE : gE (zg (M 1 0) (M 1 1) (M 12)) f (M 1 2) (gS0 (M 7 f)) (v12 + 1) ≠ gS0 (M 7 f) := fun h => by rw [← E1] at h; exact b3 (Prod.mk.inj (Prod.mk.inj h).2).1
          have LT2 := LT NE
          refine ⟨Int.toNat (412 - (v12 + 1)), by omega, by omega, ?_, ?_, ?_, ?_, ?_, ?_⟩
          · show 0 ≤ (v12 + 1) ∧ (v12 + 1) < 412  -- I77.2.hv
            omega
          · show ∀ c i, c ≠ 18 → c ≠ 19 → c ≠ 20 → ¬ (c = 17 ∧ i = 1) → M53 c i = M4 c i  -- I77.2.hf
            first | with_reducible assumption | omega | exact trivial | with_reducible rfl
          · show ((v9 + (zdx v11)), (v10 + (zdy v11)), r59) = gE (zg (M 1 0) (M 1 1) (M 12)) f (M 1 2) (gS0 (M 7 f)) (v12 + 1)  -- I77.2.hE
            exact E1
          · show ∀ q, 1 ≤ q → q ≤ (v12 + 1) → gE (zg (M 1 0) (M 1 1) (M 12)) f (M 1 2) (gS0 (M 7 f)) q ≠ gS0 (M 7 f)  -- I77.2.hne
            exact LT2.2
          · show ∀ k, 0 ≤ k → k < (v12 + 1) → M53 18 k = (gE (zg (M 1 0) (M 1 1) (M 12)) f (M 1 2) (gS0 (M 7 f)) k).2.2  -- I77.2.hw
            first | with_reducible assumption | omega | exact trivial | with_reducible rfl
          · show ∀ k, 0 ≤ k → k < (v12 + 1) → M53 19 k = (gE (zg (M 1 0) (M 1 1) (M 12)) f (M 1 2) (gS0 (M 7 f)) k).1 ∧ M53 20 k = (gE (zg (M 1 0) (M 1 1) (M 12)) f (M 1 2) (gS0 (M 7 f)) k).2.1  -- I77.2.hxy
            first | with_reducible assumption | omega | exact trivial | with_reducible rfl
        · -- b3.2
          refine ⟨fun b4 => ?_, fun b4 => ?_⟩
          · -- b4.1
            have NE : gE (zg (M 1 0) (M 1 1) (M 12)) f (M 1 2) (gS0 (M 7 f)) (v12 + 1) ≠ gS0 (M 7 f) := fun h => by rw [← E1] at h; exact b4 (Prod.mk.inj (Prod.mk.inj h).2).2
            have LT2 := LT NE
            refine ⟨Int.toNat (412 - (v12 + 1)), by omega, by omega, ?_, ?_, ?_, ?_, ?_, ?_⟩
            · show 0 ≤ (v12 + 1) ∧ (v12 + 1) < 412  -- I77.3.hv
              omega
            · show ∀ c i, c ≠ 18 → c ≠ 19 → c ≠ 20 → ¬ (c = 17 ∧ i = 1) → M53 c i = M4 c i  -- I77.3.hf
              first | with_reducible assumption | omega | exact trivial | with_reducible rfl
            · show ((v9 + (zdx v11)), (v10 + (zdy v11)), r59) = gE (zg (M 1 0) (M 1 1) (M 12)) f (M 1 2) (gS0 (M 7 f)) (v12 + 1)  -- I77.3.hE
              exact E1
            · show ∀ q, 1 ≤ q → q ≤ (v12 + 1) → gE (zg (M 1 0) (M 1 1) (M 12)) f (M 1 2) (gS0 (M 7 f)) q ≠ gS0 (M 7 f)  -- I77.3.hne
              exact LT2.2
            · show ∀ k, 0 ≤ k → k < (v12 + 1) → M53 18 k = (gE (zg (M 1 0) (M 1 1) (M 12)) f (M 1 2) (gS0 (M 7 f)) k).2.2  -- I77.3.hw
              first | with_reducible assumption | omega | exact trivial | with_reducible rfl
            · show ∀ k, 0 ≤ k → k < (v12 + 1) → M53 19 k = (gE (zg (M 1 0) (M 1 1) (M 12)) f (M 1 2) (gS0 (M 7 f)) k).1 ∧ M53 20 k = (gE (zg (M 1 0) (M 1 1) (M 12)) f (M 1 2) (gS0 (M 7 f)) k).2.1  -- I77.3.hxy
              first | with_reducible assumption | omega | exact trivial | with_reducible rfl
          · -- b4.2
            refine k_K177 _ ?_ ?_ ?_ ?_ ?_
            · show ∀ c i, c ≠ 18 → c ≠ 19 → c ≠ 20 → ¬ (c = 17 ∧ i = 1) → M53 c i = M4 c i  -- K177.2.hfk
              first | with_reducible assumption | omega | exact trivial | with_reducible rfl
            · show M53 17 1 = v12 + 1  -- K177.2.h1k
              first | with_reducible assumption | omega | exact trivial | with_reducible rfl
            · show gE (zg (M 1 0) (M 1 1) (M 12)) f (M 1 2) (gS0 (M 7 f)) (v12 + 1) = gS0 (M 7 f)  -- K177.2.hEk
              rw [← E1, b2, b3, b4]; rfl
            · show ∀ k, 0 ≤ k → k < v12 + 1 → M53 18 k = (gE (zg (M 1 0) (M 1 1) (M 12)) f (M 1 2) (gS0 (M 7 f)) k).2.2  -- K177.2.hwk
              first | with_reducible assumption | omega | exact trivial | with_reducible rfl
            · show ∀ k, 0 ≤ k → k < v12 + 1 → M53 19 k = (gE (zg (M 1 0) (M 1 1) (M 12)) f (M 1 2) (gS0 (M 7 f)) k).1 ∧ M53 20 k = (gE (zg (M 1 0) (M 1 1) (M 12)) f (M 1 2) (gS0 (M 7 f)) k).2.1  -- K177.2.hxyk
              first | with_reducible assumption | omega | exact trivial | with_reducible rfl
  refine ⟨fun b5 => ?_, fun b5 => ?_⟩
  · -- b5.1
    exact k_K23 trivial
  · -- b5.2
    refine ⟨fun b6 => ?_, fun b6 => ?_⟩
    · -- b6.1
      exact k_K23 trivial
    · -- b6.2
      refine hP _ ⟨?_, ?_, ?_, ?_⟩
      · show ∀ c i, c ≠ 18 → c ≠ 19 → c ≠ 20 → c ≠ 22 → ¬ (c = 17 ∧ (i = 1 ∨ 6 ≤ i ∧ i ≤ 8)) → M c i = M c i  -- p2.hf
        intro _ _ _ _ _ _ _; rfl
      · show M 17 6 = M 5 1  -- p2.h6
        first | with_reducible assumption | omega | exact trivial | with_reducible rfl
      · show M 17 7 = f  -- p2.h7
        first | with_reducible assumption | omega | exact trivial | with_reducible rfl
      · show bBk M f  -- p2.hB
        exact hk b5 b6

