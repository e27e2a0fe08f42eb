abbrev pr_X12_isSquare (f : Int) (x : Int) (y : Int) (k : Int) (M : zM) : Prop := (mDim M) ∧ (0 ≤ f) ∧ (-40 ≤ x ∧ x ≤ 40) ∧ (-40 ≤ y ∧ y ≤ 40) ∧ (k ≤ 100)
abbrev po_X12_isSquare (f : Int) (x : Int) (y : Int) (k : Int) (M : zM) (r : Int) (M' : zM) : Prop := (M' = M) ∧ (zB r (gSqr (zg (M 103 1) (M 103 2) (M 115)) f x y k))
set_option maxHeartbeats 1000000 in
theorem ok_X12_isSquare : zSnd zS 145 0 0 yX12_isSquare cX12_isSquare 8 (some .boolean) 1 [2, 0, 0, 0, 0] (F_X12_isSquare pr_X12_isSquare po_X12_isSquare) := by
  refine (sn_X12_isSquare ok_X12_isOf).mono ?_
  rintro xs P M hz hR ⟨f, x, y, k, rfl, ⟨hd, hf0, hx, hy, hk⟩, hP⟩
  refine ⟨_, _, _, _, rfl, ?_⟩
  have z_f := zall_h (zall_t hz) (by decide)
  have z_x := zall_h (zall_t (zall_t hz)) (by decide)
  have z_y := zall_h (zall_t (zall_t (zall_t hz))) (by decide)
  have z_k := zall_h (zall_t (zall_t (zall_t (zall_t hz)))) (by decide)
  change vc_X12_isSquare pr_X12_isOf po_X12_isOf f x y k P M
  unfold vc_X12_isSquare
  refine ⟨fun v1 v2 M5 n7 => (n7 : Int) = (100 - v2) ∧ (0 ≤ v2 ∧ v2 ≤ 100) ∧ (M5 = M) ∧ (zB v1 (∀ i j, 0 ≤ i → i < k → 0 ≤ j → j < v2 → j < k → zg (M 103 1) (M 103 2) (M 115) (x + i) (y + j) = f)), ⟨Int.toNat (100 - 0), by omega, ?_, ?_, ?_⟩, ?_⟩
  · show 0 ≤ 0 ∧ 0 ≤ 100  -- I6.0.hv
    first | with_reducible assumption | omega | exact trivial | with_reducible rfl
  · first | with_reducible assumption | omega | exact trivial | with_reducible rfl  -- I6.0.rfl
  · show zB 1 (∀ i j, 0 ≤ i → i < k → 0 ≤ j → j < 0 → j < k → zg (M 103 1) (M 103 2) (M 115) (x + i) (y + j) = f)  -- I6.0.hq
    exact zB.t (fun i j _ _ j0 j1 => by omega)
  rintro v1 v2 M5 n7 ⟨h_n7, hv, q_rfl, hq⟩ z_v1 z_v2 z_M5
  have q_rfl := q_rfl.symm
  subst q_rfl
  refine ⟨fun b1 => ?_, fun b1 => ?_⟩
  · -- b1.1
    have o1 : (v1 = 0 ∨ v1 = 1) := by
      exact hq.b
    refine ⟨o1, ?_⟩
    refine hP _ _ ⟨?_, ?_⟩
    · show M = M  -- p1.rfl
      first | with_reducible assumption | omega | exact trivial | with_reducible rfl
    · show zB v1 (gSqr (zg (M 103 1) (M 103 2) (M 115)) f x y k)  -- p1.pb
      exact hq.iff ⟨fun h i j i0 i1 j0 j1 => h i j i0 i1 j0 (by omega) j1, fun h i j i0 i1 j0 _ j1 => h i j i0 i1 j0 j1⟩
  · -- b1.2
    refine ⟨fun b2 => ?_, fun b2 => ?_⟩
    · -- b2.1
      have o2 : (v1 = 0 ∨ v1 = 1) := by
        exact hq.b
      refine ⟨o2, ?_⟩
      refine hP _ _ ⟨?_, ?_⟩
      · show M = M  -- p2.rfl
        first | with_reducible assumption | omega | exact trivial | with_reducible rfl
      · show zB v1 (gSqr (zg (M 103 1) (M 103 2) (M 115)) f x y k)  -- p2.pb
        rw [b2]; exact zB.f (fun h => hq.z.1 b2 (fun i j i0 i1 j0 _ j1 => h i j i0 i1 j0 j1))
    · -- b2.2
      have hq' := hq.ne.1 b2
      refine ⟨fun v18 v19 M22 n24 => (n24 : Int) = (100 - v19) ∧ (0 ≤ v19 ∧ v19 ≤ 100) ∧ (M22 = M) ∧ (zB v18 (∀ i, 0 ≤ i → i < v19 → i < k → zg (M 103 1) (M 103 2) (M 115) (x + i) (y + v2) = f)), ⟨Int.toNat (100 - 0), by omega, ?_, ?_, ?_⟩, ?_⟩
      · show 0 ≤ 0 ∧ 0 ≤ 100  -- I21.0.hv2
        first | with_reducible assumption | omega | exact trivial | with_reducible rfl
      · first | with_reducible assumption | omega | exact trivial | with_reducible rfl  -- I21.0.rfl
      · show zB v1 (∀ i, 0 ≤ i → i < 0 → i < k → zg (M 103 1) (M 103 2) (M 115) (x + i) (y + v2) = f)  -- I21.0.hq2
        rcases hq.b with h | h
        · exact absurd h b2
        · rw [h]; exact zB.t (fun i i0 i1 => by omega)
      rintro v18 v19 M22 n24 ⟨h_n24, hv2, q_rfl, hq2⟩ z_v18 z_v19 z_M22
      have q_rfl := q_rfl.symm
      subst q_rfl
      refine ⟨fun b3 => ?_, fun b3 => ?_⟩
      · -- b3.1
        have o3 : zin (v2 + 1) := by
          first | with_reducible assumption | omega | exact trivial | with_reducible rfl  -- o3
        refine ⟨o3, ?_⟩
        refine ⟨Int.toNat (100 - (v2 + 1)), by omega, by omega, ?_, ?_, ?_⟩
        · show 0 ≤ (v2 + 1) ∧ (v2 + 1) ≤ 100  -- I6.1.hv
          first | with_reducible assumption | omega | exact trivial | with_reducible rfl
        · first | with_reducible assumption | omega | exact trivial | with_reducible rfl  -- I6.1.rfl
        · show zB v18 (∀ i j, 0 ≤ i → i < k → 0 ≤ j → j < (v2 + 1) → j < k → zg (M 103 1) (M 103 2) (M 115) (x + i) (y + j) = f)  -- I6.1.hq
          refine hq2.iff ⟨fun h i j i0 i1 j0 j1 j2 => ?_, fun h i i0 i1 i2 => h i v2 i0 i2 hv.1 (by omega) (by omega)⟩
          by_cases c : j = v2
          · subst c; exact h i i0 (by omega) i1
          · exact hq' i j i0 i1 j0 (by omega) j2
      · -- b3.2
        refine ⟨fun b4 => ?_, fun b4 => ?_⟩
        · -- b4.1
          have o4 : zin (v2 + 1) := by
            first | with_reducible assumption | omega | exact trivial | with_reducible rfl  -- o4
          refine ⟨o4, ?_⟩
          refine ⟨Int.toNat (100 - (v2 + 1)), by omega, by omega, ?_, ?_, ?_⟩
          · show 0 ≤ (v2 + 1) ∧ (v2 + 1) ≤ 100  -- I6.2.hv
            first | with_reducible assumption | omega | exact trivial | with_reducible rfl
          · first | with_reducible assumption | omega | exact trivial | with_reducible rfl  -- I6.2.rfl
          · show zB v18 (∀ i j, 0 ≤ i → i < k → 0 ≤ j → j < (v2 + 1) → j < k → zg (M 103 1) (M 103 2) (M 115) (x + i) (y + j) = f)  -- I6.2.hq
            rw [b4]; exact zB.f (fun h => hq2.z.1 b4 (fun i i0 i1 i2 => h i v2 i0 i2 hv.1 (by omega) (by omega)))
        · -- b4.2
          have o5 : zin (y + v2) := by
            first | with_reducible assumption | omega | exact trivial | with_reducible rfl  -- o5
          refine ⟨o5, ?_⟩
          have o6 : zin (x + v19) := by
            first | with_reducible assumption | omega | exact trivial | with_reducible rfl  -- o6
          refine ⟨o6, ?_⟩
          have gc1 : pr_X12_isOf f (x + v19) (y + v2) M := by
            show mDim M
            first | with_reducible assumption | omega | exact trivial | with_reducible rfl  -- c1.hd
          refine ⟨gc1, ?_⟩
          rintro r43 M44 ⟨q_rfl, e_r43⟩ z_r43 z_M44
          have q_rfl := q_rfl.symm
          subst q_rfl
          have B := (zif01 e_r43).iff (mOf_g hf0)
          have o7 : zin (v19 + 1) := by
            first | with_reducible assumption | omega | exact trivial | with_reducible rfl  -- o7
          refine ⟨o7, ?_⟩
          refine ⟨Int.toNat (100 - (v19 + 1)), by omega, by omega, ?_, ?_, ?_⟩
          · show 0 ≤ (v19 + 1) ∧ (v19 + 1) ≤ 100  -- I21.1.hv2
            first | with_reducible assumption | omega | exact trivial | with_reducible rfl
          · first | with_reducible assumption | omega | exact trivial | with_reducible rfl  -- I21.1.rfl
          · show zB r43 (∀ i, 0 ≤ i → i < (v19 + 1) → i < k → zg (M 103 1) (M 103 2) (M 115) (x + i) (y + v2) = f)  -- I21.1.hq2
            refine B.iff ⟨fun h i i0 i1 i2 => ?_, fun h => h v19 hv2.1 (by omega) (by omega)⟩
            by_cases c : i = v19
            · subst c; exact h
            · exact hq2.ne.1 b4 i i0 (by omega) i2

abbrev pr_X12_breadthOf (f : Int) (x : Int) (y : Int) (M : zM) : Prop := (mDim M) ∧ (0 ≤ f) ∧ (0 ≤ x ∧ x < 16) ∧ (0 ≤ y ∧ y < 12) ∧ (zg (M 103 1) (M 103 2) (M 115) x y = f)
abbrev po_X12_breadthOf (f : Int) (x : Int) (y : Int) (M : zM) (r : Int) (M' : zM) : Prop := (M' = M) ∧ (gBr (zg (M 103 1) (M 103 2) (M 115)) f x y r)
set_option maxHeartbeats 1000000 in
theorem ok_X12_breadthOf : zSnd zS 145 0 0 yX12_breadthOf cX12_breadthOf 9 (some .int) 2 [2, 0, 0, 0] (F_X12_breadthOf pr_X12_breadthOf po_X12_breadthOf) := by
  refine (sn_X12_breadthOf ok_X12_isSquare).mono ?_
  rintro xs P M hz hR ⟨f, x, y, rfl, ⟨hd, hf0, hx, hy, hin⟩, hP⟩
  refine ⟨_, _, _, rfl, ?_⟩
  have z_f := zall_h (zall_t hz) (by decide)
  have z_x := zall_h (zall_t (zall_t hz)) (by decide)
  have z_y := zall_h (zall_t (zall_t (zall_t hz))) (by decide)
  change vc_X12_breadthOf pr_X12_isSquare po_X12_isSquare f x y P M
  unfold vc_X12_breadthOf
  refine ⟨fun v1 v2 M5 n7 => (n7 : Int) = (13 - v2) ∧ (2 ≤ v2 ∧ v2 ≤ 13) ∧ (M5 = M) ∧ (1 ≤ v1 ∧ v1 < v2) ∧ (∃ a b, gSqr (zg (M 103 1) (M 103 2) (M 115)) f a b v1 ∧ a ≤ x ∧ x < a + v1 ∧ b ≤ y ∧ y < b + v1) ∧ (∀ q a b, q < v2 → gSqr (zg (M 103 1) (M 103 2) (M 115)) f a b q → a ≤ x → x < a + q → b ≤ y → y < b + q → q ≤ v1), ⟨Int.toNat (13 - 2), by omega, ?_, ?_, ?_, ?_, ?_⟩, ?_⟩
  · show 2 ≤ 2 ∧ 2 ≤ 13  -- I6.0.hv
    first | with_reducible assumption | omega | exact trivial | with_reducible rfl
  · first | with_reducible assumption | omega | exact trivial | with_reducible rfl  -- I6.0.rfl
  · show 1 ≤ 1 ∧ 1 < 2  -- I6.0.h1
    first | with_reducible assumption | omega | exact trivial | with_reducible rfl
  · show ∃ a b, gSqr (zg (M 103 1) (M 103 2) (M 115)) f a b 1 ∧ a ≤ x ∧ x < a + 1 ∧ b ≤ y ∧ y < b + 1  -- I6.0.he
    exact ⟨x, y, fun i j i0 i1 j0 j1 => by rw [show x + i = x by omega, show y + j = y by omega]; exact hin, by omega, by omega, by omega, by omega⟩
  · show ∀ q a b, q < 2 → gSqr (zg (M 103 1) (M 103 2) (M 115)) f a b q → a ≤ x → x < a + q → b ≤ y → y < b + q → q ≤ 1  -- I6.0.hm
    intro q a b q0 _ _ _ _ _; omega
  rintro v1 v2 M5 n7 ⟨h_n7, hv, q_rfl, h1, he, hm⟩ z_v1 z_v2 z_M5
  have q_rfl := q_rfl.symm
  subst q_rfl
  refine ⟨fun b1 => ?_, fun b1 => ?_⟩
  · -- b1.1
    refine hP _ _ ⟨?_, ?_⟩
    · show M = M  -- p1.rfl
      first | with_reducible assumption | omega | exact trivial | with_reducible rfl
    · show gBr (zg (M 103 1) (M 103 2) (M 115)) f x y v1  -- p1.hr
      refine ⟨h1.1, he, fun q a b s a0 a1 b0 b1 => ?_⟩
      have bb := gSqr_in hf0 s (by omega)
      exact hm q a b (by omega) s a0 a1 b0 b1
  · -- b1.2
    have o1 : zin ((y - v2) + 1) := by
      first | with_reducible assumption | omega | exact trivial | with_reducible rfl  -- o1
    refine ⟨o1, ?_⟩
    refine ⟨fun v15 v16 M20 n22 => (n22 : Int) = (20 - v16) ∧ (v15 = 0 ∨ v15 = 1) ∧ (y - v2 + 1 ≤ v16 ∧ v16 ≤ y + 1) ∧ (M20 = M) ∧ (zB v15 (∃ a b, gSqr (zg (M 103 1) (M 103 2) (M 115)) f a b v2 ∧ a ≤ x ∧ x < a + v2 ∧ b ≤ y ∧ y < b + v2 ∧ b < v16)), ⟨Int.toNat (20 - ((y - v2) + 1)), by omega, ?_, ?_, ?_, ?_⟩, ?_⟩
    · show 0 = 0 ∨ 0 = 1  -- I24.0.h01
      first | with_reducible assumption | omega | exact trivial | with_reducible rfl
    · show y - v2 + 1 ≤ ((y - v2) + 1) ∧ ((y - v2) + 1) ≤ y + 1  -- I24.0.hv2
      first | with_reducible assumption | omega | exact trivial | with_reducible rfl
    · first | with_reducible assumption | omega | exact trivial | with_reducible rfl  -- I24.0.rfl
    · show zB 0 (∃ a b, gSqr (zg (M 103 1) (M 103 2) (M 115)) f a b v2 ∧ a ≤ x ∧ x < a + v2 ∧ b ≤ y ∧ y < b + v2 ∧ b < ((y - v2) + 1))  -- I24.0.hz
      exact zB.f (by rintro ⟨a, b, _, _, _, b0, b1, b2⟩; omega)
    rintro v15 v16 M20 n22 ⟨h_n22, h01, hv2, q_rfl, hz⟩ z_v15 z_v16 z_M20
    have q_rfl := q_rfl.symm
    subst q_rfl
    intro K79 h_K79
    have k_K79 : (zB v15 (∃ a b, gSqr (zg (M 103 1) (M 103 2) (M 115)) f a b v2 ∧ a ≤ x ∧ x < a + v2 ∧ b ≤ y ∧ y < b + v2)) → K79  := by
      intro  hk
      refine h_K79 ?_
      refine ⟨fun b2 => ?_, fun b2 => ?_⟩
      · -- b2.1
        have o2 : zin (v2 + 1) := by
          first | with_reducible assumption | omega | exact trivial | with_reducible rfl  -- o2
        refine ⟨o2, ?_⟩
        refine ⟨Int.toNat (13 - (v2 + 1)), by omega, by omega, ?_, ?_, ?_, ?_, ?_⟩
        · show 2 ≤ (v2 + 1) ∧ (v2 + 1) ≤ 13  -- I6.1.hv
          first | with_reducible assumption | omega | exact trivial | with_reducible rfl
        · first | with_reducible assumption | omega | exact trivial | with_reducible rfl  -- I6.1.rfl
        · show 1 ≤ v1 ∧ v1 < (v2 + 1)  -- I6.1.h1
          first | with_reducible assumption | omega | exact trivial | with_reducible rfl
        · show ∃ a b, gSqr (zg (M 103 1) (M 103 2) (M 115)) f a b v1 ∧ a ≤ x ∧ x < a + v1 ∧ b ≤ y ∧ y < b + v1  -- I6.1.he
          first | with_reducible assumption | omega | exact trivial | with_reducible rfl
        · show ∀ q a b, q < (v2 + 1) → gSqr (zg (M 103 1) (M 103 2) (M 115)) f a b q → a ≤ x → x < a + q → b ≤ y → y < b + q → q ≤ v1  -- I6.1.hm
          intro q a b q0 s a0 a1 b0 b1'
          by_cases c : q = v2
          · subst c; exact absurd ⟨a, b, s, a0, a1, b0, b1'⟩ (hk.z.1 b2)
          · exact hm q a b (by omega) s a0 a1 b0 b1'
      · -- b2.2
        have o3 : zin (v2 + 1) := by
          first | with_reducible assumption | omega | exact trivial | with_reducible rfl  -- o3
        refine ⟨o3, ?_⟩
        refine ⟨Int.toNat (13 - (v2 + 1)), by omega, by omega, ?_, ?_, ?_, ?_, ?_⟩
        · show 2 ≤ (v2 + 1) ∧ (v2 + 1) ≤ 13  -- I6.2.hv
          first | with_reducible assumption | omega | exact trivial | with_reducible rfl
        · first | with_reducible assumption | omega | exact trivial | with_reducible rfl  -- I6.2.rfl
        · show 1 ≤ v2 ∧ v2 < (v2 + 1)  -- I6.2.h1
          first | with_reducible assumption | omega | exact trivial | with_reducible rfl
        · show ∃ a b, gSqr (zg (M 103 1) (M 103 2) (M 115)) f a b v2 ∧ a ≤ x ∧ x < a + v2 ∧ b ≤ y ∧ y < b + v2  -- I6.2.he
          exact hk.ne.1 b2
        · show ∀ q a b, q < (v2 + 1) → gSqr (zg (M 103 1) (M 103 2) (M 115)) f a b q → a ≤ x → x < a + q → b ≤ y → y < b + q → q ≤ v2  -- I6.2.hm
          intro q a b q0 s a0 a1 b0 b1'; omega
    refine ⟨fun b3 => ?_, fun b3 => ?_⟩
    · -- b3.1
      refine k_K79 ?_
      · show zB v15 (∃ a b, gSqr (zg (M 103 1) (M 103 2) (M 115)) f a b v2 ∧ a ≤ x ∧ x < a + v2 ∧ b ≤ y ∧ y < b + v2)  -- K79.1.hk
        exact hz.iff ⟨fun ⟨a, b, s, a0, a1, b0, b1, b2⟩ => ⟨a, b, s, a0, a1, b0, b1⟩, fun ⟨a, b, s, a0, a1, b0, b1⟩ => ⟨a, b, s, a0, a1, b0, b1, by omega⟩⟩
    · -- b3.2
      refine ⟨fun b4 => ?_, fun b4 => ?_⟩
      · -- b4.1
        refine k_K79 ?_
        · show zB v15 (∃ a b, gSqr (zg (M 103 1) (M 103 2) (M 115)) f a b v2 ∧ a ≤ x ∧ x < a + v2 ∧ b ≤ y ∧ y < b + v2)  -- K79.2.hk
          rw [show v15 = 1 by omega]
          obtain ⟨a, b, s, a0, a1, b0, b1, b2⟩ := hz.ne.1 b4
          exact zB.t ⟨a, b, s, a0, a1, b0, b1⟩
      · -- b4.2
        have o4 : zin ((x - v2) + 1) := by
          first | with_reducible assumption | omega | exact trivial | with_reducible rfl  -- o4
        refine ⟨o4, ?_⟩
        refine ⟨fun v40 v41 M45 n47 => (n47 : Int) = (20 - v41) ∧ (v40 = 0 ∨ v40 = 1) ∧ (x - v2 + 1 ≤ v41 ∧ v41 ≤ x + 1) ∧ (M45 = M) ∧ (zB v40 (∃ a, gSqr (zg (M 103 1) (M 103 2) (M 115)) f a v16 v2 ∧ a ≤ x ∧ x < a + v2 ∧ a < v41)), ⟨Int.toNat (20 - ((x - v2) + 1)), by omega, ?_, ?_, ?_, ?_⟩, ?_⟩
        · show v15 = 0 ∨ v15 = 1  -- I43.0.h01b
          first | with_reducible assumption | omega | exact trivial | with_reducible rfl
        · show x - v2 + 1 ≤ ((x - v2) + 1) ∧ ((x - v2) + 1) ≤ x + 1  -- I43.0.hv3
          first | with_reducible assumption | omega | exact trivial | with_reducible rfl
        · first | with_reducible assumption | omega | exact trivial | with_reducible rfl  -- I43.0.rfl
        · show zB v15 (∃ a, gSqr (zg (M 103 1) (M 103 2) (M 115)) f a v16 v2 ∧ a ≤ x ∧ x < a + v2 ∧ a < ((x - v2) + 1))  -- I43.0.hz2
          rw [b4]; exact zB.f (by rintro ⟨a, _, _, a1, a2⟩; omega)
        rintro v40 v41 M45 n47 ⟨h_n47, h01b, hv3, q_rfl, hz2⟩ z_v40 z_v41 z_M45
        have q_rfl := q_rfl.symm
        subst q_rfl
        refine ⟨fun b5 => ?_, fun b5 => ?_⟩
        · -- b5.1
          have key : (∃ a b, gSqr (zg (M 103 1) (M 103 2) (M 115)) f a b v2 ∧ a ≤ x ∧ x < a + v2 ∧ b ≤ y ∧ y < b + v2 ∧ b < v16 + 1) ↔ ∃ a, gSqr (zg (M 103 1) (M 103 2) (M 115)) f a v16 v2 ∧ a ≤ x ∧ x < a + v2 := by
            constructor
            · rintro ⟨a, b, s, a0, a1, b0, b1, b2⟩
              by_cases c : b = v16
              · subst c; exact ⟨a, s, a0, a1⟩
              · exact absurd ⟨a, b, s, a0, a1, b0, b1, by omega⟩ (hz.z.1 b4)
            · rintro ⟨a, s, a0, a1⟩
              exact ⟨a, v16, s, a0, a1, by omega, by omega, by omega⟩
          have o5 : zin (v16 + 1) := by
            first | with_reducible assumption | omega | exact trivial | with_reducible rfl  -- o5
          refine ⟨o5, ?_⟩
          refine ⟨Int.toNat (20 - (v16 + 1)), by omega, by omega, ?_, ?_, ?_, ?_⟩
          · show v40 = 0 ∨ v40 = 1  -- I24.1.h01
            first | with_reducible assumption | omega | exact trivial | with_reducible rfl
          · show y - v2 + 1 ≤ (v16 + 1) ∧ (v16 + 1) ≤ y + 1  -- I24.1.hv2
            first | with_reducible assumption | omega | exact trivial | with_reducible rfl
          · first | with_reducible assumption | omega | exact trivial | with_reducible rfl  -- I24.1.rfl
          · show zB v40 (∃ a b, gSqr (zg (M 103 1) (M 103 2) (M 115)) f a b v2 ∧ a ≤ x ∧ x < a + v2 ∧ b ≤ y ∧ y < b + v2 ∧ b < (v16 + 1))  -- I24.1.hz
            refine hz2.iff ?_
            rw [key]
            exact ⟨fun ⟨a, s, a0, a1, _⟩ => ⟨a, s, a0, a1⟩, fun ⟨a, s, a0, a1⟩ => ⟨a, s, a0, a1, by omega⟩⟩
        · -- b5.2
          refine ⟨fun b6 => ?_, fun b6 => ?_⟩
          · -- b6.1
            have key : (∃ a b, gSqr (zg (M 103 1) (M 103 2) (M 115)) f a b v2 ∧ a ≤ x ∧ x < a + v2 ∧ b ≤ y ∧ y < b + v2 ∧ b < v16 + 1) := by
              obtain ⟨a, s, a0, a1, a2⟩ := hz2.ne.1 b6
              exact ⟨a, v16, s, a0, a1, by omega, by omega, by omega⟩
            have o6 : zin (v16 + 1) := by
              first | with_reducible assumption | omega | exact trivial | with_reducible rfl  -- o6
            refine ⟨o6, ?_⟩
            refine ⟨Int.toNat (20 - (v16 + 1)), by omega, by omega, ?_, ?_, ?_, ?_⟩
            · show v40 = 0 ∨ v40 = 1  -- I24.2.h01
              first | with_reducible assumption | omega | exact trivial | with_reducible rfl
            · show y - v2 + 1 ≤ (v16 + 1) ∧ (v16 + 1) ≤ y + 1  -- I24.2.hv2
              first | with_reducible assumption | omega | exact trivial | with_reducible rfl
            · first | with_reducible assumption | omega | exact trivial | with_reducible rfl  -- I24.2.rfl
            · show zB v40 (∃ a b, gSqr (zg (M 103 1) (M 103 2) (M 115)) f a b v2 ∧ a ≤ x ∧ x < a + v2 ∧ b ≤ y ∧ y < b + v2 ∧ b < (v16 + 1))  -- I24.2.hz
              rw [show v40 = 1 by omega]; exact zB.t key
          · -- b6.2
            have gc1 : pr_X12_isSquare f v41 v16 v2 M := by
              refine ⟨?_, ?_, ?_, ?_, ?_⟩
              · show mDim M  -- c1.hd
                first | with_reducible assumption | omega | exact trivial | with_reducible rfl
              · show 0 ≤ f  -- c1.hf0
                first | with_reducible assumption | omega | exact trivial | with_reducible rfl
              · show -40 ≤ v41 ∧ v41 ≤ 40  -- c1.hx
                first | with_reducible assumption | omega | exact trivial | with_reducible rfl
              · show -40 ≤ v16 ∧ v16 ≤ 40  -- c1.hy
                first | with_reducible assumption | omega | exact trivial | with_reducible rfl
              · show v2 ≤ 100  -- c1.hk
                first | with_reducible assumption | omega | exact trivial | with_reducible rfl
            refine ⟨gc1, ?_⟩
            rintro r64 M65 ⟨q_rfl, pc1_pb⟩ z_r64 z_M65
            have q_rfl := q_rfl.symm
            subst q_rfl
            have o7 : zin (v41 + 1) := by
              first | with_reducible assumption | omega | exact trivial | with_reducible rfl  -- o7
            refine ⟨o7, ?_⟩
            refine ⟨Int.toNat (20 - (v41 + 1)), by omega, by omega, ?_, ?_, ?_, ?_⟩
            · show r64 = 0 ∨ r64 = 1  -- I43.1.h01b
              exact pc1_pb.b
            · show x - v2 + 1 ≤ (v41 + 1) ∧ (v41 + 1) ≤ x + 1  -- I43.1.hv3
              first | with_reducible assumption | omega | exact trivial | with_reducible rfl
            · first | with_reducible assumption | omega | exact trivial | with_reducible rfl  -- I43.1.rfl
            · show zB r64 (∃ a, gSqr (zg (M 103 1) (M 103 2) (M 115)) f a v16 v2 ∧ a ≤ x ∧ x < a + v2 ∧ a < (v41 + 1))  -- I43.1.hz2
              refine pc1_pb.iff ⟨fun s => ⟨v41, s, by omega, by omega, by omega⟩, fun ⟨a, s, a0, a1, a2⟩ => ?_⟩
              by_cases c : a = v41
              · subst c; exact s
              · exact absurd ⟨a, s, a0, a1, by omega⟩ (hz2.z.1 b6)

abbrev pr_X12_greatestOf (f : Int) (M : zM) : Prop := (mDim M) ∧ (0 ≤ f)
abbrev po_X12_greatestOf (f : Int) (M : zM) (r : Int) (M' : zM) : Prop := (M' = M) ∧ (gGb (zg (M 103 1) (M 103 2) (M 115)) f r) ∧ (0 ≤ r ∧ r ≤ 12)
set_option maxHeartbeats 1000000 in
theorem ok_X12_greatestOf : zSnd zS 145 0 0 yX12_greatestOf cX12_greatestOf 6 (some .int) 2 [2, 0] (F_X12_greatestOf pr_X12_greatestOf po_X12_greatestOf) := by
  refine (sn_X12_greatestOf ok_X12_isSquare).mono ?_
  rintro xs P M hz hR ⟨f, rfl, ⟨hd, hf0⟩, hP⟩
  refine ⟨_, rfl, ?_⟩
  have z_f := zall_h (zall_t hz) (by decide)
  change vc_X12_greatestOf pr_X12_isSquare po_X12_isSquare f P M
  unfold vc_X12_greatestOf
  refine ⟨fun v1 v2 M5 n7 => (n7 : Int) = (13 - v2) ∧ (1 ≤ v2 ∧ v2 ≤ 13) ∧ (M5 = M) ∧ (0 ≤ v1 ∧ v1 < v2) ∧ (∃ a b, gSqr (zg (M 103 1) (M 103 2) (M 115)) f a b v1) ∧ (∀ q a b, 0 ≤ q → q < v2 → gSqr (zg (M 103 1) (M 103 2) (M 115)) f a b q → q ≤ v1), ⟨Int.toNat (13 - 1), by omega, ?_, ?_, ?_, ?_, ?_⟩, ?_⟩
  · show 1 ≤ 1 ∧ 1 ≤ 13  -- I4.0.hv
    first | with_reducible assumption | omega | exact trivial | with_reducible rfl
  · first | with_reducible assumption | omega | exact trivial | with_reducible rfl  -- I4.0.rfl
  · show 0 ≤ 0 ∧ 0 < 1  -- I4.0.h1
    first | with_reducible assumption | omega | exact trivial | with_reducible rfl
  · show ∃ a b, gSqr (zg (M 103 1) (M 103 2) (M 115)) f a b 0  -- I4.0.he
    exact ⟨0, 0, gSqr_0 (by omega)⟩
  · show ∀ q a b, 0 ≤ q → q < 1 → gSqr (zg (M 103 1) (M 103 2) (M 115)) f a b q → q ≤ 0  -- I4.0.hm
    intro q a b q0 q1 _; omega
  rintro v1 v2 M5 n7 ⟨h_n7, hv, q_rfl, h1, he, hm⟩ z_v1 z_v2 z_M5
  have q_rfl := q_rfl.symm
  subst q_rfl
  refine ⟨fun b1 => ?_, fun b1 => ?_⟩
  · -- b1.1
    refine hP _ _ ⟨?_, ?_, ?_⟩
    · show M = M  -- p1.rfl
      first | with_reducible assumption | omega | exact trivial | with_reducible rfl
    · show gGb (zg (M 103 1) (M 103 2) (M 115)) f v1  -- p1.hr
      refine ⟨h1.1, he, fun q a b q0 s => ?_⟩
      by_cases c : q < 1
      · omega
      · have bb := gSqr_in hf0 s (by omega)
        exact hm q a b q0 (by omega) s
    · show 0 ≤ v1 ∧ v1 ≤ 12  -- p1.hb
      first | with_reducible assumption | omega | exact trivial | with_reducible rfl
  · -- b1.2
    refine ⟨fun v15 v16 M19 n21 => (n21 : Int) = (192 - v16) ∧ (v15 = 0 ∨ v15 = 1) ∧ (0 ≤ v16 ∧ v16 ≤ 192) ∧ (M19 = M) ∧ (zB v15 (∃ a, 0 ≤ a ∧ a < v16 ∧ gSqr (zg (M 103 1) (M 103 2) (M 115)) f (a % 16) (a / 16) v2)), ⟨Int.toNat (192 - 0), by omega, ?_, ?_, ?_, ?_⟩, ?_⟩
    · show 0 = 0 ∨ 0 = 1  -- I16.0.h01
      first | with_reducible assumption | omega | exact trivial | with_reducible rfl
    · show 0 ≤ 0 ∧ 0 ≤ 192  -- I16.0.hv2
      first | with_reducible assumption | omega | exact trivial | with_reducible rfl
    · first | with_reducible assumption | omega | exact trivial | with_reducible rfl  -- I16.0.rfl
    · show zB 0 (∃ a, 0 ≤ a ∧ a < 0 ∧ gSqr (zg (M 103 1) (M 103 2) (M 115)) f (a % 16) (a / 16) v2)  -- I16.0.hz
      exact zB.f (by rintro ⟨a, a0, a1, _⟩; omega)
    rintro v15 v16 M19 n21 ⟨h_n21, h01, hv2, q_rfl, hz⟩ z_v15 z_v16 z_M19
    have q_rfl := q_rfl.symm
    subst q_rfl
    intro K53 h_K53
    have k_K53 : (zB v15 (∃ a b, gSqr (zg (M 103 1) (M 103 2) (M 115)) f a b v2)) → K53  := by
      intro  hk
      refine h_K53 ?_
      refine ⟨fun b2 => ?_, fun b2 => ?_⟩
      · -- b2.1
        have o1 : zin (v2 + 1) := by
          first | with_reducible assumption | omega | exact trivial | with_reducible rfl  -- o1
        refine ⟨o1, ?_⟩
        refine ⟨Int.toNat (13 - (v2 + 1)), by omega, by omega, ?_, ?_, ?_, ?_, ?_⟩
        · show 1 ≤ (v2 + 1) ∧ (v2 + 1) ≤ 13  -- I4.1.hv
          first | with_reducible assumption | omega | exact trivial | with_reducible rfl
        · first | with_reducible assumption | omega | exact trivial | with_reducible rfl  -- I4.1.rfl
        · show 0 ≤ v1 ∧ v1 < (v2 + 1)  -- I4.1.h1
          first | with_reducible assumption | omega | exact trivial | with_reducible rfl
        · show ∃ a b, gSqr (zg (M 103 1) (M 103 2) (M 115)) f a b v1  -- I4.1.he
          first | with_reducible assumption | omega | exact trivial | with_reducible rfl
        · show ∀ q a b, 0 ≤ q → q < (v2 + 1) → gSqr (zg (M 103 1) (M 103 2) (M 115)) f a b q → q ≤ v1  -- I4.1.hm
          intro q a b q0 q1 s
          by_cases c : q = v2
          · subst c; exact absurd ⟨a, b, s⟩ (hk.z.1 b2)
          · exact hm q a b q0 (by omega) s
      · -- b2.2
        have o2 : zin (v2 + 1) := by
          first | with_reducible assumption | omega | exact trivial | with_reducible rfl  -- o2
        refine ⟨o2, ?_⟩
        refine ⟨Int.toNat (13 - (v2 + 1)), by omega, by omega, ?_, ?_, ?_, ?_, ?_⟩
        · show 1 ≤ (v2 + 1) ∧ (v2 + 1) ≤ 13  -- I4.2.hv
          first | with_reducible assumption | omega | exact trivial | with_reducible rfl
        · first | with_reducible assumption | omega | exact trivial | with_reducible rfl  -- I4.2.rfl
        · show 0 ≤ v2 ∧ v2 < (v2 + 1)  -- I4.2.h1
          first | with_reducible assumption | omega | exact trivial | with_reducible rfl
        · show ∃ a b, gSqr (zg (M 103 1) (M 103 2) (M 115)) f a b v2  -- I4.2.he
          exact hk.ne.1 b2
        · show ∀ q a b, 0 ≤ q → q < (v2 + 1) → gSqr (zg (M 103 1) (M 103 2) (M 115)) f a b q → q ≤ v2  -- I4.2.hm
          intro q a b q0 q1 s; omega
    refine ⟨fun b3 => ?_, fun b3 => ?_⟩
    · -- b3.1
      refine k_K53 ?_
      · show zB v15 (∃ a b, gSqr (zg (M 103 1) (M 103 2) (M 115)) f a b v2)  -- K53.1.hk
        refine hz.iff ⟨fun ⟨a, _, _, s⟩ => ⟨_, _, s⟩, fun ⟨a, b, s⟩ => ?_⟩
        have bb := gSqr_in hf0 s (by omega)
        exact ⟨16 * b + a, by omega, by omega, by rw [show (16 * b + a) % 16 = a by omega, show (16 * b + a) / 16 = b by omega]; exact s⟩
    · -- b3.2
      refine ⟨fun b4 => ?_, fun b4 => ?_⟩
      · -- b4.1
        refine k_K53 ?_
        · show zB v15 (∃ a b, gSqr (zg (M 103 1) (M 103 2) (M 115)) f a b v2)  -- K53.2.hk
          rw [show v15 = 1 by omega]
          obtain ⟨a, _, _, s⟩ := hz.ne.1 b4
          exact zB.t ⟨_, _, s⟩
      · -- b4.2
        have o3 : 0 ≤ v16 := by
          first | with_reducible assumption | omega | exact trivial | with_reducible rfl  -- o3
        refine ⟨o3, ?_⟩
        have gc1 : pr_X12_isSquare f (v16 % 16) (v16 / 16) v2 M := by
          refine ⟨?_, ?_, ?_, ?_, ?_⟩
          · show mDim M  -- c1.hd
            first | with_reducible assumption | omega | exact trivial | with_reducible rfl
          · show 0 ≤ f  -- c1.hf0
            first | with_reducible assumption | omega | exact trivial | with_reducible rfl
          · show -40 ≤ (v16 % 16) ∧ (v16 % 16) ≤ 40  -- c1.hx
            first | with_reducible assumption | omega | exact trivial | with_reducible rfl
          · show -40 ≤ (v16 / 16) ∧ (v16 / 16) ≤ 40  -- c1.hy
            first | with_reducible assumption | omega | exact trivial | with_reducible rfl
          · show v2 ≤ 100  -- c1.hk
            first | with_reducible assumption | omega | exact trivial | with_reducible rfl
        refine ⟨gc1, ?_⟩
        rintro r40 M41 ⟨q_rfl, pc1_pb⟩ z_r40 z_M41
        have q_rfl := q_rfl.symm
        subst q_rfl
        have o4 : zin (v16 + 1) := by
          first | with_reducible assumption | omega | exact trivial | with_reducible rfl  -- o4
        refine ⟨o4, ?_⟩
        refine ⟨Int.toNat (192 - (v16 + 1)), by omega, by omega, ?_, ?_, ?_, ?_⟩
        · show r40 = 0 ∨ r40 = 1  -- I16.1.h01
          exact pc1_pb.b
        · show 0 ≤ (v16 + 1) ∧ (v16 + 1) ≤ 192  -- I16.1.hv2
          first | with_reducible assumption | omega | exact trivial | with_reducible rfl
        · first | with_reducible assumption | omega | exact trivial | with_reducible rfl  -- I16.1.rfl
        · show zB r40 (∃ a, 0 ≤ a ∧ a < (v16 + 1) ∧ gSqr (zg (M 103 1) (M 103 2) (M 115)) f (a % 16) (a / 16) v2)  -- I16.1.hz
          refine pc1_pb.iff ⟨fun s => ⟨v16, hv2.1, by omega, s⟩, fun ⟨a, a0, a1, s⟩ => ?_⟩
          by_cases c : a = v16
          · subst c; exact s
          · exact absurd ⟨a, a0, by omega, s⟩ (hz.z.1 b4)

abbrev pr_X12_radiusOf (f : Int) (x : Int) (y : Int) (M : zM) : Prop := (mDim M) ∧ (0 ≤ f) ∧ (0 ≤ x ∧ x < 16) ∧ (0 ≤ y ∧ y < 12)
abbrev po_X12_radiusOf (f : Int) (x : Int) (y : Int) (M : zM) (r : Int) (M' : zM) : Prop := (M' = M) ∧ (gRad (zg (M 103 1) (M 103 2) (M 115)) f x y r)
set_option maxHeartbeats 1000000 in
theorem ok_X12_radiusOf : zSnd zS 145 0 0 yX12_radiusOf cX12_radiusOf 5 (some .int) 2 [2, 0, 0, 0] (F_X12_radiusOf pr_X12_radiusOf po_X12_radiusOf) := by
  refine (sn_X12_radiusOf ok_X12_isSquare).mono ?_
  rintro xs P M hz hR ⟨f, x, y, rfl, ⟨hd, hf0, hx, hy⟩, hP⟩
  refine ⟨_, _, _, rfl, ?_⟩
  have z_f := zall_h (zall_t hz) (by decide)
  have z_x := zall_h (zall_t (zall_t hz)) (by decide)
  have z_y := zall_h (zall_t (zall_t (zall_t hz))) (by decide)
  change vc_X12_radiusOf pr_X12_isSquare po_X12_isSquare f x y P M
  unfold vc_X12_radiusOf
  refine ⟨fun v1 M3 n5 => (n5 : Int) = (13 - v1) ∧ (0 ≤ v1 ∧ v1 ≤ 12) ∧ (M3 = M) ∧ (∀ q, 1 ≤ q → q ≤ v1 → gSqr (zg (M 103 1) (M 103 2) (M 115)) f (x - q) (y - q) (2 * q + 1)), ⟨Int.toNat (13 - 0), by omega, ?_, ?_, ?_⟩, ?_⟩
  · show 0 ≤ 0 ∧ 0 ≤ 12  -- I3.0.hv
    first | with_reducible assumption | omega | exact trivial | with_reducible rfl
  · first | with_reducible assumption | omega | exact trivial | with_reducible rfl  -- I3.0.rfl
  · show ∀ q, 1 ≤ q → q ≤ 0 → gSqr (zg (M 103 1) (M 103 2) (M 115)) f (x - q) (y - q) (2 * q + 1)  -- I3.0.hq
    intro q q0 q1; omega
  rintro v1 M3 n5 ⟨h_n5, hv, q_rfl, hq⟩ z_v1 z_M3
  have q_rfl := q_rfl.symm
  subst q_rfl
  have o1 : zin ((2 * v1) + 3) := by
    first | with_reducible assumption | omega | exact trivial | with_reducible rfl  -- o1
  refine ⟨o1, ?_⟩
  have o2 : zin ((y - v1) - 1) := by
    first | with_reducible assumption | omega | exact trivial | with_reducible rfl  -- o2
  refine ⟨o2, ?_⟩
  have o3 : zin ((x - v1) - 1) := by
    first | with_reducible assumption | omega | exact trivial | with_reducible rfl  -- o3
  refine ⟨o3, ?_⟩
  have gc1 : pr_X12_isSquare f ((x - v1) - 1) ((y - v1) - 1) ((2 * v1) + 3) M := by
    refine ⟨?_, ?_, ?_, ?_, ?_⟩
    · show mDim M  -- c1.hd
      first | with_reducible assumption | omega | exact trivial | with_reducible rfl
    · show 0 ≤ f  -- c1.hf0
      first | with_reducible assumption | omega | exact trivial | with_reducible rfl
    · show -40 ≤ ((x - v1) - 1) ∧ ((x - v1) - 1) ≤ 40  -- c1.hx
      first | with_reducible assumption | omega | exact trivial | with_reducible rfl
    · show -40 ≤ ((y - v1) - 1) ∧ ((y - v1) - 1) ≤ 40  -- c1.hy
      first | with_reducible assumption | omega | exact trivial | with_reducible rfl
    · show ((2 * v1) + 3) ≤ 100  -- c1.hk
      first | with_reducible assumption | omega | exact trivial | with_reducible rfl
  refine ⟨gc1, ?_⟩
  rintro r15 M16 ⟨q_rfl, pc1_pb⟩ z_r15 z_M16
  have q_rfl := q_rfl.symm
  subst q_rfl
  refine ⟨fun b1 => ?_, fun b1 => ?_⟩
  · -- b1.1
    refine hP _ _ ⟨?_, ?_⟩
    · show M = M  -- p1.rfl
      first | with_reducible assumption | omega | exact trivial | with_reducible rfl
    · show gRad (zg (M 103 1) (M 103 2) (M 115)) f x y v1  -- p1.hr
      exact ⟨hv.1, hq, pc1_pb.z.1 b1⟩
  · -- b1.2
    have s := pc1_pb.ne.1 b1
    have bb := gSqr_in hf0 s (by omega)
    have o4 : zin (v1 + 1) := by
      first | with_reducible assumption | omega | exact trivial | with_reducible rfl  -- o4
    refine ⟨o4, ?_⟩
    refine ⟨Int.toNat (13 - (v1 + 1)), by omega, by omega, ?_, ?_, ?_⟩
    · show 0 ≤ (v1 + 1) ∧ (v1 + 1) ≤ 12  -- I3.1.hv
      first | with_reducible assumption | omega | exact trivial | with_reducible rfl
    · first | with_reducible assumption | omega | exact trivial | with_reducible rfl  -- I3.1.rfl
    · show ∀ q, 1 ≤ q → q ≤ (v1 + 1) → gSqr (zg (M 103 1) (M 103 2) (M 115)) f (x - q) (y - q) (2 * q + 1)  -- I3.1.hq
      intro q q0 q1
      by_cases c : q = v1 + 1
      · rw [c, show x - (v1 + 1) = x - v1 - 1 by omega, show y - (v1 + 1) = y - v1 - 1 by omega, show 2 * (v1 + 1) + 1 = 2 * v1 + 3 by omega]; exact s
      · exact hq q q0 (by omega)

