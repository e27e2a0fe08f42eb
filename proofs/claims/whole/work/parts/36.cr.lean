/-- what the reference's turns cost without a corner -/
def gPm (u : Int → Int) (T t : Int) : Int := if u t = u (if t + 1 < T then t + 1 else 0) then 25 else 10
theorem gPm_b {u : Int → Int} {T t : Int} : 10 ≤ gPm u T t ∧ gPm u T t ≤ 25 := by unfold gPm; split <;> omega
abbrev pr_X12_costOf (t : Int) (a : Int) (b : Int) (cost : Int) (M : zM) : Prop := (1 ≤ M 103 42 ∧ M 103 42 ≤ 412) ∧ (0 ≤ t ∧ t < M 103 42) ∧ (b = 0 ∨ b = 1) ∧ (0 ≤ cost ∧ cost ≤ 99)
abbrev po_X12_costOf (t : Int) (a : Int) (b : Int) (cost : Int) (M : zM) (r : Int) (M' : zM) : Prop := M' = M ∧ r = if a = 1 then (if b = 1 then 1000000 else cost) else if b = 0 then gPm (M 122) (M 103 42) t else 10
set_option maxHeartbeats 1000000 in
theorem ok_X12_costOf : zSnd zS 145 0 0 yX12_costOf cX12_costOf 5 (some .int) 0 [2, 0, 0, 0, 0] (F_X12_costOf pr_X12_costOf po_X12_costOf) := by
  refine (sn_X12_costOf).mono ?_
  rintro xs P M hz hR ⟨t, a, b, cost, rfl, ⟨hT, ht, hb, hc⟩, hP⟩
  refine ⟨_, _, _, _, rfl, ?_⟩
  have z_t := zall_h (zall_t hz) (by decide)
  have z_a := zall_h (zall_t (zall_t hz)) (by decide)
  have z_b := zall_h (zall_t (zall_t (zall_t hz))) (by decide)
  have z_cost := zall_h (zall_t (zall_t (zall_t (zall_t hz)))) (by decide)
  change vc_X12_costOf t a b cost P M
  unfold vc_X12_costOf
  have em : (t + 1) % M 103 42 = if t + 1 < M 103 42 then t + 1 else 0 := by
    split
    · rename_i c; exact Int.emod_eq_of_lt (by omega) c
    · rename_i c; rw [show t + 1 = M 103 42 by omega, Int.emod_self]
  have eb : 0 ≤ (t + 1) % M 103 42 ∧ (t + 1) % M 103 42 < M 103 42 := ⟨Int.emod_nonneg _ (by omega), Int.emod_lt_of_pos _ (by omega)⟩
  refine ⟨fun b1 => ?_, fun b1 => ?_⟩
  · -- b1.1
    refine ⟨fun b2 => ?_, fun b2 => ?_⟩
    · -- b2.1
      have o1 : zin (10 + 0) := by
        first | with_reducible assumption | omega | exact trivial | with_reducible rfl  -- o1
      refine ⟨o1, ?_⟩
      refine hP _ _ ⟨rfl, ?_⟩
      · rw [if_neg b1, if_neg b2]; rfl  -- p1
    · -- b2.2
      have o2 : ((0 : Int) ≤ t ∧ t < 900) := by
        first | with_reducible assumption | omega | exact trivial | with_reducible rfl  -- o2
      refine ⟨o2, ?_⟩
      have o3 : zin (t + 1) := by
        first | with_reducible assumption | omega | exact trivial | with_reducible rfl  -- o3
      refine ⟨o3, ?_⟩
      have o4 : (0 ≤ (t + 1) ∧ 0 < (M 103 42)) := by
        first | with_reducible assumption | omega | exact trivial | with_reducible rfl  -- o4
      refine ⟨o4, ?_⟩
      have o5 : ((0 : Int) ≤ ((t + 1) % (M 103 42)) ∧ ((t + 1) % (M 103 42)) < 900) := by
        first | with_reducible assumption | omega | exact trivial | with_reducible rfl  -- o5
      refine ⟨o5, ?_⟩
      refine ⟨fun b3 => ?_, fun b3 => ?_⟩
      · -- b3.1
        have o6 : zin (10 + 0) := by
          first | with_reducible assumption | omega | exact trivial | with_reducible rfl  -- o6
        refine ⟨o6, ?_⟩
        refine hP _ _ ⟨rfl, ?_⟩
        · rw [if_neg b1, if_pos b2]; unfold gPm; rw [← em, if_neg b3]; rfl  -- p2
      · -- b3.2
        have o7 : zin (10 + 15) := by
          first | with_reducible assumption | omega | exact trivial | with_reducible rfl  -- o7
        refine ⟨o7, ?_⟩
        refine hP _ _ ⟨rfl, ?_⟩
        · rw [if_neg b1, if_pos b2]; unfold gPm; rw [← em, if_pos b3]; rfl  -- p3
  · -- b1.2
    refine ⟨fun b4 => ?_, fun b4 => ?_⟩
    · -- b4.1
      refine hP _ _ ⟨rfl, ?_⟩
      · rw [if_pos b1, if_neg b4]  -- p4
    · -- b4.2
      refine hP _ _ ⟨rfl, ?_⟩
      · rw [if_pos b1, if_pos b4]  -- p5

abbrev pr_X12_findLeast (s : Int) (cost : Int) (M : zM) : Prop := (1 ≤ M 103 42 ∧ M 103 42 ≤ 412) ∧ (0 ≤ cost ∧ cost ≤ 99) ∧ (s = 0 ∨ s = 1)
abbrev po_X12_findLeast (s : Int) (cost : Int) (M : zM) (M' : zM) : Prop := (∀ c i, c ≠ 123 → M' c i = M c i) ∧ (∀ t, 0 ≤ t → t < M 103 42 → M' 123 (2 * t) = min 1000000 (gA0 (gPm (M 122) (M 103 42)) cost (M 103 42) s t) ∧ M' 123 (2 * t + 1) = min 1000000 (gA1 (gPm (M 122) (M 103 42)) cost (M 103 42) s t))
set_option maxHeartbeats 1000000 in
theorem ok_X12_findLeast : zSnd zS 145 0 0 yX12_findLeast cX12_findLeast 9 none 1 [2, 0, 0] (F_X12_findLeast pr_X12_findLeast po_X12_findLeast) := by
  refine (sn_X12_findLeast ok_X12_costOf).mono ?_
  rintro xs P M hz hR ⟨s, cost, rfl, ⟨hT, hc, hs⟩, hP⟩
  refine ⟨_, _, rfl, ?_⟩
  have z_s := zall_h (zall_t hz) (by decide)
  have z_cost := zall_h (zall_t (zall_t hz)) (by decide)
  change vc_X12_findLeast pr_X12_costOf po_X12_costOf s cost P M
  unfold vc_X12_findLeast
  have bb : ∀ t, 0 ≤ t → t ≤ M 103 42 → _ := fun t t0 t1 => gA_b (p := gPm (M 122) (M 103 42)) (cost := cost) (T := M 103 42) (s := s) (fun t _ _ => gPm_b) hc (by omega) t0 t1
  have aT := @gA_T (gPm (M 122) (M 103 42)) cost (M 103 42) s
  have o1 : zin ((M 103 42) - 1) := by
    first | with_reducible assumption | omega | exact trivial | with_reducible rfl  -- o1
  refine ⟨o1, ?_⟩
  refine ⟨fun v1 M4 n6 => (n6 : Int) = (v1 + 1) ∧ (-1 ≤ v1 ∧ v1 < M 103 42) ∧ (∀ c i, c ≠ 123 → M4 c i = M c i) ∧ (∀ t, v1 < t → t < M 103 42 → M4 123 (2 * t) = min 1000000 (gA0 (gPm (M 122) (M 103 42)) cost (M 103 42) s t) ∧ M4 123 (2 * t + 1) = min 1000000 (gA1 (gPm (M 122) (M 103 42)) cost (M 103 42) s t)), ⟨Int.toNat (((M 103 42) - 1) + 1), by omega, ?_, ?_, ?_⟩, ?_⟩
  · show -1 ≤ ((M 103 42) - 1) ∧ ((M 103 42) - 1) < M 103 42  -- I7.0.hv
    first | with_reducible assumption | omega | exact trivial | with_reducible rfl
  · show ∀ c i, c ≠ 123 → M c i = M c i  -- I7.0.hf
    first | with_reducible assumption | omega | exact trivial | with_reducible rfl
  · show ∀ t, ((M 103 42) - 1) < t → t < M 103 42 → M 123 (2 * t) = min 1000000 (gA0 (gPm (M 122) (M 103 42)) cost (M 103 42) s t) ∧ M 123 (2 * t + 1) = min 1000000 (gA1 (gPm (M 122) (M 103 42)) cost (M 103 42) s t)  -- I7.0.hA
    intro t t0 t1; omega
  rintro v1 M4 n6 ⟨h_n6, hv, hf, hA⟩ z_v1 z_M4
  refine ⟨fun b1 => ?_, fun b1 => ?_⟩
  · -- b1.1
    refine hP _ ⟨?_, ?_⟩
    · show ∀ c i, c ≠ 123 → M4 c i = M c i  -- p1.hf
      first | with_reducible assumption | omega | exact trivial | with_reducible rfl
    · show ∀ t, 0 ≤ t → t < M 103 42 → M4 123 (2 * t) = min 1000000 (gA0 (gPm (M 122) (M 103 42)) cost (M 103 42) s t) ∧ M4 123 (2 * t + 1) = min 1000000 (gA1 (gPm (M 122) (M 103 42)) cost (M 103 42) s t)  -- p1.hA
      intro t t0 t1; exact hA t (by omega) t1
  · -- b1.2
    refine ⟨fun v14 M16 n18 => (n18 : Int) = (2 - v14) ∧ (0 ≤ v14 ∧ v14 ≤ 2) ∧ (∀ c i, c ≠ 123 → M16 c i = M c i) ∧ (∀ t, v1 < t → t < M 103 42 → M16 123 (2 * t) = min 1000000 (gA0 (gPm (M 122) (M 103 42)) cost (M 103 42) s t) ∧ M16 123 (2 * t + 1) = min 1000000 (gA1 (gPm (M 122) (M 103 42)) cost (M 103 42) s t)) ∧ (0 < v14 → M16 123 (2 * v1) = min 1000000 (gA0 (gPm (M 122) (M 103 42)) cost (M 103 42) s v1)) ∧ (1 < v14 → M16 123 (2 * v1 + 1) = min 1000000 (gA1 (gPm (M 122) (M 103 42)) cost (M 103 42) s v1)), ⟨Int.toNat (2 - 0), by omega, ?_, ?_, ?_, ?_, ?_⟩, ?_⟩
    · show 0 ≤ 0 ∧ 0 ≤ 2  -- I14.0.hv2
      first | with_reducible assumption | omega | exact trivial | with_reducible rfl
    · show ∀ c i, c ≠ 123 → M4 c i = M c i  -- I14.0.hf2
      first | with_reducible assumption | omega | exact trivial | with_reducible rfl
    · show ∀ t, v1 < t → t < M 103 42 → M4 123 (2 * t) = min 1000000 (gA0 (gPm (M 122) (M 103 42)) cost (M 103 42) s t) ∧ M4 123 (2 * t + 1) = min 1000000 (gA1 (gPm (M 122) (M 103 42)) cost (M 103 42) s t)  -- I14.0.hA2
      first | with_reducible assumption | omega | exact trivial | with_reducible rfl
    · show 0 < 0 → M4 123 (2 * v1) = min 1000000 (gA0 (gPm (M 122) (M 103 42)) cost (M 103 42) s v1)  -- I14.0.h0
      first | with_reducible assumption | omega | exact trivial | with_reducible rfl
    · show 1 < 0 → M4 123 (2 * v1 + 1) = min 1000000 (gA1 (gPm (M 122) (M 103 42)) cost (M 103 42) s v1)  -- I14.0.h1
      first | with_reducible assumption | omega | exact trivial | with_reducible rfl
    rintro v14 M16 n18 ⟨h_n18, hv2, hf2, hA2, h0, h1⟩ z_v14 z_M16
    have sA := @gA_s (gPm (M 122) (M 103 42)) cost (M 103 42) s v1 hv.2
    have bN := bb (v1 + 1) (by omega) (by omega)
    have pb := @gPm_b (M 122) (M 103 42) v1
    refine ⟨fun b2 => ?_, fun b2 => ?_⟩
    · -- b2.1
      have o2 : zin (v1 + (-1)) := by
        first | with_reducible assumption | omega | exact trivial | with_reducible rfl  -- o2
      refine ⟨o2, ?_⟩
      refine ⟨Int.toNat ((v1 + (-1)) + 1), by omega, by omega, ?_, ?_, ?_⟩
      · show -1 ≤ (v1 + (-1)) ∧ (v1 + (-1)) < M 103 42  -- I7.1.hv
        first | with_reducible assumption | omega | exact trivial | with_reducible rfl
      · show ∀ c i, c ≠ 123 → M16 c i = M c i  -- I7.1.hf
        first | with_reducible assumption | omega | exact trivial | with_reducible rfl
      · show ∀ t, (v1 + (-1)) < t → t < M 103 42 → M16 123 (2 * t) = min 1000000 (gA0 (gPm (M 122) (M 103 42)) cost (M 103 42) s t) ∧ M16 123 (2 * t + 1) = min 1000000 (gA1 (gPm (M 122) (M 103 42)) cost (M 103 42) s t)  -- I7.1.hA
        intro t t0 t1
        by_cases c : t = v1
        · subst c; exact ⟨h0 (by omega), h1 (by omega)⟩
        · exact hA2 t (by omega) t1
    · -- b2.2
      refine ⟨fun v30 v31 M34 n36 => (n36 : Int) = (2 - v31) ∧ (0 ≤ v31 ∧ v31 ≤ 2) ∧ (M34 = M16) ∧ (0 ≤ v30 ∧ v30 ≤ 1000000) ∧ (v31 = 0 → v30 = 1000000) ∧ (v31 = 1 → v30 = min 1000000 ((if v14 = 1 then cost else gPm (M 122) (M 103 42) v1) + min 1000000 (gA0 (gPm (M 122) (M 103 42)) cost (M 103 42) s (v1 + 1)))) ∧ (v31 = 2 → v30 = min 1000000 (if v14 = 1 then gA1 (gPm (M 122) (M 103 42)) cost (M 103 42) s v1 else gA0 (gPm (M 122) (M 103 42)) cost (M 103 42) s v1)), ⟨Int.toNat (2 - 0), by omega, ?_, ?_, ?_, ?_, ?_, ?_⟩, ?_⟩
      · show 0 ≤ 0 ∧ 0 ≤ 2  -- I28.0.hv3
        first | with_reducible assumption | omega | exact trivial | with_reducible rfl
      · first | with_reducible assumption | omega | exact trivial | with_reducible rfl  -- I28.0.rfl
      · show 0 ≤ 1000000 ∧ 1000000 ≤ 1000000  -- I28.0.hr
        first | with_reducible assumption | omega | exact trivial | with_reducible rfl
      · show 0 = 0 → 1000000 = 1000000  -- I28.0.hb0
        first | with_reducible assumption | omega | exact trivial | with_reducible rfl
      · show 0 = 1 → 1000000 = min 1000000 ((if v14 = 1 then cost else gPm (M 122) (M 103 42) v1) + min 1000000 (gA0 (gPm (M 122) (M 103 42)) cost (M 103 42) s (v1 + 1)))  -- I28.0.hb1
        first | with_reducible assumption | omega | exact trivial | with_reducible rfl
      · show 0 = 2 → 1000000 = min 1000000 (if v14 = 1 then gA1 (gPm (M 122) (M 103 42)) cost (M 103 42) s v1 else gA0 (gPm (M 122) (M 103 42)) cost (M 103 42) s v1)  -- I28.0.hb2
        first | with_reducible assumption | omega | exact trivial | with_reducible rfl
      rintro v30 v31 M34 n36 ⟨h_n36, hv3, q_rfl, hr, hb0, hb1, hb2⟩ z_v30 z_v31 z_M34
      have q_rfl := q_rfl.symm
      subst q_rfl
      have w42 := hf2 103 42 (by decide)
      have w122 : M16 122 = M 122 := funext fun i => hf2 122 i (by decide)
      refine ⟨fun b3 => ?_, fun b3 => ?_⟩
      · -- b3.1
        have e30 := hb2 (by omega)
        have o3 : ((0 : Int) ≤ ((2 * v1) + v14) ∧ ((2 * v1) + v14) < 1800) := by
          first | with_reducible assumption | omega | exact trivial | with_reducible rfl  -- o3
        refine ⟨o3, ?_⟩
        intro M45 e_M45
        have o4 : zin (v14 + 1) := by
          first | with_reducible assumption | omega | exact trivial | with_reducible rfl  -- o4
        refine ⟨o4, ?_⟩
        refine ⟨Int.toNat (2 - (v14 + 1)), by omega, by omega, ?_, ?_, ?_, ?_, ?_⟩
        · show 0 ≤ (v14 + 1) ∧ (v14 + 1) ≤ 2  -- I14.1.hv2
          first | with_reducible assumption | omega | exact trivial | with_reducible rfl
        · show ∀ c i, c ≠ 123 → M45 c i = M c i  -- I14.1.hf2
          intro c i h; rw [e_M45, zset_n _ (.inl h)]; exact hf2 c i h
        · show ∀ t, v1 < t → t < M 103 42 → M45 123 (2 * t) = min 1000000 (gA0 (gPm (M 122) (M 103 42)) cost (M 103 42) s t) ∧ M45 123 (2 * t + 1) = min 1000000 (gA1 (gPm (M 122) (M 103 42)) cost (M 103 42) s t)  -- I14.1.hA2
          intro t t0 t1; rw [e_M45, zset_n _ (by omega), zset_n _ (by omega)]; exact hA2 t t0 t1
        · show 0 < (v14 + 1) → M45 123 (2 * v1) = min 1000000 (gA0 (gPm (M 122) (M 103 42)) cost (M 103 42) s v1)  -- I14.1.h0
          intro _
          by_cases c : v14 = 0
          · rw [e_M45, c, show 2 * v1 + 0 = 2 * v1 by omega, zset_s, e30, c, if_neg (by decide)]
          · rw [e_M45, zset_n _ (by omega)]; exact h0 (by omega)
        · show 1 < (v14 + 1) → M45 123 (2 * v1 + 1) = min 1000000 (gA1 (gPm (M 122) (M 103 42)) cost (M 103 42) s v1)  -- I14.1.h1
          intro _
          have c : v14 = 1 := by omega
          rw [e_M45, c, zset_s, e30, c, if_pos rfl]
      · -- b3.2
        intro K73 h_K73
        have k_K73 : ∀ (v52 : Int), (v52 = min 1000000 (if v31 = 0 then gA0 (gPm (M 122) (M 103 42)) cost (M 103 42) s (v1 + 1) else gA1 (gPm (M 122) (M 103 42)) cost (M 103 42) s (v1 + 1))) → K73 v52 := by
          intro v52 hk
          refine h_K73 _ ?_
          intro z_v52
          have gc1 : pr_X12_costOf v1 v14 v31 cost M16 := by
            refine ⟨?_, ?_, ?_, ?_⟩
            · show 1 ≤ M16 103 42 ∧ M16 103 42 ≤ 412  -- c1.hT
              omega
            · show 0 ≤ v1 ∧ v1 < M16 103 42  -- c1.ht
              omega
            · show v31 = 0 ∨ v31 = 1  -- c1.hb
              first | with_reducible assumption | omega | exact trivial | with_reducible rfl
            · show 0 ≤ cost ∧ cost ≤ 99  -- c1.hc
              first | with_reducible assumption | omega | exact trivial | with_reducible rfl
          refine ⟨gc1, ?_⟩
          rintro r54 M55 ⟨q_rfl, e_r54⟩ z_r54 z_M55
          have q_rfl := q_rfl.symm
          subst q_rfl
          rw [w122, w42] at e_r54
          have key : v31 + 1 = 1 ∨ v31 + 1 = 2 := by omega
          have st1 : v31 = 0 → r54 + v52 = (if v14 = 1 then cost else gPm (M 122) (M 103 42) v1) + min 1000000 (gA0 (gPm (M 122) (M 103 42)) cost (M 103 42) s (v1 + 1)) := fun c => by
            rw [hk, e_r54, c]
            simp
          have st2 : v31 = 1 → min v30 (r54 + v52) = min 1000000 (if v14 = 1 then gA1 (gPm (M 122) (M 103 42)) cost (M 103 42) s v1 else gA0 (gPm (M 122) (M 103 42)) cost (M 103 42) s v1) := fun c => by
            rw [hk, e_r54, c, hb1 c]
            by_cases c2 : v14 = 1
            · rw [if_pos c2, if_pos c2, if_pos c2, sA.2]; simp; omega
            · rw [if_neg c2, if_neg c2, if_neg c2, sA.1]; simp; omega
          have o5 : zin (r54 + v52) := by
            rw [e_r54, hk]; split <;> split <;> omega
          refine ⟨o5, ?_⟩
          refine ⟨fun b4 => ?_, fun b4 => ?_⟩
          · -- b4.1
            have o6 : zin (v31 + 1) := by
              first | with_reducible assumption | omega | exact trivial | with_reducible rfl  -- o6
            refine ⟨o6, ?_⟩
            refine ⟨Int.toNat (2 - (v31 + 1)), by omega, by omega, ?_, ?_, ?_, ?_, ?_, ?_⟩
            · show 0 ≤ (v31 + 1) ∧ (v31 + 1) ≤ 2  -- I28.1.hv3
              first | with_reducible assumption | omega | exact trivial | with_reducible rfl
            · first | with_reducible assumption | omega | exact trivial | with_reducible rfl  -- I28.1.rfl
            · show 0 ≤ v30 ∧ v30 ≤ 1000000  -- I28.1.hr
              first | with_reducible assumption | omega | exact trivial | with_reducible rfl
            · show (v31 + 1) = 0 → v30 = 1000000  -- I28.1.hb0
              intro c; omega
            · show (v31 + 1) = 1 → v30 = min 1000000 ((if v14 = 1 then cost else gPm (M 122) (M 103 42) v1) + min 1000000 (gA0 (gPm (M 122) (M 103 42)) cost (M 103 42) s (v1 + 1)))  -- I28.1.hb1
              intro c; have := st1 (by omega); have := hb0 (by omega); omega
            · show (v31 + 1) = 2 → v30 = min 1000000 (if v14 = 1 then gA1 (gPm (M 122) (M 103 42)) cost (M 103 42) s v1 else gA0 (gPm (M 122) (M 103 42)) cost (M 103 42) s v1)  -- I28.1.hb2
              intro c; have := st2 (by omega); omega
          · -- b4.2
            have o7 : zin (v31 + 1) := by
              first | with_reducible assumption | omega | exact trivial | with_reducible rfl  -- o7
            refine ⟨o7, ?_⟩
            refine ⟨Int.toNat (2 - (v31 + 1)), by omega, by omega, ?_, ?_, ?_, ?_, ?_, ?_⟩
            · show 0 ≤ (v31 + 1) ∧ (v31 + 1) ≤ 2  -- I28.2.hv3
              first | with_reducible assumption | omega | exact trivial | with_reducible rfl
            · first | with_reducible assumption | omega | exact trivial | with_reducible rfl  -- I28.2.rfl
            · show 0 ≤ (r54 + v52) ∧ (r54 + v52) ≤ 1000000  -- I28.2.hr
              rw [e_r54, hk] at b4 ⊢; split at b4 <;> split at b4 <;> omega
            · show (v31 + 1) = 0 → (r54 + v52) = 1000000  -- I28.2.hb0
              intro c; omega
            · show (v31 + 1) = 1 → (r54 + v52) = min 1000000 ((if v14 = 1 then cost else gPm (M 122) (M 103 42) v1) + min 1000000 (gA0 (gPm (M 122) (M 103 42)) cost (M 103 42) s (v1 + 1)))  -- I28.2.hb1
              intro c; have := st1 (by omega); have := hb0 (by omega); omega
            · show (v31 + 1) = 2 → (r54 + v52) = min 1000000 (if v14 = 1 then gA1 (gPm (M 122) (M 103 42)) cost (M 103 42) s v1 else gA0 (gPm (M 122) (M 103 42)) cost (M 103 42) s v1)  -- I28.2.hb2
              intro c; have := st2 (by omega); omega
        have o8 : zin ((M16 103 42) - 1) := by
          first | with_reducible assumption | omega | exact trivial | with_reducible rfl  -- o8
        refine ⟨o8, ?_⟩
        refine ⟨fun b5 => ?_, fun b5 => ?_⟩
        · -- b5.1
          have o9 : ((0 : Int) ≤ (((2 * v1) + 2) + v31) ∧ (((2 * v1) + 2) + v31) < 1800) := by
            first | with_reducible assumption | omega | exact trivial | with_reducible rfl  -- o9
          refine ⟨o9, ?_⟩
          refine k_K73 _ ?_
          · show (M16 123 (((2 * v1) + 2) + v31)) = min 1000000 (if v31 = 0 then gA0 (gPm (M 122) (M 103 42)) cost (M 103 42) s (v1 + 1) else gA1 (gPm (M 122) (M 103 42)) cost (M 103 42) s (v1 + 1))  -- K73.1.hk
            have h := hA2 (v1 + 1) (by omega) (by omega)
            by_cases c : v31 = 0
            · rw [if_pos c, c, ← h.1, show 2 * v1 + 2 + 0 = 2 * (v1 + 1) by omega]
            · rw [if_neg c, show v31 = 1 by omega, ← h.2, show 2 * v1 + 2 + 1 = 2 * (v1 + 1) + 1 by omega]
        · -- b5.2
          refine ⟨fun b6 => ?_, fun b6 => ?_⟩
          · -- b6.1
            refine k_K73 _ ?_
            · show 1000000 = min 1000000 (if v31 = 0 then gA0 (gPm (M 122) (M 103 42)) cost (M 103 42) s (v1 + 1) else gA1 (gPm (M 122) (M 103 42)) cost (M 103 42) s (v1 + 1))  -- K73.2.hk
              rw [show v1 + 1 = M 103 42 by omega, aT.1, aT.2]
              by_cases c : v31 = 0
              · rw [if_pos c, if_neg (by omega)]; decide
              · rw [if_neg c, if_neg (by omega)]; decide
          · -- b6.2
            refine k_K73 _ ?_
            · show 0 = min 1000000 (if v31 = 0 then gA0 (gPm (M 122) (M 103 42)) cost (M 103 42) s (v1 + 1) else gA1 (gPm (M 122) (M 103 42)) cost (M 103 42) s (v1 + 1))  -- K73.3.hk
              rw [show v1 + 1 = M 103 42 by omega, aT.1, aT.2]
              by_cases c : v31 = 0
              · rw [if_pos c, if_pos (by omega)]; decide
              · rw [if_neg c, if_pos (by omega)]; decide

/-- along the best row all stays below the bound -/
theorem gCs_fin {p : Int → Int} {cost T s : Int} (hp : ∀ t, 0 ≤ t → t < T → 10 ≤ p t ∧ p t ≤ 25) (hc : 0 ≤ cost ∧ cost ≤ 99) (hT : T ≤ 412) (hs : s = 0 ∨ s = 1) (h0 : (if s = 1 then gA1 p cost T s 0 else gA0 p cost T s 0) < 1000000) : ∀ t, 0 ≤ t → t ≤ T → (if gCs p cost T s t = 1 then gA1 p cost T s t else gA0 p cost T s t) < 1000000 := by
  apply zind (P := fun t => t ≤ T → (if gCs p cost T s t = 1 then gA1 p cost T s t else gA0 p cost T s t) < 1000000)
  · intro _; exact h0
  · intro v hv ih c
    have i := ih (by omega)
    have sA := @gA_s p cost T s v (by omega)
    have pb := hp v hv (by omega)
    rw [gCs_s hv]
    by_cases k : gCs p cost T s v = 1
    · rw [if_pos k] at i
      rw [if_pos k, if_neg (by decide)]
      omega
    · rw [if_neg k] at i
      rw [if_neg k]
      by_cases k2 : gA0 p cost T s v = p v + gA0 p cost T s (v + 1)
      · rw [if_pos k2, if_neg (by decide)]; omega
      · rw [if_neg k2, if_pos rfl]; omega
theorem gPm_e {w : Int → Int} {n T : Int} {tp u : Int → Int} (hu : ∀ t, 0 ≤ t → t < T → u t = zTurn w n (tp t)) {t : Int} (t0 : 0 ≤ t) (t1 : t < T) : gPm u T t = gPr w n T tp t := by
  unfold gPm gPr
  rw [hu t t0 t1]
  by_cases c : t + 1 < T
  · rw [if_pos c, hu (t + 1) (by omega) c]
  · rw [if_neg c, hu 0 (by omega) (by omega)]
abbrev pr_X12_findCorners (cost : Int) (M : zM) : Prop := (1 ≤ M 103 38 ∧ M 103 38 ≤ 412) ∧ (∀ k, 0 ≤ k → k < M 103 38 → 0 ≤ M 118 k ∧ M 118 k < 4) ∧ (∀ k, 0 ≤ k → k < M 103 38 → (M 118 k - M 118 (if k = 0 then M 103 38 - 1 else k - 1)) % 4 ≠ 2) ∧ (1 ≤ zc (fun i => zTurn (M 118) (M 103 38) i ≠ 0) (M 103 38)) ∧ (0 ≤ cost ∧ cost ≤ 99)
abbrev po_X12_findCorners (cost : Int) (M : zM) (r : Int) (M' : zM) : Prop := (∀ c i, c ≠ 121 → c ≠ 122 → c ≠ 123 → c ≠ 124 → ¬ (c = 103 ∧ i = 42) → M' c i = M c i) ∧ (gTP (M 118) (M 103 38) (M' 103 42) (M' 121)) ∧ (r = gLs (gPr (M 118) (M 103 38) (M' 103 42) (M' 121)) cost (M' 103 42)) ∧ (∀ i, 0 ≤ i → i < M 103 38 → M' 124 i = gCa (M 118) (M 103 38) (M' 103 42) (M' 121) cost (gSt (gPr (M 118) (M 103 38) (M' 103 42) (M' 121)) cost (M' 103 42)) i)
set_option maxHeartbeats 4000000 in
theorem ok_X12_findCorners : zSnd zS 145 0 0 yX12_findCorners cX12_findCorners 7 (some .int) 2 [2, 0] (F_X12_findCorners pr_X12_findCorners po_X12_findCorners) := by
  refine (sn_X12_findCorners ok_X12_findTurns ok_X12_findLeast ok_X12_costOf).mono ?_
  rintro xs P M hz hR ⟨cost, rfl, ⟨hn, hw, h2, hT1, hc⟩, hP⟩
  refine ⟨_, rfl, ?_⟩
  have z_cost := zall_h (zall_t hz) (by decide)
  change vc_X12_findCorners pr_X12_findTurns po_X12_findTurns pr_X12_findLeast po_X12_findLeast pr_X12_costOf po_X12_costOf cost P M
  unfold vc_X12_findCorners
  have gc1 : pr_X12_findTurns M := by
    refine ⟨?_, ?_, ?_⟩
    · show 1 ≤ M 103 38 ∧ M 103 38 ≤ 412  -- c1.hn
      first | with_reducible assumption | omega | exact trivial | with_reducible rfl
    · show ∀ k, 0 ≤ k → k < M 103 38 → 0 ≤ M 118 k ∧ M 118 k < 4  -- c1.hw
      first | with_reducible assumption | omega | exact trivial | with_reducible rfl
    · show ∀ k, 0 ≤ k → k < M 103 38 → (M 118 k - M 118 (if k = 0 then M 103 38 - 1 else k - 1)) % 4 ≠ 2  -- c1.h2
      first | with_reducible assumption | omega | exact trivial | with_reducible rfl
  refine ⟨gc1, ?_⟩
  rintro M1 ⟨pc1_hf, pc1_ht, pc1_hu⟩ z_M1
  have u := zc_b (fun i => zTurn (M 118) (M 103 38) i ≠ 0) (M 103 38) (by omega)
  have hTT := pc1_ht
  have hT0 := hTT.1
  have eP : ∀ t, 0 ≤ t → t < M1 103 42 → gPm (M1 122) (M1 103 42) t = gPr (M 118) (M 103 38) (M1 103 42) (M1 121) t := fun t t0 t1 => gPm_e pc1_hu t0 t1
  have cg : ∀ s t, 0 ≤ t → t ≤ M1 103 42 → _ := fun s t t0 t1 => gA.cong (cost := cost) (s := s) eP t0 t1
  have PB : ∀ t, 0 ≤ t → t < M1 103 42 → 10 ≤ gPr (M 118) (M 103 38) (M1 103 42) (M1 121) t ∧ gPr (M 118) (M 103 38) (M1 103 42) (M1 121) t ≤ 25 := fun t _ _ => gPr_b t
  have FIN := gA_n (cost := cost) PB (by omega) (by omega)
  have BB : ∀ s t, 0 ≤ t → t ≤ M1 103 42 → _ := fun s t t0 t1 => gA_b (s := s) PB hc (by omega) t0 t1
  have gc2 : pr_X12_findLeast 1 cost M1 := by
    refine ⟨?_, ?_, ?_⟩
    · show 1 ≤ M1 103 42 ∧ M1 103 42 ≤ 412  -- c2.hT
      omega
    · show 0 ≤ cost ∧ cost ≤ 99  -- c2.hc
      first | with_reducible assumption | omega | exact trivial | with_reducible rfl
    · show 1 = 0 ∨ 1 = 1  -- c2.hs
      exact .inr rfl
  refine ⟨gc2, ?_⟩
  rintro M6 ⟨pc2_hf, pc2_hA⟩ z_M6
  have m42 := pc2_hf 103 42 (by decide)
  have m122 : M6 122 = M1 122 := funext fun i => pc2_hf 122 i (by decide)
  have L1 := (pc2_hA 0 (by omega) (by omega)).2
  rw [(cg 1 0 (by omega) (by omega)).2, show (2 * 0 + 1 : Int) = 1 by decide] at L1
  have gc3 : pr_X12_findLeast 0 cost M6 := by
    refine ⟨?_, ?_, ?_⟩
    · show 1 ≤ M6 103 42 ∧ M6 103 42 ≤ 412  -- c3.hT
      omega
    · show 0 ≤ cost ∧ cost ≤ 99  -- c3.hc
      first | with_reducible assumption | omega | exact trivial | with_reducible rfl
    · show 0 = 0 ∨ 0 = 1  -- c3.hs
      exact .inl rfl
  refine ⟨gc3, ?_⟩
  rintro M11 ⟨pc3_hf, pc3_hA⟩ z_M11
  rw [m42, m122] at pc3_hA
  have y : ∀ c i, c ≠ 123 → M11 c i = M1 c i := fun c i h => by rw [pc3_hf c i h]; exact pc2_hf c i h
  have L0 := (pc3_hA 0 (by omega) (by omega)).1
  rw [(cg 0 0 (by omega) (by omega)).1, show (2 * 0 : Int) = 0 by decide] at L0
  have B0 := BB 0 0 (by omega) (by omega)
  have B1 := BB 1 0 (by omega) (by omega)
  intro K38 h_K38
  have k_K38 : ∀ (v16 : Int), (v16 = gSt (gPr (M 118) (M 103 38) (M1 103 42) (M1 121)) cost (M1 103 42)) → K38 v16 := by
    intro v16 hk
    refine h_K38 _ ?_
    intro z_v16
    have k01 : v16 = 0 ∨ v16 = 1 := by rw [hk]; unfold gSt; split <;> simp
    have LS : (v16 = 0 → gLs (gPr (M 118) (M 103 38) (M1 103 42) (M1 121)) cost (M1 103 42) = gA0 (gPr (M 118) (M 103 38) (M1 103 42) (M1 121)) cost (M1 103 42) 0 0) ∧ (v16 = 1 → gLs (gPr (M 118) (M 103 38) (M1 103 42) (M1 121)) cost (M1 103 42) = gA1 (gPr (M 118) (M 103 38) (M1 103 42) (M1 121)) cost (M1 103 42) 1 0 ∧ gA1 (gPr (M 118) (M 103 38) (M1 103 42) (M1 121)) cost (M1 103 42) 1 0 < 1000000) := by
      unfold gSt at hk
      unfold gLs
      split at hk
      · rename_i c; exact ⟨fun _ => if_pos c, fun h => by omega⟩
      · rename_i c; exact ⟨fun h => by omega, fun _ => ⟨if_neg c, by omega⟩⟩
    have PATH : ∀ t, 0 ≤ t → t ≤ M1 103 42 → (if gCs (gPr (M 118) (M 103 38) (M1 103 42) (M1 121)) cost (M1 103 42) v16 t = 1 then gA1 (gPr (M 118) (M 103 38) (M1 103 42) (M1 121)) cost (M1 103 42) v16 t else gA0 (gPr (M 118) (M 103 38) (M1 103 42) (M1 121)) cost (M1 103 42) v16 t) < 1000000 := by
      refine gCs_fin PB hc (by omega) k01 ?_
      rcases k01 with e | e
      · rw [e, if_neg (by decide)]; exact FIN
      · rw [e, if_pos rfl]; exact (LS.2 e).2
    refine ⟨fun b1 => ?_, fun b1 => ?_⟩
    · -- b1.1
      have v0 : v16 = 0 := by omega
      obtain ⟨Mx, hMx⟩ : ∃ Mx, Mx = M11 := ⟨_, rfl⟩
      have Rd : ∀ t, 0 ≤ t → t < M1 103 42 → M11 123 (2 * t) = min 1000000 (gA0 (gPr (M 118) (M 103 38) (M1 103 42) (M1 121)) cost (M1 103 42) v16 t) ∧ M11 123 (2 * t + 1) = min 1000000 (gA1 (gPr (M 118) (M 103 38) (M1 103 42) (M1 121)) cost (M1 103 42) v16 t) := fun t t0 t1 => by
        have h := pc3_hA t t0 t1
        have c := cg 0 t t0 (by omega)
        rw [c.1, c.2] at h
        rw [v0]; exact h
      have Y : ∀ c i, c ≠ 123 → M11 c i = M1 c i := y
      have RES : M11 123 v16 = gLs (gPr (M 118) (M 103 38) (M1 103 42) (M1 121)) cost (M1 103 42) := by
        rw [LS.1 v0, v0, L0]; omega
      rw [← hMx] at Rd Y
      have o1 : ((0 : Int) ≤ v16 ∧ v16 < 1800) := by
        first | with_reducible assumption | omega | exact trivial | with_reducible rfl  -- o1
      refine ⟨o1, ?_⟩
      refine ⟨fun v20 M22 n24 => (n24 : Int) = (412 - v20) ∧ (0 ≤ v20 ∧ v20 ≤ M 103 38) ∧ (∀ c i, c ≠ 124 → M22 c i = Mx c i) ∧ (∀ i, 0 ≤ i → i < v20 → M22 124 i = 0), ⟨Int.toNat (412 - 0), by omega, ?_, ?_, ?_⟩, ?_⟩
      · show 0 ≤ 0 ∧ 0 ≤ M 103 38  -- I64.0.hv
        first | with_reducible assumption | omega | exact trivial | with_reducible rfl
      · show ∀ c i, c ≠ 124 → M11 c i = Mx c i  -- I64.0.hf
        intro c i h; rw [hMx]
      · show ∀ i, 0 ≤ i → i < 0 → M11 124 i = 0  -- I64.0.h1
        intro i i0 i1; omega
      rintro v20 M22 n24 ⟨h_n24, hv, hf, h1⟩ z_v20 z_M22
      have wn := (hf 103 38 (by decide)).trans ((Y 103 38 (by decide)).trans (pc1_hf 103 38 (by decide) (by decide) (by decide)))
      refine ⟨fun b2 => ?_, fun b2 => ?_⟩
      · -- b2.1
        refine ⟨fun v32 v33 M36 n38 => (n38 : Int) = (412 - v33) ∧ (0 ≤ v33 ∧ v33 ≤ M1 103 42) ∧ (v32 = gCs (gPr (M 118) (M 103 38) (M1 103 42) (M1 121)) cost (M1 103 42) v16 v33 ∨ v33 = M1 103 42) ∧ (∀ c i, c ≠ 124 → M36 c i = Mx c i) ∧ (∀ t, 0 ≤ t → t < v33 → M36 124 (M1 121 t) = gCs (gPr (M 118) (M 103 38) (M1 103 42) (M1 121)) cost (M1 103 42) v16 t) ∧ (∀ i, 0 ≤ i → i < M 103 38 → (zTurn (M 118) (M 103 38) i = 0 ∨ v33 ≤ zc (fun i => zTurn (M 118) (M 103 38) i ≠ 0) i) → M36 124 i = 0), ⟨Int.toNat (412 - 0), by omega, ?_, ?_, ?_, ?_, ?_⟩, ?_⟩
        · show 0 ≤ 0 ∧ 0 ≤ M1 103 42  -- I90.0.hv2
          first | with_reducible assumption | omega | exact trivial | with_reducible rfl
        · show v16 = gCs (gPr (M 118) (M 103 38) (M1 103 42) (M1 121)) cost (M1 103 42) v16 0 ∨ 0 = M1 103 42  -- I90.0.h32
          exact .inl rfl
        · show ∀ c i, c ≠ 124 → M22 c i = Mx c i  -- I90.0.hf2
          first | with_reducible assumption | omega | exact trivial | with_reducible rfl
        · show ∀ t, 0 ≤ t → t < 0 → M22 124 (M1 121 t) = gCs (gPr (M 118) (M 103 38) (M1 103 42) (M1 121)) cost (M1 103 42) v16 t  -- I90.0.ht1
          intro t t0 t1; omega
        · show ∀ i, 0 ≤ i → i < M 103 38 → (zTurn (M 118) (M 103 38) i = 0 ∨ 0 ≤ zc (fun i => zTurn (M 118) (M 103 38) i ≠ 0) i) → M22 124 i = 0  -- I90.0.ht2
          intro i i0 i1 _; exact h1 i i0 (by omega)
        rintro v32 v33 M36 n38 ⟨h_n38, hv2, h32, hf2, ht1, ht2⟩ z_v32 z_v33 z_M36
        refine ⟨fun b3 => ?_, fun b3 => ?_⟩
        · -- b3.1
          have z42 := (hf2 103 42 (by decide)).trans (Y 103 42 (by decide))
          have z121 : M36 121 = M1 121 := funext fun i => (hf2 121 i (by decide)).trans (Y 121 i (by decide))
          refine hP _ _ ⟨?_, ?_, ?_, ?_⟩
          · show ∀ c i, c ≠ 121 → c ≠ 122 → c ≠ 123 → c ≠ 124 → ¬ (c = 103 ∧ i = 42) → M36 c i = M c i  -- p1.hf
            intro c i c1 c2 c3 c4 c5; rw [hf2 c i c4, Y c i c3]; exact pc1_hf c i c1 c2 c5
          · show gTP (M 118) (M 103 38) (M36 103 42) (M36 121)  -- p1.hT
            rw [z42, z121]; exact pc1_ht
          · show (M11 123 v16) = gLs (gPr (M 118) (M 103 38) (M36 103 42) (M36 121)) cost (M36 103 42)  -- p1.hr
            rw [z42, z121]; exact RES
          · show ∀ i, 0 ≤ i → i < M 103 38 → M36 124 i = gCa (M 118) (M 103 38) (M36 103 42) (M36 121) cost (gSt (gPr (M 118) (M 103 38) (M36 103 42) (M36 121)) cost (M36 103 42)) i  -- p1.hC
            rw [z42, z121, ← hk]; intro i i0 i1
            unfold gCa
            split
            · rename_i c; exact ht2 i i0 i1 (.inl c)
            · rename_i c
              have l := zc_lt2 i0 i1 (p := fun i => zTurn (M 118) (M 103 38) i ≠ 0) c
              have z := (zc_b (fun i => zTurn (M 118) (M 103 38) i ≠ 0) i i0).1
              have e := ht1 _ z (by omega)
              rw [hTT.2 i i0 i1 c] at e
              exact e
        · -- b3.2
          have z42 := (hf2 103 42 (by decide)).trans (Y 103 42 (by decide))
          have z121 : M36 121 = M1 121 := funext fun i => (hf2 121 i (by decide)).trans (Y 121 i (by decide))
          have aT := hTT.at (by omega) hv2.1 (show v33 < M1 103 42 by omega)
          have h32' : v32 = gCs (gPr (M 118) (M 103 38) (M1 103 42) (M1 121)) cost (M1 103 42) v16 v33 := h32.elim id (fun h => by omega)
          have g01 := gCs_01 (p := gPr (M 118) (M 103 38) (M1 103 42) (M1 121)) (cost := cost) (T := M1 103 42) k01 v33 hv2.1
          rw [← h32'] at g01
          have o2 : ((0 : Int) ≤ v33 ∧ v33 < 900) := by
            first | with_reducible assumption | omega | exact trivial | with_reducible rfl  -- o2
          refine ⟨o2, ?_⟩
          intro K121 h_K121
          have k_K121 : ∀ (v47 : Int), (v47 = v32) → K121 v47 := by
            intro v47 hk47
            refine h_K121 _ ?_
            intro z_v47
            have o3 : ((0 : Int) ≤ (M36 121 v33) ∧ (M36 121 v33) < 900) := by
              rw [z121]; omega
            refine ⟨o3, ?_⟩
            have o4 : (v47 = 0 ∨ v47 = 1) := by
              first | with_reducible assumption | omega | exact trivial | with_reducible rfl  -- o4
            refine ⟨o4, ?_⟩
            intro M51 e_M51
            have n42 : M51 103 42 = M1 103 42 := by rw [e_M51, zset_n _ (by omega)]; exact z42
            have nf : ∀ c i, c ≠ 124 → M51 c i = Mx c i := fun c i h => by rw [e_M51, zset_n _ (.inl h)]; exact hf2 c i h
            have n1 : ∀ t, 0 ≤ t → t < v33 + 1 → M51 124 (M1 121 t) = gCs (gPr (M 118) (M 103 38) (M1 103 42) (M1 121)) cost (M1 103 42) v16 t := fun t t0 t1 => by
              rw [e_M51, z121]
              by_cases c : t = v33
              · rw [c, zset_s, hk47]; exact h32'
              · have a2 := hTT.at (by omega) t0 (show t < M1 103 42 by omega)
                rw [zset_n _ (.inr (fun e => c (by rw [← a2.2.2.2, e, aT.2.2.2])))]
                exact ht1 t t0 (by omega)
            have n2 : ∀ i, 0 ≤ i → i < M 103 38 → (zTurn (M 118) (M 103 38) i = 0 ∨ v33 + 1 ≤ zc (fun i => zTurn (M 118) (M 103 38) i ≠ 0) i) → M51 124 i = 0 := fun i i0 i1 h => by
              rw [e_M51, z121, zset_n _ (.inr (fun e => by
                rw [e] at h
                rcases h with h | h
                · exact aT.2.2.1 h
                · rw [aT.2.2.2] at h; omega))]
              refine ht2 i i0 i1 ?_
              rcases h with h | h
              · exact .inl h
              · exact .inr (by omega)
            have o5 : zin ((M51 103 42) - 1) := by
              first | with_reducible assumption | omega | exact trivial | with_reducible rfl  -- o5
            refine ⟨o5, ?_⟩
            refine ⟨fun b4 => ?_, fun b4 => ?_⟩
            · -- b4.1
              have o6 : zin (v33 + 1) := by
                first | with_reducible assumption | omega | exact trivial | with_reducible rfl  -- o6
              refine ⟨o6, ?_⟩
              refine ⟨Int.toNat (412 - (v33 + 1)), by omega, by omega, ?_, ?_, ?_, ?_, ?_⟩
              · show 0 ≤ (v33 + 1) ∧ (v33 + 1) ≤ M1 103 42  -- I90.1.hv2
                first | with_reducible assumption | omega | exact trivial | with_reducible rfl
              · show v32 = gCs (gPr (M 118) (M 103 38) (M1 103 42) (M1 121)) cost (M1 103 42) v16 (v33 + 1) ∨ (v33 + 1) = M1 103 42  -- I90.1.h32
                exact .inr (by omega)
              · show ∀ c i, c ≠ 124 → M51 c i = Mx c i  -- I90.1.hf2
                first | with_reducible assumption | omega | exact trivial | with_reducible rfl
              · show ∀ t, 0 ≤ t → t < (v33 + 1) → M51 124 (M1 121 t) = gCs (gPr (M 118) (M 103 38) (M1 103 42) (M1 121)) cost (M1 103 42) v16 t  -- I90.1.ht1
                first | with_reducible assumption | omega | exact trivial | with_reducible rfl
              · show ∀ i, 0 ≤ i → i < M 103 38 → (zTurn (M 118) (M 103 38) i = 0 ∨ (v33 + 1) ≤ zc (fun i => zTurn (M 118) (M 103 38) i ≠ 0) i) → M51 124 i = 0  -- I90.1.ht2
                first | with_reducible assumption | omega | exact trivial | with_reducible rfl
            · -- b4.2
              have gc4 : pr_X12_costOf v33 v32 0 cost M51 := by
                refine ⟨?_, ?_, ?_, ?_⟩
                · show 1 ≤ M51 103 42 ∧ M51 103 42 ≤ 412  -- c4.hT
                  omega
                · show 0 ≤ v33 ∧ v33 < M51 103 42  -- c4.ht
                  omega
                · show 0 = 0 ∨ 0 = 1  -- c4.hb
                  exact .inl rfl
                · show 0 ≤ cost ∧ cost ≤ 99  -- c4.hc
                  first | with_reducible assumption | omega | exact trivial | with_reducible rfl
              refine ⟨gc4, ?_⟩
              rintro r60 M61 ⟨q_rfl, e_r60⟩ z_r60 z_M61
              have q_rfl := q_rfl.symm
              subst q_rfl
              rw [n42, show M51 122 = M1 122 from funext fun i => (nf 122 i (by decide)).trans (Y 122 i (by decide)), eP v33 hv2.1 (by omega)] at e_r60
              have e51 : M51 123 = Mx 123 := funext fun i => nf 123 i (by decide)
              have Q := Rd v33 hv2.1 (by omega)
              have Q1 := (Rd (v33 + 1) (by omega) (by omega)).1
              have PA := PATH v33 hv2.1 (by omega)
              have cs := @gCs_s (gPr (M 118) (M 103 38) (M1 103 42) (M1 121)) cost (M1 103 42) v16 v33 hv2.1
              have sA := @gA_s (gPr (M 118) (M 103 38) (M1 103 42) (M1 121)) cost (M1 103 42) v16 v33 (by omega)
              have pb := PB v33 hv2.1 (by omega)
              have ba := BB v16 (v33 + 1) (by omega) (by omega)
              have ba0 := BB v16 v33 (by omega) (by omega)
              rw [← h32'] at cs PA
              rw [show 2 * (v33 + 1) = 2 * v33 + 2 by omega, ← e51] at Q1
              rw [← e51] at Q
              have KEY : (r60 + M51 123 (2 * v33 + 2) = M51 123 (2 * v33 + v32) → gCs (gPr (M 118) (M 103 38) (M1 103 42) (M1 121)) cost (M1 103 42) v16 (v33 + 1) = 0) ∧ (r60 + M51 123 (2 * v33 + 2) ≠ M51 123 (2 * v33 + v32) → gCs (gPr (M 118) (M 103 38) (M1 103 42) (M1 121)) cost (M1 103 42) v16 (v33 + 1) = 1) := by
                by_cases e : v32 = 1
                · rw [if_pos e] at cs PA e_r60
                  rw [if_neg (by decide)] at e_r60
                  rw [cs, e, Q.2, Q1]
                  exact ⟨fun _ => rfl, fun h => by omega⟩
                · have e0 : v32 = 0 := by omega
                  rw [if_neg e] at cs PA e_r60
                  rw [if_pos rfl] at e_r60
                  rw [cs, e0, Int.add_zero, Q.1, Q1]
                  by_cases k : gA0 (gPr (M 118) (M 103 38) (M1 103 42) (M1 121)) cost (M1 103 42) v16 v33 = gPr (M 118) (M 103 38) (M1 103 42) (M1 121) v33 + gA0 (gPr (M 118) (M 103 38) (M1 103 42) (M1 121)) cost (M1 103 42) v16 (v33 + 1)
                  · rw [if_pos k]; exact ⟨fun _ => rfl, fun h => by omega⟩
                  · rw [if_neg k]; exact ⟨fun h => by omega, fun _ => rfl⟩
              have o7 : ((0 : Int) ≤ ((2 * v33) + 2) ∧ ((2 * v33) + 2) < 1800) := by
                omega
              refine ⟨o7, ?_⟩
              have o8 : ((0 : Int) ≤ ((2 * v33) + v32) ∧ ((2 * v33) + v32) < 1800) := by
                first | with_reducible assumption | omega | exact trivial | with_reducible rfl  -- o8
              refine ⟨o8, ?_⟩
              have o9 : zin (r60 + (M51 123 ((2 * v33) + 2))) := by
                rw [e_r60, Q1]; split <;> omega
              refine ⟨o9, ?_⟩
              refine ⟨fun b5 => ?_, fun b5 => ?_⟩
              · -- b5.1
                have o10 : zin (v33 + 1) := by
                  first | with_reducible assumption | omega | exact trivial | with_reducible rfl  -- o10
                refine ⟨o10, ?_⟩
                refine ⟨Int.toNat (412 - (v33 + 1)), by omega, by omega, ?_, ?_, ?_, ?_, ?_⟩
                · show 0 ≤ (v33 + 1) ∧ (v33 + 1) ≤ M1 103 42  -- I90.2.hv2
                  first | with_reducible assumption | omega | exact trivial | with_reducible rfl
                · show 1 = gCs (gPr (M 118) (M 103 38) (M1 103 42) (M1 121)) cost (M1 103 42) v16 (v33 + 1) ∨ (v33 + 1) = M1 103 42  -- I90.2.h32
                  refine .inl (Eq.symm ?_)
                  exact KEY.2 b5
                · show ∀ c i, c ≠ 124 → M51 c i = Mx c i  -- I90.2.hf2
                  first | with_reducible assumption | omega | exact trivial | with_reducible rfl
                · show ∀ t, 0 ≤ t → t < (v33 + 1) → M51 124 (M1 121 t) = gCs (gPr (M 118) (M 103 38) (M1 103 42) (M1 121)) cost (M1 103 42) v16 t  -- I90.2.ht1
                  first | with_reducible assumption | omega | exact trivial | with_reducible rfl
                · show ∀ i, 0 ≤ i → i < M 103 38 → (zTurn (M 118) (M 103 38) i = 0 ∨ (v33 + 1) ≤ zc (fun i => zTurn (M 118) (M 103 38) i ≠ 0) i) → M51 124 i = 0  -- I90.2.ht2
                  first | with_reducible assumption | omega | exact trivial | with_reducible rfl
              · -- b5.2
                have o11 : zin (v33 + 1) := by
                  first | with_reducible assumption | omega | exact trivial | with_reducible rfl  -- o11
                refine ⟨o11, ?_⟩
                refine ⟨Int.toNat (412 - (v33 + 1)), by omega, by omega, ?_, ?_, ?_, ?_, ?_⟩
                · show 0 ≤ (v33 + 1) ∧ (v33 + 1) ≤ M1 103 42  -- I90.3.hv2
                  first | with_reducible assumption | omega | exact trivial | with_reducible rfl
                · show 0 = gCs (gPr (M 118) (M 103 38) (M1 103 42) (M1 121)) cost (M1 103 42) v16 (v33 + 1) ∨ (v33 + 1) = M1 103 42  -- I90.3.h32
                  exact .inl (KEY.1 b5).symm
                · show ∀ c i, c ≠ 124 → M51 c i = Mx c i  -- I90.3.hf2
                  first | with_reducible assumption | omega | exact trivial | with_reducible rfl
                · show ∀ t, 0 ≤ t → t < (v33 + 1) → M51 124 (M1 121 t) = gCs (gPr (M 118) (M 103 38) (M1 103 42) (M1 121)) cost (M1 103 42) v16 t  -- I90.3.ht1
                  first | with_reducible assumption | omega | exact trivial | with_reducible rfl
                · show ∀ i, 0 ≤ i → i < M 103 38 → (zTurn (M 118) (M 103 38) i = 0 ∨ (v33 + 1) ≤ zc (fun i => zTurn (M 118) (M 103 38) i ≠ 0) i) → M51 124 i = 0  -- I90.3.ht2
                  first | with_reducible assumption | omega | exact trivial | with_reducible rfl
          refine ⟨fun b6 => ?_, fun b6 => ?_⟩
          · -- b6.1
            refine k_K121 _ ?_
            · show 0 = v32  -- K121.1.hk47
              omega
          · -- b6.2
            refine k_K121 _ ?_
            · show 1 = v32  -- K121.2.hk47
              omega
      · -- b2.2
        have o12 : ((0 : Int) ≤ v20 ∧ v20 < 900) := by
          first | with_reducible assumption | omega | exact trivial | with_reducible rfl  -- o12
        refine ⟨o12, ?_⟩
        intro M80 e_M80
        have o13 : zin (v20 + 1) := by
          first | with_reducible assumption | omega | exact trivial | with_reducible rfl  -- o13
        refine ⟨o13, ?_⟩
        refine ⟨Int.toNat (412 - (v20 + 1)), by omega, by omega, ?_, ?_, ?_⟩
        · show 0 ≤ (v20 + 1) ∧ (v20 + 1) ≤ M 103 38  -- I64.1.hv
          first | with_reducible assumption | omega | exact trivial | with_reducible rfl
        · show ∀ c i, c ≠ 124 → M80 c i = Mx c i  -- I64.1.hf
          intro c i h; rw [e_M80, zset_n _ (.inl h)]; exact hf c i h
        · show ∀ i, 0 ≤ i → i < (v20 + 1) → M80 124 i = 0  -- I64.1.h1
          intro i i0 i1
          rw [e_M80]
          by_cases c : i = v20
          · rw [c, zset_s]
          · rw [zset_n _ (.inr c)]; exact h1 i i0 (by omega)
    · -- b1.2
      have gc5 : pr_X12_findLeast 1 cost M11 := by
        refine ⟨?_, ?_, ?_⟩
        · show 1 ≤ M11 103 42 ∧ M11 103 42 ≤ 412  -- c5.hT
          rw [y 103 42 (by decide)]; omega
        · show 0 ≤ cost ∧ cost ≤ 99  -- c5.hc
          first | with_reducible assumption | omega | exact trivial | with_reducible rfl
        · show 1 = 0 ∨ 1 = 1  -- c5.hs
          exact .inr rfl
      refine ⟨gc5, ?_⟩
      rintro M87 ⟨pc5_hf, pc5_hA⟩ z_M87
      obtain ⟨Mx, hMx⟩ : ∃ Mx, Mx = M87 := ⟨_, rfl⟩
      rw [y 103 42 (by decide), show M11 122 = M1 122 from funext fun i => y 122 i (by decide)] at pc5_hA
      have Y : ∀ c i, c ≠ 123 → M87 c i = M1 c i := fun c i h => by rw [pc5_hf c i h]; exact y c i h
      have Rd : ∀ t, 0 ≤ t → t < M1 103 42 → M87 123 (2 * t) = min 1000000 (gA0 (gPr (M 118) (M 103 38) (M1 103 42) (M1 121)) cost (M1 103 42) v16 t) ∧ M87 123 (2 * t + 1) = min 1000000 (gA1 (gPr (M 118) (M 103 38) (M1 103 42) (M1 121)) cost (M1 103 42) v16 t) := fun t t0 t1 => by
        have h := pc5_hA t t0 t1
        have c := cg 1 t t0 (by omega)
        rw [c.1, c.2] at h
        rw [b1]; exact h
      have RES : M87 123 v16 = gLs (gPr (M 118) (M 103 38) (M1 103 42) (M1 121)) cost (M1 103 42) := by
        have h := (Rd 0 (by omega) (by omega)).2
        rw [show (2 * 0 + 1 : Int) = 1 by decide, b1] at h
        rw [(LS.2 b1).1, b1, h]; have := (LS.2 b1).2; omega
      rw [← hMx] at Rd Y
      have o14 : ((0 : Int) ≤ v16 ∧ v16 < 1800) := by
        first | with_reducible assumption | omega | exact trivial | with_reducible rfl  -- o14
      refine ⟨o14, ?_⟩
      refine ⟨fun v93 M95 n97 => (n97 : Int) = (412 - v93) ∧ (0 ≤ v93 ∧ v93 ≤ M 103 38) ∧ (∀ c i, c ≠ 124 → M95 c i = Mx c i) ∧ (∀ i, 0 ≤ i → i < v93 → M95 124 i = 0), ⟨Int.toNat (412 - 0), by omega, ?_, ?_, ?_⟩, ?_⟩
      · show 0 ≤ 0 ∧ 0 ≤ M 103 38  -- I64.0.hv
        first | with_reducible assumption | omega | exact trivial | with_reducible rfl
      · show ∀ c i, c ≠ 124 → M87 c i = Mx c i  -- I64.0.hf
        intro c i h; rw [hMx]
      · show ∀ i, 0 ≤ i → i < 0 → M87 124 i = 0  -- I64.0.h1
        intro i i0 i1; omega
      rintro v93 M95 n97 ⟨h_n97, hv, hf, h1⟩ z_v93 z_M95
      have wn := (hf 103 38 (by decide)).trans ((Y 103 38 (by decide)).trans (pc1_hf 103 38 (by decide) (by decide) (by decide)))
      refine ⟨fun b7 => ?_, fun b7 => ?_⟩
      · -- b7.1
        refine ⟨fun v105 v106 M109 n111 => (n111 : Int) = (412 - v106) ∧ (0 ≤ v106 ∧ v106 ≤ M1 103 42) ∧ (v105 = gCs (gPr (M 118) (M 103 38) (M1 103 42) (M1 121)) cost (M1 103 42) v16 v106 ∨ v106 = M1 103 42) ∧ (∀ c i, c ≠ 124 → M109 c i = Mx c i) ∧ (∀ t, 0 ≤ t → t < v106 → M109 124 (M1 121 t) = gCs (gPr (M 118) (M 103 38) (M1 103 42) (M1 121)) cost (M1 103 42) v16 t) ∧ (∀ i, 0 ≤ i → i < M 103 38 → (zTurn (M 118) (M 103 38) i = 0 ∨ v106 ≤ zc (fun i => zTurn (M 118) (M 103 38) i ≠ 0) i) → M109 124 i = 0), ⟨Int.toNat (412 - 0), by omega, ?_, ?_, ?_, ?_, ?_⟩, ?_⟩
        · show 0 ≤ 0 ∧ 0 ≤ M1 103 42  -- I90.0.hv2
          first | with_reducible assumption | omega | exact trivial | with_reducible rfl
        · show v16 = gCs (gPr (M 118) (M 103 38) (M1 103 42) (M1 121)) cost (M1 103 42) v16 0 ∨ 0 = M1 103 42  -- I90.0.h32
          exact .inl rfl
        · show ∀ c i, c ≠ 124 → M95 c i = Mx c i  -- I90.0.hf2
          first | with_reducible assumption | omega | exact trivial | with_reducible rfl
        · show ∀ t, 0 ≤ t → t < 0 → M95 124 (M1 121 t) = gCs (gPr (M 118) (M 103 38) (M1 103 42) (M1 121)) cost (M1 103 42) v16 t  -- I90.0.ht1
          intro t t0 t1; omega
        · show ∀ i, 0 ≤ i → i < M 103 38 → (zTurn (M 118) (M 103 38) i = 0 ∨ 0 ≤ zc (fun i => zTurn (M 118) (M 103 38) i ≠ 0) i) → M95 124 i = 0  -- I90.0.ht2
          intro i i0 i1 _; exact h1 i i0 (by omega)
        rintro v105 v106 M109 n111 ⟨h_n111, hv2, h32, hf2, ht1, ht2⟩ z_v105 z_v106 z_M109
        refine ⟨fun b8 => ?_, fun b8 => ?_⟩
        · -- b8.1
          have z42 := (hf2 103 42 (by decide)).trans (Y 103 42 (by decide))
          have z121 : M109 121 = M1 121 := funext fun i => (hf2 121 i (by decide)).trans (Y 121 i (by decide))
          refine hP _ _ ⟨?_, ?_, ?_, ?_⟩
          · show ∀ c i, c ≠ 121 → c ≠ 122 → c ≠ 123 → c ≠ 124 → ¬ (c = 103 ∧ i = 42) → M109 c i = M c i  -- p2.hf
            intro c i c1 c2 c3 c4 c5; rw [hf2 c i c4, Y c i c3]; exact pc1_hf c i c1 c2 c5
          · show gTP (M 118) (M 103 38) (M109 103 42) (M109 121)  -- p2.hT
            rw [z42, z121]; exact pc1_ht
          · show (M87 123 v16) = gLs (gPr (M 118) (M 103 38) (M109 103 42) (M109 121)) cost (M109 103 42)  -- p2.hr
            rw [z42, z121]; exact RES
          · show ∀ i, 0 ≤ i → i < M 103 38 → M109 124 i = gCa (M 118) (M 103 38) (M109 103 42) (M109 121) cost (gSt (gPr (M 118) (M 103 38) (M109 103 42) (M109 121)) cost (M109 103 42)) i  -- p2.hC
            rw [z42, z121, ← hk]; intro i i0 i1
            unfold gCa
            split
            · rename_i c; exact ht2 i i0 i1 (.inl c)
            · rename_i c
              have l := zc_lt2 i0 i1 (p := fun i => zTurn (M 118) (M 103 38) i ≠ 0) c
              have z := (zc_b (fun i => zTurn (M 118) (M 103 38) i ≠ 0) i i0).1
              have e := ht1 _ z (by omega)
              rw [hTT.2 i i0 i1 c] at e
              exact e
        · -- b8.2
          have z42 := (hf2 103 42 (by decide)).trans (Y 103 42 (by decide))
          have z121 : M109 121 = M1 121 := funext fun i => (hf2 121 i (by decide)).trans (Y 121 i (by decide))
          have aT := hTT.at (by omega) hv2.1 (show v106 < M1 103 42 by omega)
          have h32' : v105 = gCs (gPr (M 118) (M 103 38) (M1 103 42) (M1 121)) cost (M1 103 42) v16 v106 := h32.elim id (fun h => by omega)
          have g01 := gCs_01 (p := gPr (M 118) (M 103 38) (M1 103 42) (M1 121)) (cost := cost) (T := M1 103 42) k01 v106 hv2.1
          rw [← h32'] at g01
          have o15 : ((0 : Int) ≤ v106 ∧ v106 < 900) := by
            first | with_reducible assumption | omega | exact trivial | with_reducible rfl  -- o15
          refine ⟨o15, ?_⟩
          intro K121 h_K121
          have k_K121 : ∀ (v120 : Int), (v120 = v105) → K121 v120 := by
            intro v120 hk47
            refine h_K121 _ ?_
            intro z_v120
            have o16 : ((0 : Int) ≤ (M109 121 v106) ∧ (M109 121 v106) < 900) := by
              rw [z121]; omega
            refine ⟨o16, ?_⟩
            have o17 : (v120 = 0 ∨ v120 = 1) := by
              first | with_reducible assumption | omega | exact trivial | with_reducible rfl  -- o17
            refine ⟨o17, ?_⟩
            intro M124 e_M124
            have n42 : M124 103 42 = M1 103 42 := by rw [e_M124, zset_n _ (by omega)]; exact z42
            have nf : ∀ c i, c ≠ 124 → M124 c i = Mx c i := fun c i h => by rw [e_M124, zset_n _ (.inl h)]; exact hf2 c i h
            have n1 : ∀ t, 0 ≤ t → t < v106 + 1 → M124 124 (M1 121 t) = gCs (gPr (M 118) (M 103 38) (M1 103 42) (M1 121)) cost (M1 103 42) v16 t := fun t t0 t1 => by
              rw [e_M124, z121]
              by_cases c : t = v106
              · rw [c, zset_s, hk47]; exact h32'
              · have a2 := hTT.at (by omega) t0 (show t < M1 103 42 by omega)
                rw [zset_n _ (.inr (fun e => c (by rw [← a2.2.2.2, e, aT.2.2.2])))]
                exact ht1 t t0 (by omega)
            have n2 : ∀ i, 0 ≤ i → i < M 103 38 → (zTurn (M 118) (M 103 38) i = 0 ∨ v106 + 1 ≤ zc (fun i => zTurn (M 118) (M 103 38) i ≠ 0) i) → M124 124 i = 0 := fun i i0 i1 h => by
              rw [e_M124, z121, zset_n _ (.inr (fun e => by
                rw [e] at h
                rcases h with h | h
                · exact aT.2.2.1 h
                · rw [aT.2.2.2] at h; omega))]
              refine ht2 i i0 i1 ?_
              rcases h with h | h
              · exact .inl h
              · exact .inr (by omega)
            have o18 : zin ((M124 103 42) - 1) := by
              first | with_reducible assumption | omega | exact trivial | with_reducible rfl  -- o18
            refine ⟨o18, ?_⟩
            refine ⟨fun b9 => ?_, fun b9 => ?_⟩
            · -- b9.1
              have o19 : zin (v106 + 1) := by
                first | with_reducible assumption | omega | exact trivial | with_reducible rfl  -- o19
              refine ⟨o19, ?_⟩
              refine ⟨Int.toNat (412 - (v106 + 1)), by omega, by omega, ?_, ?_, ?_, ?_, ?_⟩
              · show 0 ≤ (v106 + 1) ∧ (v106 + 1) ≤ M1 103 42  -- I90.4.hv2
                first | with_reducible assumption | omega | exact trivial | with_reducible rfl
              · show v105 = gCs (gPr (M 118) (M 103 38) (M1 103 42) (M1 121)) cost (M1 103 42) v16 (v106 + 1) ∨ (v106 + 1) = M1 103 42  -- I90.4.h32
                exact .inr (by omega)
              · show ∀ c i, c ≠ 124 → M124 c i = Mx c i  -- I90.4.hf2
                first | with_reducible assumption | omega | exact trivial | with_reducible rfl
              · show ∀ t, 0 ≤ t → t < (v106 + 1) → M124 124 (M1 121 t) = gCs (gPr (M 118) (M 103 38) (M1 103 42) (M1 121)) cost (M1 103 42) v16 t  -- I90.4.ht1
                first | with_reducible assumption | omega | exact trivial | with_reducible rfl
              · show ∀ i, 0 ≤ i → i < M 103 38 → (zTurn (M 118) (M 103 38) i = 0 ∨ (v106 + 1) ≤ zc (fun i => zTurn (M 118) (M 103 38) i ≠ 0) i) → M124 124 i = 0  -- I90.4.ht2
                first | with_reducible assumption | omega | exact trivial | with_reducible rfl
            · -- b9.2
              have gc6 : pr_X12_costOf v106 v105 0 cost M124 := by
                refine ⟨?_, ?_, ?_, ?_⟩
                · show 1 ≤ M124 103 42 ∧ M124 103 42 ≤ 412  -- c6.hT
                  omega
                · show 0 ≤ v106 ∧ v106 < M124 103 42  -- c6.ht
                  omega
                · show 0 = 0 ∨ 0 = 1  -- c6.hb
                  exact .inl rfl
                · show 0 ≤ cost ∧ cost ≤ 99  -- c6.hc
                  first | with_reducible assumption | omega | exact trivial | with_reducible rfl
              refine ⟨gc6, ?_⟩
              rintro r133 M134 ⟨q_rfl, e_r133⟩ z_r133 z_M134
              have q_rfl := q_rfl.symm
              subst q_rfl
              rw [n42, show M124 122 = M1 122 from funext fun i => (nf 122 i (by decide)).trans (Y 122 i (by decide)), eP v106 hv2.1 (by omega)] at e_r133
              have e51 : M124 123 = Mx 123 := funext fun i => nf 123 i (by decide)
              have Q := Rd v106 hv2.1 (by omega)
              have Q1 := (Rd (v106 + 1) (by omega) (by omega)).1
              have PA := PATH v106 hv2.1 (by omega)
              have cs := @gCs_s (gPr (M 118) (M 103 38) (M1 103 42) (M1 121)) cost (M1 103 42) v16 v106 hv2.1
              have sA := @gA_s (gPr (M 118) (M 103 38) (M1 103 42) (M1 121)) cost (M1 103 42) v16 v106 (by omega)
              have pb := PB v106 hv2.1 (by omega)
              have ba := BB v16 (v106 + 1) (by omega) (by omega)
              have ba0 := BB v16 v106 (by omega) (by omega)
              rw [← h32'] at cs PA
              rw [show 2 * (v106 + 1) = 2 * v106 + 2 by omega, ← e51] at Q1
              rw [← e51] at Q
              have KEY : (r133 + M124 123 (2 * v106 + 2) = M124 123 (2 * v106 + v105) → gCs (gPr (M 118) (M 103 38) (M1 103 42) (M1 121)) cost (M1 103 42) v16 (v106 + 1) = 0) ∧ (r133 + M124 123 (2 * v106 + 2) ≠ M124 123 (2 * v106 + v105) → gCs (gPr (M 118) (M 103 38) (M1 103 42) (M1 121)) cost (M1 103 42) v16 (v106 + 1) = 1) := by
                by_cases e : v105 = 1
                · rw [if_pos e] at cs PA e_r133
                  rw [if_neg (by decide)] at e_r133
                  rw [cs, e, Q.2, Q1]
                  exact ⟨fun _ => rfl, fun h => by omega⟩
                · have e0 : v105 = 0 := by omega
                  rw [if_neg e] at cs PA e_r133
                  rw [if_pos rfl] at e_r133
                  rw [cs, e0, Int.add_zero, Q.1, Q1]
                  by_cases k : gA0 (gPr (M 118) (M 103 38) (M1 103 42) (M1 121)) cost (M1 103 42) v16 v106 = gPr (M 118) (M 103 38) (M1 103 42) (M1 121) v106 + gA0 (gPr (M 118) (M 103 38) (M1 103 42) (M1 121)) cost (M1 103 42) v16 (v106 + 1)
                  · rw [if_pos k]; exact ⟨fun _ => rfl, fun h => by omega⟩
                  · rw [if_neg k]; exact ⟨fun h => by omega, fun _ => rfl⟩
              have o20 : ((0 : Int) ≤ ((2 * v106) + 2) ∧ ((2 * v106) + 2) < 1800) := by
                omega
              refine ⟨o20, ?_⟩
              have o21 : ((0 : Int) ≤ ((2 * v106) + v105) ∧ ((2 * v106) + v105) < 1800) := by
                first | with_reducible assumption | omega | exact trivial | with_reducible rfl  -- o21
              refine ⟨o21, ?_⟩
              have o22 : zin (r133 + (M124 123 ((2 * v106) + 2))) := by
                rw [e_r133, Q1]; split <;> omega
              refine ⟨o22, ?_⟩
              refine ⟨fun b10 => ?_, fun b10 => ?_⟩
              · -- b10.1
                have o23 : zin (v106 + 1) := by
                  first | with_reducible assumption | omega | exact trivial | with_reducible rfl  -- o23
                refine ⟨o23, ?_⟩
                refine ⟨Int.toNat (412 - (v106 + 1)), by omega, by omega, ?_, ?_, ?_, ?_, ?_⟩
                · show 0 ≤ (v106 + 1) ∧ (v106 + 1) ≤ M1 103 42  -- I90.5.hv2
                  first | with_reducible assumption | omega | exact trivial | with_reducible rfl
                · show 1 = gCs (gPr (M 118) (M 103 38) (M1 103 42) (M1 121)) cost (M1 103 42) v16 (v106 + 1) ∨ (v106 + 1) = M1 103 42  -- I90.5.h32
                  refine .inl (Eq.symm ?_)
                  exact KEY.2 b10
                · show ∀ c i, c ≠ 124 → M124 c i = Mx c i  -- I90.5.hf2
                  first | with_reducible assumption | omega | exact trivial | with_reducible rfl
                · show ∀ t, 0 ≤ t → t < (v106 + 1) → M124 124 (M1 121 t) = gCs (gPr (M 118) (M 103 38) (M1 103 42) (M1 121)) cost (M1 103 42) v16 t  -- I90.5.ht1
                  first | with_reducible assumption | omega | exact trivial | with_reducible rfl
                · show ∀ i, 0 ≤ i → i < M 103 38 → (zTurn (M 118) (M 103 38) i = 0 ∨ (v106 + 1) ≤ zc (fun i => zTurn (M 118) (M 103 38) i ≠ 0) i) → M124 124 i = 0  -- I90.5.ht2
                  first | with_reducible assumption | omega | exact trivial | with_reducible rfl
              · -- b10.2
                have o24 : zin (v106 + 1) := by
                  first | with_reducible assumption | omega | exact trivial | with_reducible rfl  -- o24
                refine ⟨o24, ?_⟩
                refine ⟨Int.toNat (412 - (v106 + 1)), by omega, by omega, ?_, ?_, ?_, ?_, ?_⟩
                · show 0 ≤ (v106 + 1) ∧ (v106 + 1) ≤ M1 103 42  -- I90.6.hv2
                  first | with_reducible assumption | omega | exact trivial | with_reducible rfl
                · show 0 = gCs (gPr (M 118) (M 103 38) (M1 103 42) (M1 121)) cost (M1 103 42) v16 (v106 + 1) ∨ (v106 + 1) = M1 103 42  -- I90.6.h32
                  exact .inl (KEY.1 b10).symm
                · show ∀ c i, c ≠ 124 → M124 c i = Mx c i  -- I90.6.hf2
                  first | with_reducible assumption | omega | exact trivial | with_reducible rfl
                · show ∀ t, 0 ≤ t → t < (v106 + 1) → M124 124 (M1 121 t) = gCs (gPr (M 118) (M 103 38) (M1 103 42) (M1 121)) cost (M1 103 42) v16 t  -- I90.6.ht1
                  first | with_reducible assumption | omega | exact trivial | with_reducible rfl
                · show ∀ i, 0 ≤ i → i < M 103 38 → (zTurn (M 118) (M 103 38) i = 0 ∨ (v106 + 1) ≤ zc (fun i => zTurn (M 118) (M 103 38) i ≠ 0) i) → M124 124 i = 0  -- I90.6.ht2
                  first | with_reducible assumption | omega | exact trivial | with_reducible rfl
          refine ⟨fun b11 => ?_, fun b11 => ?_⟩
          · -- b11.1
            refine k_K121 _ ?_
            · show 0 = v105  -- K121.3.hk47
              omega
          · -- b11.2
            refine k_K121 _ ?_
            · show 1 = v105  -- K121.4.hk47
              omega
      · -- b7.2
        have o25 : ((0 : Int) ≤ v93 ∧ v93 < 900) := by
          first | with_reducible assumption | omega | exact trivial | with_reducible rfl  -- o25
        refine ⟨o25, ?_⟩
        intro M153 e_M153
        have o26 : zin (v93 + 1) := by
          first | with_reducible assumption | omega | exact trivial | with_reducible rfl  -- o26
        refine ⟨o26, ?_⟩
        refine ⟨Int.toNat (412 - (v93 + 1)), by omega, by omega, ?_, ?_, ?_⟩
        · show 0 ≤ (v93 + 1) ∧ (v93 + 1) ≤ M 103 38  -- I64.2.hv
          first | with_reducible assumption | omega | exact trivial | with_reducible rfl
        · show ∀ c i, c ≠ 124 → M153 c i = Mx c i  -- I64.2.hf
          intro c i h; rw [e_M153, zset_n _ (.inl h)]; exact hf c i h
        · show ∀ i, 0 ≤ i → i < (v93 + 1) → M153 124 i = 0  -- I64.2.h1
          intro i i0 i1
          rw [e_M153]
          by_cases c : i = v93
          · rw [c, zset_s]
          · rw [zset_n _ (.inr c)]; exact h1 i i0 (by omega)
  refine ⟨fun b12 => ?_, fun b12 => ?_⟩
  · -- b12.1
    refine k_K38 _ ?_
    · show 0 = gSt (gPr (M 118) (M 103 38) (M1 103 42) (M1 121)) cost (M1 103 42)  -- K38.1.hk
      unfold gSt; rw [if_pos (by omega)]
  · -- b12.2
    refine k_K38 _ ?_
    · show 1 = gSt (gPr (M 118) (M 103 38) (M1 103 42) (M1 121)) cost (M1 103 42)  -- K38.2.hk
      unfold gSt; rw [if_neg (by omega)]

