def rS (M : zM) : Int × Int × Int := gSS (M (M 74 2)) (M 74 3) (M 75) (M 74 4)
abbrev pr_X7_readSum (M : zM) : Prop := (rC M)
abbrev po_X7_readSum (M : zM) (r : Int) (M' : zM) : Prop := (∀ c i, ¬ (c = 74 ∧ (i = 1 ∨ i = 4)) → M' c i = M c i) ∧ (-20000000 ≤ r ∧ r ≤ 20000000) ∧ (M 74 1 ≠ -4 → M' = M) ∧ (M 74 1 = -4 → ((rS M).1 = 0 ∧ M' 74 1 = -4 ∧ M' 74 4 = (rS M).2.1 ∧ r = (rS M).2.2) ∨ ((rS M).1 = 1 ∧ M' 74 1 = (rS M).2.1 ∧ M' 74 4 = (rS M).2.1))
set_option maxHeartbeats 1000000 in
theorem ok_X7_readSum : zSnd zS 145 0 0 yX7_readSum cX7_readSum 5 (some .int) 3 [2] (F_X7_readSum pr_X7_readSum po_X7_readSum) := by
  refine (sn_X7_readSum ok_X7_readAtom ok_X7_byteAhead).mono ?_
  rintro xs P M hz hR ⟨rfl, hC, hP⟩
  refine ⟨rfl, ?_⟩
  change vc_X7_readSum pr_X7_readAtom po_X7_readAtom pr_X7_byteAhead po_X7_byteAhead P M
  unfold vc_X7_readSum
  have rn := hC.2.2.1
  have rp := hC.2.2.2.1
  have ab := gAt_b (T := M (M 74 2)) (n := M 74 3) (p := M 74 4) (φ := M 75) rp.1 rp.2
  have gc1 : pr_X7_readAtom M := by
    show rC M
    exact hC
  refine ⟨gc1, ?_⟩
  rintro r1 M2 ⟨pc1_hf, pc1_hb, pc1_hz, pc1_ho⟩ z_r1 z_M2
  refine ⟨fun v7 v8 M11 n13 => (n13 : Int) = (200 - v8) ∧ (0 ≤ v8 ∧ v8 ≤ M 74 3) ∧ (-100000 * (v8 + 1) ≤ v7 ∧ v7 ≤ 100000 * (v8 + 1)) ∧ (∀ c i, ¬ (c = 74 ∧ (i = 1 ∨ i = 4)) → M11 c i = M c i) ∧ (M 74 1 ≠ -4 → M11 = M) ∧ (0 ≤ M11 74 4 ∧ M11 74 4 ≤ M 74 3) ∧ (M 74 1 = -4 → (M11 74 1 = -4 ∧ v8 < M11 74 4 ∧ rS M = gSu (M (M 74 2)) (M 74 3) (M 75) (Int.toNat (M 74 3 - v8)) (M11 74 4) v7) ∨ (M11 74 1 ≠ -4 ∧ (rS M).1 = 1 ∧ M11 74 1 = (rS M).2.1 ∧ M11 74 4 = (rS M).2.1)), ⟨Int.toNat (200 - 0), by omega, ?_, ?_, ?_, ?_, ?_, ?_⟩, ?_⟩
  · show 0 ≤ 0 ∧ 0 ≤ M 74 3  -- I7.0.hv
    first | with_reducible assumption | omega | exact trivial | with_reducible rfl
  · show -100000 * (0 + 1) ≤ r1 ∧ r1 ≤ 100000 * (0 + 1)  -- I7.0.hr
    omega
  · show ∀ c i, ¬ (c = 74 ∧ (i = 1 ∨ i = 4)) → M2 c i = M c i  -- I7.0.kf
    exact pc1_hf
  · show M 74 1 ≠ -4 → M2 = M  -- I7.0.kz
    exact pc1_hz
  · show 0 ≤ M2 74 4 ∧ M2 74 4 ≤ M 74 3  -- I7.0.kp
    by_cases k : M 74 1 = -4
    · unfold rA at pc1_ho; rcases pc1_ho k with a | a <;> omega
    · rw [pc1_hz k]; exact rp
  · show M 74 1 = -4 → (M2 74 1 = -4 ∧ 0 < M2 74 4 ∧ rS M = gSu (M (M 74 2)) (M 74 3) (M 75) (Int.toNat (M 74 3 - 0)) (M2 74 4) r1) ∨ (M2 74 1 ≠ -4 ∧ (rS M).1 = 1 ∧ M2 74 1 = (rS M).2.1 ∧ M2 74 4 = (rS M).2.1)  -- I7.0.ko
    intro k; unfold rA at pc1_ho
    rcases pc1_ho k with ⟨a, b, c, d⟩ | ⟨a, b, c⟩
    · refine .inl ⟨b, by omega, ?_⟩
      unfold rS gSS; rw [if_pos a, c, d, show M 74 3 - 0 = M 74 3 by omega]
    · refine .inr ⟨by omega, ?_, ?_, ?_⟩
      · unfold rS gSS; rw [if_neg (by omega)]
      · unfold rS gSS; rw [if_neg (by omega)]; exact b
      · unfold rS gSS; rw [if_neg (by omega)]; exact c
  rintro v7 v8 M11 n13 ⟨h_n13, hv, hr, kf, kz, kp, ko⟩ z_v7 z_v8 z_M11
  have C5 := hC.fr (M' := M11) kf kp
  have T5 := hC.T (M' := M11) kf
  have eB : rB M11 = gBy (M (M 74 2)) (M 74 3) (M11 74 4) := by unfold rB; rw [T5.1, T5.2.1]
  refine ⟨fun b1 => ?_, fun b1 => ?_⟩
  · -- b1.1
    refine hP _ _ ⟨?_, ?_, ?_, ?_⟩
    · show ∀ c i, ¬ (c = 74 ∧ (i = 1 ∨ i = 4)) → M11 c i = M c i  -- p1.hf
      exact kf
    · show -20000000 ≤ v7 ∧ v7 ≤ 20000000  -- p1.hb
      first | with_reducible assumption | omega | exact trivial | with_reducible rfl
    · show M 74 1 ≠ -4 → M11 = M  -- p1.hz
      exact kz
    · show M 74 1 = -4 → ((rS M).1 = 0 ∧ M11 74 1 = -4 ∧ M11 74 4 = (rS M).2.1 ∧ v7 = (rS M).2.2) ∨ ((rS M).1 = 1 ∧ M11 74 1 = (rS M).2.1 ∧ M11 74 4 = (rS M).2.1)  -- p1.ho
      intro k; rcases ko k with ⟨a, b, c⟩ | ⟨_, a⟩
      · have o : ¬ (gBy (M (M 74 2)) (M 74 3) (M11 74 4) = 43 ∨ gBy (M (M 74 2)) (M 74 3) (M11 74 4) = 45) := by
          intro q
          have := gBy_i (T := M (M 74 2)) (n := M 74 3) (p := M11 74 4) (by omega)
          omega
        rw [gSu_n o] at c
        rw [c]; exact .inl ⟨rfl, a, rfl, rfl⟩
      · exact .inr a
  · -- b1.2
    have gc2 : pr_X7_byteAhead M11 := by
      show rC M11
      exact C5
    refine ⟨gc2, ?_⟩
    rintro r21 M22 ⟨q_rfl, e_r21⟩ z_r21 z_M22
    have q_rfl := q_rfl.symm
    subst q_rfl
    have e22 : M11 74 1 = -4 → r21 = gBy (M (M 74 2)) (M 74 3) (M11 74 4) := fun k => by rw [if_pos k] at e_r21; rw [e_r21]; exact eB
    have e22' : M11 74 1 ≠ -4 → r21 = -1 := fun k => by rw [if_neg k] at e_r21; exact e_r21
    intro K33 h_K33
    have k_K33 : ∀ (M27 : zM), (M27 = M11) → (r21 = 43 ∨ r21 = 45) → K33 M27 := by
      intro M27 rfl2 kop
      refine h_K33 _ ?_
      intro z_M27
      have m1 : M11 74 1 = -4 := by
        apply Classical.byContradiction
        intro q; have := e22' q; omega
      have e21 := e22 m1
      have i := gBy_i (T := M (M 74 2)) (n := M 74 3) (p := M11 74 4) (by omega)
      have k1 : M 74 1 = -4 := by
        apply Classical.byContradiction
        intro q; rw [kz q] at m1; exact q m1
      have ko' : v8 < M11 74 4 ∧ rS M = gSu (M (M 74 2)) (M 74 3) (M 75) (Int.toNat (M 74 3 - v8)) (M11 74 4) v7 := by
        rcases ko k1 with a | a
        · exact a.2
        · exact absurd m1 a.1
      have stp : Int.toNat (M 74 3 - v8) = Int.toNat (M 74 3 - (v8 + 1)) + 1 := by omega
      have ab2 := gAt_b (T := M (M 74 2)) (n := M 74 3) (p := M11 74 4 + 1) (φ := M 75) (by omega) (by omega)
      have gc3 : pr_X7_byteAhead M27 := by
        show rC M27
        rw [rfl2]; exact C5
      refine ⟨gc3, ?_⟩
      rintro r29 M30 ⟨q_rfl, e_r29⟩ z_r29 z_M30
      have q_rfl := q_rfl.symm
      subst q_rfl
      rw [rfl2, if_pos m1, eB] at e_r29
      intro K47 h_K47
      have k_K47 : ∀ (v35 : Int), ((v35 = 0 ∧ r21 = 45) ∨ (v35 = 1 ∧ r21 = 43)) → K47 v35 := by
        intro v35 ks
        refine h_K47 _ ?_
        intro z_v35
        have o1 : zin ((M27 74 4) + 1) := by
          rw [rfl2]; omega
        refine ⟨o1, ?_⟩
        intro M38 e_M38
        rw [rfl2] at e_M38
        have m4 : M38 74 4 = M11 74 4 + 1 := by rw [e_M38, zset_s]
        have f38 : ∀ c i, ¬ (c = 74 ∧ i = 4) → M38 c i = M11 c i := fun c i k => by rw [e_M38, zset_n _ (by omega)]
        have C6 : rC M38 := C5.fr (fun c i k => f38 c i (by omega)) (by rw [m4, T5.2.1]; omega)
        have T6 := C5.T (M' := M38) (fun c i k => f38 c i (by omega))
        have m38 : M38 74 1 = -4 := by rw [f38 74 1 (by omega)]; exact m1
        have eA : rA M38 = gAt (M (M 74 2)) (M 74 3) (M 75) (M11 74 4 + 1) := by unfold rA; rw [T6.1, T6.2.1, T6.2.2, T5.1, T5.2.1, T5.2.2, m4]
        have gc4 : pr_X7_readAtom M38 := by
          show rC M38
          exact C6
        refine ⟨gc4, ?_⟩
        rintro r41 M42 ⟨pc4_hf, pc4_hb, pc4_hz, pc4_ho⟩ z_r41 z_M42
        have ho4 := pc4_ho m38
        rw [eA] at ho4
        have nf : ∀ c i, ¬ (c = 74 ∧ (i = 1 ∨ i = 4)) → M42 c i = M c i := fun c i k => by rw [pc4_hf c i k, f38 c i (by omega)]; exact kf c i k
        have np : 0 ≤ M42 74 4 ∧ M42 74 4 ≤ M 74 3 := by rcases ho4 with a | a <;> omega
        refine ⟨fun b2 => ?_, fun b2 => ?_⟩
        · -- b2.1
          have o2 : zin (v7 - r41) := by
            omega
          refine ⟨o2, ?_⟩
          have o3 : zin (v8 + 1) := by
            first | with_reducible assumption | omega | exact trivial | with_reducible rfl  -- o3
          refine ⟨o3, ?_⟩
          refine ⟨Int.toNat (200 - (v8 + 1)), by omega, by omega, ?_, ?_, ?_, ?_, ?_, ?_⟩
          · show 0 ≤ (v8 + 1) ∧ (v8 + 1) ≤ M 74 3  -- I7.1.hv
            first | with_reducible assumption | omega | exact trivial | with_reducible rfl
          · show -100000 * ((v8 + 1) + 1) ≤ (v7 - r41) ∧ (v7 - r41) ≤ 100000 * ((v8 + 1) + 1)  -- I7.1.hr
            omega
          · show ∀ c i, ¬ (c = 74 ∧ (i = 1 ∨ i = 4)) → M42 c i = M c i  -- I7.1.kf
            exact nf
          · show M 74 1 ≠ -4 → M42 = M  -- I7.1.kz
            intro q; exact absurd k1 q
          · show 0 ≤ M42 74 4 ∧ M42 74 4 ≤ M 74 3  -- I7.1.kp
            exact np
          · show M 74 1 = -4 → (M42 74 1 = -4 ∧ (v8 + 1) < M42 74 4 ∧ rS M = gSu (M (M 74 2)) (M 74 3) (M 75) (Int.toNat (M 74 3 - (v8 + 1))) (M42 74 4) (v7 - r41)) ∨ (M42 74 1 ≠ -4 ∧ (rS M).1 = 1 ∧ M42 74 1 = (rS M).2.1 ∧ M42 74 4 = (rS M).2.1)  -- I7.1.ko
            intro _; rcases ho4 with ⟨a, b, c, d⟩ | ⟨a, b, c⟩
            · refine .inl ⟨b, by omega, ?_⟩
              rw [ko'.2, stp, gSu_y (by omega) a, if_neg (by omega), c, d]
            · refine .inr ⟨by omega, ?_⟩
              rw [ko'.2, stp, gSu_b1 (by omega) (by omega)]
              exact ⟨rfl, b, c⟩
        · -- b2.2
          have o4 : zin (v7 + r41) := by
            omega
          refine ⟨o4, ?_⟩
          have o5 : zin (v8 + 1) := by
            first | with_reducible assumption | omega | exact trivial | with_reducible rfl  -- o5
          refine ⟨o5, ?_⟩
          refine ⟨Int.toNat (200 - (v8 + 1)), by omega, by omega, ?_, ?_, ?_, ?_, ?_, ?_⟩
          · show 0 ≤ (v8 + 1) ∧ (v8 + 1) ≤ M 74 3  -- I7.2.hv
            first | with_reducible assumption | omega | exact trivial | with_reducible rfl
          · show -100000 * ((v8 + 1) + 1) ≤ (v7 + r41) ∧ (v7 + r41) ≤ 100000 * ((v8 + 1) + 1)  -- I7.2.hr
            omega
          · show ∀ c i, ¬ (c = 74 ∧ (i = 1 ∨ i = 4)) → M42 c i = M c i  -- I7.2.kf
            exact nf
          · show M 74 1 ≠ -4 → M42 = M  -- I7.2.kz
            intro q; exact absurd k1 q
          · show 0 ≤ M42 74 4 ∧ M42 74 4 ≤ M 74 3  -- I7.2.kp
            exact np
          · show M 74 1 = -4 → (M42 74 1 = -4 ∧ (v8 + 1) < M42 74 4 ∧ rS M = gSu (M (M 74 2)) (M 74 3) (M 75) (Int.toNat (M 74 3 - (v8 + 1))) (M42 74 4) (v7 + r41)) ∨ (M42 74 1 ≠ -4 ∧ (rS M).1 = 1 ∧ M42 74 1 = (rS M).2.1 ∧ M42 74 4 = (rS M).2.1)  -- I7.2.ko
            intro _; rcases ho4 with ⟨a, b, c, d⟩ | ⟨a, b, c⟩
            · refine .inl ⟨b, by omega, ?_⟩
              rw [ko'.2, stp, gSu_y (by omega) a, if_pos (by omega), c, d]
            · refine .inr ⟨by omega, ?_⟩
              rw [ko'.2, stp, gSu_b1 (by omega) (by omega)]
              exact ⟨rfl, b, c⟩
      refine ⟨fun b3 => ?_, fun b3 => ?_⟩
      · -- b3.1
        refine k_K47 _ ?_
        · show (0 = 0 ∧ r21 = 45) ∨ (0 = 1 ∧ r21 = 43)  -- K47.1.ks
          omega
      · -- b3.2
        refine k_K47 _ ?_
        · show (1 = 0 ∧ r21 = 45) ∨ (1 = 1 ∧ r21 = 43)  -- K47.2.ks
          omega
    refine ⟨fun b4 => ?_, fun b4 => ?_⟩
    · -- b4.1
      refine k_K33 _ ?_ ?_
      · show M11 = M11  -- K33.1.rfl2
        rfl
      · show r21 = 43 ∨ r21 = 45  -- K33.1.kop
        exact .inl b4
    · -- b4.2
      have gc5 : pr_X7_byteAhead M11 := by
        show rC M11
        exact C5
      refine ⟨gc5, ?_⟩
      rintro r60 M61 ⟨q_rfl, e_r60⟩ z_r60 z_M61
      have q_rfl := q_rfl.symm
      subst q_rfl
      have e60 : r60 = r21 := by rw [e_r60, e_r21]
      refine ⟨fun b5 => ?_, fun b5 => ?_⟩
      · -- b5.1
        refine hP _ _ ⟨?_, ?_, ?_, ?_⟩
        · show ∀ c i, ¬ (c = 74 ∧ (i = 1 ∨ i = 4)) → M11 c i = M c i  -- p2.hf
          exact kf
        · show -20000000 ≤ v7 ∧ v7 ≤ 20000000  -- p2.hb
          first | with_reducible assumption | omega | exact trivial | with_reducible rfl
        · show M 74 1 ≠ -4 → M11 = M  -- p2.hz
          exact kz
        · show M 74 1 = -4 → ((rS M).1 = 0 ∧ M11 74 1 = -4 ∧ M11 74 4 = (rS M).2.1 ∧ v7 = (rS M).2.2) ∨ ((rS M).1 = 1 ∧ M11 74 1 = (rS M).2.1 ∧ M11 74 4 = (rS M).2.1)  -- p2.ho
          intro k; rcases ko k with ⟨a, b, c⟩ | ⟨_, a⟩
          · have e := e22 a
            rw [gSu_n (by omega)] at c
            rw [c]; exact .inl ⟨rfl, a, rfl, rfl⟩
          · exact .inr a
      · -- b5.2
        refine k_K33 _ ?_ ?_
        · show M11 = M11  -- K33.2.rfl2
          rfl
        · show r21 = 43 ∨ r21 = 45  -- K33.2.kop
          omega

def rT (M : zM) : Int × Int × Int := gTs (M (M 74 2)) (M 74 3) (M 75) (M 74 4)
abbrev pr_X7_readComparison (M : zM) : Prop := (rC M)
abbrev po_X7_readComparison (M : zM) (r : Int) (M' : zM) : Prop := (∀ c i, ¬ (c = 74 ∧ (i = 1 ∨ i = 4)) → M' c i = M c i) ∧ (r = 0 ∨ r = 1) ∧ (M 74 1 ≠ -4 → M' = M) ∧ (M 74 1 = -4 → ((rT M).1 = 0 ∧ M' 74 1 = -4 ∧ M' 74 4 = (rT M).2.1 ∧ r = (rT M).2.2) ∨ ((rT M).1 = 1 ∧ M' 74 1 = (rT M).2.1 ∧ M' 74 4 = (rT M).2.1))
set_option maxHeartbeats 1000000 in
theorem ok_X7_readComparison : zSnd zS 145 0 0 yX7_readComparison cX7_readComparison 4 (some .boolean) 4 [2] (F_X7_readComparison pr_X7_readComparison po_X7_readComparison) := by
  refine (sn_X7_readComparison ok_X7_readSum ok_X7_byteAhead ok_X7_stop).mono ?_
  rintro xs P M hz hR ⟨rfl, hC, hP⟩
  refine ⟨rfl, ?_⟩
  change vc_X7_readComparison pr_X7_readSum po_X7_readSum pr_X7_byteAhead po_X7_byteAhead pr_X7_stop po_X7_stop P M
  unfold vc_X7_readComparison
  have rn := hC.2.2.1
  have rp := hC.2.2.2.1
  have sb := gSS_b (T := M (M 74 2)) (n := M 74 3) (p := M 74 4) (φ := M 75) rp.1 rp.2
  have gc1 : pr_X7_readSum M := by
    show rC M
    exact hC
  refine ⟨gc1, ?_⟩
  rintro r1 M2 ⟨pc1_hf, pc1_hb, pc1_hz, pc1_ho⟩ z_r1 z_M2
  have T5 := hC.T pc1_hf
  have po1 : M 74 1 = -4 → ((rS M).1 = 0 ∧ M2 74 1 = -4 ∧ M2 74 4 = (rS M).2.1 ∧ r1 = (rS M).2.2) ∨ ((rS M).1 = 1 ∧ M2 74 1 = (rS M).2.1 ∧ M2 74 4 = (rS M).2.1) := pc1_ho
  have np : 0 ≤ M2 74 4 ∧ M2 74 4 ≤ M 74 3 := by
    by_cases k : M 74 1 = -4
    · unfold rS at pc1_ho; rcases pc1_ho k with a | a <;> omega
    · rw [pc1_hz k]; exact rp
  have C5 := hC.fr pc1_hf np
  have eB : rB M2 = gBy (M (M 74 2)) (M 74 3) (M2 74 4) := by unfold rB; rw [T5.1, T5.2.1]
  have gc2 : pr_X7_byteAhead M2 := by
    show rC M2
    exact C5
  refine ⟨gc2, ?_⟩
  rintro r7 M8 ⟨q_rfl, e_r7⟩ z_r7 z_M8
  have q_rfl := q_rfl.symm
  subst q_rfl
  intro K34 h_K34
  have k_K34 : (r7 = 60 ∨ r7 = 62 ∨ r7 = 61) → K34  := by
    intro  kc
    refine h_K34 ?_
    have m1 : M2 74 1 = -4 := by
      apply Classical.byContradiction
      intro q; rw [if_neg q] at e_r7; omega
    rw [if_pos m1, eB] at e_r7
    have k1 : M 74 1 = -4 := by
      apply Classical.byContradiction
      intro q; rw [pc1_hz q] at m1; exact q m1
    have ⟨s0, s4, s5⟩ : (rS M).1 = 0 ∧ M2 74 4 = (rS M).2.1 ∧ r1 = (rS M).2.2 := by
      unfold rS at pc1_ho ⊢
      rcases pc1_ho k1 with a | a
      · exact ⟨a.1, a.2.2.1, a.2.2.2⟩
      · omega
    have i := gBy_i (T := M (M 74 2)) (n := M 74 3) (p := M2 74 4) (by omega)
    have o1 : zin ((M2 74 4) + 1) := by
      omega
    refine ⟨o1, ?_⟩
    intro M14 e_M14
    have m4 : M14 74 4 = M2 74 4 + 1 := by rw [e_M14, zset_s]
    have f14 : ∀ c i, ¬ (c = 74 ∧ i = 4) → M14 c i = M2 c i := fun c i k => by rw [e_M14, zset_n _ (by omega)]
    have C6 : rC M14 := C5.fr (fun c i k => f14 c i (by omega)) (by rw [m4, T5.2.1]; omega)
    have T6 := C5.T (M' := M14) (fun c i k => f14 c i (by omega))
    have m14 : M14 74 1 = -4 := by rw [f14 74 1 (by omega)]; exact m1
    have eS : rS M14 = gSS (M (M 74 2)) (M 74 3) (M 75) (M2 74 4 + 1) := by unfold rS; rw [T6.1, T6.2.1, T6.2.2, T5.1, T5.2.1, T5.2.2, m4]
    have gc3 : pr_X7_readSum M14 := by
      show rC M14
      exact C6
    refine ⟨gc3, ?_⟩
    rintro r17 M18 ⟨pc3_hf, pc3_hb, pc3_hz, pc3_ho⟩ z_r17 z_M18
    have ho3 := pc3_ho m14
    rw [eS] at ho3
    have nf : ∀ c i, ¬ (c = 74 ∧ (i = 1 ∨ i = 4)) → M18 c i = M c i := fun c i k => by rw [pc3_hf c i k, f14 c i (by omega)]; exact pc1_hf c i k
    have cc : gBy (M (M 74 2)) (M 74 3) (gSS (M (M 74 2)) (M 74 3) (M 75) (M 74 4)).2.1 = r7 := by
      rw [e_r7, s4]; rfl
    have cc' : gBy (M (M 74 2)) (M 74 3) (gSS (M (M 74 2)) (M 74 3) (M 75) (M 74 4)).2.1 = 60 ∨ gBy (M (M 74 2)) (M 74 3) (gSS (M (M 74 2)) (M 74 3) (M 75) (M 74 4)).2.1 = 62 ∨ gBy (M (M 74 2)) (M 74 3) (gSS (M (M 74 2)) (M 74 3) (M 75) (M 74 4)).2.1 = 61 := by rw [cc]; exact kc
    have sM : rS M = gSS (M (M 74 2)) (M 74 3) (M 75) (M 74 4) := rfl
    rw [sM] at s0 s4 s5
    rw [s4] at ho3
    have R : ∀ x, (x = if r7 = 61 then (if r1 = r17 then 1 else 0) else if r7 = 60 then (if r1 < r17 then 1 else 0) else (if r17 < r1 then 1 else 0)) → ((rT M).1 = 0 ∧ M18 74 1 = -4 ∧ M18 74 4 = (rT M).2.1 ∧ x = (rT M).2.2) ∨ ((rT M).1 = 1 ∧ M18 74 1 = (rT M).2.1 ∧ M18 74 4 = (rT M).2.1) := by
      intro x hx
      unfold rT
      rcases ho3 with ⟨a, b, c, d⟩ | ⟨a, b, c⟩
      · rw [gTs_e s0 cc' a]
        refine .inl ⟨rfl, b, c, ?_⟩
        rw [cc, ← s5, ← d]; exact hx
      · rw [gTs_d s0 cc' (by omega)]
        exact .inr ⟨rfl, b, c⟩
    refine ⟨fun b1 => ?_, fun b1 => ?_⟩
    · -- b1.1
      refine ⟨fun b2 => ?_, fun b2 => ?_⟩
      · -- b2.1
        refine ⟨fun b3 => ?_, fun b3 => ?_⟩
        · -- b3.1
          refine hP _ _ ⟨?_, ?_, ?_, ?_⟩
          · show ∀ c i, ¬ (c = 74 ∧ (i = 1 ∨ i = 4)) → M18 c i = M c i  -- p1.hf
            exact nf
          · show 0 = 0 ∨ 0 = 1  -- p1.hb
            omega
          · show M 74 1 ≠ -4 → M18 = M  -- p1.hz
            intro q; exact absurd k1 q
          · show M 74 1 = -4 → ((rT M).1 = 0 ∧ M18 74 1 = -4 ∧ M18 74 4 = (rT M).2.1 ∧ 0 = (rT M).2.2) ∨ ((rT M).1 = 1 ∧ M18 74 1 = (rT M).2.1 ∧ M18 74 4 = (rT M).2.1)  -- p1.ho
            intro _; exact R _ (by rw [if_neg b1, if_neg b2, if_neg (by omega)])
        · -- b3.2
          refine hP _ _ ⟨?_, ?_, ?_, ?_⟩
          · show ∀ c i, ¬ (c = 74 ∧ (i = 1 ∨ i = 4)) → M18 c i = M c i  -- p2.hf
            exact nf
          · show 1 = 0 ∨ 1 = 1  -- p2.hb
            omega
          · show M 74 1 ≠ -4 → M18 = M  -- p2.hz
            intro q; exact absurd k1 q
          · show M 74 1 = -4 → ((rT M).1 = 0 ∧ M18 74 1 = -4 ∧ M18 74 4 = (rT M).2.1 ∧ 1 = (rT M).2.2) ∨ ((rT M).1 = 1 ∧ M18 74 1 = (rT M).2.1 ∧ M18 74 4 = (rT M).2.1)  -- p2.ho
            intro _; exact R _ (by rw [if_neg b1, if_neg b2, if_pos (by omega)])
      · -- b2.2
        refine ⟨fun b4 => ?_, fun b4 => ?_⟩
        · -- b4.1
          refine hP _ _ ⟨?_, ?_, ?_, ?_⟩
          · show ∀ c i, ¬ (c = 74 ∧ (i = 1 ∨ i = 4)) → M18 c i = M c i  -- p3.hf
            exact nf
          · show 0 = 0 ∨ 0 = 1  -- p3.hb
            omega
          · show M 74 1 ≠ -4 → M18 = M  -- p3.hz
            intro q; exact absurd k1 q
          · show M 74 1 = -4 → ((rT M).1 = 0 ∧ M18 74 1 = -4 ∧ M18 74 4 = (rT M).2.1 ∧ 0 = (rT M).2.2) ∨ ((rT M).1 = 1 ∧ M18 74 1 = (rT M).2.1 ∧ M18 74 4 = (rT M).2.1)  -- p3.ho
            intro _; exact R _ (by rw [if_neg b1, if_pos b2, if_neg (by omega)])
        · -- b4.2
          refine hP _ _ ⟨?_, ?_, ?_, ?_⟩
          · show ∀ c i, ¬ (c = 74 ∧ (i = 1 ∨ i = 4)) → M18 c i = M c i  -- p4.hf
            exact nf
          · show 1 = 0 ∨ 1 = 1  -- p4.hb
            omega
          · show M 74 1 ≠ -4 → M18 = M  -- p4.hz
            intro q; exact absurd k1 q
          · show M 74 1 = -4 → ((rT M).1 = 0 ∧ M18 74 1 = -4 ∧ M18 74 4 = (rT M).2.1 ∧ 1 = (rT M).2.2) ∨ ((rT M).1 = 1 ∧ M18 74 1 = (rT M).2.1 ∧ M18 74 4 = (rT M).2.1)  -- p4.ho
            intro _; exact R _ (by rw [if_neg b1, if_pos b2, if_pos (by omega)])
    · -- b1.2
      refine ⟨fun b5 => ?_, fun b5 => ?_⟩
      · -- b5.1
        refine hP _ _ ⟨?_, ?_, ?_, ?_⟩
        · show ∀ c i, ¬ (c = 74 ∧ (i = 1 ∨ i = 4)) → M18 c i = M c i  -- p5.hf
          exact nf
        · show 0 = 0 ∨ 0 = 1  -- p5.hb
          omega
        · show M 74 1 ≠ -4 → M18 = M  -- p5.hz
          intro q; exact absurd k1 q
        · show M 74 1 = -4 → ((rT M).1 = 0 ∧ M18 74 1 = -4 ∧ M18 74 4 = (rT M).2.1 ∧ 0 = (rT M).2.2) ∨ ((rT M).1 = 1 ∧ M18 74 1 = (rT M).2.1 ∧ M18 74 4 = (rT M).2.1)  -- p5.ho
          intro _; exact R _ (by rw [if_pos b1, if_neg b5])
      · -- b5.2
        refine hP _ _ ⟨?_, ?_, ?_, ?_⟩
        · show ∀ c i, ¬ (c = 74 ∧ (i = 1 ∨ i = 4)) → M18 c i = M c i  -- p6.hf
          exact nf
        · show 1 = 0 ∨ 1 = 1  -- p6.hb
          omega
        · show M 74 1 ≠ -4 → M18 = M  -- p6.hz
          intro q; exact absurd k1 q
        · show M 74 1 = -4 → ((rT M).1 = 0 ∧ M18 74 1 = -4 ∧ M18 74 4 = (rT M).2.1 ∧ 1 = (rT M).2.2) ∨ ((rT M).1 = 1 ∧ M18 74 1 = (rT M).2.1 ∧ M18 74 4 = (rT M).2.1)  -- p6.ho
          intro _; exact R _ (by rw [if_pos b1, if_pos b5])
  refine ⟨fun b6 => ?_, fun b6 => ?_⟩
  · -- b6.1
    refine k_K34 ?_
    · show r7 = 60 ∨ r7 = 62 ∨ r7 = 61  -- K34.1.kc
      omega
  · -- b6.2
    refine ⟨fun b7 => ?_, fun b7 => ?_⟩
    · -- b7.1
      refine k_K34 ?_
      · show r7 = 60 ∨ r7 = 62 ∨ r7 = 61  -- K34.2.kc
        omega
    · -- b7.2
      refine ⟨fun b8 => ?_, fun b8 => ?_⟩
      · -- b8.1
        refine k_K34 ?_
        · show r7 = 60 ∨ r7 = 62 ∨ r7 = 61  -- K34.3.kc
          omega
      · -- b8.2
        have gc4 : pr_X7_stop M2 := trivial
        refine ⟨gc4, ?_⟩
        rintro M31 pc4_e z_M31
        unfold po_X7_stop at pc4_e
        refine hP _ _ ⟨?_, ?_, ?_, ?_⟩
        · show ∀ c i, ¬ (c = 74 ∧ (i = 1 ∨ i = 4)) → M31 c i = M c i  -- p7.hf
          intro c i k; rw [pc4_e]; split
          · rw [zset_n _ (by omega)]; exact pc1_hf c i k
          · exact pc1_hf c i k
        · show 0 = 0 ∨ 0 = 1  -- p7.hb
          omega
        · show M 74 1 ≠ -4 → M31 = M  -- p7.hz
          intro q; have e := pc1_hz q; rw [e, if_neg q] at pc4_e; exact pc4_e
        · show M 74 1 = -4 → ((rT M).1 = 0 ∧ M31 74 1 = -4 ∧ M31 74 4 = (rT M).2.1 ∧ 0 = (rT M).2.2) ∨ ((rT M).1 = 1 ∧ M31 74 1 = (rT M).2.1 ∧ M31 74 4 = (rT M).2.1)  -- p7.ho
          intro k; unfold rS at pc1_ho; unfold rT
          rcases pc1_ho k with ⟨a, b, c, d⟩ | ⟨a, b, c⟩
          · rw [if_pos b] at pc4_e e_r7
            rw [eB, c] at e_r7
            rw [gTs_c a (by omega)]
            exact .inr ⟨rfl, by rw [pc4_e, zset_s]; exact c, by rw [pc4_e, zset_n _ (by omega)]; exact c⟩
          · rw [if_neg (by omega)] at pc4_e
            rw [gTs_a (by omega), pc4_e]
            exact .inr ⟨rfl, b, c⟩

