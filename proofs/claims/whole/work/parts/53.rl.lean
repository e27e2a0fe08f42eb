/-- the text that the reference reads -/
def mT (M : zM) : Int → Int := fun i => zland (M 142 (M 103 21 + i)) 255
theorem mT_c {M M' : zM} (a : M' 142 = M 142) (b : M' 103 21 = M 103 21) : mT M' = mT M := by
  unfold mT; rw [a, b]
theorem gNm_0 {T : Int → Int} {n p : Int} (h : ¬ (49 ≤ gBy T n p ∧ gBy T n p ≤ 57)) : gNm T n p = 0 := by
  by_cases k : gBy T n p = 48
  · have e : gDn T n p = 1 := by unfold gDn; rw [if_neg (by omega), if_neg (by omega)]
    unfold gNm
    rw [e, k]; rfl
  · have e : gDn T n p = 0 := by unfold gDn; rw [if_pos (by omega)]
    unfold gNm
    rw [e]; rfl
theorem gNm_1 {T : Int → Int} {n p : Int} (h : 49 ≤ gBy T n p ∧ gBy T n p ≤ 57) (k : ¬ (48 ≤ gBy T n (p + 1) ∧ gBy T n (p + 1) ≤ 57)) : gDn T n p = 1 ∧ gNm T n p = gBy T n p - 48 := by
  have e : gDn T n p = 1 := by unfold gDn; rw [if_neg (by omega), if_neg (by omega)]
  unfold gNm
  rw [e]
  exact ⟨rfl, rfl⟩
theorem gNm_2 {T : Int → Int} {n p : Int} (h : 49 ≤ gBy T n p ∧ gBy T n p ≤ 57) (k : 48 ≤ gBy T n (p + 1) ∧ gBy T n (p + 1) ≤ 57) : gDn T n p = 2 ∧ gNm T n p = 10 * (gBy T n p - 48) + gBy T n (p + 1) - 48 := by
  have e : gDn T n p = 2 := by unfold gDn; rw [if_neg (by omega), if_pos (by omega)]
  unfold gNm
  rw [e]
  exact ⟨rfl, rfl⟩
abbrev pr_X12_here (M : zM) : Prop := ((0 ≤ M 103 21 ∧ M 103 21 ≤ 840) ∧ M 103 22 ≤ 120 ∧ 0 ≤ M 103 23)
abbrev po_X12_here (M : zM) (r : Int) (M' : zM) : Prop := M' = M ∧ r = gBy (mT M) (M 103 22) (M 103 23)
set_option maxHeartbeats 1000000 in
theorem ok_X12_here : zSnd zS 145 0 0 yX12_here cX12_here 1 (some .int) 0 [2] (F_X12_here pr_X12_here po_X12_here) := by
  refine (sn_X12_here).mono ?_
  rintro xs P M hz hR ⟨rfl, hb, hP⟩
  refine ⟨rfl, ?_⟩
  change vc_X12_here P M
  unfold vc_X12_here
  refine ⟨fun b1 => ?_, fun b1 => ?_⟩
  · -- b1.1
    have o1 : ((0 : Int) ≤ ((M 103 21) + (M 103 23)) ∧ ((M 103 21) + (M 103 23)) < 960) := by
      first | with_reducible assumption | omega | exact trivial | with_reducible rfl  -- o1
    refine ⟨o1, ?_⟩
    refine hP _ _ ⟨rfl, ?_⟩
    · unfold gBy mT; rw [if_pos (by omega)]  -- p1
  · -- b1.2
    refine hP _ _ ⟨rfl, ?_⟩
    · unfold gBy; rw [if_neg (by omega)]  -- p2

abbrev pr_X12_colourOf (b : Int) (M : zM) : Prop := True
abbrev po_X12_colourOf (b : Int) (M : zM) (r : Int) (M' : zM) : Prop := M' = M ∧ r = gCl b
set_option maxHeartbeats 1000000 in
theorem ok_X12_colourOf : zSnd zS 145 0 0 yX12_colourOf cX12_colourOf 1 (some .int) 1 [0] (F_X12_colourOf pr_X12_colourOf po_X12_colourOf) := by
  refine (sn_X12_colourOf ok_X12_in).mono ?_
  rintro xs P M hz hR ⟨b, rfl, _, hP⟩
  refine ⟨_, rfl, ?_⟩
  have z_b := zall_h hz (by decide)
  change vc_X12_colourOf pr_X12_in po_X12_in b P M
  unfold vc_X12_colourOf
  have gc1 : pr_X12_in b 48 57 M := trivial
  refine ⟨gc1, ?_⟩
  rintro r1 M2 ⟨q_rfl, e_r1⟩ z_r1 z_M2
  have q_rfl := q_rfl.symm
  subst q_rfl
  refine ⟨fun b1 => ?_, fun b1 => ?_⟩
  · -- b1.1
    have q : ¬ (48 ≤ b ∧ b ≤ 57) := fun k => by rw [if_pos k] at e_r1; omega
    have gc2 : pr_X12_in b 97 102 M := trivial
    refine ⟨gc2, ?_⟩
    rintro r8 M9 ⟨q_rfl, e_r8⟩ z_r8 z_M9
    have q_rfl := q_rfl.symm
    subst q_rfl
    refine ⟨fun b2 => ?_, fun b2 => ?_⟩
    · -- b2.1
      refine hP _ _ ⟨rfl, ?_⟩
      · have q2 : ¬ (97 ≤ b ∧ b ≤ 102) := fun k => by rw [if_pos k] at e_r8; omega  -- p1
        unfold gCl; rw [if_neg q, if_neg q2]
    · -- b2.2
      have q2 : 97 ≤ b ∧ b ≤ 102 := by
        apply Classical.byContradiction
        intro k; rw [if_neg k] at e_r8; omega
      have o1 : zin ((b - 97) + 10) := by
        first | with_reducible assumption | omega | exact trivial | with_reducible rfl  -- o1
      refine ⟨o1, ?_⟩
      refine hP _ _ ⟨rfl, ?_⟩
      · unfold gCl; rw [if_neg q, if_pos q2]  -- p2
  · -- b1.2
    have q : 48 ≤ b ∧ b ≤ 57 := by
      apply Classical.byContradiction
      intro k; rw [if_neg k] at e_r1; omega
    have o2 : zin (b - 48) := by
      first | with_reducible assumption | omega | exact trivial | with_reducible rfl  -- o2
    refine ⟨o2, ?_⟩
    refine hP _ _ ⟨rfl, ?_⟩
    · unfold gCl; rw [if_pos q]  -- p3

abbrev pr_X12_isDigit (b : Int) (M : zM) : Prop := True
abbrev po_X12_isDigit (b : Int) (M : zM) (r : Int) (M' : zM) : Prop := (M' = M) ∧ (zB r (48 ≤ b ∧ b ≤ 57))
set_option maxHeartbeats 1000000 in
theorem ok_X12_isDigit : zSnd zS 145 0 0 yX12_isDigit cX12_isDigit 1 (some .boolean) 1 [0] (F_X12_isDigit pr_X12_isDigit po_X12_isDigit) := by
  refine (sn_X12_isDigit ok_X12_in).mono ?_
  rintro xs P M hz hR ⟨b, rfl, _, hP⟩
  refine ⟨_, rfl, ?_⟩
  have z_b := zall_h hz (by decide)
  change vc_X12_isDigit pr_X12_in po_X12_in b P M
  unfold vc_X12_isDigit
  have gc1 : pr_X12_in b 48 57 M := trivial
  refine ⟨gc1, ?_⟩
  rintro r1 M2 ⟨q_rfl, e_r1⟩ z_r1 z_M2
  have q_rfl := q_rfl.symm
  subst q_rfl
  have o1 : (r1 = 0 ∨ r1 = 1) := by
    rw [e_r1]; split <;> omega
  refine ⟨o1, ?_⟩
  refine hP _ _ ⟨?_, ?_⟩
  · show M = M  -- p1.rfl
    first | with_reducible assumption | omega | exact trivial | with_reducible rfl
  · show zB r1 (48 ≤ b ∧ b ≤ 57)  -- p1.pb
    exact zif01 e_r1

abbrev pr_X12_readNumber (l : Int) (M : zM) : Prop := ((0 ≤ M 103 21 ∧ M 103 21 ≤ 840) ∧ M 103 22 ≤ 120 ∧ 0 ≤ M 103 23) ∧ (-100 ≤ l ∧ l ≤ 100)
abbrev po_X12_readNumber (l : Int) (M : zM) (r : Int) (M' : zM) : Prop := (∀ c i, ¬ (c = 103 ∧ (i = 23 ∨ i = 24)) → M' c i = M c i) ∧ ((1 ≤ gNm (mT M) (M 103 22) (M 103 23) ∧ gNm (mT M) (M 103 22) (M 103 23) ≤ 16 ∧ gNm (mT M) (M 103 22) (M 103 23) ≤ l ∧ r = gNm (mT M) (M 103 22) (M 103 23) ∧ M' 103 24 = M 103 24 ∧ M' 103 23 = M 103 23 + gDn (mT M) (M 103 22) (M 103 23)) ∨ (¬ (1 ≤ gNm (mT M) (M 103 22) (M 103 23) ∧ gNm (mT M) (M 103 22) (M 103 23) ≤ 16 ∧ gNm (mT M) (M 103 22) (M 103 23) ≤ l) ∧ M' 103 24 = 1 ∧ M' 103 23 = M 103 23))
set_option maxHeartbeats 1000000 in
theorem ok_X12_readNumber : zSnd zS 145 0 0 yX12_readNumber cX12_readNumber 5 (some .int) 2 [2, 0] (F_X12_readNumber pr_X12_readNumber po_X12_readNumber) := by
  refine (sn_X12_readNumber ok_X12_here ok_X12_in ok_X12_isDigit).mono ?_
  rintro xs P M hz hR ⟨l, rfl, ⟨hb, hl⟩, hP⟩
  refine ⟨_, rfl, ?_⟩
  have z_l := zall_h (zall_t hz) (by decide)
  change vc_X12_readNumber pr_X12_here po_X12_here pr_X12_in po_X12_in pr_X12_isDigit po_X12_isDigit l P M
  unfold vc_X12_readNumber
  have pi := @gBy_i (mT M) (M 103 22) (M 103 23)
  have gc1 : pr_X12_here M := by
    show (0 ≤ M 103 21 ∧ M 103 21 ≤ 840) ∧ M 103 22 ≤ 120 ∧ 0 ≤ M 103 23
    first | with_reducible assumption | omega | exact trivial | with_reducible rfl  -- c1.hb
  refine ⟨gc1, ?_⟩
  rintro r1 M2 ⟨q_rfl, e_r1⟩ z_r1 z_M2
  have q_rfl := q_rfl.symm
  subst q_rfl
  have gc2 : pr_X12_in r1 49 57 M := trivial
  refine ⟨gc2, ?_⟩
  rintro r7 M8 ⟨q_rfl, e_r7⟩ z_r7 z_M8
  have q_rfl := q_rfl.symm
  subst q_rfl
  refine ⟨fun b1 => ?_, fun b1 => ?_⟩
  · -- b1.1
    have q : 49 ≤ r1 ∧ r1 ≤ 57 := by
      apply Classical.byContradiction
      intro k; rw [if_neg k] at e_r7; omega
    have pin := pi (by omega)
    have o1 : zin ((M 103 23) + 1) := by
      first | with_reducible assumption | omega | exact trivial | with_reducible rfl  -- o1
    refine ⟨o1, ?_⟩
    intro M15 e_M15
    have f1 : ∀ c i, ¬ (c = 103 ∧ i = 23) → M15 c i = M c i := fun c i k => by rw [e_M15, zset_n _ (by omega)]
    have f23 : M15 103 23 = M 103 23 + 1 := by rw [e_M15, zset_s]
    have f22 : M15 103 22 = M 103 22 := f1 103 22 (by omega)
    have f21 : M15 103 21 = M 103 21 := f1 103 21 (by omega)
    have fT : mT M15 = mT M := mT_c (funext fun i => f1 142 i (by omega)) f21
    have gc3 : pr_X12_here M15 := by
      show (0 ≤ M15 103 21 ∧ M15 103 21 ≤ 840) ∧ M15 103 22 ≤ 120 ∧ 0 ≤ M15 103 23
      first | with_reducible assumption | omega | exact trivial | with_reducible rfl  -- c3.hb
    refine ⟨gc3, ?_⟩
    rintro r18 M19 ⟨q_rfl, e_r18⟩ z_r18 z_M19
    have q_rfl := q_rfl.symm
    subst q_rfl
    rw [fT, f22, f23] at e_r18
    have gc4 : pr_X12_isDigit r18 M15 := trivial
    refine ⟨gc4, ?_⟩
    rintro r24 M25 ⟨q_rfl, pc4_pb⟩ z_r24 z_M25
    have q_rfl := q_rfl.symm
    subst q_rfl
    intro K82 h_K82
    have k_K82 : ∀ (v30 : Int) (M32 : zM), (v30 = gNm (mT M) (M 103 22) (M 103 23)) → (1 ≤ v30) → (M32 103 23 = M 103 23 + gDn (mT M) (M 103 22) (M 103 23)) → (∀ c i, ¬ (c = 103 ∧ i = 23) → M32 c i = M c i) → K82 v30 M32 := by
      intro v30 M32 kv k1 k23 kf
      refine h_K82 _ _ ?_
      intro z_v30 z_M32
      refine ⟨fun b2 => ?_, fun b2 => ?_⟩
      · -- b2.1
        intro M35 e_M35
        intro M38 e_M38
        refine hP _ _ ⟨?_, ?_⟩
        · show ∀ c i, ¬ (c = 103 ∧ (i = 23 ∨ i = 24)) → M38 c i = M c i  -- p1.hf
          intro c i k; rw [e_M38, zset_n _ (by omega), e_M35, zset_n _ (by omega)]; exact kf c i (by omega)
        · show (1 ≤ gNm (mT M) (M 103 22) (M 103 23) ∧ gNm (mT M) (M 103 22) (M 103 23) ≤ 16 ∧ gNm (mT M) (M 103 22) (M 103 23) ≤ l ∧ v30 = gNm (mT M) (M 103 22) (M 103 23) ∧ M38 103 24 = M 103 24 ∧ M38 103 23 = M 103 23 + gDn (mT M) (M 103 22) (M 103 23)) ∨ (¬ (1 ≤ gNm (mT M) (M 103 22) (M 103 23) ∧ gNm (mT M) (M 103 22) (M 103 23) ≤ 16 ∧ gNm (mT M) (M 103 22) (M 103 23) ≤ l) ∧ M38 103 24 = 1 ∧ M38 103 23 = M 103 23)  -- p1.ho
          refine .inr ⟨by omega, ?_, ?_⟩
          · rw [e_M38, zset_n _ (by omega), e_M35, zset_s]
          · rw [e_M38, zset_s]
      · -- b2.2
        refine ⟨fun b3 => ?_, fun b3 => ?_⟩
        · -- b3.1
          refine hP _ _ ⟨?_, ?_⟩
          · show ∀ c i, ¬ (c = 103 ∧ (i = 23 ∨ i = 24)) → M32 c i = M c i  -- p2.hf
            intro c i k; exact kf c i (by omega)
          · show (1 ≤ gNm (mT M) (M 103 22) (M 103 23) ∧ gNm (mT M) (M 103 22) (M 103 23) ≤ 16 ∧ gNm (mT M) (M 103 22) (M 103 23) ≤ l ∧ v30 = gNm (mT M) (M 103 22) (M 103 23) ∧ M32 103 24 = M 103 24 ∧ M32 103 23 = M 103 23 + gDn (mT M) (M 103 22) (M 103 23)) ∨ (¬ (1 ≤ gNm (mT M) (M 103 22) (M 103 23) ∧ gNm (mT M) (M 103 22) (M 103 23) ≤ 16 ∧ gNm (mT M) (M 103 22) (M 103 23) ≤ l) ∧ M32 103 24 = 1 ∧ M32 103 23 = M 103 23)  -- p2.ho
            exact .inl ⟨by omega, by omega, by omega, kv, kf 103 24 (by omega), k23⟩
        · -- b3.2
          intro M42 e_M42
          intro M45 e_M45
          refine hP _ _ ⟨?_, ?_⟩
          · show ∀ c i, ¬ (c = 103 ∧ (i = 23 ∨ i = 24)) → M45 c i = M c i  -- p3.hf
            intro c i k; rw [e_M45, zset_n _ (by omega), e_M42, zset_n _ (by omega)]; exact kf c i (by omega)
          · show (1 ≤ gNm (mT M) (M 103 22) (M 103 23) ∧ gNm (mT M) (M 103 22) (M 103 23) ≤ 16 ∧ gNm (mT M) (M 103 22) (M 103 23) ≤ l ∧ v30 = gNm (mT M) (M 103 22) (M 103 23) ∧ M45 103 24 = M 103 24 ∧ M45 103 23 = M 103 23 + gDn (mT M) (M 103 22) (M 103 23)) ∨ (¬ (1 ≤ gNm (mT M) (M 103 22) (M 103 23) ∧ gNm (mT M) (M 103 22) (M 103 23) ≤ 16 ∧ gNm (mT M) (M 103 22) (M 103 23) ≤ l) ∧ M45 103 24 = 1 ∧ M45 103 23 = M 103 23)  -- p3.ho
            refine .inr ⟨by omega, ?_, ?_⟩
            · rw [e_M45, zset_n _ (by omega), e_M42, zset_s]
            · rw [e_M45, zset_s]
    refine ⟨fun b4 => ?_, fun b4 => ?_⟩
    · -- b4.1
      have nb := pc4_pb.z.1 b4
      have g1 := gNm_1 (T := mT M) (n := M 103 22) (p := M 103 23) (by omega) (by rw [← e_r18]; exact nb)
      have o2 : zin (r1 - 48) := by
        first | with_reducible assumption | omega | exact trivial | with_reducible rfl  -- o2
      refine ⟨o2, ?_⟩
      refine k_K82 _ _ ?_ ?_ ?_ ?_
      · show (r1 - 48) = gNm (mT M) (M 103 22) (M 103 23)  -- K82.1.kv
        omega
      · show 1 ≤ (r1 - 48)  -- K82.1.k1
        first | with_reducible assumption | omega | exact trivial | with_reducible rfl
      · show M15 103 23 = M 103 23 + gDn (mT M) (M 103 22) (M 103 23)  -- K82.1.k23
        first | with_reducible assumption | omega | exact trivial | with_reducible rfl
      · show ∀ c i, ¬ (c = 103 ∧ i = 23) → M15 c i = M c i  -- K82.1.kf
        exact f1
    · -- b4.2
      have nb := pc4_pb.ne.1 b4
      have g2 := gNm_2 (T := mT M) (n := M 103 22) (p := M 103 23) (by omega) (by rw [← e_r18]; exact nb)
      have gc5 : pr_X12_here M15 := by
        show (0 ≤ M15 103 21 ∧ M15 103 21 ≤ 840) ∧ M15 103 22 ≤ 120 ∧ 0 ≤ M15 103 23
        first | with_reducible assumption | omega | exact trivial | with_reducible rfl  -- c5.hb
      refine ⟨gc5, ?_⟩
      rintro r50 M51 ⟨q_rfl, e_r50⟩ z_r50 z_M51
      have q_rfl := q_rfl.symm
      subst q_rfl
      rw [fT, f22, f23] at e_r50
      have o3 : zin ((M15 103 23) + 1) := by
        first | with_reducible assumption | omega | exact trivial | with_reducible rfl  -- o3
      refine ⟨o3, ?_⟩
      intro M57 e_M57
      have h57 : M57 103 23 = M 103 23 + 2 := by rw [e_M57, zset_s]; omega
      have o4 : zin (((10 * (r1 - 48)) + r50) - 48) := by
        first | with_reducible assumption | omega | exact trivial | with_reducible rfl  -- o4
      refine ⟨o4, ?_⟩
      refine k_K82 _ _ ?_ ?_ ?_ ?_
      · show (((10 * (r1 - 48)) + r50) - 48) = gNm (mT M) (M 103 22) (M 103 23)  -- K82.2.kv
        first | with_reducible assumption | omega | exact trivial | with_reducible rfl
      · show 1 ≤ (((10 * (r1 - 48)) + r50) - 48)  -- K82.2.k1
        first | with_reducible assumption | omega | exact trivial | with_reducible rfl
      · show M57 103 23 = M 103 23 + gDn (mT M) (M 103 22) (M 103 23)  -- K82.2.k23
        first | with_reducible assumption | omega | exact trivial | with_reducible rfl
      · show ∀ c i, ¬ (c = 103 ∧ i = 23) → M57 c i = M c i  -- K82.2.kf
        intro c i k; rw [e_M57, zset_n _ (by omega)]; exact f1 c i k
  · -- b1.2
    have q : ¬ (49 ≤ r1 ∧ r1 ≤ 57) := fun k => by rw [if_pos k] at e_r7; omega
    have g0 := gNm_0 (T := mT M) (n := M 103 22) (p := M 103 23) (by rw [← e_r1]; exact q)
    intro M61 e_M61
    refine hP _ _ ⟨?_, ?_⟩
    · show ∀ c i, ¬ (c = 103 ∧ (i = 23 ∨ i = 24)) → M61 c i = M c i  -- p4.hf
      intro c i k; rw [e_M61, zset_n _ (by omega)]
    · show (1 ≤ gNm (mT M) (M 103 22) (M 103 23) ∧ gNm (mT M) (M 103 22) (M 103 23) ≤ 16 ∧ gNm (mT M) (M 103 22) (M 103 23) ≤ l ∧ 0 = gNm (mT M) (M 103 22) (M 103 23) ∧ M61 103 24 = M 103 24 ∧ M61 103 23 = M 103 23 + gDn (mT M) (M 103 22) (M 103 23)) ∨ (¬ (1 ≤ gNm (mT M) (M 103 22) (M 103 23) ∧ gNm (mT M) (M 103 22) (M 103 23) ≤ 16 ∧ gNm (mT M) (M 103 22) (M 103 23) ≤ l) ∧ M61 103 24 = 1 ∧ M61 103 23 = M 103 23)  -- p4.ho
      exact .inr ⟨by omega, by rw [e_M61, zset_s], by rw [e_M61, zset_n _ (by omega)]⟩

