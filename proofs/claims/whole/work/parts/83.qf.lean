abbrev pr_X12_row (d : Int) (s : Int) (n : Int) (M : zM) : Prop := (mI M)
abbrev po_X12_row (d : Int) (s : Int) (n : Int) (M : zM) (r : Int) (M' : zM) : Prop := (¬ ((0 ≤ d ∧ d < 8) ∧ (0 ≤ s ∧ s ≤ 2) ∧ n ≤ 120) → r = -1 ∧ M' = zset M 103 0 0) ∧ ((0 ≤ d ∧ d < 8) ∧ (0 ≤ s ∧ s ≤ 2) ∧ n ≤ 120 → n < 0 → r = -14 ∧ M' = zset M 103 0 0) ∧ ((0 ≤ d ∧ d < 8) ∧ (0 ≤ s ∧ s ≤ 2) ∧ n ≤ 120 → 0 ≤ n → r = 0 ∧ (M' 134 d = 2 ∧ M' 140 d = s ∧ M' 141 d = n) ∧ (∀ i, 0 ≤ i → i < 120 → M' 142 (120 * d + i) = 0) ∧ ∀ c i, ¬ ((c = 134 ∨ c = 140 ∨ c = 141) ∧ i = d) → ¬ (c = 142 ∧ 120 * d ≤ i ∧ i < 120 * d + 120) → ¬ (c = 103 ∧ i = 0) → M' c i = M c i)
set_option maxHeartbeats 1000000 in
theorem ok_X12_row : zSnd zS 145 0 0 yX12_row cX12_row 5 (some .int) 1 [2, 0, 0, 0] (F_X12_row pr_X12_row po_X12_row) := by
  refine (sn_X12_row ok_X12_in).mono ?_
  rintro xs P M hz hR ⟨d, s, n, rfl, hI, hP⟩
  refine ⟨_, _, _, rfl, ?_⟩
  have z_d := zall_h (zall_t hz) (by decide)
  have z_s := zall_h (zall_t (zall_t hz)) (by decide)
  have z_n := zall_h (zall_t (zall_t (zall_t hz))) (by decide)
  change vc_X12_row pr_X12_in po_X12_in d s n P M
  unfold vc_X12_row
  intro M1 e_M1
  have gc1 : pr_X12_in d 0 7 M1 := trivial
  refine ⟨gc1, ?_⟩
  rintro r4 M5 ⟨q_rfl, e_r4⟩ z_r4 z_M5
  have q_rfl := q_rfl.symm
  subst q_rfl
  have z1 := zif01 e_r4
  refine ⟨fun b1 => ?_, fun b1 => ?_⟩
  · -- b1.1
    refine hP _ _ ⟨?_, ?_, ?_⟩
    · show ¬ ((0 ≤ d ∧ d < 8) ∧ (0 ≤ s ∧ s ≤ 2) ∧ n ≤ 120) → (-1) = -1 ∧ M1 = zset M 103 0 0  -- p1.hn
      intro _; exact ⟨rfl, e_M1⟩
    · show (0 ≤ d ∧ d < 8) ∧ (0 ≤ s ∧ s ≤ 2) ∧ n ≤ 120 → n < 0 → (-1) = -14 ∧ M1 = zset M 103 0 0  -- p1.hb
      intro h; exact absurd (by omega) (z1.z.1 b1)
    · show (0 ≤ d ∧ d < 8) ∧ (0 ≤ s ∧ s ≤ 2) ∧ n ≤ 120 → 0 ≤ n → (-1) = 0 ∧ (M1 134 d = 2 ∧ M1 140 d = s ∧ M1 141 d = n) ∧ (∀ i, 0 ≤ i → i < 120 → M1 142 (120 * d + i) = 0) ∧ ∀ c i, ¬ ((c = 134 ∨ c = 140 ∨ c = 141) ∧ i = d) → ¬ (c = 142 ∧ 120 * d ≤ i ∧ i < 120 * d + 120) → ¬ (c = 103 ∧ i = 0) → M1 c i = M c i  -- p1.hy
      intro h; exact absurd (by omega) (z1.z.1 b1)
  · -- b1.2
    have hd := z1.ne.1 b1
    have gc2 : pr_X12_in s 0 2 M1 := trivial
    refine ⟨gc2, ?_⟩
    rintro r11 M12 ⟨q_rfl, e_r11⟩ z_r11 z_M12
    have q_rfl := q_rfl.symm
    subst q_rfl
    have z2 := zif01 e_r11
    refine ⟨fun b2 => ?_, fun b2 => ?_⟩
    · -- b2.1
      refine hP _ _ ⟨?_, ?_, ?_⟩
      · show ¬ ((0 ≤ d ∧ d < 8) ∧ (0 ≤ s ∧ s ≤ 2) ∧ n ≤ 120) → (-1) = -1 ∧ M1 = zset M 103 0 0  -- p2.hn
        intro _; exact ⟨rfl, e_M1⟩
      · show (0 ≤ d ∧ d < 8) ∧ (0 ≤ s ∧ s ≤ 2) ∧ n ≤ 120 → n < 0 → (-1) = -14 ∧ M1 = zset M 103 0 0  -- p2.hb
        intro h; exact absurd h.2.1 (z2.z.1 b2)
      · show (0 ≤ d ∧ d < 8) ∧ (0 ≤ s ∧ s ≤ 2) ∧ n ≤ 120 → 0 ≤ n → (-1) = 0 ∧ (M1 134 d = 2 ∧ M1 140 d = s ∧ M1 141 d = n) ∧ (∀ i, 0 ≤ i → i < 120 → M1 142 (120 * d + i) = 0) ∧ ∀ c i, ¬ ((c = 134 ∨ c = 140 ∨ c = 141) ∧ i = d) → ¬ (c = 142 ∧ 120 * d ≤ i ∧ i < 120 * d + 120) → ¬ (c = 103 ∧ i = 0) → M1 c i = M c i  -- p2.hy
        intro h; exact absurd h.2.1 (z2.z.1 b2)
    · -- b2.2
      have hs := z2.ne.1 b2
      refine ⟨fun b3 => ?_, fun b3 => ?_⟩
      · -- b3.1
        refine ⟨fun b4 => ?_, fun b4 => ?_⟩
        · -- b4.1
          have o1 : ((0 : Int) ≤ d ∧ d < 8) := by
            first | with_reducible assumption | omega | exact trivial | with_reducible rfl  -- o1
          refine ⟨o1, ?_⟩
          intro M21 e_M21
          intro M24 e_M24
          intro M27 e_M27
          have f27 : ∀ c i, ¬ ((c = 134 ∨ c = 140 ∨ c = 141) ∧ i = d) → ¬ (c = 103 ∧ i = 0) → M27 c i = M c i := fun c i k1 k2 => by rw [e_M27, zset_n _ (by omega), e_M24, zset_n _ (by omega), e_M21, zset_n _ (by omega), e_M1, zset_n _ (by omega)]
          have g1 : M27 134 d = 2 := by rw [e_M27, zset_n _ (by omega), e_M24, zset_n _ (by omega), e_M21, zset_s]
          have g2 : M27 140 d = s := by rw [e_M27, zset_n _ (by omega), e_M24, zset_s]
          have g3 : M27 141 d = n := by rw [e_M27, zset_s]
          refine ⟨fun v30 M32 n34 => (n34 : Int) = (200 - v30) ∧ (0 ≤ v30 ∧ v30 ≤ 120) ∧ (∀ c i, ¬ (c = 142 ∧ 120 * d ≤ i ∧ i < 120 * d + 120) → M32 c i = M27 c i) ∧ (∀ i, 0 ≤ i → i < v30 → M32 142 (120 * d + i) = 0), ⟨Int.toNat (200 - 0), by omega, ?_, ?_, ?_⟩, ?_⟩
          · show 0 ≤ 0 ∧ 0 ≤ 120  -- I68.0.hv
            first | with_reducible assumption | omega | exact trivial | with_reducible rfl
          · show ∀ c i, ¬ (c = 142 ∧ 120 * d ≤ i ∧ i < 120 * d + 120) → M27 c i = M27 c i  -- I68.0.hf
            intro c i _; rfl
          · show ∀ i, 0 ≤ i → i < 0 → M27 142 (120 * d + i) = 0  -- I68.0.ha
            intro i i0 i1; omega
          rintro v30 M32 n34 ⟨h_n34, hv, hf, ha⟩ z_v30 z_M32
          refine ⟨fun b5 => ?_, fun b5 => ?_⟩
          · -- b5.1
            refine hP _ _ ⟨?_, ?_, ?_⟩
            · show ¬ ((0 ≤ d ∧ d < 8) ∧ (0 ≤ s ∧ s ≤ 2) ∧ n ≤ 120) → 0 = -1 ∧ M32 = zset M 103 0 0  -- p3.hn
              intro h; omega
            · show (0 ≤ d ∧ d < 8) ∧ (0 ≤ s ∧ s ≤ 2) ∧ n ≤ 120 → n < 0 → 0 = -14 ∧ M32 = zset M 103 0 0  -- p3.hb
              intro _ h; omega
            · show (0 ≤ d ∧ d < 8) ∧ (0 ≤ s ∧ s ≤ 2) ∧ n ≤ 120 → 0 ≤ n → 0 = 0 ∧ (M32 134 d = 2 ∧ M32 140 d = s ∧ M32 141 d = n) ∧ (∀ i, 0 ≤ i → i < 120 → M32 142 (120 * d + i) = 0) ∧ ∀ c i, ¬ ((c = 134 ∨ c = 140 ∨ c = 141) ∧ i = d) → ¬ (c = 142 ∧ 120 * d ≤ i ∧ i < 120 * d + 120) → ¬ (c = 103 ∧ i = 0) → M32 c i = M c i  -- p3.hy
              intro _ _; refine ⟨rfl, ⟨?_, ?_, ?_⟩, fun i i0 i1 => ha i i0 (by omega), fun c i k1 k2 k3 => ?_⟩
              · rw [hf 134 d (by omega)]; exact g1
              · rw [hf 140 d (by omega)]; exact g2
              · rw [hf 141 d (by omega)]; exact g3
              · rw [hf c i k2]; exact f27 c i k1 k3
          · -- b5.2
            have o2 : ((0 : Int) ≤ ((120 * d) + v30) ∧ ((120 * d) + v30) < 960) := by
              omega
            refine ⟨o2, ?_⟩
            intro M43 e_M43
            have o3 : zin (v30 + 1) := by
              first | with_reducible assumption | omega | exact trivial | with_reducible rfl  -- o3
            refine ⟨o3, ?_⟩
            refine ⟨Int.toNat (200 - (v30 + 1)), by omega, by omega, ?_, ?_, ?_⟩
            · show 0 ≤ (v30 + 1) ∧ (v30 + 1) ≤ 120  -- I68.1.hv
              first | with_reducible assumption | omega | exact trivial | with_reducible rfl
            · show ∀ c i, ¬ (c = 142 ∧ 120 * d ≤ i ∧ i < 120 * d + 120) → M43 c i = M27 c i  -- I68.1.hf
              intro c i k; rw [e_M43, zset_n _ (by omega)]; exact hf c i k
            · show ∀ i, 0 ≤ i → i < (v30 + 1) → M43 142 (120 * d + i) = 0  -- I68.1.ha
              intro i i0 i1
              by_cases c : i = v30
              · subst c; rw [e_M43, zset_s]
              · rw [e_M43, zset_n _ (by omega)]; exact ha i i0 (by omega)
        · -- b4.2
          refine hP _ _ ⟨?_, ?_, ?_⟩
          · show ¬ ((0 ≤ d ∧ d < 8) ∧ (0 ≤ s ∧ s ≤ 2) ∧ n ≤ 120) → (-14) = -1 ∧ M1 = zset M 103 0 0  -- p4.hn
            intro h; omega
          · show (0 ≤ d ∧ d < 8) ∧ (0 ≤ s ∧ s ≤ 2) ∧ n ≤ 120 → n < 0 → (-14) = -14 ∧ M1 = zset M 103 0 0  -- p4.hb
            intro _ _; exact ⟨rfl, e_M1⟩
          · show (0 ≤ d ∧ d < 8) ∧ (0 ≤ s ∧ s ≤ 2) ∧ n ≤ 120 → 0 ≤ n → (-14) = 0 ∧ (M1 134 d = 2 ∧ M1 140 d = s ∧ M1 141 d = n) ∧ (∀ i, 0 ≤ i → i < 120 → M1 142 (120 * d + i) = 0) ∧ ∀ c i, ¬ ((c = 134 ∨ c = 140 ∨ c = 141) ∧ i = d) → ¬ (c = 142 ∧ 120 * d ≤ i ∧ i < 120 * d + 120) → ¬ (c = 103 ∧ i = 0) → M1 c i = M c i  -- p4.hy
            intro _ h; omega
      · -- b3.2
        refine hP _ _ ⟨?_, ?_, ?_⟩
        · show ¬ ((0 ≤ d ∧ d < 8) ∧ (0 ≤ s ∧ s ≤ 2) ∧ n ≤ 120) → (-1) = -1 ∧ M1 = zset M 103 0 0  -- p5.hn
          intro _; exact ⟨rfl, e_M1⟩
        · show (0 ≤ d ∧ d < 8) ∧ (0 ≤ s ∧ s ≤ 2) ∧ n ≤ 120 → n < 0 → (-1) = -14 ∧ M1 = zset M 103 0 0  -- p5.hb
          intro h; omega
        · show (0 ≤ d ∧ d < 8) ∧ (0 ≤ s ∧ s ≤ 2) ∧ n ≤ 120 → 0 ≤ n → (-1) = 0 ∧ (M1 134 d = 2 ∧ M1 140 d = s ∧ M1 141 d = n) ∧ (∀ i, 0 ≤ i → i < 120 → M1 142 (120 * d + i) = 0) ∧ ∀ c i, ¬ ((c = 134 ∨ c = 140 ∨ c = 141) ∧ i = d) → ¬ (c = 142 ∧ 120 * d ≤ i ∧ i < 120 * d + 120) → ¬ (c = 103 ∧ i = 0) → M1 c i = M c i  -- p5.hy
          intro h; omega

abbrev pr_X12_put (d : Int) (i : Int) (v : Int) (M : zM) : Prop := (mI M)
abbrev po_X12_put (d : Int) (i : Int) (v : Int) (M : zM) (r : Int) (M' : zM) : Prop := (¬ ((0 ≤ d ∧ d < 8) ∧ M 134 d = 2) → r = qRr d (M 134 d) ∧ M' = zset M 103 0 0) ∧ ((0 ≤ d ∧ d < 8) ∧ M 134 d = 2 → ¬ (0 ≤ i ∧ i < M 141 d) → r = -13 ∧ M' = zset M 103 0 0) ∧ ((0 ≤ d ∧ d < 8) ∧ M 134 d = 2 → 0 ≤ i ∧ i < M 141 d → r = 0 ∧ M' = zset (zset M 103 0 0) 142 (120 * d + i) (if M 140 d = 0 then Int.bmod v 256 else if M 140 d = 1 then Int.bmod v 65536 else v))
set_option maxHeartbeats 1000000 in
theorem ok_X12_put : zSnd zS 145 0 0 yX12_put cX12_put 5 (some .int) 2 [2, 0, 0, 0] (F_X12_put pr_X12_put po_X12_put) := by
  refine (sn_X12_put ok_X12_wrongRow ok_X12_in ok_X12_narrowed).mono ?_
  rintro xs P M hz hR ⟨d, i, v, rfl, hI, hP⟩
  refine ⟨_, _, _, rfl, ?_⟩
  have z_d := zall_h (zall_t hz) (by decide)
  have z_i := zall_h (zall_t (zall_t hz)) (by decide)
  have z_v := zall_h (zall_t (zall_t (zall_t hz))) (by decide)
  change vc_X12_put pr_X12_wrongRow po_X12_wrongRow pr_X12_in po_X12_in pr_X12_narrowed po_X12_narrowed d i v P M
  unfold vc_X12_put
  intro M1 e_M1
  have w134 : M1 134 d = M 134 d := by rw [e_M1, zset_n _ (by omega)]
  have w140 : M1 140 d = M 140 d := by rw [e_M1, zset_n _ (by omega)]
  have w141 : M1 141 d = M 141 d := by rw [e_M1, zset_n _ (by omega)]
  have gc1 : pr_X12_wrongRow d M1 := trivial
  refine ⟨gc1, ?_⟩
  rintro r4 M5 ⟨q_rfl, e_r4⟩ z_r4 z_M5
  have q_rfl := q_rfl.symm
  subst q_rfl
  rw [w134] at e_r4
  have e4 : r4 = qRr d (M 134 d) := e_r4
  refine ⟨fun b1 => ?_, fun b1 => ?_⟩
  · -- b1.1
    have ok : (0 ≤ d ∧ d < 8) ∧ M 134 d = 2 := by
      by_cases k : 0 ≤ d ∧ d < 8
      · rw [if_pos k] at e_r4
        by_cases l : M 134 d = 0
        · rw [if_pos l] at e_r4; omega
        · rw [if_neg l] at e_r4
          by_cases q : M 134 d = 2
          · exact ⟨k, q⟩
          · rw [if_neg q] at e_r4; omega
      · rw [if_neg k] at e_r4; omega
    have S := hI.s d ok.1.1 ok.1.2
    have o1 : ((0 : Int) ≤ d ∧ d < 8) := by
      omega
    refine ⟨o1, ?_⟩
    have o2 : zin ((M1 141 d) - 1) := by
      rw [w141]; omega
    refine ⟨o2, ?_⟩
    have gc2 : pr_X12_in i 0 ((M1 141 d) - 1) M1 := trivial
    refine ⟨gc2, ?_⟩
    rintro r13 M14 ⟨q_rfl, e_r13⟩ z_r13 z_M14
    have q_rfl := q_rfl.symm
    subst q_rfl
    rw [w141] at e_r13
    have z2 := zif01 e_r13
    refine ⟨fun b2 => ?_, fun b2 => ?_⟩
    · -- b2.1
      have hi := z2.ne.1 b2
      have gc3 : pr_X12_narrowed v (M1 140 d) M1 := trivial
      refine ⟨gc3, ?_⟩
      rintro r20 M21 ⟨q_rfl, e_r20⟩ z_r20 z_M21
      have q_rfl := q_rfl.symm
      subst q_rfl
      rw [w140] at e_r20
      have o3 : ((0 : Int) ≤ ((120 * d) + i) ∧ ((120 * d) + i) < 960) := by
        omega
      refine ⟨o3, ?_⟩
      intro M27 e_M27
      refine hP _ _ ⟨?_, ?_, ?_⟩
      · show ¬ ((0 ≤ d ∧ d < 8) ∧ M 134 d = 2) → 0 = qRr d (M 134 d) ∧ M27 = zset M 103 0 0  -- p1.hn
        intro h; exact absurd ok h
      · show (0 ≤ d ∧ d < 8) ∧ M 134 d = 2 → ¬ (0 ≤ i ∧ i < M 141 d) → 0 = -13 ∧ M27 = zset M 103 0 0  -- p1.hb
        intro _ h; omega
      · show (0 ≤ d ∧ d < 8) ∧ M 134 d = 2 → 0 ≤ i ∧ i < M 141 d → 0 = 0 ∧ M27 = zset (zset M 103 0 0) 142 (120 * d + i) (if M 140 d = 0 then Int.bmod v 256 else if M 140 d = 1 then Int.bmod v 65536 else v)  -- p1.hy
        intro _ _; exact ⟨rfl, by rw [e_M27, e_M1, e_r20]⟩
    · -- b2.2
      refine hP _ _ ⟨?_, ?_, ?_⟩
      · show ¬ ((0 ≤ d ∧ d < 8) ∧ M 134 d = 2) → (-13) = qRr d (M 134 d) ∧ M1 = zset M 103 0 0  -- p2.hn
        intro h; exact absurd ok h
      · show (0 ≤ d ∧ d < 8) ∧ M 134 d = 2 → ¬ (0 ≤ i ∧ i < M 141 d) → (-13) = -13 ∧ M1 = zset M 103 0 0  -- p2.hb
        intro _ _; exact ⟨rfl, e_M1⟩
      · show (0 ≤ d ∧ d < 8) ∧ M 134 d = 2 → 0 ≤ i ∧ i < M 141 d → (-13) = 0 ∧ M1 = zset (zset M 103 0 0) 142 (120 * d + i) (if M 140 d = 0 then Int.bmod v 256 else if M 140 d = 1 then Int.bmod v 65536 else v)  -- p2.hy
        intro _ h; exact absurd (by omega) (z2.z.1 b2)
  · -- b1.2
    refine hP _ _ ⟨?_, ?_, ?_⟩
    · show ¬ ((0 ≤ d ∧ d < 8) ∧ M 134 d = 2) → r4 = qRr d (M 134 d) ∧ M1 = zset M 103 0 0  -- p3.hn
      intro _; exact ⟨e4, e_M1⟩
    · show (0 ≤ d ∧ d < 8) ∧ M 134 d = 2 → ¬ (0 ≤ i ∧ i < M 141 d) → r4 = -13 ∧ M1 = zset M 103 0 0  -- p3.hb
      intro h; rw [if_pos h.1, if_neg (by omega), if_pos h.2] at e_r4; omega
    · show (0 ≤ d ∧ d < 8) ∧ M 134 d = 2 → 0 ≤ i ∧ i < M 141 d → r4 = 0 ∧ M1 = zset (zset M 103 0 0) 142 (120 * d + i) (if M 140 d = 0 then Int.bmod v 256 else if M 140 d = 1 then Int.bmod v 65536 else v)  -- p3.hy
      intro h; rw [if_pos h.1, if_neg (by omega), if_pos h.2] at e_r4; omega

abbrev pr_X12_element (d : Int) (i : Int) (M : zM) : Prop := (mI M)
abbrev po_X12_element (d : Int) (i : Int) (M : zM) (r : Int) (M' : zM) : Prop := (¬ (0 ≤ d ∧ d < 8) → M' = zset M 103 0 1) ∧ (0 ≤ d ∧ d < 8 → ¬ (M 134 d = 2 ∧ 0 ≤ i ∧ i < M 141 d) → M' = zset M 103 0 2) ∧ (0 ≤ d ∧ d < 8 → M 134 d = 2 ∧ 0 ≤ i ∧ i < M 141 d → r = M 142 (120 * d + i) ∧ M' = zset M 103 0 0)
set_option maxHeartbeats 1000000 in
theorem ok_X12_element : zSnd zS 145 0 0 yX12_element cX12_element 4 (some .long) 2 [2, 0, 0] (F_X12_element pr_X12_element po_X12_element) := by
  refine (sn_X12_element ok_X12_wrongRow ok_X12_in).mono ?_
  rintro xs P M hz hR ⟨d, i, rfl, hI, hP⟩
  refine ⟨_, _, rfl, ?_⟩
  have z_d := zall_h (zall_t hz) (by decide)
  have z_i := zall_h (zall_t (zall_t hz)) (by decide)
  change vc_X12_element pr_X12_wrongRow po_X12_wrongRow pr_X12_in po_X12_in d i P M
  unfold vc_X12_element
  have gc1 : pr_X12_wrongRow d M := trivial
  refine ⟨gc1, ?_⟩
  rintro r1 M2 ⟨q_rfl, e_r1⟩ z_r1 z_M2
  have q_rfl := q_rfl.symm
  subst q_rfl
  have cs : (¬ (0 ≤ d ∧ d < 8) ∧ r1 = -1) ∨ ((0 ≤ d ∧ d < 8) ∧ M 134 d ≠ 2 ∧ r1 < -1) ∨ ((0 ≤ d ∧ d < 8) ∧ M 134 d = 2 ∧ r1 = 0) := by
    by_cases k : 0 ≤ d ∧ d < 8
    · rw [if_pos k] at e_r1
      by_cases l : M 134 d = 0
      · rw [if_pos l] at e_r1; omega
      · rw [if_neg l] at e_r1
        by_cases q : M 134 d = 2
        · rw [if_pos q] at e_r1; omega
        · rw [if_neg q] at e_r1; omega
    · rw [if_neg k] at e_r1; omega
  intro K43 h_K43
  have k_K43 : ∀ (v7 : Int) (M9 : zM), (M9 = M) → ((¬ (0 ≤ d ∧ d < 8) ∧ v7 = 1) ∨ ((0 ≤ d ∧ d < 8) ∧ ¬ (M 134 d = 2 ∧ 0 ≤ i ∧ i < M 141 d) ∧ v7 = 2) ∨ ((0 ≤ d ∧ d < 8) ∧ (M 134 d = 2 ∧ 0 ≤ i ∧ i < M 141 d) ∧ v7 = 0)) → K43 v7 M9 := by
    intro v7 M9 rfl2 k7
    refine h_K43 _ _ ?_
    intro z_v7 z_M9
    intro M11 e_M11
    have e0 : M11 103 0 = v7 := by rw [e_M11, zset_s]
    rw [rfl2] at e_M11
    refine ⟨fun b1 => ?_, fun b1 => ?_⟩
    · -- b1.1
      have o1 : ((0 : Int) ≤ ((120 * d) + i) ∧ ((120 * d) + i) < 960) := by
        have := hI.s d; omega
      refine ⟨o1, ?_⟩
      refine hP _ _ ⟨?_, ?_, ?_⟩
      · show ¬ (0 ≤ d ∧ d < 8) → M11 = zset M 103 0 1  -- p1.hn
        intro h; omega
      · show 0 ≤ d ∧ d < 8 → ¬ (M 134 d = 2 ∧ 0 ≤ i ∧ i < M 141 d) → M11 = zset M 103 0 2  -- p1.hb
        intro h h2; omega
      · show 0 ≤ d ∧ d < 8 → M 134 d = 2 ∧ 0 ≤ i ∧ i < M 141 d → (M11 142 ((120 * d) + i)) = M 142 (120 * d + i) ∧ M11 = zset M 103 0 0  -- p1.hy
        intro h h2; refine ⟨?_, ?_⟩
        · rw [e_M11, zset_n _ (by omega)]
        · rw [e_M11, show v7 = 0 by omega]
    · -- b1.2
      refine hP _ _ ⟨?_, ?_, ?_⟩
      · show ¬ (0 ≤ d ∧ d < 8) → M11 = zset M 103 0 1  -- p2.hn
        intro h; rw [e_M11, show v7 = 1 by omega]
      · show 0 ≤ d ∧ d < 8 → ¬ (M 134 d = 2 ∧ 0 ≤ i ∧ i < M 141 d) → M11 = zset M 103 0 2  -- p2.hb
        intro h h2; rw [e_M11, show v7 = 2 by omega]
      · show 0 ≤ d ∧ d < 8 → M 134 d = 2 ∧ 0 ≤ i ∧ i < M 141 d → 0 = M 142 (120 * d + i) ∧ M11 = zset M 103 0 0  -- p2.hy
        intro h h2; omega
  refine ⟨fun b2 => ?_, fun b2 => ?_⟩
  · -- b2.1
    intro K38 h_K38
    have k_K38 : ∀ (M17 : zM), (M17 = M) → ((0 ≤ d ∧ d < 8) ∧ ¬ (M 134 d = 2 ∧ 0 ≤ i ∧ i < M 141 d)) → K38 M17 := by
      intro M17 rfl3 k8
      refine h_K38 _ ?_
      intro z_M17
      refine k_K43 _ _ ?_ ?_
      · show M17 = M  -- K43.1.rfl2
        first | assumption | rfl
      · show (¬ (0 ≤ d ∧ d < 8) ∧ 2 = 1) ∨ ((0 ≤ d ∧ d < 8) ∧ ¬ (M 134 d = 2 ∧ 0 ≤ i ∧ i < M 141 d) ∧ 2 = 2) ∨ ((0 ≤ d ∧ d < 8) ∧ (M 134 d = 2 ∧ 0 ≤ i ∧ i < M 141 d) ∧ 2 = 0)  -- K43.1.k7
        omega
    refine ⟨fun b3 => ?_, fun b3 => ?_⟩
    · -- b3.1
      refine k_K38 _ ?_ ?_
      · show M = M  -- K38.1.rfl3
        first | assumption | rfl
      · show (0 ≤ d ∧ d < 8) ∧ ¬ (M 134 d = 2 ∧ 0 ≤ i ∧ i < M 141 d)  -- K38.1.k8
        omega
    · -- b3.2
      have o2 : ((0 : Int) ≤ d ∧ d < 8) := by
        omega
      refine ⟨o2, ?_⟩
      have o3 : zin ((M 141 d) - 1) := by
        have := hI.s d; omega
      refine ⟨o3, ?_⟩
      have gc2 : pr_X12_in i 0 ((M 141 d) - 1) M := trivial
      refine ⟨gc2, ?_⟩
      rintro r22 M23 ⟨q_rfl, e_r22⟩ z_r22 z_M23
      have q_rfl := q_rfl.symm
      subst q_rfl
      have z2 := zif01 e_r22
      refine ⟨fun b4 => ?_, fun b4 => ?_⟩
      · -- b4.1
        refine k_K43 _ _ ?_ ?_
        · show M = M  -- K43.2.rfl2
          first | assumption | rfl
        · show (¬ (0 ≤ d ∧ d < 8) ∧ 0 = 1) ∨ ((0 ≤ d ∧ d < 8) ∧ ¬ (M 134 d = 2 ∧ 0 ≤ i ∧ i < M 141 d) ∧ 0 = 2) ∨ ((0 ≤ d ∧ d < 8) ∧ (M 134 d = 2 ∧ 0 ≤ i ∧ i < M 141 d) ∧ 0 = 0)  -- K43.2.k7
          have := z2.ne.1 b4; omega
      · -- b4.2
        refine k_K38 _ ?_ ?_
        · show M = M  -- K38.2.rfl3
          first | assumption | rfl
        · show (0 ≤ d ∧ d < 8) ∧ ¬ (M 134 d = 2 ∧ 0 ≤ i ∧ i < M 141 d)  -- K38.2.k8
          have := z2.z.1 b4; omega
  · -- b2.2
    refine k_K43 _ _ ?_ ?_
    · show M = M  -- K43.3.rfl2
      first | assumption | rfl
    · show (¬ (0 ≤ d ∧ d < 8) ∧ 1 = 1) ∨ ((0 ≤ d ∧ d < 8) ∧ ¬ (M 134 d = 2 ∧ 0 ≤ i ∧ i < M 141 d) ∧ 1 = 2) ∨ ((0 ≤ d ∧ d < 8) ∧ (M 134 d = 2 ∧ 0 ≤ i ∧ i < M 141 d) ∧ 1 = 0)  -- K43.3.k7
      omega

abbrev pr_X12_thrown (M : zM) : Prop := True
abbrev po_X12_thrown (M : zM) (r : Int) (M' : zM) : Prop := M' = M ∧ r = M 103 0
set_option maxHeartbeats 1000000 in
theorem ok_X12_thrown : zSnd zS 145 0 0 yX12_thrown cX12_thrown 1 (some .int) 0 [2] (F_X12_thrown pr_X12_thrown po_X12_thrown) := by
  refine (sn_X12_thrown).mono ?_
  rintro xs P M hz hR ⟨rfl, _, hP⟩
  refine ⟨rfl, ?_⟩
  change vc_X12_thrown P M
  unfold vc_X12_thrown
  refine hP _ _ ⟨rfl, ?_⟩
  · first | with_reducible assumption | omega | exact trivial | with_reducible rfl  -- p1

abbrev pr_X12_copy (d : Int) (i : Int) (e : Int) (j : Int) (n : Int) (M : zM) : Prop := (mI M)
abbrev po_X12_copy (d : Int) (i : Int) (e : Int) (j : Int) (n : Int) (M : zM) (r : Int) (M' : zM) : Prop := (¬ (((0 ≤ d ∧ d < 8) ∧ (0 ≤ e ∧ e < 8)) ∧ (M 134 d = 2 ∧ M 134 e = 2 ∧ M 140 d = M 140 e) ∧ 0 ≤ n ∧ (0 ≤ i ∧ i + n ≤ M 141 d) ∧ (0 ≤ j ∧ j + n ≤ M 141 e)) → r = qCc d e (M 134 d) (M 134 e) (M 140 d) (M 140 e) ∧ mW M M') ∧ (((0 ≤ d ∧ d < 8) ∧ (0 ≤ e ∧ e < 8)) ∧ (M 134 d = 2 ∧ M 134 e = 2 ∧ M 140 d = M 140 e) ∧ 0 ≤ n ∧ (0 ≤ i ∧ i + n ≤ M 141 d) ∧ (0 ≤ j ∧ j + n ≤ M 141 e) → r = n ∧ (∀ k, 0 ≤ k → k < n → M' 142 (120 * e + j + k) = M 142 (120 * d + i + k)) ∧ ∀ c k, ¬ mWk c k → ¬ (c = 142 ∧ 120 * e + j ≤ k ∧ k < 120 * e + j + n) → M' c k = M c k)
set_option maxHeartbeats 2000000 in
theorem ok_X12_copy : zSnd zS 145 0 0 yX12_copy cX12_copy 7 (some .int) 1 [2, 0, 0, 0, 0, 0] (F_X12_copy pr_X12_copy po_X12_copy) := by
  refine (sn_X12_copy ok_X12_in).mono ?_
  rintro xs P M hz hR ⟨d, i, e, j, n, rfl, hI, hP⟩
  refine ⟨_, _, _, _, _, rfl, ?_⟩
  have z_d := zall_h (zall_t hz) (by decide)
  have z_i := zall_h (zall_t (zall_t hz)) (by decide)
  have z_e := zall_h (zall_t (zall_t (zall_t hz))) (by decide)
  have z_j := zall_h (zall_t (zall_t (zall_t (zall_t hz)))) (by decide)
  have z_n := zall_h (zall_t (zall_t (zall_t (zall_t (zall_t hz))))) (by decide)
  change vc_X12_copy pr_X12_in po_X12_in d i e j n P M
  unfold vc_X12_copy
  intro M1 e_M1
  have w1 : mW M M1 := fun c i k => by rw [e_M1, zset_n _ (by omega)]
  have q1 := w1 134 d (by omega)
  have q2 := w1 134 e (by omega)
  have q3 := w1 140 d (by omega)
  have q4 := w1 140 e (by omega)
  have q5 := w1 141 d (by omega)
  have q6 := w1 141 e (by omega)
  have gc1 : pr_X12_in d 0 7 M1 := trivial
  refine ⟨gc1, ?_⟩
  rintro r4 M5 ⟨q_rfl, e_r4⟩ z_r4 z_M5
  have q_rfl := q_rfl.symm
  subst q_rfl
  have z1 := zif01 e_r4
  refine ⟨fun b1 => ?_, fun b1 => ?_⟩
  · -- b1.1
    refine hP _ _ ⟨?_, ?_⟩
    · show ¬ (((0 ≤ d ∧ d < 8) ∧ (0 ≤ e ∧ e < 8)) ∧ (M 134 d = 2 ∧ M 134 e = 2 ∧ M 140 d = M 140 e) ∧ 0 ≤ n ∧ (0 ≤ i ∧ i + n ≤ M 141 d) ∧ (0 ≤ j ∧ j + n ≤ M 141 e)) → (-1) = qCc d e (M 134 d) (M 134 e) (M 140 d) (M 140 e) ∧ mW M M1  -- p1.hn
      intro _; unfold qCc; rw [if_neg (fun k => z1.z.1 b1 (by omega))]; exact ⟨rfl, w1⟩
    · show ((0 ≤ d ∧ d < 8) ∧ (0 ≤ e ∧ e < 8)) ∧ (M 134 d = 2 ∧ M 134 e = 2 ∧ M 140 d = M 140 e) ∧ 0 ≤ n ∧ (0 ≤ i ∧ i + n ≤ M 141 d) ∧ (0 ≤ j ∧ j + n ≤ M 141 e) → (-1) = n ∧ (∀ k, 0 ≤ k → k < n → M1 142 (120 * e + j + k) = M 142 (120 * d + i + k)) ∧ ∀ c k, ¬ mWk c k → ¬ (c = 142 ∧ 120 * e + j ≤ k ∧ k < 120 * e + j + n) → M1 c k = M c k  -- p1.hy
      intro k; exact absurd (by omega) (z1.z.1 b1)
  · -- b1.2
    have hd := z1.ne.1 b1
    have gc2 : pr_X12_in e 0 7 M1 := trivial
    refine ⟨gc2, ?_⟩
    rintro r11 M12 ⟨q_rfl, e_r11⟩ z_r11 z_M12
    have q_rfl := q_rfl.symm
    subst q_rfl
    have z2 := zif01 e_r11
    refine ⟨fun b2 => ?_, fun b2 => ?_⟩
    · -- b2.1
      have he := z2.ne.1 b2
      have P : (0 ≤ d ∧ d < 8) ∧ (0 ≤ e ∧ e < 8) := by omega
      have S := hI.s d (by omega) (by omega)
      have S2 := hI.s e (by omega) (by omega)
      have o1 : ((0 : Int) ≤ d ∧ d < 8) := by
        omega
      refine ⟨o1, ?_⟩
      refine ⟨fun b3 => ?_, fun b3 => ?_⟩
      · -- b3.1
        refine hP _ _ ⟨?_, ?_⟩
        · show ¬ (((0 ≤ d ∧ d < 8) ∧ (0 ≤ e ∧ e < 8)) ∧ (M 134 d = 2 ∧ M 134 e = 2 ∧ M 140 d = M 140 e) ∧ 0 ≤ n ∧ (0 ≤ i ∧ i + n ≤ M 141 d) ∧ (0 ≤ j ∧ j + n ≤ M 141 e)) → (-11) = qCc d e (M 134 d) (M 134 e) (M 140 d) (M 140 e) ∧ mW M M1  -- p2.hn
          intro _; unfold qCc; rw [if_pos P, if_pos (.inl (by omega))]; exact ⟨rfl, w1⟩
        · show ((0 ≤ d ∧ d < 8) ∧ (0 ≤ e ∧ e < 8)) ∧ (M 134 d = 2 ∧ M 134 e = 2 ∧ M 140 d = M 140 e) ∧ 0 ≤ n ∧ (0 ≤ i ∧ i + n ≤ M 141 d) ∧ (0 ≤ j ∧ j + n ≤ M 141 e) → (-11) = n ∧ (∀ k, 0 ≤ k → k < n → M1 142 (120 * e + j + k) = M 142 (120 * d + i + k)) ∧ ∀ c k, ¬ mWk c k → ¬ (c = 142 ∧ 120 * e + j ≤ k ∧ k < 120 * e + j + n) → M1 c k = M c k  -- p2.hy
          intro k; omega
      · -- b3.2
        have o2 : ((0 : Int) ≤ e ∧ e < 8) := by
          omega
        refine ⟨o2, ?_⟩
        refine ⟨fun b4 => ?_, fun b4 => ?_⟩
        · -- b4.1
          refine ⟨fun b5 => ?_, fun b5 => ?_⟩
          · -- b5.1
            refine hP _ _ ⟨?_, ?_⟩
            · show ¬ (((0 ≤ d ∧ d < 8) ∧ (0 ≤ e ∧ e < 8)) ∧ (M 134 d = 2 ∧ M 134 e = 2 ∧ M 140 d = M 140 e) ∧ 0 ≤ n ∧ (0 ≤ i ∧ i + n ≤ M 141 d) ∧ (0 ≤ j ∧ j + n ≤ M 141 e)) → (-12) = qCc d e (M 134 d) (M 134 e) (M 140 d) (M 140 e) ∧ mW M M1  -- p3.hn
              intro _; unfold qCc; rw [if_pos P, if_neg (by omega), if_neg (by omega)]; exact ⟨rfl, w1⟩
            · show ((0 ≤ d ∧ d < 8) ∧ (0 ≤ e ∧ e < 8)) ∧ (M 134 d = 2 ∧ M 134 e = 2 ∧ M 140 d = M 140 e) ∧ 0 ≤ n ∧ (0 ≤ i ∧ i + n ≤ M 141 d) ∧ (0 ≤ j ∧ j + n ≤ M 141 e) → (-12) = n ∧ (∀ k, 0 ≤ k → k < n → M1 142 (120 * e + j + k) = M 142 (120 * d + i + k)) ∧ ∀ c k, ¬ mWk c k → ¬ (c = 142 ∧ 120 * e + j ≤ k ∧ k < 120 * e + j + n) → M1 c k = M c k  -- p3.hy
              intro k; omega
          · -- b5.2
            refine ⟨fun b6 => ?_, fun b6 => ?_⟩
            · -- b6.1
              refine hP _ _ ⟨?_, ?_⟩
              · show ¬ (((0 ≤ d ∧ d < 8) ∧ (0 ≤ e ∧ e < 8)) ∧ (M 134 d = 2 ∧ M 134 e = 2 ∧ M 140 d = M 140 e) ∧ 0 ≤ n ∧ (0 ≤ i ∧ i + n ≤ M 141 d) ∧ (0 ≤ j ∧ j + n ≤ M 141 e)) → (-12) = qCc d e (M 134 d) (M 134 e) (M 140 d) (M 140 e) ∧ mW M M1  -- p4.hn
                intro _; unfold qCc; rw [if_pos P, if_neg (by omega), if_neg (by omega)]; exact ⟨rfl, w1⟩
              · show ((0 ≤ d ∧ d < 8) ∧ (0 ≤ e ∧ e < 8)) ∧ (M 134 d = 2 ∧ M 134 e = 2 ∧ M 140 d = M 140 e) ∧ 0 ≤ n ∧ (0 ≤ i ∧ i + n ≤ M 141 d) ∧ (0 ≤ j ∧ j + n ≤ M 141 e) → (-12) = n ∧ (∀ k, 0 ≤ k → k < n → M1 142 (120 * e + j + k) = M 142 (120 * d + i + k)) ∧ ∀ c k, ¬ mWk c k → ¬ (c = 142 ∧ 120 * e + j ≤ k ∧ k < 120 * e + j + n) → M1 c k = M c k  -- p4.hy
                intro k; omega
            · -- b6.2
              refine ⟨fun b7 => ?_, fun b7 => ?_⟩
              · -- b7.1
                refine ⟨fun b8 => ?_, fun b8 => ?_⟩
                · -- b8.1
                  refine hP _ _ ⟨?_, ?_⟩
                  · show ¬ (((0 ≤ d ∧ d < 8) ∧ (0 ≤ e ∧ e < 8)) ∧ (M 134 d = 2 ∧ M 134 e = 2 ∧ M 140 d = M 140 e) ∧ 0 ≤ n ∧ (0 ≤ i ∧ i + n ≤ M 141 d) ∧ (0 ≤ j ∧ j + n ≤ M 141 e)) → (-13) = qCc d e (M 134 d) (M 134 e) (M 140 d) (M 140 e) ∧ mW M M1  -- p5.hn
                    intro _; unfold qCc; rw [if_pos P, if_neg (by omega), if_pos (by omega)]; exact ⟨rfl, w1⟩
                  · show ((0 ≤ d ∧ d < 8) ∧ (0 ≤ e ∧ e < 8)) ∧ (M 134 d = 2 ∧ M 134 e = 2 ∧ M 140 d = M 140 e) ∧ 0 ≤ n ∧ (0 ≤ i ∧ i + n ≤ M 141 d) ∧ (0 ≤ j ∧ j + n ≤ M 141 e) → (-13) = n ∧ (∀ k, 0 ≤ k → k < n → M1 142 (120 * e + j + k) = M 142 (120 * d + i + k)) ∧ ∀ c k, ¬ mWk c k → ¬ (c = 142 ∧ 120 * e + j ≤ k ∧ k < 120 * e + j + n) → M1 c k = M c k  -- p5.hy
                    intro k; omega
                · -- b8.2
                  refine ⟨fun b9 => ?_, fun b9 => ?_⟩
                  · -- b9.1
                    refine hP _ _ ⟨?_, ?_⟩
                    · show ¬ (((0 ≤ d ∧ d < 8) ∧ (0 ≤ e ∧ e < 8)) ∧ (M 134 d = 2 ∧ M 134 e = 2 ∧ M 140 d = M 140 e) ∧ 0 ≤ n ∧ (0 ≤ i ∧ i + n ≤ M 141 d) ∧ (0 ≤ j ∧ j + n ≤ M 141 e)) → (-13) = qCc d e (M 134 d) (M 134 e) (M 140 d) (M 140 e) ∧ mW M M1  -- p6.hn
                      intro _; unfold qCc; rw [if_pos P, if_neg (by omega), if_pos (by omega)]; exact ⟨rfl, w1⟩
                    · show ((0 ≤ d ∧ d < 8) ∧ (0 ≤ e ∧ e < 8)) ∧ (M 134 d = 2 ∧ M 134 e = 2 ∧ M 140 d = M 140 e) ∧ 0 ≤ n ∧ (0 ≤ i ∧ i + n ≤ M 141 d) ∧ (0 ≤ j ∧ j + n ≤ M 141 e) → (-13) = n ∧ (∀ k, 0 ≤ k → k < n → M1 142 (120 * e + j + k) = M 142 (120 * d + i + k)) ∧ ∀ c k, ¬ mWk c k → ¬ (c = 142 ∧ 120 * e + j ≤ k ∧ k < 120 * e + j + n) → M1 c k = M c k  -- p6.hy
                      intro k; omega
                  · -- b9.2
                    refine ⟨fun b10 => ?_, fun b10 => ?_⟩
                    · -- b10.1
                      refine hP _ _ ⟨?_, ?_⟩
                      · show ¬ (((0 ≤ d ∧ d < 8) ∧ (0 ≤ e ∧ e < 8)) ∧ (M 134 d = 2 ∧ M 134 e = 2 ∧ M 140 d = M 140 e) ∧ 0 ≤ n ∧ (0 ≤ i ∧ i + n ≤ M 141 d) ∧ (0 ≤ j ∧ j + n ≤ M 141 e)) → (-13) = qCc d e (M 134 d) (M 134 e) (M 140 d) (M 140 e) ∧ mW M M1  -- p7.hn
                        intro _; unfold qCc; rw [if_pos P, if_neg (by omega), if_pos (by omega)]; exact ⟨rfl, w1⟩
                      · show ((0 ≤ d ∧ d < 8) ∧ (0 ≤ e ∧ e < 8)) ∧ (M 134 d = 2 ∧ M 134 e = 2 ∧ M 140 d = M 140 e) ∧ 0 ≤ n ∧ (0 ≤ i ∧ i + n ≤ M 141 d) ∧ (0 ≤ j ∧ j + n ≤ M 141 e) → (-13) = n ∧ (∀ k, 0 ≤ k → k < n → M1 142 (120 * e + j + k) = M 142 (120 * d + i + k)) ∧ ∀ c k, ¬ mWk c k → ¬ (c = 142 ∧ 120 * e + j ≤ k ∧ k < 120 * e + j + n) → M1 c k = M c k  -- p7.hy
                        intro k; omega
                    · -- b10.2
                      have o3 : zin ((M1 141 d) - n) := by
                        omega
                      refine ⟨o3, ?_⟩
                      refine ⟨fun b11 => ?_, fun b11 => ?_⟩
                      · -- b11.1
                        refine hP _ _ ⟨?_, ?_⟩
                        · show ¬ (((0 ≤ d ∧ d < 8) ∧ (0 ≤ e ∧ e < 8)) ∧ (M 134 d = 2 ∧ M 134 e = 2 ∧ M 140 d = M 140 e) ∧ 0 ≤ n ∧ (0 ≤ i ∧ i + n ≤ M 141 d) ∧ (0 ≤ j ∧ j + n ≤ M 141 e)) → (-13) = qCc d e (M 134 d) (M 134 e) (M 140 d) (M 140 e) ∧ mW M M1  -- p8.hn
                          intro _; unfold qCc; rw [if_pos P, if_neg (by omega), if_pos (by omega)]; exact ⟨rfl, w1⟩
                        · show ((0 ≤ d ∧ d < 8) ∧ (0 ≤ e ∧ e < 8)) ∧ (M 134 d = 2 ∧ M 134 e = 2 ∧ M 140 d = M 140 e) ∧ 0 ≤ n ∧ (0 ≤ i ∧ i + n ≤ M 141 d) ∧ (0 ≤ j ∧ j + n ≤ M 141 e) → (-13) = n ∧ (∀ k, 0 ≤ k → k < n → M1 142 (120 * e + j + k) = M 142 (120 * d + i + k)) ∧ ∀ c k, ¬ mWk c k → ¬ (c = 142 ∧ 120 * e + j ≤ k ∧ k < 120 * e + j + n) → M1 c k = M c k  -- p8.hy
                          intro k; omega
                      · -- b11.2
                        have o4 : zin ((M1 141 e) - n) := by
                          omega
                        refine ⟨o4, ?_⟩
                        refine ⟨fun b12 => ?_, fun b12 => ?_⟩
                        · -- b12.1
                          refine ⟨fun v32 M34 n36 => (n36 : Int) = (200 - v32) ∧ (0 ≤ v32 ∧ v32 ≤ n) ∧ (∀ c k, c ≠ 143 → M34 c k = M1 c k) ∧ (∀ k, 0 ≤ k → k < v32 → M34 143 k = M1 142 (120 * d + i + k)), ⟨Int.toNat (200 - 0), by omega, ?_, ?_, ?_⟩, ?_⟩
                          · show 0 ≤ 0 ∧ 0 ≤ n  -- I137.0.hv
                            first | with_reducible assumption | omega | exact trivial | with_reducible rfl
                          · show ∀ c k, c ≠ 143 → M1 c k = M1 c k  -- I137.0.hf
                            intro c k _; rfl
                          · show ∀ k, 0 ≤ k → k < 0 → M1 143 k = M1 142 (120 * d + i + k)  -- I137.0.ha
                            intro k k0 k1; omega
                          rintro v32 M34 n36 ⟨h_n36, hv, hf, ha⟩ z_v32 z_M34
                          refine ⟨fun b13 => ?_, fun b13 => ?_⟩
                          · -- b13.1
                            refine ⟨fun v44 M46 n48 => (n48 : Int) = (200 - v44) ∧ (0 ≤ v44 ∧ v44 ≤ n) ∧ (∀ c k, c ≠ 143 → ¬ (c = 142 ∧ 120 * e + j ≤ k ∧ k < 120 * e + j + n) → M46 c k = M1 c k) ∧ (∀ k, M46 143 k = M34 143 k) ∧ (∀ k, 0 ≤ k → k < v44 → M46 142 (120 * e + j + k) = M1 142 (120 * d + i + k)), ⟨Int.toNat (200 - 0), by omega, ?_, ?_, ?_, ?_⟩, ?_⟩
                            · show 0 ≤ 0 ∧ 0 ≤ n  -- I174.0.hv2
                              first | with_reducible assumption | omega | exact trivial | with_reducible rfl
                            · show ∀ c k, c ≠ 143 → ¬ (c = 142 ∧ 120 * e + j ≤ k ∧ k < 120 * e + j + n) → M34 c k = M1 c k  -- I174.0.hf2
                              intro c k q _; exact hf c k q
                            · show ∀ k, M34 143 k = M34 143 k  -- I174.0.h143
                              intro k; rfl
                            · show ∀ k, 0 ≤ k → k < 0 → M34 142 (120 * e + j + k) = M1 142 (120 * d + i + k)  -- I174.0.ha2
                              intro k k0 k1; omega
                            rintro v44 M46 n48 ⟨h_n48, hv2, hf2, h143, ha2⟩ z_v44 z_M46
                            refine ⟨fun b14 => ?_, fun b14 => ?_⟩
                            · -- b14.1
                              refine hP _ _ ⟨?_, ?_⟩
                              · show ¬ (((0 ≤ d ∧ d < 8) ∧ (0 ≤ e ∧ e < 8)) ∧ (M 134 d = 2 ∧ M 134 e = 2 ∧ M 140 d = M 140 e) ∧ 0 ≤ n ∧ (0 ≤ i ∧ i + n ≤ M 141 d) ∧ (0 ≤ j ∧ j + n ≤ M 141 e)) → n = qCc d e (M 134 d) (M 134 e) (M 140 d) (M 140 e) ∧ mW M M46  -- p9.hn
                                intro k; exact absurd ⟨P, ⟨by omega, by omega, by omega⟩, by omega, ⟨by omega, by omega⟩, by omega, by omega⟩ k
                              · show ((0 ≤ d ∧ d < 8) ∧ (0 ≤ e ∧ e < 8)) ∧ (M 134 d = 2 ∧ M 134 e = 2 ∧ M 140 d = M 140 e) ∧ 0 ≤ n ∧ (0 ≤ i ∧ i + n ≤ M 141 d) ∧ (0 ≤ j ∧ j + n ≤ M 141 e) → n = n ∧ (∀ k, 0 ≤ k → k < n → M46 142 (120 * e + j + k) = M 142 (120 * d + i + k)) ∧ ∀ c k, ¬ mWk c k → ¬ (c = 142 ∧ 120 * e + j ≤ k ∧ k < 120 * e + j + n) → M46 c k = M c k  -- p9.hy
                                intro _; refine ⟨rfl, fun k k0 k1 => ?_, fun c k a1 a2 => ?_⟩
                                · rw [ha2 k k0 (by omega)]; exact w1 142 _ (by omega)
                                · rw [hf2 c k (by omega) a2]; exact w1 c k a1
                            · -- b14.2
                              have o5 : ((0 : Int) ≤ v44 ∧ v44 < 120) := by
                                omega
                              refine ⟨o5, ?_⟩
                              have o6 : ((0 : Int) ≤ (((120 * e) + j) + v44) ∧ (((120 * e) + j) + v44) < 960) := by
                                omega
                              refine ⟨o6, ?_⟩
                              intro M58 e_M58
                              have o7 : zin (v44 + 1) := by
                                first | with_reducible assumption | omega | exact trivial | with_reducible rfl  -- o7
                              refine ⟨o7, ?_⟩
                              refine ⟨Int.toNat (200 - (v44 + 1)), by omega, by omega, ?_, ?_, ?_, ?_⟩
                              · show 0 ≤ (v44 + 1) ∧ (v44 + 1) ≤ n  -- I174.1.hv2
                                first | with_reducible assumption | omega | exact trivial | with_reducible rfl
                              · show ∀ c k, c ≠ 143 → ¬ (c = 142 ∧ 120 * e + j ≤ k ∧ k < 120 * e + j + n) → M58 c k = M1 c k  -- I174.1.hf2
                                intro c k q q2; rw [e_M58, zset_n _ (by omega)]; exact hf2 c k q q2
                              · show ∀ k, M58 143 k = M34 143 k  -- I174.1.h143
                                intro k; rw [e_M58, zset_n _ (by omega)]; exact h143 k
                              · show ∀ k, 0 ≤ k → k < (v44 + 1) → M58 142 (120 * e + j + k) = M1 142 (120 * d + i + k)  -- I174.1.ha2
                                intro k k0 k1
                                by_cases c : k = v44
                                · rw [c, e_M58, zset_s, h143, ha v44 hv2.1 (by omega)]
                                · rw [e_M58, zset_n _ (by omega)]; exact ha2 k k0 (by omega)
                          · -- b13.2
                            have o8 : ((0 : Int) ≤ (((120 * d) + i) + v32) ∧ (((120 * d) + i) + v32) < 960) := by
                              omega
                            refine ⟨o8, ?_⟩
                            have o9 : ((0 : Int) ≤ v32 ∧ v32 < 120) := by
                              omega
                            refine ⟨o9, ?_⟩
                            intro M67 e_M67
                            have o10 : zin (v32 + 1) := by
                              first | with_reducible assumption | omega | exact trivial | with_reducible rfl  -- o10
                            refine ⟨o10, ?_⟩
                            refine ⟨Int.toNat (200 - (v32 + 1)), by omega, by omega, ?_, ?_, ?_⟩
                            · show 0 ≤ (v32 + 1) ∧ (v32 + 1) ≤ n  -- I137.1.hv
                              first | with_reducible assumption | omega | exact trivial | with_reducible rfl
                            · show ∀ c k, c ≠ 143 → M67 c k = M1 c k  -- I137.1.hf
                              intro c k q; rw [e_M67, zset_n _ (.inl q)]; exact hf c k q
                            · show ∀ k, 0 ≤ k → k < (v32 + 1) → M67 143 k = M1 142 (120 * d + i + k)  -- I137.1.ha
                              intro k k0 k1
                              by_cases c : k = v32
                              · subst c; rw [e_M67, zset_s, hf 142 _ (by decide)]
                              · rw [e_M67, zset_n _ (.inr c)]; exact ha k k0 (by omega)
                        · -- b12.2
                          refine hP _ _ ⟨?_, ?_⟩
                          · show ¬ (((0 ≤ d ∧ d < 8) ∧ (0 ≤ e ∧ e < 8)) ∧ (M 134 d = 2 ∧ M 134 e = 2 ∧ M 140 d = M 140 e) ∧ 0 ≤ n ∧ (0 ≤ i ∧ i + n ≤ M 141 d) ∧ (0 ≤ j ∧ j + n ≤ M 141 e)) → (-13) = qCc d e (M 134 d) (M 134 e) (M 140 d) (M 140 e) ∧ mW M M1  -- p10.hn
                            intro _; unfold qCc; rw [if_pos P, if_neg (by omega), if_pos (by omega)]; exact ⟨rfl, w1⟩
                          · show ((0 ≤ d ∧ d < 8) ∧ (0 ≤ e ∧ e < 8)) ∧ (M 134 d = 2 ∧ M 134 e = 2 ∧ M 140 d = M 140 e) ∧ 0 ≤ n ∧ (0 ≤ i ∧ i + n ≤ M 141 d) ∧ (0 ≤ j ∧ j + n ≤ M 141 e) → (-13) = n ∧ (∀ k, 0 ≤ k → k < n → M1 142 (120 * e + j + k) = M 142 (120 * d + i + k)) ∧ ∀ c k, ¬ mWk c k → ¬ (c = 142 ∧ 120 * e + j ≤ k ∧ k < 120 * e + j + n) → M1 c k = M c k  -- p10.hy
                            intro k; omega
              · -- b7.2
                refine hP _ _ ⟨?_, ?_⟩
                · show ¬ (((0 ≤ d ∧ d < 8) ∧ (0 ≤ e ∧ e < 8)) ∧ (M 134 d = 2 ∧ M 134 e = 2 ∧ M 140 d = M 140 e) ∧ 0 ≤ n ∧ (0 ≤ i ∧ i + n ≤ M 141 d) ∧ (0 ≤ j ∧ j + n ≤ M 141 e)) → (-12) = qCc d e (M 134 d) (M 134 e) (M 140 d) (M 140 e) ∧ mW M M1  -- p11.hn
                  intro _; unfold qCc; rw [if_pos P, if_neg (by omega), if_neg (by omega)]; exact ⟨rfl, w1⟩
                · show ((0 ≤ d ∧ d < 8) ∧ (0 ≤ e ∧ e < 8)) ∧ (M 134 d = 2 ∧ M 134 e = 2 ∧ M 140 d = M 140 e) ∧ 0 ≤ n ∧ (0 ≤ i ∧ i + n ≤ M 141 d) ∧ (0 ≤ j ∧ j + n ≤ M 141 e) → (-12) = n ∧ (∀ k, 0 ≤ k → k < n → M1 142 (120 * e + j + k) = M 142 (120 * d + i + k)) ∧ ∀ c k, ¬ mWk c k → ¬ (c = 142 ∧ 120 * e + j ≤ k ∧ k < 120 * e + j + n) → M1 c k = M c k  -- p11.hy
                  intro k; omega
        · -- b4.2
          refine hP _ _ ⟨?_, ?_⟩
          · show ¬ (((0 ≤ d ∧ d < 8) ∧ (0 ≤ e ∧ e < 8)) ∧ (M 134 d = 2 ∧ M 134 e = 2 ∧ M 140 d = M 140 e) ∧ 0 ≤ n ∧ (0 ≤ i ∧ i + n ≤ M 141 d) ∧ (0 ≤ j ∧ j + n ≤ M 141 e)) → (-11) = qCc d e (M 134 d) (M 134 e) (M 140 d) (M 140 e) ∧ mW M M1  -- p12.hn
            intro _; unfold qCc; rw [if_pos P, if_pos (.inr (by omega))]; exact ⟨rfl, w1⟩
          · show ((0 ≤ d ∧ d < 8) ∧ (0 ≤ e ∧ e < 8)) ∧ (M 134 d = 2 ∧ M 134 e = 2 ∧ M 140 d = M 140 e) ∧ 0 ≤ n ∧ (0 ≤ i ∧ i + n ≤ M 141 d) ∧ (0 ≤ j ∧ j + n ≤ M 141 e) → (-11) = n ∧ (∀ k, 0 ≤ k → k < n → M1 142 (120 * e + j + k) = M 142 (120 * d + i + k)) ∧ ∀ c k, ¬ mWk c k → ¬ (c = 142 ∧ 120 * e + j ≤ k ∧ k < 120 * e + j + n) → M1 c k = M c k  -- p12.hy
            intro k; omega
    · -- b2.2
      refine hP _ _ ⟨?_, ?_⟩
      · show ¬ (((0 ≤ d ∧ d < 8) ∧ (0 ≤ e ∧ e < 8)) ∧ (M 134 d = 2 ∧ M 134 e = 2 ∧ M 140 d = M 140 e) ∧ 0 ≤ n ∧ (0 ≤ i ∧ i + n ≤ M 141 d) ∧ (0 ≤ j ∧ j + n ≤ M 141 e)) → (-1) = qCc d e (M 134 d) (M 134 e) (M 140 d) (M 140 e) ∧ mW M M1  -- p13.hn
        intro _; unfold qCc; rw [if_neg (fun k => z2.z.1 b2 (by omega))]; exact ⟨rfl, w1⟩
      · show ((0 ≤ d ∧ d < 8) ∧ (0 ≤ e ∧ e < 8)) ∧ (M 134 d = 2 ∧ M 134 e = 2 ∧ M 140 d = M 140 e) ∧ 0 ≤ n ∧ (0 ≤ i ∧ i + n ≤ M 141 d) ∧ (0 ≤ j ∧ j + n ≤ M 141 e) → (-1) = n ∧ (∀ k, 0 ≤ k → k < n → M1 142 (120 * e + j + k) = M 142 (120 * d + i + k)) ∧ ∀ c k, ¬ mWk c k → ¬ (c = 142 ∧ 120 * e + j ≤ k ∧ k < 120 * e + j + n) → M1 c k = M c k  -- p13.hy
        intro k; exact absurd (by omega) (z2.z.1 b2)

theorem mRp {d h r : Int} (e : r = if 0 ≤ d ∧ d < 8 then (if h = 0 then -11 else if h = 2 then -12 else 0) else -1) (hh : h = 0 ∨ h = 1 ∨ h = 2) : (r < 0 ∧ ¬ ((0 ≤ d ∧ d < 8) ∧ h = 1) ∧ r = qRp d h) ∨ (r = 0 ∧ (0 ≤ d ∧ d < 8) ∧ h = 1) := by
  unfold qRp
  by_cases k : 0 ≤ d ∧ d < 8
  · rw [if_pos k] at e ⊢
    by_cases l : h = 0
    · rw [if_pos l] at e ⊢; omega
    · rw [if_neg l] at e ⊢
      by_cases q : h = 2
      · rw [if_pos q] at e; omega
      · rw [if_neg q] at e; omega
  · rw [if_neg k] at e ⊢; omega
abbrev pr_X12_reach (d : Int) (M : zM) : Prop := (mI M) ∧ (0 ≤ d → d < 8 → M 134 d = 0 ∨ M 134 d = 1 ∨ M 134 d = 2)
abbrev po_X12_reach (d : Int) (M : zM) (r : Int) (M' : zM) : Prop := (mW M M') ∧ (¬ ((0 ≤ d ∧ d < 8) ∧ M 134 d = 1) → r = qRp d (M 134 d)) ∧ ((0 ≤ d ∧ d < 8) ∧ M 134 d = 1 → (0 ≤ M 135 d ∧ M 135 d ≤ 4) → zReach (M 135 d) (M 137 d) (M 138 d) (M 139 d) r)
set_option maxHeartbeats 1000000 in
theorem ok_X12_reach : zSnd zS 145 0 0 yX12_reach cX12_reach 7 (some .int) 2 [2, 0] (F_X12_reach pr_X12_reach po_X12_reach) := by
  refine (sn_X12_reach ok_X12_wrongShelf ok_X12_root).mono ?_
  rintro xs P M hz hR ⟨d, rfl, ⟨hI, hh⟩, hP⟩
  refine ⟨_, rfl, ?_⟩
  have z_d := zall_h (zall_t hz) (by decide)
  change vc_X12_reach pr_X12_wrongShelf po_X12_wrongShelf pr_X12_root po_X12_root d P M
  unfold vc_X12_reach
  intro M1 e_M1
  have w1 : mW M M1 := fun c i k => by rw [e_M1, zset_n _ (by omega)]
  have q1 := w1 134 d (by omega)
  have q2 := w1 135 d (by omega)
  have q3 := w1 137 d (by omega)
  have q4 := w1 138 d (by omega)
  have q5 := w1 139 d (by omega)
  have gc1 : pr_X12_wrongShelf d M1 := trivial
  refine ⟨gc1, ?_⟩
  rintro r4 M5 ⟨q_rfl, e_r4⟩ z_r4 z_M5
  have q_rfl := q_rfl.symm
  subst q_rfl
  rw [q1] at e_r4
  have cs : (r4 < 0 ∧ ¬ ((0 ≤ d ∧ d < 8) ∧ M 134 d = 1) ∧ r4 = qRp d (M 134 d)) ∨ (r4 = 0 ∧ (0 ≤ d ∧ d < 8) ∧ M 134 d = 1) := by
    by_cases k : 0 ≤ d ∧ d < 8
    · exact mRp e_r4 (hh k.1 k.2)
    · rw [if_neg k] at e_r4
      exact .inl ⟨by omega, by omega, by unfold qRp; rw [if_neg k]; exact e_r4⟩
  refine ⟨fun b1 => ?_, fun b1 => ?_⟩
  · -- b1.1
    have ok : (0 ≤ d ∧ d < 8) ∧ M 134 d = 1 := by
      rcases cs with a | a
      · omega
      · exact a.2
    have S := hI.s d ok.1.1 ok.1.2
    have sx := zsq16 (x := M 137 d) S.2.1.1 S.2.1.2
    have sy := zsq16 (x := M 138 d) S.2.2.1.1 (by omega)
    have o1 : ((0 : Int) ≤ d ∧ d < 8) := by
      omega
    refine ⟨o1, ?_⟩
    have o2 : zin (((M1 137 d) * (M1 137 d)) + ((M1 138 d) * (M1 138 d))) := by
      rw [q3, q4]; omega
    refine ⟨o2, ?_⟩
    have gc2 : pr_X12_root (((M1 137 d) * (M1 137 d)) + ((M1 138 d) * (M1 138 d))) M1 := by
      show 0 ≤ (((M1 137 d) * (M1 137 d)) + ((M1 138 d) * (M1 138 d))) ∧ (((M1 137 d) * (M1 137 d)) + ((M1 138 d) * (M1 138 d))) ≤ 512
      rw [q3, q4]; omega
    refine ⟨gc2, ?_⟩
    rintro r13 M14 ⟨q_rfl, pc2_hr⟩ z_r13 z_M14
    have q_rfl := q_rfl.symm
    subst q_rfl
    rw [q3, q4] at pc2_hr
    have r0 := pc2_hr.1
    have rb : r13 ≤ 512 := by
      have := pc2_hr.2.1
      apply Classical.byContradiction
      intro c
      have := Int.mul_le_mul (show (1 : Int) ≤ r13 by omega) (show r13 ≤ r13 by omega) (by omega) (by omega)
      omega
    have o3 : zin ((M1 137 d) + (M1 138 d)) := by
      rw [q3, q4]; omega
    refine ⟨o3, ?_⟩
    have o4 : 0 ≤ ((M1 137 d) + (M1 138 d)) := by
      rw [q3, q4]; omega
    refine ⟨o4, ?_⟩
    refine ⟨fun b2 => ?_, fun b2 => ?_⟩
    · -- b2.1
      refine hP _ _ ⟨?_, ?_, ?_⟩
      · show mW M M1  -- p1.hw
        exact w1
      · show ¬ ((0 ≤ d ∧ d < 8) ∧ M 134 d = 1) → ((M1 137 d) + (M1 138 d)) = qRp d (M 134 d)  -- p1.hn
        intro h; exact absurd ok h
      · show (0 ≤ d ∧ d < 8) ∧ M 134 d = 1 → (0 ≤ M 135 d ∧ M 135 d ≤ 4) → zReach (M 135 d) (M 137 d) (M 138 d) (M 139 d) ((M1 137 d) + (M1 138 d))  -- p1.hy
        intro _ _; unfold zReach; rw [if_neg (by omega), if_neg (by omega), if_neg (by omega), if_neg (by omega), q3, q4]
    · -- b2.2
      refine ⟨fun b3 => ?_, fun b3 => ?_⟩
      · -- b3.1
        refine hP _ _ ⟨?_, ?_, ?_⟩
        · show mW M M1  -- p2.hw
          exact w1
        · show ¬ ((0 ≤ d ∧ d < 8) ∧ M 134 d = 1) → r13 = qRp d (M 134 d)  -- p2.hn
          intro h; exact absurd ok h
        · show (0 ≤ d ∧ d < 8) ∧ M 134 d = 1 → (0 ≤ M 135 d ∧ M 135 d ≤ 4) → zReach (M 135 d) (M 137 d) (M 138 d) (M 139 d) r13  -- p2.hy
          intro _ _; unfold zReach; rw [if_pos (by omega)]; exact pc2_hr
      · -- b3.2
        refine ⟨fun b4 => ?_, fun b4 => ?_⟩
        · -- b4.1
          have o5 : zin (((M1 137 d) + (M1 138 d)) + (((M1 137 d) + (M1 138 d)) / 2)) := by
            rw [q3, q4]; omega
          refine ⟨o5, ?_⟩
          refine hP _ _ ⟨?_, ?_, ?_⟩
          · show mW M M1  -- p3.hw
            exact w1
          · show ¬ ((0 ≤ d ∧ d < 8) ∧ M 134 d = 1) → (((M1 137 d) + (M1 138 d)) + (((M1 137 d) + (M1 138 d)) / 2)) = qRp d (M 134 d)  -- p3.hn
            intro h; exact absurd ok h
          · show (0 ≤ d ∧ d < 8) ∧ M 134 d = 1 → (0 ≤ M 135 d ∧ M 135 d ≤ 4) → zReach (M 135 d) (M 137 d) (M 138 d) (M 139 d) (((M1 137 d) + (M1 138 d)) + (((M1 137 d) + (M1 138 d)) / 2))  -- p3.hy
            intro _ _; unfold zReach; rw [if_neg (by omega), if_pos (by omega), q3, q4]
        · -- b4.2
          refine ⟨fun b5 => ?_, fun b5 => ?_⟩
          · -- b5.1
            have o6 : zin ((((M1 137 d) + (M1 138 d)) + (((M1 137 d) + (M1 138 d)) / 2)) + 3) := by
              rw [q3, q4]; omega
            refine ⟨o6, ?_⟩
            refine hP _ _ ⟨?_, ?_, ?_⟩
            · show mW M M1  -- p4.hw
              exact w1
            · show ¬ ((0 ≤ d ∧ d < 8) ∧ M 134 d = 1) → ((((M1 137 d) + (M1 138 d)) + (((M1 137 d) + (M1 138 d)) / 2)) + 3) = qRp d (M 134 d)  -- p4.hn
              intro h; exact absurd ok h
            · show (0 ≤ d ∧ d < 8) ∧ M 134 d = 1 → (0 ≤ M 135 d ∧ M 135 d ≤ 4) → zReach (M 135 d) (M 137 d) (M 138 d) (M 139 d) ((((M1 137 d) + (M1 138 d)) + (((M1 137 d) + (M1 138 d)) / 2)) + 3)  -- p4.hy
              intro _ _; unfold zReach; rw [if_neg (by omega), if_neg (by omega), if_pos (by omega), q3, q4]
          · -- b5.2
            have o7 : zin (r13 + (M1 139 d)) := by
              rw [q5]; omega
            refine ⟨o7, ?_⟩
            refine hP _ _ ⟨?_, ?_, ?_⟩
            · show mW M M1  -- p5.hw
              exact w1
            · show ¬ ((0 ≤ d ∧ d < 8) ∧ M 134 d = 1) → (r13 + (M1 139 d)) = qRp d (M 134 d)  -- p5.hn
              intro h; exact absurd ok h
            · show (0 ≤ d ∧ d < 8) ∧ M 134 d = 1 → (0 ≤ M 135 d ∧ M 135 d ≤ 4) → zReach (M 135 d) (M 137 d) (M 138 d) (M 139 d) (r13 + (M1 139 d))  -- p5.hy
              intro _ _; unfold zReach; rw [if_neg (by omega), if_neg (by omega), if_neg (by omega), if_pos (by omega), q5, show r13 + M 139 d - M 139 d = r13 by omega]; exact pc2_hr
  · -- b1.2
    refine hP _ _ ⟨?_, ?_, ?_⟩
    · show mW M M1  -- p6.hw
      exact w1
    · show ¬ ((0 ≤ d ∧ d < 8) ∧ M 134 d = 1) → r4 = qRp d (M 134 d)  -- p6.hn
      intro _; rcases cs with a | a
      · exact a.2.2
      · omega
    · show (0 ≤ d ∧ d < 8) ∧ M 134 d = 1 → (0 ≤ M 135 d ∧ M 135 d ≤ 4) → zReach (M 135 d) (M 137 d) (M 138 d) (M 139 d) r4  -- p6.hy
      intro h; rcases cs with a | a
      · exact absurd h a.2.1
      · omega

abbrev pr_X12_toss (d : Int) (M : zM) : Prop := (mI M) ∧ (0 ≤ d → d < 8 → M 134 d = 0 ∨ M 134 d = 1 ∨ M 134 d = 2)
abbrev po_X12_toss (d : Int) (M : zM) (r : Int) (M' : zM) : Prop := (mW M M') ∧ (¬ ((0 ≤ d ∧ d < 8) ∧ M 134 d = 1) → r = qRp d (M 134 d)) ∧ ((0 ≤ d ∧ d < 8) ∧ M 134 d = 1 → r = if M 135 d = 1 ∨ (M 137 d = 0 ∧ M 138 d = 0) then -15 else if M 135 d = 4 then M 139 d else if M 135 d = 3 then M 136 d + 100 else M 136 d)
set_option maxHeartbeats 1000000 in
theorem ok_X12_toss : zSnd zS 145 0 0 yX12_toss cX12_toss 3 (some .int) 2 [2, 0] (F_X12_toss pr_X12_toss po_X12_toss) := by
  refine (sn_X12_toss ok_X12_wrongShelf).mono ?_
  rintro xs P M hz hR ⟨d, rfl, ⟨hI, hh⟩, hP⟩
  refine ⟨_, rfl, ?_⟩
  have z_d := zall_h (zall_t hz) (by decide)
  change vc_X12_toss pr_X12_wrongShelf po_X12_wrongShelf d P M
  unfold vc_X12_toss
  intro M1 e_M1
  have w1 : mW M M1 := fun c i k => by rw [e_M1, zset_n _ (by omega)]
  have q1 := w1 134 d (by omega)
  have q2 := w1 135 d (by omega)
  have q3 := w1 137 d (by omega)
  have q4 := w1 138 d (by omega)
  have q5 := w1 139 d (by omega)
  have q6 := w1 136 d (by omega)
  have gc1 : pr_X12_wrongShelf d M1 := trivial
  refine ⟨gc1, ?_⟩
  rintro r4 M5 ⟨q_rfl, e_r4⟩ z_r4 z_M5
  have q_rfl := q_rfl.symm
  subst q_rfl
  rw [q1] at e_r4
  have cs : (r4 < 0 ∧ ¬ ((0 ≤ d ∧ d < 8) ∧ M 134 d = 1) ∧ r4 = qRp d (M 134 d)) ∨ (r4 = 0 ∧ (0 ≤ d ∧ d < 8) ∧ M 134 d = 1) := by
    by_cases k : 0 ≤ d ∧ d < 8
    · exact mRp e_r4 (hh k.1 k.2)
    · rw [if_neg k] at e_r4
      exact .inl ⟨by omega, by omega, by unfold qRp; rw [if_neg k]; exact e_r4⟩
  refine ⟨fun b1 => ?_, fun b1 => ?_⟩
  · -- b1.1
    have ok : (0 ≤ d ∧ d < 8) ∧ M 134 d = 1 := by
      rcases cs with a | a
      · omega
      · exact a.2
    have S := hI.s d ok.1.1 ok.1.2
    have o1 : ((0 : Int) ≤ d ∧ d < 8) := by
      omega
    refine ⟨o1, ?_⟩
    refine ⟨fun b2 => ?_, fun b2 => ?_⟩
    · -- b2.1
      refine hP _ _ ⟨?_, ?_, ?_⟩
      · show mW M M1  -- p1.hw
        exact w1
      · show ¬ ((0 ≤ d ∧ d < 8) ∧ M 134 d = 1) → (-15) = qRp d (M 134 d)  -- p1.hn
        intro h; exact absurd ok h
      · show (0 ≤ d ∧ d < 8) ∧ M 134 d = 1 → (-15) = if M 135 d = 1 ∨ (M 137 d = 0 ∧ M 138 d = 0) then -15 else if M 135 d = 4 then M 139 d else if M 135 d = 3 then M 136 d + 100 else M 136 d  -- p1.hy
        intro _; rw [if_pos (by omega)]
    · -- b2.2
      have o2 : zin ((M1 137 d) + (M1 138 d)) := by
        omega
      refine ⟨o2, ?_⟩
      refine ⟨fun b3 => ?_, fun b3 => ?_⟩
      · -- b3.1
        refine ⟨fun b4 => ?_, fun b4 => ?_⟩
        · -- b4.1
          refine ⟨fun b5 => ?_, fun b5 => ?_⟩
          · -- b5.1
            refine hP _ _ ⟨?_, ?_, ?_⟩
            · show mW M M1  -- p2.hw
              exact w1
            · show ¬ ((0 ≤ d ∧ d < 8) ∧ M 134 d = 1) → (M1 136 d) = qRp d (M 134 d)  -- p2.hn
              intro h; exact absurd ok h
            · show (0 ≤ d ∧ d < 8) ∧ M 134 d = 1 → (M1 136 d) = if M 135 d = 1 ∨ (M 137 d = 0 ∧ M 138 d = 0) then -15 else if M 135 d = 4 then M 139 d else if M 135 d = 3 then M 136 d + 100 else M 136 d  -- p2.hy
              intro _; rw [if_neg (by omega), if_neg (by omega), if_neg (by omega)]; exact q6
          · -- b5.2
            refine hP _ _ ⟨?_, ?_, ?_⟩
            · show mW M M1  -- p3.hw
              exact w1
            · show ¬ ((0 ≤ d ∧ d < 8) ∧ M 134 d = 1) → (M1 139 d) = qRp d (M 134 d)  -- p3.hn
              intro h; exact absurd ok h
            · show (0 ≤ d ∧ d < 8) ∧ M 134 d = 1 → (M1 139 d) = if M 135 d = 1 ∨ (M 137 d = 0 ∧ M 138 d = 0) then -15 else if M 135 d = 4 then M 139 d else if M 135 d = 3 then M 136 d + 100 else M 136 d  -- p3.hy
              intro _; rw [if_neg (by omega), if_pos (by omega)]; exact q5
        · -- b4.2
          have o3 : zin (100 + (M1 136 d)) := by
            omega
          refine ⟨o3, ?_⟩
          refine hP _ _ ⟨?_, ?_, ?_⟩
          · show mW M M1  -- p4.hw
            exact w1
          · show ¬ ((0 ≤ d ∧ d < 8) ∧ M 134 d = 1) → (100 + (M1 136 d)) = qRp d (M 134 d)  -- p4.hn
            intro h; exact absurd ok h
          · show (0 ≤ d ∧ d < 8) ∧ M 134 d = 1 → (100 + (M1 136 d)) = if M 135 d = 1 ∨ (M 137 d = 0 ∧ M 138 d = 0) then -15 else if M 135 d = 4 then M 139 d else if M 135 d = 3 then M 136 d + 100 else M 136 d  -- p4.hy
            intro _; rw [if_neg (by omega), if_neg (by omega), if_pos (by omega)]; omega
      · -- b3.2
        refine hP _ _ ⟨?_, ?_, ?_⟩
        · show mW M M1  -- p5.hw
          exact w1
        · show ¬ ((0 ≤ d ∧ d < 8) ∧ M 134 d = 1) → (-15) = qRp d (M 134 d)  -- p5.hn
          intro h; exact absurd ok h
        · show (0 ≤ d ∧ d < 8) ∧ M 134 d = 1 → (-15) = if M 135 d = 1 ∨ (M 137 d = 0 ∧ M 138 d = 0) then -15 else if M 135 d = 4 then M 139 d else if M 135 d = 3 then M 136 d + 100 else M 136 d  -- p5.hy
          intro _; rw [if_pos (by omega)]
  · -- b1.2
    refine hP _ _ ⟨?_, ?_, ?_⟩
    · show mW M M1  -- p6.hw
      exact w1
    · show ¬ ((0 ≤ d ∧ d < 8) ∧ M 134 d = 1) → r4 = qRp d (M 134 d)  -- p6.hn
      intro _; rcases cs with a | a
      · exact a.2.2
      · omega
    · show (0 ≤ d ∧ d < 8) ∧ M 134 d = 1 → r4 = if M 135 d = 1 ∨ (M 137 d = 0 ∧ M 138 d = 0) then -15 else if M 135 d = 4 then M 139 d else if M 135 d = 3 then M 136 d + 100 else M 136 d  -- p6.hy
      intro h; rcases cs with a | a
      · exact absurd h a.2.1
      · omega

abbrev pr_X12_keep (d : Int) (what : Int) (k : Int) (f : Int) (told : Int) (M : zM) : Prop := (mI M)
abbrev po_X12_keep (d : Int) (what : Int) (k : Int) (f : Int) (told : Int) (M : zM) (r : Int) (M' : zM) : Prop := (¬ ((0 ≤ d ∧ d < 8) ∧ 0 ≤ what ∧ what ≤ 1) → r = -1 ∧ mW M M') ∧ (0 ≤ d ∧ d < 8 → what = 0 → r = 0 ∧ M' = zset (zset M 103 0 0) 134 d 0) ∧ (0 ≤ d ∧ d < 8 → what = 1 → ¬ (0 ≤ k ∧ k ≤ 4) → r = -1 ∧ mW M M') ∧ (0 ≤ d ∧ d < 8 → what = 1 → 0 ≤ k ∧ k ≤ 4 → ∃ N, mW M N ∧ mFok N ∧ (¬ ((0 ≤ f ∧ f < N 103 30) ∧ 0 ≤ told) → r = -1 ∧ M' = N) ∧ ((0 ≤ f ∧ f < N 103 30) ∧ 0 ≤ told → ∃ n, gPer (zg (N 103 1) (N 103 2) (N 115)) f (N 103 5) (gS0 (N 116 f)) n ∧ (¬ (told / 1000 ≤ n ∧ told % 1000 ≤ n) → r = -1 ∧ M' = N) ∧ (told / 1000 ≤ n ∧ told % 1000 ≤ n → r = 0 ∧ ∃ g x y, gGb (zg (N 103 1) (N 103 2) (N 115)) f g ∧ x = gX (zg (N 103 1) (N 103 2) (N 115)) f (N 103 5) (gS0 (N 116 f)) (told / 1000) - gX (zg (N 103 1) (N 103 2) (N 115)) f (N 103 5) (gS0 (N 116 f)) (told % 1000) ∧ y = gY (zg (N 103 1) (N 103 2) (N 115)) f (N 103 5) (gS0 (N 116 f)) (told / 1000) - gY (zg (N 103 1) (N 103 2) (N 115)) f (N 103 5) (gS0 (N 116 f)) (told % 1000) ∧ M' = zset (zset (zset (zset (zset (zset N 135 d k) 136 d f) 137 d (max x (-x))) 138 d (max y (-y))) 139 d g) 134 d 1)))
set_option maxHeartbeats 2000000 in
theorem ok_X12_keep : zSnd zS 145 0 0 yX12_keep cX12_keep 10 (some .int) 4 [2, 0, 0, 0, 0, 0] (F_X12_keep pr_X12_keep po_X12_keep) := by
  refine (sn_X12_keep ok_X12_in ok_X12_isFace ok_X12_findBorder ok_X12_greatestOf).mono ?_
  rintro xs P M hz hR ⟨d, what, k, f, told, rfl, hI, hP⟩
  refine ⟨_, _, _, _, _, rfl, ?_⟩
  have z_d := zall_h (zall_t hz) (by decide)
  have z_what := zall_h (zall_t (zall_t hz)) (by decide)
  have z_k := zall_h (zall_t (zall_t (zall_t hz))) (by decide)
  have z_f := zall_h (zall_t (zall_t (zall_t (zall_t hz)))) (by decide)
  have z_told := zall_h (zall_t (zall_t (zall_t (zall_t (zall_t hz))))) (by decide)
  change vc_X12_keep pr_X12_in po_X12_in pr_X12_isFace po_X12_isFace pr_X12_findBorder po_X12_findBorder pr_X12_greatestOf po_X12_greatestOf d what k f told P M
  unfold vc_X12_keep
  intro M1 e_M1
  have I1 : mI M1 := hI.fr (fun c i k _ => by rw [e_M1, zset_n _ (by omega)])
  have w1 : mW M M1 := fun c i k => by rw [e_M1, zset_n _ (by omega)]
  have gc1 : pr_X12_in d 0 7 M1 := trivial
  refine ⟨gc1, ?_⟩
  rintro r4 M5 ⟨q_rfl, e_r4⟩ z_r4 z_M5
  have q_rfl := q_rfl.symm
  subst q_rfl
  have z1 := zif01 e_r4
  refine ⟨fun b1 => ?_, fun b1 => ?_⟩
  · -- b1.1
    refine hP _ _ ⟨?_, ?_, ?_, ?_⟩
    · show ¬ ((0 ≤ d ∧ d < 8) ∧ 0 ≤ what ∧ what ≤ 1) → (-1) = -1 ∧ mW M M1  -- p1.hn
      intro _; exact ⟨rfl, w1⟩
    · show 0 ≤ d ∧ d < 8 → what = 0 → (-1) = 0 ∧ M1 = zset (zset M 103 0 0) 134 d 0  -- p1.h0
      intro h; exact absurd (by omega) (z1.z.1 b1)
    · show 0 ≤ d ∧ d < 8 → what = 1 → ¬ (0 ≤ k ∧ k ≤ 4) → (-1) = -1 ∧ mW M M1  -- p1.h1
      intro h; exact absurd (by omega) (z1.z.1 b1)
    · show 0 ≤ d ∧ d < 8 → what = 1 → 0 ≤ k ∧ k ≤ 4 → ∃ N, mW M N ∧ mFok N ∧ (¬ ((0 ≤ f ∧ f < N 103 30) ∧ 0 ≤ told) → (-1) = -1 ∧ M1 = N) ∧ ((0 ≤ f ∧ f < N 103 30) ∧ 0 ≤ told → ∃ n, gPer (zg (N 103 1) (N 103 2) (N 115)) f (N 103 5) (gS0 (N 116 f)) n ∧ (¬ (told / 1000 ≤ n ∧ told % 1000 ≤ n) → (-1) = -1 ∧ M1 = N) ∧ (told / 1000 ≤ n ∧ told % 1000 ≤ n → (-1) = 0 ∧ ∃ g x y, gGb (zg (N 103 1) (N 103 2) (N 115)) f g ∧ x = gX (zg (N 103 1) (N 103 2) (N 115)) f (N 103 5) (gS0 (N 116 f)) (told / 1000) - gX (zg (N 103 1) (N 103 2) (N 115)) f (N 103 5) (gS0 (N 116 f)) (told % 1000) ∧ y = gY (zg (N 103 1) (N 103 2) (N 115)) f (N 103 5) (gS0 (N 116 f)) (told / 1000) - gY (zg (N 103 1) (N 103 2) (N 115)) f (N 103 5) (gS0 (N 116 f)) (told % 1000) ∧ M1 = zset (zset (zset (zset (zset (zset N 135 d k) 136 d f) 137 d (max x (-x))) 138 d (max y (-y))) 139 d g) 134 d 1))  -- p1.h2
      intro h; exact absurd (by omega) (z1.z.1 b1)
  · -- b1.2
    have hd := z1.ne.1 b1
    have gc2 : pr_X12_in what 0 1 M1 := trivial
    refine ⟨gc2, ?_⟩
    rintro r11 M12 ⟨q_rfl, e_r11⟩ z_r11 z_M12
    have q_rfl := q_rfl.symm
    subst q_rfl
    have z2 := zif01 e_r11
    refine ⟨fun b2 => ?_, fun b2 => ?_⟩
    · -- b2.1
      have hw2 := z2.ne.1 b2
      refine ⟨fun b3 => ?_, fun b3 => ?_⟩
      · -- b3.1
        have o1 : ((0 : Int) ≤ d ∧ d < 8) := by
          omega
        refine ⟨o1, ?_⟩
        intro M20 e_M20
        refine hP _ _ ⟨?_, ?_, ?_, ?_⟩
        · show ¬ ((0 ≤ d ∧ d < 8) ∧ 0 ≤ what ∧ what ≤ 1) → 0 = -1 ∧ mW M M20  -- p2.hn
          intro h; omega
        · show 0 ≤ d ∧ d < 8 → what = 0 → 0 = 0 ∧ M20 = zset (zset M 103 0 0) 134 d 0  -- p2.h0
          intro _ h; exact ⟨rfl, by rw [e_M20, e_M1, h]⟩
        · show 0 ≤ d ∧ d < 8 → what = 1 → ¬ (0 ≤ k ∧ k ≤ 4) → 0 = -1 ∧ mW M M20  -- p2.h1
          intro _ h; exact absurd h b3
        · show 0 ≤ d ∧ d < 8 → what = 1 → 0 ≤ k ∧ k ≤ 4 → ∃ N, mW M N ∧ mFok N ∧ (¬ ((0 ≤ f ∧ f < N 103 30) ∧ 0 ≤ told) → 0 = -1 ∧ M20 = N) ∧ ((0 ≤ f ∧ f < N 103 30) ∧ 0 ≤ told → ∃ n, gPer (zg (N 103 1) (N 103 2) (N 115)) f (N 103 5) (gS0 (N 116 f)) n ∧ (¬ (told / 1000 ≤ n ∧ told % 1000 ≤ n) → 0 = -1 ∧ M20 = N) ∧ (told / 1000 ≤ n ∧ told % 1000 ≤ n → 0 = 0 ∧ ∃ g x y, gGb (zg (N 103 1) (N 103 2) (N 115)) f g ∧ x = gX (zg (N 103 1) (N 103 2) (N 115)) f (N 103 5) (gS0 (N 116 f)) (told / 1000) - gX (zg (N 103 1) (N 103 2) (N 115)) f (N 103 5) (gS0 (N 116 f)) (told % 1000) ∧ y = gY (zg (N 103 1) (N 103 2) (N 115)) f (N 103 5) (gS0 (N 116 f)) (told / 1000) - gY (zg (N 103 1) (N 103 2) (N 115)) f (N 103 5) (gS0 (N 116 f)) (told % 1000) ∧ M20 = zset (zset (zset (zset (zset (zset N 135 d k) 136 d f) 137 d (max x (-x))) 138 d (max y (-y))) 139 d g) 134 d 1))  -- p2.h2
          intro _ h; exact absurd h b3
      · -- b3.2
        have gc3 : pr_X12_in k 0 4 M1 := trivial
        refine ⟨gc3, ?_⟩
        rintro r23 M24 ⟨q_rfl, e_r23⟩ z_r23 z_M24
        have q_rfl := q_rfl.symm
        subst q_rfl
        have z3 := zif01 e_r23
        refine ⟨fun b4 => ?_, fun b4 => ?_⟩
        · -- b4.1
          refine hP _ _ ⟨?_, ?_, ?_, ?_⟩
          · show ¬ ((0 ≤ d ∧ d < 8) ∧ 0 ≤ what ∧ what ≤ 1) → (-1) = -1 ∧ mW M M1  -- p3.hn
            intro h; omega
          · show 0 ≤ d ∧ d < 8 → what = 0 → (-1) = 0 ∧ M1 = zset (zset M 103 0 0) 134 d 0  -- p3.h0
            intro _ h; omega
          · show 0 ≤ d ∧ d < 8 → what = 1 → ¬ (0 ≤ k ∧ k ≤ 4) → (-1) = -1 ∧ mW M M1  -- p3.h1
            intro _ _ _; exact ⟨rfl, w1⟩
          · show 0 ≤ d ∧ d < 8 → what = 1 → 0 ≤ k ∧ k ≤ 4 → ∃ N, mW M N ∧ mFok N ∧ (¬ ((0 ≤ f ∧ f < N 103 30) ∧ 0 ≤ told) → (-1) = -1 ∧ M1 = N) ∧ ((0 ≤ f ∧ f < N 103 30) ∧ 0 ≤ told → ∃ n, gPer (zg (N 103 1) (N 103 2) (N 115)) f (N 103 5) (gS0 (N 116 f)) n ∧ (¬ (told / 1000 ≤ n ∧ told % 1000 ≤ n) → (-1) = -1 ∧ M1 = N) ∧ (told / 1000 ≤ n ∧ told % 1000 ≤ n → (-1) = 0 ∧ ∃ g x y, gGb (zg (N 103 1) (N 103 2) (N 115)) f g ∧ x = gX (zg (N 103 1) (N 103 2) (N 115)) f (N 103 5) (gS0 (N 116 f)) (told / 1000) - gX (zg (N 103 1) (N 103 2) (N 115)) f (N 103 5) (gS0 (N 116 f)) (told % 1000) ∧ y = gY (zg (N 103 1) (N 103 2) (N 115)) f (N 103 5) (gS0 (N 116 f)) (told / 1000) - gY (zg (N 103 1) (N 103 2) (N 115)) f (N 103 5) (gS0 (N 116 f)) (told % 1000) ∧ M1 = zset (zset (zset (zset (zset (zset N 135 d k) 136 d f) 137 d (max x (-x))) 138 d (max y (-y))) 139 d g) 134 d 1))  -- p3.h2
            intro _ _ h; exact absurd h (z3.z.1 b4)
        · -- b4.2
          have hk := z3.ne.1 b4
          have gc4 : pr_X12_isFace f M1 := by
            show mI M1
            exact I1
          refine ⟨gc4, ?_⟩
          rintro r30 M31 ⟨pc4_hf, pc4_hF, pc4_hr⟩ z_r30 z_M31
          have I2 := I1.face pc4_hf
          have w2 : mW M M31 := w1.tr (fun c i k => pc4_hf c i (by omega) (by omega) (by omega))
          refine ⟨fun b5 => ?_, fun b5 => ?_⟩
          · -- b5.1
            refine hP _ _ ⟨?_, ?_, ?_, ?_⟩
            · show ¬ ((0 ≤ d ∧ d < 8) ∧ 0 ≤ what ∧ what ≤ 1) → (-1) = -1 ∧ mW M M31  -- p4.hn
              intro h; omega
            · show 0 ≤ d ∧ d < 8 → what = 0 → (-1) = 0 ∧ M31 = zset (zset M 103 0 0) 134 d 0  -- p4.h0
              intro _ h; omega
            · show 0 ≤ d ∧ d < 8 → what = 1 → ¬ (0 ≤ k ∧ k ≤ 4) → (-1) = -1 ∧ mW M M31  -- p4.h1
              intro _ _ h; omega
            · show 0 ≤ d ∧ d < 8 → what = 1 → 0 ≤ k ∧ k ≤ 4 → ∃ N, mW M N ∧ mFok N ∧ (¬ ((0 ≤ f ∧ f < N 103 30) ∧ 0 ≤ told) → (-1) = -1 ∧ M31 = N) ∧ ((0 ≤ f ∧ f < N 103 30) ∧ 0 ≤ told → ∃ n, gPer (zg (N 103 1) (N 103 2) (N 115)) f (N 103 5) (gS0 (N 116 f)) n ∧ (¬ (told / 1000 ≤ n ∧ told % 1000 ≤ n) → (-1) = -1 ∧ M31 = N) ∧ (told / 1000 ≤ n ∧ told % 1000 ≤ n → (-1) = 0 ∧ ∃ g x y, gGb (zg (N 103 1) (N 103 2) (N 115)) f g ∧ x = gX (zg (N 103 1) (N 103 2) (N 115)) f (N 103 5) (gS0 (N 116 f)) (told / 1000) - gX (zg (N 103 1) (N 103 2) (N 115)) f (N 103 5) (gS0 (N 116 f)) (told % 1000) ∧ y = gY (zg (N 103 1) (N 103 2) (N 115)) f (N 103 5) (gS0 (N 116 f)) (told / 1000) - gY (zg (N 103 1) (N 103 2) (N 115)) f (N 103 5) (gS0 (N 116 f)) (told % 1000) ∧ M31 = zset (zset (zset (zset (zset (zset N 135 d k) 136 d f) 137 d (max x (-x))) 138 d (max y (-y))) 139 d g) 134 d 1))  -- p4.h2
              intro _ _ _; exact ⟨M31, w2, pc4_hF, fun _ => ⟨rfl, rfl⟩, fun h => absurd h.1 (pc4_hr.z.1 b5)⟩
          · -- b5.2
            have ha := pc4_hr.ne.1 b5
            refine ⟨fun b6 => ?_, fun b6 => ?_⟩
            · -- b6.1
              have gc5 : pr_X12_findBorder f M31 := by
                refine ⟨?_, ?_, ?_, ?_⟩
                · show mDim M31  -- c5.hd
                  exact I2.d
                · show M31 103 5 = 0 ∨ M31 103 5 = 1  -- c5.ht
                  exact I2.t
                · show mFok M31  -- c5.hF
                  exact pc4_hF
                · show 0 ≤ f ∧ f < M31 103 30  -- c5.ha
                  exact ha
              refine ⟨gc5, ?_⟩
              rintro M38 ⟨pc5_hf, pc5_hB⟩ z_M38
              have v := mVe.of (M := M31) (M' := M38) (fun c i k => pc5_hf c i (by omega) (by omega) (by omega) (by omega))
              have F3 := pc4_hF.ve v
              have I3 : mI M38 := I2.fr (fun c i k _ => pc5_hf c i (by omega) (by omega) (by omega) (by omega))
              have w3 : mW M M38 := w2.tr (fun c i k => pc5_hf c i (by omega) (by omega) (by omega) (by omega))
              have ha3 : 0 ≤ f ∧ f < M38 103 30 := by rw [v.2.2.2.2.2.2]; exact ha
              have X := pc5_hB.XY I3.d F3 ha3
              have o2 : 0 ≤ told := by
                first | with_reducible assumption | omega | exact trivial | with_reducible rfl  -- o2
              refine ⟨o2, ?_⟩
              refine ⟨fun b7 => ?_, fun b7 => ?_⟩
              · -- b7.1
                refine hP _ _ ⟨?_, ?_, ?_, ?_⟩
                · show ¬ ((0 ≤ d ∧ d < 8) ∧ 0 ≤ what ∧ what ≤ 1) → (-1) = -1 ∧ mW M M38  -- p5.hn
                  intro h; omega
                · show 0 ≤ d ∧ d < 8 → what = 0 → (-1) = 0 ∧ M38 = zset (zset M 103 0 0) 134 d 0  -- p5.h0
                  intro _ h; omega
                · show 0 ≤ d ∧ d < 8 → what = 1 → ¬ (0 ≤ k ∧ k ≤ 4) → (-1) = -1 ∧ mW M M38  -- p5.h1
                  intro _ _ h; omega
                · show 0 ≤ d ∧ d < 8 → what = 1 → 0 ≤ k ∧ k ≤ 4 → ∃ N, mW M N ∧ mFok N ∧ (¬ ((0 ≤ f ∧ f < N 103 30) ∧ 0 ≤ told) → (-1) = -1 ∧ M38 = N) ∧ ((0 ≤ f ∧ f < N 103 30) ∧ 0 ≤ told → ∃ n, gPer (zg (N 103 1) (N 103 2) (N 115)) f (N 103 5) (gS0 (N 116 f)) n ∧ (¬ (told / 1000 ≤ n ∧ told % 1000 ≤ n) → (-1) = -1 ∧ M38 = N) ∧ (told / 1000 ≤ n ∧ told % 1000 ≤ n → (-1) = 0 ∧ ∃ g x y, gGb (zg (N 103 1) (N 103 2) (N 115)) f g ∧ x = gX (zg (N 103 1) (N 103 2) (N 115)) f (N 103 5) (gS0 (N 116 f)) (told / 1000) - gX (zg (N 103 1) (N 103 2) (N 115)) f (N 103 5) (gS0 (N 116 f)) (told % 1000) ∧ y = gY (zg (N 103 1) (N 103 2) (N 115)) f (N 103 5) (gS0 (N 116 f)) (told / 1000) - gY (zg (N 103 1) (N 103 2) (N 115)) f (N 103 5) (gS0 (N 116 f)) (told % 1000) ∧ M38 = zset (zset (zset (zset (zset (zset N 135 d k) 136 d f) 137 d (max x (-x))) 138 d (max y (-y))) 139 d g) 134 d 1))  -- p5.h2
                  intro _ _ _; exact ⟨M38, w3, F3, fun h => absurd ⟨ha3, b6⟩ h, fun _ => ⟨_, pc5_hB.1, fun _ => ⟨rfl, rfl⟩, fun h => by omega⟩⟩
              · -- b7.2
                refine ⟨fun b8 => ?_, fun b8 => ?_⟩
                · -- b8.1
                  have i0 : 0 ≤ told / 1000 := by omega
                  have j0 : 0 ≤ told % 1000 := by omega
                  have Xi := X.1 (told / 1000) i0 (by omega)
                  have Xj := X.1 (told % 1000) j0 (by omega)
                  have Gi := pc5_hB.2.2 (told / 1000) i0 (by omega)
                  have Gj := pc5_hB.2.2 (told % 1000) j0 (by omega)
                  have o3 : ((0 : Int) ≤ d ∧ d < 8) := by
                    omega
                  refine ⟨o3, ?_⟩
                  intro M47 e_M47
                  intro M50 e_M50
                  have n119 : ∀ q, M50 119 q = M38 119 q := fun q => by rw [e_M50, zset_n _ (by omega), e_M47, zset_n _ (by omega)]
                  have n120 : ∀ q, M50 120 q = M38 120 q := fun q => by rw [e_M50, zset_n _ (by omega), e_M47, zset_n _ (by omega)]
                  have o4 : ((0 : Int) ≤ (told / 1000) ∧ (told / 1000) < 901) := by
                    omega
                  refine ⟨o4, ?_⟩
                  have o5 : ((0 : Int) ≤ (told % 1000) ∧ (told % 1000) < 901) := by
                    omega
                  refine ⟨o5, ?_⟩
                  intro K171 h_K171
                  have k_K171 : ∀ (v55 : Int), (v55 = max (M38 119 (told / 1000) - M38 119 (told % 1000)) (-(M38 119 (told / 1000) - M38 119 (told % 1000)))) → K171 v55 := by
                    intro v55 k1
                    refine h_K171 _ ?_
                    intro z_v55
                    intro M57 e_M57
                    intro K190 h_K190
                    have k_K190 : ∀ (v60 : Int), (v60 = max (M38 120 (told / 1000) - M38 120 (told % 1000)) (-(M38 120 (told / 1000) - M38 120 (told % 1000)))) → K190 v60 := by
                      intro v60 k2
                      refine h_K190 _ ?_
                      intro z_v60
                      intro M62 e_M62
                      have f62 : ∀ c q, c < 135 ∨ 138 < c → M62 c q = M38 c q := fun c q h => by rw [e_M62, zset_n _ (by omega), e_M57, zset_n _ (by omega), e_M50, zset_n _ (by omega), e_M47, zset_n _ (by omega)]
                      have u := mVe.of (M := M38) (M' := M62) (fun c i k => f62 c i (by omega))
                      have gc6 : pr_X12_greatestOf f M62 := by
                        refine ⟨?_, ?_⟩
                        · show mDim M62  -- c6.hd
                          unfold mDim; rw [u.1, u.2.1]; exact I3.d
                        · show 0 ≤ f  -- c6.hf0
                          omega
                      refine ⟨gc6, ?_⟩
                      rintro r65 M66 ⟨q_rfl, pc6_hr, pc6_hb⟩ z_r65 z_M66
                      have q_rfl := q_rfl.symm
                      subst q_rfl
                      intro M71 e_M71
                      intro M74 e_M74
                      refine hP _ _ ⟨?_, ?_, ?_, ?_⟩
                      · show ¬ ((0 ≤ d ∧ d < 8) ∧ 0 ≤ what ∧ what ≤ 1) → 0 = -1 ∧ mW M M74  -- p6.hn
                        intro h; omega
                      · show 0 ≤ d ∧ d < 8 → what = 0 → 0 = 0 ∧ M74 = zset (zset M 103 0 0) 134 d 0  -- p6.h0
                        intro _ h; omega
                      · show 0 ≤ d ∧ d < 8 → what = 1 → ¬ (0 ≤ k ∧ k ≤ 4) → 0 = -1 ∧ mW M M74  -- p6.h1
                        intro _ _ h; omega
                      · show 0 ≤ d ∧ d < 8 → what = 1 → 0 ≤ k ∧ k ≤ 4 → ∃ N, mW M N ∧ mFok N ∧ (¬ ((0 ≤ f ∧ f < N 103 30) ∧ 0 ≤ told) → 0 = -1 ∧ M74 = N) ∧ ((0 ≤ f ∧ f < N 103 30) ∧ 0 ≤ told → ∃ n, gPer (zg (N 103 1) (N 103 2) (N 115)) f (N 103 5) (gS0 (N 116 f)) n ∧ (¬ (told / 1000 ≤ n ∧ told % 1000 ≤ n) → 0 = -1 ∧ M74 = N) ∧ (told / 1000 ≤ n ∧ told % 1000 ≤ n → 0 = 0 ∧ ∃ g x y, gGb (zg (N 103 1) (N 103 2) (N 115)) f g ∧ x = gX (zg (N 103 1) (N 103 2) (N 115)) f (N 103 5) (gS0 (N 116 f)) (told / 1000) - gX (zg (N 103 1) (N 103 2) (N 115)) f (N 103 5) (gS0 (N 116 f)) (told % 1000) ∧ y = gY (zg (N 103 1) (N 103 2) (N 115)) f (N 103 5) (gS0 (N 116 f)) (told / 1000) - gY (zg (N 103 1) (N 103 2) (N 115)) f (N 103 5) (gS0 (N 116 f)) (told % 1000) ∧ M74 = zset (zset (zset (zset (zset (zset N 135 d k) 136 d f) 137 d (max x (-x))) 138 d (max y (-y))) 139 d g) 134 d 1))  -- p6.h2
                        intro _ _ _
                        refine ⟨M38, w3, F3, fun h => absurd ⟨ha3, b6⟩ h, fun _ => ⟨_, pc5_hB.1, fun h => absurd ⟨by omega, by omega⟩ h, fun _ => ⟨rfl, r65, M38 119 (told / 1000) - M38 119 (told % 1000), M38 120 (told / 1000) - M38 120 (told % 1000), ?_, ?_, ?_, ?_⟩⟩⟩
                        · have g := pc6_hr
                          rw [u.1, u.2.1, u.2.2.2.2.1] at g
                          exact g
                        · unfold gX; rw [Gi.1, Gj.1]
                        · unfold gY; rw [Gi.2, Gj.2]
                        · rw [e_M74, e_M71, e_M62, e_M57, e_M50, e_M47, k1, k2, b3]
                    have o6 : zin ((M50 120 (told / 1000)) - (M50 120 (told % 1000))) := by
                      rw [n120, n120]; omega
                    refine ⟨o6, ?_⟩
                    refine ⟨fun b9 => ?_, fun b9 => ?_⟩
                    · -- b9.1
                      rw [n120, n120] at b9
                      refine k_K190 _ ?_
                      · show ((M50 120 (told / 1000)) - (M50 120 (told % 1000))) = max (M38 120 (told / 1000) - M38 120 (told % 1000)) (-(M38 120 (told / 1000) - M38 120 (told % 1000)))  -- K190.1.k2
                        rw [n120, n120]; omega
                    · -- b9.2
                      rw [n120, n120] at b9
                      have o7 : zin (-((M50 120 (told / 1000)) - (M50 120 (told % 1000)))) := by
                        rw [n120, n120]; omega
                      refine ⟨o7, ?_⟩
                      refine k_K190 _ ?_
                      · show (-((M50 120 (told / 1000)) - (M50 120 (told % 1000)))) = max (M38 120 (told / 1000) - M38 120 (told % 1000)) (-(M38 120 (told / 1000) - M38 120 (told % 1000)))  -- K190.2.k2
                        rw [n120, n120]; omega
                  have o8 : zin ((M50 119 (told / 1000)) - (M50 119 (told % 1000))) := by
                    rw [n119, n119]; omega
                  refine ⟨o8, ?_⟩
                  refine ⟨fun b10 => ?_, fun b10 => ?_⟩
                  · -- b10.1
                    rw [n119, n119] at b10
                    refine k_K171 _ ?_
                    · show ((M50 119 (told / 1000)) - (M50 119 (told % 1000))) = max (M38 119 (told / 1000) - M38 119 (told % 1000)) (-(M38 119 (told / 1000) - M38 119 (told % 1000)))  -- K171.1.k1
                      rw [n119, n119]; omega
                  · -- b10.2
                    rw [n119, n119] at b10
                    have o9 : zin (-((M50 119 (told / 1000)) - (M50 119 (told % 1000)))) := by
                      rw [n119, n119]; omega
                    refine ⟨o9, ?_⟩
                    refine k_K171 _ ?_
                    · show (-((M50 119 (told / 1000)) - (M50 119 (told % 1000)))) = max (M38 119 (told / 1000) - M38 119 (told % 1000)) (-(M38 119 (told / 1000) - M38 119 (told % 1000)))  -- K171.2.k1
                      rw [n119, n119]; omega
                · -- b8.2
                  refine hP _ _ ⟨?_, ?_, ?_, ?_⟩
                  · show ¬ ((0 ≤ d ∧ d < 8) ∧ 0 ≤ what ∧ what ≤ 1) → (-1) = -1 ∧ mW M M38  -- p7.hn
                    intro h; omega
                  · show 0 ≤ d ∧ d < 8 → what = 0 → (-1) = 0 ∧ M38 = zset (zset M 103 0 0) 134 d 0  -- p7.h0
                    intro _ h; omega
                  · show 0 ≤ d ∧ d < 8 → what = 1 → ¬ (0 ≤ k ∧ k ≤ 4) → (-1) = -1 ∧ mW M M38  -- p7.h1
                    intro _ _ h; omega
                  · show 0 ≤ d ∧ d < 8 → what = 1 → 0 ≤ k ∧ k ≤ 4 → ∃ N, mW M N ∧ mFok N ∧ (¬ ((0 ≤ f ∧ f < N 103 30) ∧ 0 ≤ told) → (-1) = -1 ∧ M38 = N) ∧ ((0 ≤ f ∧ f < N 103 30) ∧ 0 ≤ told → ∃ n, gPer (zg (N 103 1) (N 103 2) (N 115)) f (N 103 5) (gS0 (N 116 f)) n ∧ (¬ (told / 1000 ≤ n ∧ told % 1000 ≤ n) → (-1) = -1 ∧ M38 = N) ∧ (told / 1000 ≤ n ∧ told % 1000 ≤ n → (-1) = 0 ∧ ∃ g x y, gGb (zg (N 103 1) (N 103 2) (N 115)) f g ∧ x = gX (zg (N 103 1) (N 103 2) (N 115)) f (N 103 5) (gS0 (N 116 f)) (told / 1000) - gX (zg (N 103 1) (N 103 2) (N 115)) f (N 103 5) (gS0 (N 116 f)) (told % 1000) ∧ y = gY (zg (N 103 1) (N 103 2) (N 115)) f (N 103 5) (gS0 (N 116 f)) (told / 1000) - gY (zg (N 103 1) (N 103 2) (N 115)) f (N 103 5) (gS0 (N 116 f)) (told % 1000) ∧ M38 = zset (zset (zset (zset (zset (zset N 135 d k) 136 d f) 137 d (max x (-x))) 138 d (max y (-y))) 139 d g) 134 d 1))  -- p7.h2
                    intro _ _ _; exact ⟨M38, w3, F3, fun h => absurd ⟨ha3, b6⟩ h, fun _ => ⟨_, pc5_hB.1, fun _ => ⟨rfl, rfl⟩, fun h => by omega⟩⟩
            · -- b6.2
              refine hP _ _ ⟨?_, ?_, ?_, ?_⟩
              · show ¬ ((0 ≤ d ∧ d < 8) ∧ 0 ≤ what ∧ what ≤ 1) → (-1) = -1 ∧ mW M M31  -- p8.hn
                intro h; omega
              · show 0 ≤ d ∧ d < 8 → what = 0 → (-1) = 0 ∧ M31 = zset (zset M 103 0 0) 134 d 0  -- p8.h0
                intro _ h; omega
              · show 0 ≤ d ∧ d < 8 → what = 1 → ¬ (0 ≤ k ∧ k ≤ 4) → (-1) = -1 ∧ mW M M31  -- p8.h1
                intro _ _ h; omega
              · show 0 ≤ d ∧ d < 8 → what = 1 → 0 ≤ k ∧ k ≤ 4 → ∃ N, mW M N ∧ mFok N ∧ (¬ ((0 ≤ f ∧ f < N 103 30) ∧ 0 ≤ told) → (-1) = -1 ∧ M31 = N) ∧ ((0 ≤ f ∧ f < N 103 30) ∧ 0 ≤ told → ∃ n, gPer (zg (N 103 1) (N 103 2) (N 115)) f (N 103 5) (gS0 (N 116 f)) n ∧ (¬ (told / 1000 ≤ n ∧ told % 1000 ≤ n) → (-1) = -1 ∧ M31 = N) ∧ (told / 1000 ≤ n ∧ told % 1000 ≤ n → (-1) = 0 ∧ ∃ g x y, gGb (zg (N 103 1) (N 103 2) (N 115)) f g ∧ x = gX (zg (N 103 1) (N 103 2) (N 115)) f (N 103 5) (gS0 (N 116 f)) (told / 1000) - gX (zg (N 103 1) (N 103 2) (N 115)) f (N 103 5) (gS0 (N 116 f)) (told % 1000) ∧ y = gY (zg (N 103 1) (N 103 2) (N 115)) f (N 103 5) (gS0 (N 116 f)) (told / 1000) - gY (zg (N 103 1) (N 103 2) (N 115)) f (N 103 5) (gS0 (N 116 f)) (told % 1000) ∧ M31 = zset (zset (zset (zset (zset (zset N 135 d k) 136 d f) 137 d (max x (-x))) 138 d (max y (-y))) 139 d g) 134 d 1))  -- p8.h2
                intro _ _ _; exact ⟨M31, w2, pc4_hF, fun _ => ⟨rfl, rfl⟩, fun h => absurd h.2 b6⟩
    · -- b2.2
      refine hP _ _ ⟨?_, ?_, ?_, ?_⟩
      · show ¬ ((0 ≤ d ∧ d < 8) ∧ 0 ≤ what ∧ what ≤ 1) → (-1) = -1 ∧ mW M M1  -- p9.hn
        intro _; exact ⟨rfl, w1⟩
      · show 0 ≤ d ∧ d < 8 → what = 0 → (-1) = 0 ∧ M1 = zset (zset M 103 0 0) 134 d 0  -- p9.h0
        intro _ h; exact absurd (by omega) (z2.z.1 b2)
      · show 0 ≤ d ∧ d < 8 → what = 1 → ¬ (0 ≤ k ∧ k ≤ 4) → (-1) = -1 ∧ mW M M1  -- p9.h1
        intro _ h; exact absurd (by omega) (z2.z.1 b2)
      · show 0 ≤ d ∧ d < 8 → what = 1 → 0 ≤ k ∧ k ≤ 4 → ∃ N, mW M N ∧ mFok N ∧ (¬ ((0 ≤ f ∧ f < N 103 30) ∧ 0 ≤ told) → (-1) = -1 ∧ M1 = N) ∧ ((0 ≤ f ∧ f < N 103 30) ∧ 0 ≤ told → ∃ n, gPer (zg (N 103 1) (N 103 2) (N 115)) f (N 103 5) (gS0 (N 116 f)) n ∧ (¬ (told / 1000 ≤ n ∧ told % 1000 ≤ n) → (-1) = -1 ∧ M1 = N) ∧ (told / 1000 ≤ n ∧ told % 1000 ≤ n → (-1) = 0 ∧ ∃ g x y, gGb (zg (N 103 1) (N 103 2) (N 115)) f g ∧ x = gX (zg (N 103 1) (N 103 2) (N 115)) f (N 103 5) (gS0 (N 116 f)) (told / 1000) - gX (zg (N 103 1) (N 103 2) (N 115)) f (N 103 5) (gS0 (N 116 f)) (told % 1000) ∧ y = gY (zg (N 103 1) (N 103 2) (N 115)) f (N 103 5) (gS0 (N 116 f)) (told / 1000) - gY (zg (N 103 1) (N 103 2) (N 115)) f (N 103 5) (gS0 (N 116 f)) (told % 1000) ∧ M1 = zset (zset (zset (zset (zset (zset N 135 d k) 136 d f) 137 d (max x (-x))) 138 d (max y (-y))) 139 d g) 134 d 1))  -- p9.h2
        intro _ h; exact absurd (by omega) (z2.z.1 b2)

