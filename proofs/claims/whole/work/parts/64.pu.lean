abbrev pr_X12_dot (a : Int) (M : zM) : Prop := (mDim M)
abbrev po_X12_dot (a : Int) (M : zM) (r : Int) (M' : zM) : Prop := (M' = zset M 103 0 0) ∧ (r = if gD (M 103 1) (M 103 2) a then M 104 a else -1)
set_option maxHeartbeats 1000000 in
theorem ok_X12_dot : zSnd zS 145 0 0 yX12_dot cX12_dot 2 (some .int) 1 [2, 0] (F_X12_dot pr_X12_dot po_X12_dot) := by
  refine (sn_X12_dot ok_X12_isDot).mono ?_
  rintro xs P M hz hR ⟨a, rfl, hd, hP⟩
  refine ⟨_, rfl, ?_⟩
  have z_a := zall_h (zall_t hz) (by decide)
  change vc_X12_dot pr_X12_isDot po_X12_isDot a P M
  unfold vc_X12_dot
  intro M1 e_M1
  have q1 : M1 103 1 = M 103 1 := by rw [e_M1, zset_n _ (by omega)]
  have q2 : M1 103 2 = M 103 2 := by rw [e_M1, zset_n _ (by omega)]
  have gc1 : pr_X12_isDot a M1 := trivial
  refine ⟨gc1, ?_⟩
  rintro r4 M5 ⟨q_rfl, e_r4⟩ z_r4 z_M5
  have q_rfl := q_rfl.symm
  subst q_rfl
  have zr := zif01 e_r4
  have dd : mDot M1 a ↔ gD (M 103 1) (M 103 2) a := by
    show gD (M1 103 1) (M1 103 2) a ↔ _
    rw [q1, q2]
  refine ⟨fun b1 => ?_, fun b1 => ?_⟩
  · -- b1.1
    have n : ¬ gD (M 103 1) (M 103 2) a := fun k => zr.z.1 b1 (dd.2 k)
    refine hP _ _ ⟨?_, ?_⟩
    · show M1 = zset M 103 0 0  -- p1.e
      first | with_reducible assumption | omega | exact trivial | with_reducible rfl
    · show (-1) = if gD (M 103 1) (M 103 2) a then M 104 a else -1  -- p1.hr
      rw [if_neg n]
  · -- b1.2
    have y : gD (M 103 1) (M 103 2) a := dd.1 (zr.ne.1 b1)
    have hd' : mDim M := hd
    have o1 : ((0 : Int) ≤ a ∧ a < 192) := by
      first | with_reducible assumption | omega | exact trivial | with_reducible rfl  -- o1
    refine ⟨o1, ?_⟩
    refine hP _ _ ⟨?_, ?_⟩
    · show M1 = zset M 103 0 0  -- p2.e
      first | with_reducible assumption | omega | exact trivial | with_reducible rfl
    · show (M1 104 a) = if gD (M 103 1) (M 103 2) a then M 104 a else -1  -- p2.hr
      rw [if_pos y, e_M1, zset_n _ (by omega)]

abbrev pr_X11_dot (a : Int) (M : zM) : Prop := (bDim M)
abbrev po_X11_dot (a : Int) (M : zM) (r : Int) (M' : zM) : Prop := M' = M ∧ r = if gD (M 1 0) (M 1 1) a then M 2 a else -1
set_option maxHeartbeats 1000000 in
theorem ok_X11_dot : zSnd zS 145 0 0 yX11_dot cX11_dot 2 (some .int) 1 [2, 0] (F_X11_dot pr_X11_dot po_X11_dot) := by
  refine (sn_X11_dot ok_X0_isDot).mono ?_
  rintro xs P M hz hR ⟨a, rfl, hd, hP⟩
  refine ⟨_, rfl, ?_⟩
  have z_a := zall_h (zall_t hz) (by decide)
  change vc_X11_dot pr_X0_isDot po_X0_isDot a P M
  unfold vc_X11_dot
  have gc1 : pr_X0_isDot a M := by
    show bDim M
    first | with_reducible assumption | omega | exact trivial | with_reducible rfl  -- c1.hd
  refine ⟨gc1, ?_⟩
  rintro r1 M2 ⟨q_rfl, e_r1⟩ z_r1 z_M2
  have q_rfl := q_rfl.symm
  subst q_rfl
  refine ⟨fun b1 => ?_, fun b1 => ?_⟩
  · -- b1.1
    have n : ¬ gD (M 1 0) (M 1 1) a := fun k => by rw [if_pos k] at e_r1; omega
    refine hP _ _ ⟨rfl, ?_⟩
    · rw [if_neg n]  -- p1
  · -- b1.2
    have y : gD (M 1 0) (M 1 1) a := by
      apply Classical.byContradiction
      intro k; rw [if_neg k] at e_r1; omega
    have o1 : ((0 : Int) ≤ a ∧ a < 192) := by
      have hd' : bDim M := hd; omega
    refine ⟨o1, ?_⟩
    refine hP _ _ ⟨rfl, ?_⟩
    · rw [if_pos y]  -- p2

abbrev pr_X12_tone (c : Int) (v : Int) (M : zM) : Prop := True
abbrev po_X12_tone (c : Int) (v : Int) (M : zM) (r : Int) (M' : zM) : Prop := ((0 ≤ c ∧ c ≤ 15) ∧ (0 ≤ v ∧ v ≤ 255) → r = M 105 c ∧ M' = zset (zset M 103 0 0) 105 c v) ∧ (¬ ((0 ≤ c ∧ c ≤ 15) ∧ (0 ≤ v ∧ v ≤ 255)) → r = -1 ∧ M' = zset M 103 0 0)
set_option maxHeartbeats 1000000 in
theorem ok_X12_tone : zSnd zS 145 0 0 yX12_tone cX12_tone 4 (some .int) 1 [2, 0, 0] (F_X12_tone pr_X12_tone po_X12_tone) := by
  refine (sn_X12_tone ok_X12_in).mono ?_
  rintro xs P M hz hR ⟨c, v, rfl, _, hP⟩
  refine ⟨_, _, rfl, ?_⟩
  have z_c := zall_h (zall_t hz) (by decide)
  have z_v := zall_h (zall_t (zall_t hz)) (by decide)
  change vc_X12_tone pr_X12_in po_X12_in c v P M
  unfold vc_X12_tone
  intro M1 e_M1
  have gc1 : pr_X12_in c 0 15 M1 := trivial
  refine ⟨gc1, ?_⟩
  rintro r4 M5 ⟨q_rfl, e_r4⟩ z_r4 z_M5
  have q_rfl := q_rfl.symm
  subst q_rfl
  refine ⟨fun b1 => ?_, fun b1 => ?_⟩
  · -- b1.1
    have n : ¬ (0 ≤ c ∧ c ≤ 15) := fun k => by rw [if_pos k] at e_r4; omega
    refine hP _ _ ⟨?_, ?_⟩
    · show (0 ≤ c ∧ c ≤ 15) ∧ (0 ≤ v ∧ v ≤ 255) → (-1) = M 105 c ∧ M1 = zset (zset M 103 0 0) 105 c v  -- p1.hy
      intro h; exact absurd h.1 n
    · show ¬ ((0 ≤ c ∧ c ≤ 15) ∧ (0 ≤ v ∧ v ≤ 255)) → (-1) = -1 ∧ M1 = zset M 103 0 0  -- p1.hn
      intro h; exact ⟨rfl, e_M1⟩
  · -- b1.2
    have y : 0 ≤ c ∧ c ≤ 15 := by
      apply Classical.byContradiction
      intro k; rw [if_neg k] at e_r4; omega
    have gc2 : pr_X12_in v 0 255 M1 := trivial
    refine ⟨gc2, ?_⟩
    rintro r11 M12 ⟨q_rfl, e_r11⟩ z_r11 z_M12
    have q_rfl := q_rfl.symm
    subst q_rfl
    refine ⟨fun b2 => ?_, fun b2 => ?_⟩
    · -- b2.1
      have y2 : 0 ≤ v ∧ v ≤ 255 := by
        apply Classical.byContradiction
        intro k; rw [if_neg k] at e_r11; omega
      have o1 : ((0 : Int) ≤ c ∧ c < 16) := by
        first | with_reducible assumption | omega | exact trivial | with_reducible rfl  -- o1
      refine ⟨o1, ?_⟩
      intro M19 e_M19
      refine hP _ _ ⟨?_, ?_⟩
      · show (0 ≤ c ∧ c ≤ 15) ∧ (0 ≤ v ∧ v ≤ 255) → (M1 105 c) = M 105 c ∧ M19 = zset (zset M 103 0 0) 105 c v  -- p2.hy
        intro h; exact ⟨by rw [e_M1, zset_n _ (by omega)], by rw [e_M19, e_M1]⟩
      · show ¬ ((0 ≤ c ∧ c ≤ 15) ∧ (0 ≤ v ∧ v ≤ 255)) → (M1 105 c) = -1 ∧ M19 = zset M 103 0 0  -- p2.hn
        intro h; exact absurd ⟨y, y2⟩ h
    · -- b2.2
      have n2 : ¬ (0 ≤ v ∧ v ≤ 255) := fun k => by rw [if_pos k] at e_r11; omega
      refine hP _ _ ⟨?_, ?_⟩
      · show (0 ≤ c ∧ c ≤ 15) ∧ (0 ≤ v ∧ v ≤ 255) → (-1) = M 105 c ∧ M1 = zset (zset M 103 0 0) 105 c v  -- p3.hy
        intro h; exact absurd h.2 n2
      · show ¬ ((0 ≤ c ∧ c ≤ 15) ∧ (0 ≤ v ∧ v ≤ 255)) → (-1) = -1 ∧ M1 = zset M 103 0 0  -- p3.hn
        intro h; exact ⟨rfl, e_M1⟩

abbrev pr_X11_tone (c : Int) (v : Int) (M : zM) : Prop := True
abbrev po_X11_tone (c : Int) (v : Int) (M : zM) (r : Int) (M' : zM) : Prop := ((0 ≤ c ∧ c ≤ 15) ∧ (0 ≤ v ∧ v ≤ 255) → r = M 3 c ∧ M' = zset M 3 c v) ∧ (¬ ((0 ≤ c ∧ c ≤ 15) ∧ (0 ≤ v ∧ v ≤ 255)) → r = -1 ∧ M' = M)
set_option maxHeartbeats 1000000 in
theorem ok_X11_tone : zSnd zS 145 0 0 yX11_tone cX11_tone 4 (some .int) 1 [2, 0, 0] (F_X11_tone pr_X11_tone po_X11_tone) := by
  refine (sn_X11_tone ok_X11_isColour).mono ?_
  rintro xs P M hz hR ⟨c, v, rfl, _, hP⟩
  refine ⟨_, _, rfl, ?_⟩
  have z_c := zall_h (zall_t hz) (by decide)
  have z_v := zall_h (zall_t (zall_t hz)) (by decide)
  change vc_X11_tone pr_X11_isColour po_X11_isColour c v P M
  unfold vc_X11_tone
  have gc1 : pr_X11_isColour c M := trivial
  refine ⟨gc1, ?_⟩
  rintro r1 M2 ⟨q_rfl, e_r1⟩ z_r1 z_M2
  have q_rfl := q_rfl.symm
  subst q_rfl
  refine ⟨fun b1 => ?_, fun b1 => ?_⟩
  · -- b1.1
    have n : ¬ (0 ≤ c ∧ c < 16) := fun k => by rw [if_pos k] at e_r1; omega
    refine hP _ _ ⟨?_, ?_⟩
    · show (0 ≤ c ∧ c ≤ 15) ∧ (0 ≤ v ∧ v ≤ 255) → (-1) = M 3 c ∧ M = zset M 3 c v  -- p1.hy
      intro h; omega
    · show ¬ ((0 ≤ c ∧ c ≤ 15) ∧ (0 ≤ v ∧ v ≤ 255)) → (-1) = -1 ∧ M = M  -- p1.hn
      intro h; exact ⟨rfl, rfl⟩
  · -- b1.2
    have y : 0 ≤ c ∧ c < 16 := by
      apply Classical.byContradiction
      intro k; rw [if_neg k] at e_r1; omega
    refine ⟨fun b2 => ?_, fun b2 => ?_⟩
    · -- b2.1
      refine hP _ _ ⟨?_, ?_⟩
      · show (0 ≤ c ∧ c ≤ 15) ∧ (0 ≤ v ∧ v ≤ 255) → (-1) = M 3 c ∧ M = zset M 3 c v  -- p2.hy
        intro h; omega
      · show ¬ ((0 ≤ c ∧ c ≤ 15) ∧ (0 ≤ v ∧ v ≤ 255)) → (-1) = -1 ∧ M = M  -- p2.hn
        intro h; exact ⟨rfl, rfl⟩
    · -- b2.2
      refine ⟨fun b3 => ?_, fun b3 => ?_⟩
      · -- b3.1
        have o1 : ((0 : Int) ≤ c ∧ c < 16) := by
          first | with_reducible assumption | omega | exact trivial | with_reducible rfl  -- o1
        refine ⟨o1, ?_⟩
        intro M11 e_M11
        refine hP _ _ ⟨?_, ?_⟩
        · show (0 ≤ c ∧ c ≤ 15) ∧ (0 ≤ v ∧ v ≤ 255) → (M 3 c) = M 3 c ∧ M11 = zset M 3 c v  -- p3.hy
          intro h; exact ⟨rfl, e_M11⟩
        · show ¬ ((0 ≤ c ∧ c ≤ 15) ∧ (0 ≤ v ∧ v ≤ 255)) → (M 3 c) = -1 ∧ M11 = M  -- p3.hn
          intro h; omega
      · -- b3.2
        refine hP _ _ ⟨?_, ?_⟩
        · show (0 ≤ c ∧ c ≤ 15) ∧ (0 ≤ v ∧ v ≤ 255) → (-1) = M 3 c ∧ M = zset M 3 c v  -- p4.hy
          intro h; omega
        · show ¬ ((0 ≤ c ∧ c ≤ 15) ∧ (0 ≤ v ∧ v ≤ 255)) → (-1) = -1 ∧ M = M  -- p4.hn
          intro h; exact ⟨rfl, rfl⟩

abbrev pr_X12_touch (t : Int) (M : zM) : Prop := True
abbrev po_X12_touch (t : Int) (M : zM) (r : Int) (M' : zM) : Prop := (t = 0 ∨ t = 1 → r = M 103 5 ∧ M' = zset (zset M 103 0 0) 103 5 t) ∧ (¬ (t = 0 ∨ t = 1) → r = -1 ∧ M' = zset M 103 0 0)
set_option maxHeartbeats 1000000 in
theorem ok_X12_touch : zSnd zS 145 0 0 yX12_touch cX12_touch 3 (some .int) 1 [2, 0] (F_X12_touch pr_X12_touch po_X12_touch) := by
  refine (sn_X12_touch ok_X12_in).mono ?_
  rintro xs P M hz hR ⟨t, rfl, _, hP⟩
  refine ⟨_, rfl, ?_⟩
  have z_t := zall_h (zall_t hz) (by decide)
  change vc_X12_touch pr_X12_in po_X12_in t P M
  unfold vc_X12_touch
  intro M1 e_M1
  have gc1 : pr_X12_in t 0 1 M1 := trivial
  refine ⟨gc1, ?_⟩
  rintro r4 M5 ⟨q_rfl, e_r4⟩ z_r4 z_M5
  have q_rfl := q_rfl.symm
  subst q_rfl
  refine ⟨fun b1 => ?_, fun b1 => ?_⟩
  · -- b1.1
    have y : 0 ≤ t ∧ t ≤ 1 := by
      apply Classical.byContradiction
      intro k; rw [if_neg k] at e_r4; omega
    intro M11 e_M11
    refine hP _ _ ⟨?_, ?_⟩
    · show t = 0 ∨ t = 1 → (M1 103 5) = M 103 5 ∧ M11 = zset (zset M 103 0 0) 103 5 t  -- p1.hy
      intro h; exact ⟨by rw [e_M1, zset_n _ (by omega)], by rw [e_M11, e_M1]⟩
    · show ¬ (t = 0 ∨ t = 1) → (M1 103 5) = -1 ∧ M11 = zset M 103 0 0  -- p1.hn
      intro h; omega
  · -- b1.2
    have n : ¬ (0 ≤ t ∧ t ≤ 1) := fun k => by rw [if_pos k] at e_r4; omega
    refine hP _ _ ⟨?_, ?_⟩
    · show t = 0 ∨ t = 1 → (-1) = M 103 5 ∧ M1 = zset (zset M 103 0 0) 103 5 t  -- p2.hy
      intro h; omega
    · show ¬ (t = 0 ∨ t = 1) → (-1) = -1 ∧ M1 = zset M 103 0 0  -- p2.hn
      intro h; exact ⟨rfl, e_M1⟩

abbrev pr_X11_touch (t : Int) (M : zM) : Prop := (0 ≤ M 1 3 ∧ M 1 3 < 1000000000)
abbrev po_X11_touch (t : Int) (M : zM) (r : Int) (M' : zM) : Prop := (t = 0 ∨ t = 1 → r = M 1 2 ∧ M' 1 2 = t ∧ M' 1 3 = M 1 3 + 1 ∧ ∀ c i, ¬ (c = 1 ∧ (i = 2 ∨ i = 3)) → M' c i = M c i) ∧ (¬ (t = 0 ∨ t = 1) → r = -1 ∧ M' = M)
set_option maxHeartbeats 1000000 in
theorem ok_X11_touch : zSnd zS 145 0 0 yX11_touch cX11_touch 3 (some .int) 0 [2, 0] (F_X11_touch pr_X11_touch po_X11_touch) := by
  refine (sn_X11_touch).mono ?_
  rintro xs P M hz hR ⟨t, rfl, hv, hP⟩
  refine ⟨_, rfl, ?_⟩
  have z_t := zall_h (zall_t hz) (by decide)
  change vc_X11_touch t P M
  unfold vc_X11_touch
  intro K11 h_K11
  have k_K11 : (t = 0 ∨ t = 1) → K11  := by
    intro  k1
    refine h_K11 ?_
    intro M1 e_M1
    have q : M1 1 3 = M 1 3 := by rw [e_M1, zset_n _ (by omega)]
    have o1 : zin ((M1 1 3) + 1) := by
      rw [q]; omega
    refine ⟨o1, ?_⟩
    intro M5 e_M5
    refine hP _ _ ⟨?_, ?_⟩
    · show t = 0 ∨ t = 1 → (M 1 2) = M 1 2 ∧ M5 1 2 = t ∧ M5 1 3 = M 1 3 + 1 ∧ ∀ c i, ¬ (c = 1 ∧ (i = 2 ∨ i = 3)) → M5 c i = M c i  -- p1.hy
      intro _
      refine ⟨rfl, ?_, ?_, fun c i k => ?_⟩
      · rw [e_M5, zset_n _ (by omega), e_M1, zset_s]
      · rw [e_M5, zset_s, q]
      · rw [e_M5, zset_n _ (by omega), e_M1, zset_n _ (by omega)]
    · show ¬ (t = 0 ∨ t = 1) → (M 1 2) = -1 ∧ M5 = M  -- p1.hn
      intro h; omega
  refine ⟨fun b1 => ?_, fun b1 => ?_⟩
  · -- b1.1
    refine k_K11 ?_
    · show t = 0 ∨ t = 1  -- K11.1.k1
      first | with_reducible assumption | omega | exact trivial | with_reducible rfl
  · -- b1.2
    refine ⟨fun b2 => ?_, fun b2 => ?_⟩
    · -- b2.1
      refine k_K11 ?_
      · show t = 0 ∨ t = 1  -- K11.2.k1
        first | with_reducible assumption | omega | exact trivial | with_reducible rfl
    · -- b2.2
      refine hP _ _ ⟨?_, ?_⟩
      · show t = 0 ∨ t = 1 → (-1) = M 1 2 ∧ M 1 2 = t ∧ M 1 3 = M 1 3 + 1 ∧ ∀ c i, ¬ (c = 1 ∧ (i = 2 ∨ i = 3)) → M c i = M c i  -- p2.hy
        intro h; omega
      · show ¬ (t = 0 ∨ t = 1) → (-1) = -1 ∧ M = M  -- p2.hn
        intro h; exact ⟨rfl, rfl⟩

