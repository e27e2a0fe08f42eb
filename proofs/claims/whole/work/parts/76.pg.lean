abbrev pr_X11_row (d : Int) (s : Int) (n : Int) (M : zM) : Prop := (bI M)
abbrev po_X11_row (d : Int) (s : Int) (n : Int) (M : zM) (r : Int) (M' : zM) : Prop := (¬ ((0 ≤ d ∧ d < 8) ∧ (0 ≤ s ∧ s ≤ 2) ∧ n ≤ 120) → r = -1 ∧ M' = M) ∧ ((0 ≤ d ∧ d < 8) ∧ (0 ≤ s ∧ s ≤ 2) ∧ n ≤ 120 → n < 0 → r = -14 ∧ M' = M) ∧ ((0 ≤ d ∧ d < 8) ∧ (0 ≤ s ∧ s ≤ 2) ∧ n ≤ 120 → 0 ≤ n → r = 0 ∧ po_X10_holdRow (26 + 2 * d) s n M M')
set_option maxHeartbeats 1000000 in
theorem ok_X11_row : zSnd zS 145 0 0 yX11_row cX11_row 5 (some .int) 2 [2, 0, 0, 0] (F_X11_row pr_X11_row po_X11_row) := by
  refine (sn_X11_row ok_X11_shelfAt ok_X10_holdRow).mono ?_
  rintro xs P M hz hR ⟨d, s, n, rfl, hI, hP⟩
  refine ⟨_, _, _, rfl, ?_⟩
  have z_d := zall_h (zall_t hz) (by decide)
  have z_s := zall_h (zall_t (zall_t hz)) (by decide)
  have z_n := zall_h (zall_t (zall_t (zall_t hz))) (by decide)
  change vc_X11_row pr_X11_shelfAt po_X11_shelfAt pr_X10_holdRow po_X10_holdRow d s n P M
  unfold vc_X11_row
  have gc1 : pr_X11_shelfAt d M := trivial
  refine ⟨gc1, ?_⟩
  rintro r1 M2 ⟨q_rfl, e_r1⟩ z_r1 z_M2
  have q_rfl := q_rfl.symm
  subst q_rfl
  refine ⟨fun b1 => ?_, fun b1 => ?_⟩
  · -- b1.1
    refine hP _ _ ⟨?_, ?_, ?_⟩
    · show ¬ ((0 ≤ d ∧ d < 8) ∧ (0 ≤ s ∧ s ≤ 2) ∧ n ≤ 120) → (-1) = -1 ∧ M = M  -- p1.hn
      intro _; exact ⟨rfl, rfl⟩
    · show (0 ≤ d ∧ d < 8) ∧ (0 ≤ s ∧ s ≤ 2) ∧ n ≤ 120 → n < 0 → (-1) = -14 ∧ M = M  -- p1.hb
      intro k; rw [if_pos k.1] at e_r1; omega
    · show (0 ≤ d ∧ d < 8) ∧ (0 ≤ s ∧ s ≤ 2) ∧ n ≤ 120 → 0 ≤ n → (-1) = 0 ∧ po_X10_holdRow (26 + 2 * d) s n M M  -- p1.hy
      intro k; rw [if_pos k.1] at e_r1; omega
  · -- b1.2
    have hd : 0 ≤ d ∧ d < 8 := by
      apply Classical.byContradiction
      intro k; rw [if_neg k] at e_r1; omega
    have e1 : r1 = 26 + 2 * d := by rw [if_pos hd] at e_r1; exact e_r1
    have sh : zsh r1 := ⟨d, hd.1, hd.2, e1⟩
    refine ⟨fun b2 => ?_, fun b2 => ?_⟩
    · -- b2.1
      refine hP _ _ ⟨?_, ?_, ?_⟩
      · show ¬ ((0 ≤ d ∧ d < 8) ∧ (0 ≤ s ∧ s ≤ 2) ∧ n ≤ 120) → (-1) = -1 ∧ M = M  -- p2.hn
        intro _; exact ⟨rfl, rfl⟩
      · show (0 ≤ d ∧ d < 8) ∧ (0 ≤ s ∧ s ≤ 2) ∧ n ≤ 120 → n < 0 → (-1) = -14 ∧ M = M  -- p2.hb
        intro k; omega
      · show (0 ≤ d ∧ d < 8) ∧ (0 ≤ s ∧ s ≤ 2) ∧ n ≤ 120 → 0 ≤ n → (-1) = 0 ∧ po_X10_holdRow (26 + 2 * d) s n M M  -- p2.hy
        intro k; omega
    · -- b2.2
      refine ⟨fun b3 => ?_, fun b3 => ?_⟩
      · -- b3.1
        refine hP _ _ ⟨?_, ?_, ?_⟩
        · show ¬ ((0 ≤ d ∧ d < 8) ∧ (0 ≤ s ∧ s ≤ 2) ∧ n ≤ 120) → (-1) = -1 ∧ M = M  -- p3.hn
          intro _; exact ⟨rfl, rfl⟩
        · show (0 ≤ d ∧ d < 8) ∧ (0 ≤ s ∧ s ≤ 2) ∧ n ≤ 120 → n < 0 → (-1) = -14 ∧ M = M  -- p3.hb
          intro k; omega
        · show (0 ≤ d ∧ d < 8) ∧ (0 ≤ s ∧ s ≤ 2) ∧ n ≤ 120 → 0 ≤ n → (-1) = 0 ∧ po_X10_holdRow (26 + 2 * d) s n M M  -- p3.hy
          intro k; omega
      · -- b3.2
        refine ⟨fun b4 => ?_, fun b4 => ?_⟩
        · -- b4.1
          refine ⟨fun b5 => ?_, fun b5 => ?_⟩
          · -- b5.1
            have o1 : zsh r1 := by
              exact sh
            refine ⟨o1, ?_⟩
            have gc2 : pr_X10_holdRow r1 s n M := by
              show zsh r1
              exact sh
            refine ⟨gc2, ?_⟩
            rintro M12 ⟨pc2_hi, pc2_h0, pc2_h1, pc2_h2, pc2_hf⟩ z_M12
            refine hP _ _ ⟨?_, ?_, ?_⟩
            · show ¬ ((0 ≤ d ∧ d < 8) ∧ (0 ≤ s ∧ s ≤ 2) ∧ n ≤ 120) → 0 = -1 ∧ M12 = M  -- p4.hn
              intro k; omega
            · show (0 ≤ d ∧ d < 8) ∧ (0 ≤ s ∧ s ≤ 2) ∧ n ≤ 120 → n < 0 → 0 = -14 ∧ M12 = M  -- p4.hb
              intro _ k; omega
            · show (0 ≤ d ∧ d < 8) ∧ (0 ≤ s ∧ s ≤ 2) ∧ n ≤ 120 → 0 ≤ n → 0 = 0 ∧ po_X10_holdRow (26 + 2 * d) s n M M12  -- p4.hy
              intro _ _; rw [← e1]; exact ⟨rfl, pc2_hi, pc2_h0, pc2_h1, pc2_h2, pc2_hf⟩
          · -- b5.2
            refine hP _ _ ⟨?_, ?_, ?_⟩
            · show ¬ ((0 ≤ d ∧ d < 8) ∧ (0 ≤ s ∧ s ≤ 2) ∧ n ≤ 120) → (-14) = -1 ∧ M = M  -- p5.hn
              intro k; omega
            · show (0 ≤ d ∧ d < 8) ∧ (0 ≤ s ∧ s ≤ 2) ∧ n ≤ 120 → n < 0 → (-14) = -14 ∧ M = M  -- p5.hb
              intro _ _; exact ⟨rfl, rfl⟩
            · show (0 ≤ d ∧ d < 8) ∧ (0 ≤ s ∧ s ≤ 2) ∧ n ≤ 120 → 0 ≤ n → (-14) = 0 ∧ po_X10_holdRow (26 + 2 * d) s n M M  -- p5.hy
              intro _ k; omega
        · -- b4.2
          refine hP _ _ ⟨?_, ?_, ?_⟩
          · show ¬ ((0 ≤ d ∧ d < 8) ∧ (0 ≤ s ∧ s ≤ 2) ∧ n ≤ 120) → (-1) = -1 ∧ M = M  -- p6.hn
            intro _; exact ⟨rfl, rfl⟩
          · show (0 ≤ d ∧ d < 8) ∧ (0 ≤ s ∧ s ≤ 2) ∧ n ≤ 120 → n < 0 → (-1) = -14 ∧ M = M  -- p6.hb
            intro k; omega
          · show (0 ≤ d ∧ d < 8) ∧ (0 ≤ s ∧ s ≤ 2) ∧ n ≤ 120 → 0 ≤ n → (-1) = 0 ∧ po_X10_holdRow (26 + 2 * d) s n M M  -- p6.hy
            intro k; omega

def qRr (d h : Int) : Int := if 0 ≤ d ∧ d < 8 then (if h = 0 then -11 else if h = 2 then 0 else -12) else -1
abbrev pr_X11_put (d : Int) (i : Int) (v : Int) (M : zM) : Prop := (bI M)
abbrev po_X11_put (d : Int) (i : Int) (v : Int) (M : zM) (r : Int) (M' : zM) : Prop := (¬ ((0 ≤ d ∧ d < 8) ∧ M (26 + 2 * d) 0 = 2) → r = qRr d (M (26 + 2 * d) 0) ∧ M' = M) ∧ ((0 ≤ d ∧ d < 8) ∧ M (26 + 2 * d) 0 = 2 → ¬ (0 ≤ i ∧ i < M (26 + 2 * d) 2) → r = -13 ∧ M' = M) ∧ ((0 ≤ d ∧ d < 8) ∧ M (26 + 2 * d) 0 = 2 → 0 ≤ i ∧ i < M (26 + 2 * d) 2 → r = 0 ∧ M' = zset M (26 + 2 * d + 1) i (if M (26 + 2 * d) 1 = 0 then Int.bmod v 256 else if M (26 + 2 * d) 1 = 1 then Int.bmod v 65536 else v))
set_option maxHeartbeats 1000000 in
theorem ok_X11_put : zSnd zS 145 0 0 yX11_put cX11_put 5 (some .int) 1 [2, 0, 0, 0] (F_X11_put pr_X11_put po_X11_put) := by
  refine (sn_X11_put ok_X11_shelfAt ok_X10_set).mono ?_
  rintro xs P M hz hR ⟨d, i, v, rfl, hI, hP⟩
  refine ⟨_, _, _, rfl, ?_⟩
  have z_d := zall_h (zall_t hz) (by decide)
  have z_i := zall_h (zall_t (zall_t hz)) (by decide)
  have z_v := zall_h (zall_t (zall_t (zall_t hz))) (by decide)
  change vc_X11_put pr_X11_shelfAt po_X11_shelfAt pr_X10_set po_X10_set d i v P M
  unfold vc_X11_put
  have gc1 : pr_X11_shelfAt d M := trivial
  refine ⟨gc1, ?_⟩
  rintro r1 M2 ⟨q_rfl, e_r1⟩ z_r1 z_M2
  have q_rfl := q_rfl.symm
  subst q_rfl
  refine ⟨fun b1 => ?_, fun b1 => ?_⟩
  · -- b1.1
    have hd : 0 ≤ d ∧ d < 8 := by
      apply Classical.byContradiction
      intro k; rw [if_neg k] at e_r1; omega
    have e1 : r1 = 26 + 2 * d := by rw [if_pos hd] at e_r1; exact e_r1
    have sh : zsh r1 := ⟨d, hd.1, hd.2, e1⟩
    have S := hI.s d hd.1 hd.2
    subst e1
    have o1 : zsh (26 + 2 * d) := by
      exact sh
    refine ⟨o1, ?_⟩
    refine ⟨fun b2 => ?_, fun b2 => ?_⟩
    · -- b2.1
      refine ⟨fun b3 => ?_, fun b3 => ?_⟩
      · -- b3.1
        refine ⟨fun b4 => ?_, fun b4 => ?_⟩
        · -- b4.1
          refine hP _ _ ⟨?_, ?_, ?_⟩
          · show ¬ ((0 ≤ d ∧ d < 8) ∧ M (26 + 2 * d) 0 = 2) → (-13) = qRr d (M (26 + 2 * d) 0) ∧ M = M  -- p1.hn
            intro k; exact absurd ⟨hd, b3⟩ k
          · show (0 ≤ d ∧ d < 8) ∧ M (26 + 2 * d) 0 = 2 → ¬ (0 ≤ i ∧ i < M (26 + 2 * d) 2) → (-13) = -13 ∧ M = M  -- p1.hb
            intro _ _; exact ⟨rfl, rfl⟩
          · show (0 ≤ d ∧ d < 8) ∧ M (26 + 2 * d) 0 = 2 → 0 ≤ i ∧ i < M (26 + 2 * d) 2 → (-13) = 0 ∧ M = zset M (26 + 2 * d + 1) i (if M (26 + 2 * d) 1 = 0 then Int.bmod v 256 else if M (26 + 2 * d) 1 = 1 then Int.bmod v 65536 else v)  -- p1.hy
            intro _ k; omega
        · -- b4.2
          refine ⟨fun b5 => ?_, fun b5 => ?_⟩
          · -- b5.1
            have gc2 : pr_X10_set (26 + 2 * d) i v M := by
              refine ⟨?_, ?_⟩
              · show zsh (26 + 2 * d)  -- c2.hs
                exact sh
              · show 0 ≤ i ∧ i < 120  -- c2.hi
                omega
            refine ⟨gc2, ?_⟩
            rintro M13 pc2_e z_M13
            refine hP _ _ ⟨?_, ?_, ?_⟩
            · show ¬ ((0 ≤ d ∧ d < 8) ∧ M (26 + 2 * d) 0 = 2) → 0 = qRr d (M (26 + 2 * d) 0) ∧ M13 = M  -- p2.hn
              intro k; exact absurd ⟨hd, b3⟩ k
            · show (0 ≤ d ∧ d < 8) ∧ M (26 + 2 * d) 0 = 2 → ¬ (0 ≤ i ∧ i < M (26 + 2 * d) 2) → 0 = -13 ∧ M13 = M  -- p2.hb
              intro _ k; omega
            · show (0 ≤ d ∧ d < 8) ∧ M (26 + 2 * d) 0 = 2 → 0 ≤ i ∧ i < M (26 + 2 * d) 2 → 0 = 0 ∧ M13 = zset M (26 + 2 * d + 1) i (if M (26 + 2 * d) 1 = 0 then Int.bmod v 256 else if M (26 + 2 * d) 1 = 1 then Int.bmod v 65536 else v)  -- p2.hy
              intro _ _; exact ⟨rfl, pc2_e⟩
          · -- b5.2
            refine hP _ _ ⟨?_, ?_, ?_⟩
            · show ¬ ((0 ≤ d ∧ d < 8) ∧ M (26 + 2 * d) 0 = 2) → (-13) = qRr d (M (26 + 2 * d) 0) ∧ M = M  -- p3.hn
              intro k; exact absurd ⟨hd, b3⟩ k
            · show (0 ≤ d ∧ d < 8) ∧ M (26 + 2 * d) 0 = 2 → ¬ (0 ≤ i ∧ i < M (26 + 2 * d) 2) → (-13) = -13 ∧ M = M  -- p3.hb
              intro _ _; exact ⟨rfl, rfl⟩
            · show (0 ≤ d ∧ d < 8) ∧ M (26 + 2 * d) 0 = 2 → 0 ≤ i ∧ i < M (26 + 2 * d) 2 → (-13) = 0 ∧ M = zset M (26 + 2 * d + 1) i (if M (26 + 2 * d) 1 = 0 then Int.bmod v 256 else if M (26 + 2 * d) 1 = 1 then Int.bmod v 65536 else v)  -- p3.hy
              intro _ k; omega
      · -- b3.2
        refine hP _ _ ⟨?_, ?_, ?_⟩
        · show ¬ ((0 ≤ d ∧ d < 8) ∧ M (26 + 2 * d) 0 = 2) → (-12) = qRr d (M (26 + 2 * d) 0) ∧ M = M  -- p4.hn
          intro _; unfold qRr; rw [if_pos hd, if_neg b2, if_neg b3]; exact ⟨rfl, rfl⟩
        · show (0 ≤ d ∧ d < 8) ∧ M (26 + 2 * d) 0 = 2 → ¬ (0 ≤ i ∧ i < M (26 + 2 * d) 2) → (-12) = -13 ∧ M = M  -- p4.hb
          intro k; exact absurd k.2 b3
        · show (0 ≤ d ∧ d < 8) ∧ M (26 + 2 * d) 0 = 2 → 0 ≤ i ∧ i < M (26 + 2 * d) 2 → (-12) = 0 ∧ M = zset M (26 + 2 * d + 1) i (if M (26 + 2 * d) 1 = 0 then Int.bmod v 256 else if M (26 + 2 * d) 1 = 1 then Int.bmod v 65536 else v)  -- p4.hy
          intro k; exact absurd k.2 b3
    · -- b2.2
      refine hP _ _ ⟨?_, ?_, ?_⟩
      · show ¬ ((0 ≤ d ∧ d < 8) ∧ M (26 + 2 * d) 0 = 2) → (-11) = qRr d (M (26 + 2 * d) 0) ∧ M = M  -- p5.hn
        intro _; unfold qRr; rw [if_pos hd, if_pos b2]; exact ⟨rfl, rfl⟩
      · show (0 ≤ d ∧ d < 8) ∧ M (26 + 2 * d) 0 = 2 → ¬ (0 ≤ i ∧ i < M (26 + 2 * d) 2) → (-11) = -13 ∧ M = M  -- p5.hb
        intro k; omega
      · show (0 ≤ d ∧ d < 8) ∧ M (26 + 2 * d) 0 = 2 → 0 ≤ i ∧ i < M (26 + 2 * d) 2 → (-11) = 0 ∧ M = zset M (26 + 2 * d + 1) i (if M (26 + 2 * d) 1 = 0 then Int.bmod v 256 else if M (26 + 2 * d) 1 = 1 then Int.bmod v 65536 else v)  -- p5.hy
        intro k; omega
  · -- b1.2
    have hd : ¬ (0 ≤ d ∧ d < 8) := fun k => by rw [if_pos k] at e_r1; omega
    refine hP _ _ ⟨?_, ?_, ?_⟩
    · show ¬ ((0 ≤ d ∧ d < 8) ∧ M (26 + 2 * d) 0 = 2) → (-1) = qRr d (M (26 + 2 * d) 0) ∧ M = M  -- p6.hn
      intro _; unfold qRr; rw [if_neg hd]; exact ⟨rfl, rfl⟩
    · show (0 ≤ d ∧ d < 8) ∧ M (26 + 2 * d) 0 = 2 → ¬ (0 ≤ i ∧ i < M (26 + 2 * d) 2) → (-1) = -13 ∧ M = M  -- p6.hb
      intro k; exact absurd k.1 hd
    · show (0 ≤ d ∧ d < 8) ∧ M (26 + 2 * d) 0 = 2 → 0 ≤ i ∧ i < M (26 + 2 * d) 2 → (-1) = 0 ∧ M = zset M (26 + 2 * d + 1) i (if M (26 + 2 * d) 1 = 0 then Int.bmod v 256 else if M (26 + 2 * d) 1 = 1 then Int.bmod v 65536 else v)  -- p6.hy
      intro k; exact absurd k.1 hd

def qCc (d e ha hb sa sb : Int) : Int := if (0 ≤ d ∧ d < 8) ∧ (0 ≤ e ∧ e < 8) then (if ha = 0 ∨ hb = 0 then -11 else if ha = 2 ∧ hb = 2 ∧ sa = sb then -13 else -12) else -1
abbrev pr_X11_copy (d : Int) (i : Int) (e : Int) (j : Int) (n : Int) (M : zM) : Prop := (bI M)
abbrev po_X11_copy (d : Int) (i : Int) (e : Int) (j : Int) (n : Int) (M : zM) (r : Int) (M' : zM) : Prop := (¬ (((0 ≤ d ∧ d < 8) ∧ (0 ≤ e ∧ e < 8)) ∧ (M (26 + 2 * d) 0 = 2 ∧ M (26 + 2 * e) 0 = 2 ∧ M (26 + 2 * d) 1 = M (26 + 2 * e) 1) ∧ 0 ≤ n ∧ (0 ≤ i ∧ i + n ≤ M (26 + 2 * d) 2) ∧ (0 ≤ j ∧ j + n ≤ M (26 + 2 * e) 2)) → r = qCc d e (M (26 + 2 * d) 0) (M (26 + 2 * e) 0) (M (26 + 2 * d) 1) (M (26 + 2 * e) 1) ∧ M' = M) ∧ (((0 ≤ d ∧ d < 8) ∧ (0 ≤ e ∧ e < 8)) ∧ (M (26 + 2 * d) 0 = 2 ∧ M (26 + 2 * e) 0 = 2 ∧ M (26 + 2 * d) 1 = M (26 + 2 * e) 1) ∧ 0 ≤ n ∧ (0 ≤ i ∧ i + n ≤ M (26 + 2 * d) 2) ∧ (0 ≤ j ∧ j + n ≤ M (26 + 2 * e) 2) → r = n ∧ M' = zcpy M (26 + 2 * d + 1) i (26 + 2 * e + 1) j n)
set_option maxHeartbeats 1000000 in
theorem ok_X11_copy : zSnd zS 145 0 0 yX11_copy cX11_copy 8 (some .int) 1 [2, 0, 0, 0, 0, 0] (F_X11_copy pr_X11_copy po_X11_copy) := by
  refine (sn_X11_copy ok_X11_shelfAt ok_X10_hasPlaces).mono ?_
  rintro xs P M hz hR ⟨d, i, e, j, n, rfl, hI, hP⟩
  refine ⟨_, _, _, _, _, rfl, ?_⟩
  have z_d := zall_h (zall_t hz) (by decide)
  have z_i := zall_h (zall_t (zall_t hz)) (by decide)
  have z_e := zall_h (zall_t (zall_t (zall_t hz))) (by decide)
  have z_j := zall_h (zall_t (zall_t (zall_t (zall_t hz)))) (by decide)
  have z_n := zall_h (zall_t (zall_t (zall_t (zall_t (zall_t hz))))) (by decide)
  change vc_X11_copy pr_X11_shelfAt po_X11_shelfAt pr_X10_hasPlaces po_X10_hasPlaces d i e j n P M
  unfold vc_X11_copy
  have gc1 : pr_X11_shelfAt d M := trivial
  refine ⟨gc1, ?_⟩
  rintro r1 M2 ⟨q_rfl, e_r1⟩ z_r1 z_M2
  have q_rfl := q_rfl.symm
  subst q_rfl
  have gc2 : pr_X11_shelfAt e M := trivial
  refine ⟨gc2, ?_⟩
  rintro r7 M8 ⟨q_rfl, e_r7⟩ z_r7 z_M8
  have q_rfl := q_rfl.symm
  subst q_rfl
  refine ⟨fun b1 => ?_, fun b1 => ?_⟩
  · -- b1.1
    refine hP _ _ ⟨?_, ?_⟩
    · show ¬ (((0 ≤ d ∧ d < 8) ∧ (0 ≤ e ∧ e < 8)) ∧ (M (26 + 2 * d) 0 = 2 ∧ M (26 + 2 * e) 0 = 2 ∧ M (26 + 2 * d) 1 = M (26 + 2 * e) 1) ∧ 0 ≤ n ∧ (0 ≤ i ∧ i + n ≤ M (26 + 2 * d) 2) ∧ (0 ≤ j ∧ j + n ≤ M (26 + 2 * e) 2)) → (-1) = qCc d e (M (26 + 2 * d) 0) (M (26 + 2 * e) 0) (M (26 + 2 * d) 1) (M (26 + 2 * e) 1) ∧ M = M  -- p1.hn
      intro _; unfold qCc; rw [if_neg (fun k => by rw [if_pos k.1] at e_r1; omega)]; exact ⟨rfl, rfl⟩
    · show ((0 ≤ d ∧ d < 8) ∧ (0 ≤ e ∧ e < 8)) ∧ (M (26 + 2 * d) 0 = 2 ∧ M (26 + 2 * e) 0 = 2 ∧ M (26 + 2 * d) 1 = M (26 + 2 * e) 1) ∧ 0 ≤ n ∧ (0 ≤ i ∧ i + n ≤ M (26 + 2 * d) 2) ∧ (0 ≤ j ∧ j + n ≤ M (26 + 2 * e) 2) → (-1) = n ∧ M = zcpy M (26 + 2 * d + 1) i (26 + 2 * e + 1) j n  -- p1.hy
      intro k; rw [if_pos k.1.1] at e_r1; omega
  · -- b1.2
    have hd : 0 ≤ d ∧ d < 8 := by
      apply Classical.byContradiction
      intro k; rw [if_neg k] at e_r1; omega
    have e1 : r1 = 26 + 2 * d := by rw [if_pos hd] at e_r1; exact e_r1
    have sh : zsh r1 := ⟨d, hd.1, hd.2, e1⟩
    have S := hI.s d hd.1 hd.2
    refine ⟨fun b2 => ?_, fun b2 => ?_⟩
    · -- b2.1
      have he : 0 ≤ e ∧ e < 8 := by
        apply Classical.byContradiction
        intro k; rw [if_neg k] at e_r7; omega
      have e7 : r7 = 26 + 2 * e := by rw [if_pos he] at e_r7; exact e_r7
      have sh7 : zsh r7 := ⟨e, he.1, he.2, e7⟩
      have S7 := hI.s e he.1 he.2
      subst e1 e7
      have P : (0 ≤ d ∧ d < 8) ∧ (0 ≤ e ∧ e < 8) := ⟨hd, he⟩
      have o1 : zsh (26 + 2 * d) := by
        exact sh
      refine ⟨o1, ?_⟩
      refine ⟨fun b3 => ?_, fun b3 => ?_⟩
      · -- b3.1
        refine hP _ _ ⟨?_, ?_⟩
        · show ¬ (((0 ≤ d ∧ d < 8) ∧ (0 ≤ e ∧ e < 8)) ∧ (M (26 + 2 * d) 0 = 2 ∧ M (26 + 2 * e) 0 = 2 ∧ M (26 + 2 * d) 1 = M (26 + 2 * e) 1) ∧ 0 ≤ n ∧ (0 ≤ i ∧ i + n ≤ M (26 + 2 * d) 2) ∧ (0 ≤ j ∧ j + n ≤ M (26 + 2 * e) 2)) → (-11) = qCc d e (M (26 + 2 * d) 0) (M (26 + 2 * e) 0) (M (26 + 2 * d) 1) (M (26 + 2 * e) 1) ∧ M = M  -- p2.hn
          intro _; unfold qCc; rw [if_pos P, if_pos (.inl b3)]; exact ⟨rfl, rfl⟩
        · show ((0 ≤ d ∧ d < 8) ∧ (0 ≤ e ∧ e < 8)) ∧ (M (26 + 2 * d) 0 = 2 ∧ M (26 + 2 * e) 0 = 2 ∧ M (26 + 2 * d) 1 = M (26 + 2 * e) 1) ∧ 0 ≤ n ∧ (0 ≤ i ∧ i + n ≤ M (26 + 2 * d) 2) ∧ (0 ≤ j ∧ j + n ≤ M (26 + 2 * e) 2) → (-11) = n ∧ M = zcpy M (26 + 2 * d + 1) i (26 + 2 * e + 1) j n  -- p2.hy
          intro k; omega
      · -- b3.2
        have o2 : zsh (26 + 2 * e) := by
          exact sh7
        refine ⟨o2, ?_⟩
        refine ⟨fun b4 => ?_, fun b4 => ?_⟩
        · -- b4.1
          refine ⟨fun b5 => ?_, fun b5 => ?_⟩
          · -- b5.1
            refine hP _ _ ⟨?_, ?_⟩
            · show ¬ (((0 ≤ d ∧ d < 8) ∧ (0 ≤ e ∧ e < 8)) ∧ (M (26 + 2 * d) 0 = 2 ∧ M (26 + 2 * e) 0 = 2 ∧ M (26 + 2 * d) 1 = M (26 + 2 * e) 1) ∧ 0 ≤ n ∧ (0 ≤ i ∧ i + n ≤ M (26 + 2 * d) 2) ∧ (0 ≤ j ∧ j + n ≤ M (26 + 2 * e) 2)) → (-12) = qCc d e (M (26 + 2 * d) 0) (M (26 + 2 * e) 0) (M (26 + 2 * d) 1) (M (26 + 2 * e) 1) ∧ M = M  -- p3.hn
              intro _; unfold qCc; rw [if_pos P, if_neg (by omega), if_neg (by omega)]; exact ⟨rfl, rfl⟩
            · show ((0 ≤ d ∧ d < 8) ∧ (0 ≤ e ∧ e < 8)) ∧ (M (26 + 2 * d) 0 = 2 ∧ M (26 + 2 * e) 0 = 2 ∧ M (26 + 2 * d) 1 = M (26 + 2 * e) 1) ∧ 0 ≤ n ∧ (0 ≤ i ∧ i + n ≤ M (26 + 2 * d) 2) ∧ (0 ≤ j ∧ j + n ≤ M (26 + 2 * e) 2) → (-12) = n ∧ M = zcpy M (26 + 2 * d + 1) i (26 + 2 * e + 1) j n  -- p3.hy
              intro k; omega
          · -- b5.2
            refine ⟨fun b6 => ?_, fun b6 => ?_⟩
            · -- b6.1
              refine hP _ _ ⟨?_, ?_⟩
              · show ¬ (((0 ≤ d ∧ d < 8) ∧ (0 ≤ e ∧ e < 8)) ∧ (M (26 + 2 * d) 0 = 2 ∧ M (26 + 2 * e) 0 = 2 ∧ M (26 + 2 * d) 1 = M (26 + 2 * e) 1) ∧ 0 ≤ n ∧ (0 ≤ i ∧ i + n ≤ M (26 + 2 * d) 2) ∧ (0 ≤ j ∧ j + n ≤ M (26 + 2 * e) 2)) → (-12) = qCc d e (M (26 + 2 * d) 0) (M (26 + 2 * e) 0) (M (26 + 2 * d) 1) (M (26 + 2 * e) 1) ∧ M = M  -- p4.hn
                intro _; unfold qCc; rw [if_pos P, if_neg (by omega), if_neg (by omega)]; exact ⟨rfl, rfl⟩
              · show ((0 ≤ d ∧ d < 8) ∧ (0 ≤ e ∧ e < 8)) ∧ (M (26 + 2 * d) 0 = 2 ∧ M (26 + 2 * e) 0 = 2 ∧ M (26 + 2 * d) 1 = M (26 + 2 * e) 1) ∧ 0 ≤ n ∧ (0 ≤ i ∧ i + n ≤ M (26 + 2 * d) 2) ∧ (0 ≤ j ∧ j + n ≤ M (26 + 2 * e) 2) → (-12) = n ∧ M = zcpy M (26 + 2 * d + 1) i (26 + 2 * e + 1) j n  -- p4.hy
                intro k; omega
            · -- b6.2
              refine ⟨fun b7 => ?_, fun b7 => ?_⟩
              · -- b7.1
                refine ⟨fun b8 => ?_, fun b8 => ?_⟩
                · -- b8.1
                  refine hP _ _ ⟨?_, ?_⟩
                  · show ¬ (((0 ≤ d ∧ d < 8) ∧ (0 ≤ e ∧ e < 8)) ∧ (M (26 + 2 * d) 0 = 2 ∧ M (26 + 2 * e) 0 = 2 ∧ M (26 + 2 * d) 1 = M (26 + 2 * e) 1) ∧ 0 ≤ n ∧ (0 ≤ i ∧ i + n ≤ M (26 + 2 * d) 2) ∧ (0 ≤ j ∧ j + n ≤ M (26 + 2 * e) 2)) → (-13) = qCc d e (M (26 + 2 * d) 0) (M (26 + 2 * e) 0) (M (26 + 2 * d) 1) (M (26 + 2 * e) 1) ∧ M = M  -- p5.hn
                    intro _; unfold qCc; rw [if_pos P, if_neg (by omega), if_pos (by omega)]; exact ⟨rfl, rfl⟩
                  · show ((0 ≤ d ∧ d < 8) ∧ (0 ≤ e ∧ e < 8)) ∧ (M (26 + 2 * d) 0 = 2 ∧ M (26 + 2 * e) 0 = 2 ∧ M (26 + 2 * d) 1 = M (26 + 2 * e) 1) ∧ 0 ≤ n ∧ (0 ≤ i ∧ i + n ≤ M (26 + 2 * d) 2) ∧ (0 ≤ j ∧ j + n ≤ M (26 + 2 * e) 2) → (-13) = n ∧ M = zcpy M (26 + 2 * d + 1) i (26 + 2 * e + 1) j n  -- p5.hy
                    intro k; omega
                · -- b8.2
                  have gc3 : pr_X10_hasPlaces (26 + 2 * d) i n M := by
                    refine ⟨?_, ?_⟩
                    · show zsh (26 + 2 * d)  -- c3.hs
                      exact sh
                    · show 0 ≤ M (26 + 2 * d) 2 ∧ M (26 + 2 * d) 2 ≤ 120  -- c3.hn
                      omega
                  refine ⟨gc3, ?_⟩
                  rintro r23 M24 ⟨q_rfl, e_r23⟩ z_r23 z_M24
                  have q_rfl := q_rfl.symm
                  subst q_rfl
                  have z3 := zif01 e_r23
                  refine ⟨fun b9 => ?_, fun b9 => ?_⟩
                  · -- b9.1
                    refine hP _ _ ⟨?_, ?_⟩
                    · show ¬ (((0 ≤ d ∧ d < 8) ∧ (0 ≤ e ∧ e < 8)) ∧ (M (26 + 2 * d) 0 = 2 ∧ M (26 + 2 * e) 0 = 2 ∧ M (26 + 2 * d) 1 = M (26 + 2 * e) 1) ∧ 0 ≤ n ∧ (0 ≤ i ∧ i + n ≤ M (26 + 2 * d) 2) ∧ (0 ≤ j ∧ j + n ≤ M (26 + 2 * e) 2)) → (-13) = qCc d e (M (26 + 2 * d) 0) (M (26 + 2 * e) 0) (M (26 + 2 * d) 1) (M (26 + 2 * e) 1) ∧ M = M  -- p6.hn
                      intro _; unfold qCc; rw [if_pos P, if_neg (by omega), if_pos (by omega)]; exact ⟨rfl, rfl⟩
                    · show ((0 ≤ d ∧ d < 8) ∧ (0 ≤ e ∧ e < 8)) ∧ (M (26 + 2 * d) 0 = 2 ∧ M (26 + 2 * e) 0 = 2 ∧ M (26 + 2 * d) 1 = M (26 + 2 * e) 1) ∧ 0 ≤ n ∧ (0 ≤ i ∧ i + n ≤ M (26 + 2 * d) 2) ∧ (0 ≤ j ∧ j + n ≤ M (26 + 2 * e) 2) → (-13) = n ∧ M = zcpy M (26 + 2 * d + 1) i (26 + 2 * e + 1) j n  -- p6.hy
                      intro k; exact absurd ⟨by omega, by omega, by omega⟩ (z3.z.1 b9)
                  · -- b9.2
                    have gc4 : pr_X10_hasPlaces (26 + 2 * e) j n M := by
                      refine ⟨?_, ?_⟩
                      · show zsh (26 + 2 * e)  -- c4.hs
                        exact sh7
                      · show 0 ≤ M (26 + 2 * e) 2 ∧ M (26 + 2 * e) 2 ≤ 120  -- c4.hn
                        omega
                    refine ⟨gc4, ?_⟩
                    rintro r30 M31 ⟨q_rfl, e_r30⟩ z_r30 z_M31
                    have q_rfl := q_rfl.symm
                    subst q_rfl
                    have z4 := zif01 e_r30
                    have y3 := z3.ne.1 b9
                    refine ⟨fun b10 => ?_, fun b10 => ?_⟩
                    · -- b10.1
                      have y4 := z4.ne.1 b10
                      have o3 : ((0 : Int) ≤ i ∧ (0 : Int) ≤ j ∧ (0 : Int) ≤ n ∧ i + n ≤ 120 ∧ j + n ≤ 120) := by
                        omega
                      refine ⟨o3, ?_⟩
                      intro M38 e_M38
                      refine hP _ _ ⟨?_, ?_⟩
                      · show ¬ (((0 ≤ d ∧ d < 8) ∧ (0 ≤ e ∧ e < 8)) ∧ (M (26 + 2 * d) 0 = 2 ∧ M (26 + 2 * e) 0 = 2 ∧ M (26 + 2 * d) 1 = M (26 + 2 * e) 1) ∧ 0 ≤ n ∧ (0 ≤ i ∧ i + n ≤ M (26 + 2 * d) 2) ∧ (0 ≤ j ∧ j + n ≤ M (26 + 2 * e) 2)) → n = qCc d e (M (26 + 2 * d) 0) (M (26 + 2 * e) 0) (M (26 + 2 * d) 1) (M (26 + 2 * e) 1) ∧ M38 = M  -- p7.hn
                        intro k; exact absurd ⟨P, ⟨by omega, by omega, by omega⟩, by omega, ⟨by omega, by omega⟩, by omega, by omega⟩ k
                      · show ((0 ≤ d ∧ d < 8) ∧ (0 ≤ e ∧ e < 8)) ∧ (M (26 + 2 * d) 0 = 2 ∧ M (26 + 2 * e) 0 = 2 ∧ M (26 + 2 * d) 1 = M (26 + 2 * e) 1) ∧ 0 ≤ n ∧ (0 ≤ i ∧ i + n ≤ M (26 + 2 * d) 2) ∧ (0 ≤ j ∧ j + n ≤ M (26 + 2 * e) 2) → n = n ∧ M38 = zcpy M (26 + 2 * d + 1) i (26 + 2 * e + 1) j n  -- p7.hy
                        intro _; exact ⟨rfl, e_M38⟩
                    · -- b10.2
                      refine hP _ _ ⟨?_, ?_⟩
                      · show ¬ (((0 ≤ d ∧ d < 8) ∧ (0 ≤ e ∧ e < 8)) ∧ (M (26 + 2 * d) 0 = 2 ∧ M (26 + 2 * e) 0 = 2 ∧ M (26 + 2 * d) 1 = M (26 + 2 * e) 1) ∧ 0 ≤ n ∧ (0 ≤ i ∧ i + n ≤ M (26 + 2 * d) 2) ∧ (0 ≤ j ∧ j + n ≤ M (26 + 2 * e) 2)) → (-13) = qCc d e (M (26 + 2 * d) 0) (M (26 + 2 * e) 0) (M (26 + 2 * d) 1) (M (26 + 2 * e) 1) ∧ M = M  -- p8.hn
                        intro _; unfold qCc; rw [if_pos P, if_neg (by omega), if_pos (by omega)]; exact ⟨rfl, rfl⟩
                      · show ((0 ≤ d ∧ d < 8) ∧ (0 ≤ e ∧ e < 8)) ∧ (M (26 + 2 * d) 0 = 2 ∧ M (26 + 2 * e) 0 = 2 ∧ M (26 + 2 * d) 1 = M (26 + 2 * e) 1) ∧ 0 ≤ n ∧ (0 ≤ i ∧ i + n ≤ M (26 + 2 * d) 2) ∧ (0 ≤ j ∧ j + n ≤ M (26 + 2 * e) 2) → (-13) = n ∧ M = zcpy M (26 + 2 * d + 1) i (26 + 2 * e + 1) j n  -- p8.hy
                        intro k; exact absurd ⟨by omega, by omega, by omega⟩ (z4.z.1 b10)
              · -- b7.2
                refine hP _ _ ⟨?_, ?_⟩
                · show ¬ (((0 ≤ d ∧ d < 8) ∧ (0 ≤ e ∧ e < 8)) ∧ (M (26 + 2 * d) 0 = 2 ∧ M (26 + 2 * e) 0 = 2 ∧ M (26 + 2 * d) 1 = M (26 + 2 * e) 1) ∧ 0 ≤ n ∧ (0 ≤ i ∧ i + n ≤ M (26 + 2 * d) 2) ∧ (0 ≤ j ∧ j + n ≤ M (26 + 2 * e) 2)) → (-12) = qCc d e (M (26 + 2 * d) 0) (M (26 + 2 * e) 0) (M (26 + 2 * d) 1) (M (26 + 2 * e) 1) ∧ M = M  -- p9.hn
                  intro _; unfold qCc; rw [if_pos P, if_neg (by omega), if_neg (by omega)]; exact ⟨rfl, rfl⟩
                · show ((0 ≤ d ∧ d < 8) ∧ (0 ≤ e ∧ e < 8)) ∧ (M (26 + 2 * d) 0 = 2 ∧ M (26 + 2 * e) 0 = 2 ∧ M (26 + 2 * d) 1 = M (26 + 2 * e) 1) ∧ 0 ≤ n ∧ (0 ≤ i ∧ i + n ≤ M (26 + 2 * d) 2) ∧ (0 ≤ j ∧ j + n ≤ M (26 + 2 * e) 2) → (-12) = n ∧ M = zcpy M (26 + 2 * d + 1) i (26 + 2 * e + 1) j n  -- p9.hy
                  intro k; omega
        · -- b4.2
          refine hP _ _ ⟨?_, ?_⟩
          · show ¬ (((0 ≤ d ∧ d < 8) ∧ (0 ≤ e ∧ e < 8)) ∧ (M (26 + 2 * d) 0 = 2 ∧ M (26 + 2 * e) 0 = 2 ∧ M (26 + 2 * d) 1 = M (26 + 2 * e) 1) ∧ 0 ≤ n ∧ (0 ≤ i ∧ i + n ≤ M (26 + 2 * d) 2) ∧ (0 ≤ j ∧ j + n ≤ M (26 + 2 * e) 2)) → (-11) = qCc d e (M (26 + 2 * d) 0) (M (26 + 2 * e) 0) (M (26 + 2 * d) 1) (M (26 + 2 * e) 1) ∧ M = M  -- p10.hn
            intro _; unfold qCc; rw [if_pos P, if_pos (.inr b4)]; exact ⟨rfl, rfl⟩
          · show ((0 ≤ d ∧ d < 8) ∧ (0 ≤ e ∧ e < 8)) ∧ (M (26 + 2 * d) 0 = 2 ∧ M (26 + 2 * e) 0 = 2 ∧ M (26 + 2 * d) 1 = M (26 + 2 * e) 1) ∧ 0 ≤ n ∧ (0 ≤ i ∧ i + n ≤ M (26 + 2 * d) 2) ∧ (0 ≤ j ∧ j + n ≤ M (26 + 2 * e) 2) → (-11) = n ∧ M = zcpy M (26 + 2 * d + 1) i (26 + 2 * e + 1) j n  -- p10.hy
            intro k; omega
    · -- b2.2
      refine hP _ _ ⟨?_, ?_⟩
      · show ¬ (((0 ≤ d ∧ d < 8) ∧ (0 ≤ e ∧ e < 8)) ∧ (M (26 + 2 * d) 0 = 2 ∧ M (26 + 2 * e) 0 = 2 ∧ M (26 + 2 * d) 1 = M (26 + 2 * e) 1) ∧ 0 ≤ n ∧ (0 ≤ i ∧ i + n ≤ M (26 + 2 * d) 2) ∧ (0 ≤ j ∧ j + n ≤ M (26 + 2 * e) 2)) → (-1) = qCc d e (M (26 + 2 * d) 0) (M (26 + 2 * e) 0) (M (26 + 2 * d) 1) (M (26 + 2 * e) 1) ∧ M = M  -- p11.hn
        intro _; unfold qCc; rw [if_neg (fun k => by rw [if_pos k.2] at e_r7; omega)]; exact ⟨rfl, rfl⟩
      · show ((0 ≤ d ∧ d < 8) ∧ (0 ≤ e ∧ e < 8)) ∧ (M (26 + 2 * d) 0 = 2 ∧ M (26 + 2 * e) 0 = 2 ∧ M (26 + 2 * d) 1 = M (26 + 2 * e) 1) ∧ 0 ≤ n ∧ (0 ≤ i ∧ i + n ≤ M (26 + 2 * d) 2) ∧ (0 ≤ j ∧ j + n ≤ M (26 + 2 * e) 2) → (-1) = n ∧ M = zcpy M (26 + 2 * d + 1) i (26 + 2 * e + 1) j n  -- p11.hy
        intro k; rw [if_pos k.1.2] at e_r7; omega

def qRp (d h : Int) : Int := if 0 ≤ d ∧ d < 8 then (if h = 0 then -11 else -12) else -1
abbrev pr_X11_reach (d : Int) (M : zM) : Prop := (bI M)
abbrev po_X11_reach (d : Int) (M : zM) (r : Int) (M' : zM) : Prop := (M' = M) ∧ (¬ ((0 ≤ d ∧ d < 8) ∧ M (26 + 2 * d) 0 = 1) → r = qRp d (M (26 + 2 * d) 0)) ∧ ((0 ≤ d ∧ d < 8) ∧ M (26 + 2 * d) 0 = 1 → zReach (M (26 + 2 * d) 4) (M (26 + 2 * d) 6) (M (26 + 2 * d) 7) (M (26 + 2 * d) 8) r)
set_option maxHeartbeats 1000000 in
theorem ok_X11_reach : zSnd zS 145 0 0 yX11_reach cX11_reach 4 (some .int) 2 [2, 0] (F_X11_reach pr_X11_reach po_X11_reach) := by
  refine (sn_X11_reach ok_X11_refusalOfPiece ok_X11_shelfAt ok_X10_pieceReach).mono ?_
  rintro xs P M hz hR ⟨d, rfl, hI, hP⟩
  refine ⟨_, rfl, ?_⟩
  have z_d := zall_h (zall_t hz) (by decide)
  change vc_X11_reach pr_X11_refusalOfPiece po_X11_refusalOfPiece pr_X11_shelfAt po_X11_shelfAt pr_X10_pieceReach po_X10_pieceReach d P M
  unfold vc_X11_reach
  have gc1 : pr_X11_refusalOfPiece d M := trivial
  refine ⟨gc1, ?_⟩
  rintro r1 M2 ⟨q_rfl, e_r1⟩ z_r1 z_M2
  have q_rfl := q_rfl.symm
  subst q_rfl
  have gc2 : pr_X11_shelfAt d M := trivial
  refine ⟨gc2, ?_⟩
  rintro r7 M8 ⟨q_rfl, e_r7⟩ z_r7 z_M8
  have q_rfl := q_rfl.symm
  subst q_rfl
  refine ⟨fun b1 => ?_, fun b1 => ?_⟩
  · -- b1.1
    have R : ¬ ((0 ≤ d ∧ d < 8) ∧ M (26 + 2 * d) 0 = 1) ∧ r1 = qRp d (M (26 + 2 * d) 0) := by
      unfold qRp
      by_cases k : 0 ≤ d ∧ d < 8
      · rw [if_pos k] at e_r1 ⊢
        by_cases l : M (26 + 2 * d) 0 = 0
        · rw [if_pos l] at e_r1 ⊢; omega
        · rw [if_neg l] at e_r1 ⊢
          by_cases q : M (26 + 2 * d) 0 = 1
          · rw [if_pos q] at e_r1; omega
          · rw [if_neg q] at e_r1; exact ⟨fun z => q z.2, e_r1⟩
      · rw [if_neg k] at e_r1 ⊢; exact ⟨fun z => k z.1, e_r1⟩
    refine hP _ _ ⟨?_, ?_, ?_⟩
    · show M = M  -- p1.rfl
      rfl
    · show ¬ ((0 ≤ d ∧ d < 8) ∧ M (26 + 2 * d) 0 = 1) → r1 = qRp d (M (26 + 2 * d) 0)  -- p1.hn
      intro _; exact R.2
    · show (0 ≤ d ∧ d < 8) ∧ M (26 + 2 * d) 0 = 1 → zReach (M (26 + 2 * d) 4) (M (26 + 2 * d) 6) (M (26 + 2 * d) 7) (M (26 + 2 * d) 8) r1  -- p1.hy
      intro k; exact absurd k R.1
  · -- b1.2
    have hd : (0 ≤ d ∧ d < 8) ∧ M (26 + 2 * d) 0 = 1 := by
      by_cases k : 0 ≤ d ∧ d < 8
      · rw [if_pos k] at e_r1
        by_cases l : M (26 + 2 * d) 0 = 0
        · rw [if_pos l] at e_r1; omega
        · rw [if_neg l] at e_r1
          by_cases q : M (26 + 2 * d) 0 = 1
          · exact ⟨k, q⟩
          · rw [if_neg q] at e_r1; omega
      · rw [if_neg k] at e_r1; omega
    have e7 : r7 = 26 + 2 * d := by rw [if_pos hd.1] at e_r7; exact e_r7
    have sh : zsh r7 := ⟨d, hd.1.1, hd.1.2, e7⟩
    have S := hI.s d hd.1.1 hd.1.2
    subst e7
    refine ⟨fun b2 => ?_, fun b2 => ?_⟩
    · -- b2.1
      have o1 : zsh (26 + 2 * d) := by
        exact sh
      refine ⟨o1, ?_⟩
      have gc3 : pr_X10_pieceReach (26 + 2 * d) M := by
        refine ⟨?_, ?_, ?_, ?_⟩
        · show zsh (26 + 2 * d)  -- c3.hs
          exact sh
        · show 0 ≤ M (26 + 2 * d) 6 ∧ M (26 + 2 * d) 6 ≤ 16  -- c3.h6
          omega
        · show 0 ≤ M (26 + 2 * d) 7 ∧ M (26 + 2 * d) 7 ≤ 12  -- c3.h7
          omega
        · show 0 ≤ M (26 + 2 * d) 8 ∧ M (26 + 2 * d) 8 ≤ 16  -- c3.h8
          omega
      refine ⟨gc3, ?_⟩
      rintro r15 M16 ⟨q_rfl, pc3_hr⟩ z_r15 z_M16
      have q_rfl := q_rfl.symm
      subst q_rfl
      refine hP _ _ ⟨?_, ?_, ?_⟩
      · show M = M  -- p2.rfl
        rfl
      · show ¬ ((0 ≤ d ∧ d < 8) ∧ M (26 + 2 * d) 0 = 1) → r15 = qRp d (M (26 + 2 * d) 0)  -- p2.hn
        intro k; exact absurd hd k
      · show (0 ≤ d ∧ d < 8) ∧ M (26 + 2 * d) 0 = 1 → zReach (M (26 + 2 * d) 4) (M (26 + 2 * d) 6) (M (26 + 2 * d) 7) (M (26 + 2 * d) 8) r15  -- p2.hy
        intro _; exact pc3_hr
    · -- b2.2
      refine hP _ _ ⟨?_, ?_, ?_⟩
      · show M = M  -- p3.rfl
        rfl
      · show ¬ ((0 ≤ d ∧ d < 8) ∧ M (26 + 2 * d) 0 = 1) → r1 = qRp d (M (26 + 2 * d) 0)  -- p3.hn
        intro k; exact absurd hd k
      · show (0 ≤ d ∧ d < 8) ∧ M (26 + 2 * d) 0 = 1 → zReach (M (26 + 2 * d) 4) (M (26 + 2 * d) 6) (M (26 + 2 * d) 7) (M (26 + 2 * d) 8) r1  -- p3.hy
        intro k; omega

abbrev pr_X11_toss (d : Int) (M : zM) : Prop := (bI M)
abbrev po_X11_toss (d : Int) (M : zM) (r : Int) (M' : zM) : Prop := (M' = M) ∧ (¬ ((0 ≤ d ∧ d < 8) ∧ M (26 + 2 * d) 0 = 1) → r = qRp d (M (26 + 2 * d) 0)) ∧ ((0 ≤ d ∧ d < 8) ∧ M (26 + 2 * d) 0 = 1 → r = if M (26 + 2 * d) 4 = 1 ∨ (M (26 + 2 * d) 6 = 0 ∧ M (26 + 2 * d) 7 = 0) then -15 else if M (26 + 2 * d) 4 = 4 then M (26 + 2 * d) 8 else if M (26 + 2 * d) 4 = 3 then M (26 + 2 * d) 5 + 100 else M (26 + 2 * d) 5)
set_option maxHeartbeats 1000000 in
theorem ok_X11_toss : zSnd zS 145 0 0 yX11_toss cX11_toss 4 (some .int) 2 [2, 0] (F_X11_toss pr_X11_toss po_X11_toss) := by
  refine (sn_X11_toss ok_X11_refusalOfPiece ok_X11_shelfAt ok_X10_pieceFailure).mono ?_
  rintro xs P M hz hR ⟨d, rfl, hI, hP⟩
  refine ⟨_, rfl, ?_⟩
  have z_d := zall_h (zall_t hz) (by decide)
  change vc_X11_toss pr_X11_refusalOfPiece po_X11_refusalOfPiece pr_X11_shelfAt po_X11_shelfAt pr_X10_pieceFailure po_X10_pieceFailure d P M
  unfold vc_X11_toss
  have gc1 : pr_X11_refusalOfPiece d M := trivial
  refine ⟨gc1, ?_⟩
  rintro r1 M2 ⟨q_rfl, e_r1⟩ z_r1 z_M2
  have q_rfl := q_rfl.symm
  subst q_rfl
  have gc2 : pr_X11_shelfAt d M := trivial
  refine ⟨gc2, ?_⟩
  rintro r7 M8 ⟨q_rfl, e_r7⟩ z_r7 z_M8
  have q_rfl := q_rfl.symm
  subst q_rfl
  refine ⟨fun b1 => ?_, fun b1 => ?_⟩
  · -- b1.1
    have R : ¬ ((0 ≤ d ∧ d < 8) ∧ M (26 + 2 * d) 0 = 1) ∧ r1 = qRp d (M (26 + 2 * d) 0) := by
      unfold qRp
      by_cases k : 0 ≤ d ∧ d < 8
      · rw [if_pos k] at e_r1 ⊢
        by_cases l : M (26 + 2 * d) 0 = 0
        · rw [if_pos l] at e_r1 ⊢; omega
        · rw [if_neg l] at e_r1 ⊢
          by_cases q : M (26 + 2 * d) 0 = 1
          · rw [if_pos q] at e_r1; omega
          · rw [if_neg q] at e_r1; exact ⟨fun z => q z.2, e_r1⟩
      · rw [if_neg k] at e_r1 ⊢; exact ⟨fun z => k z.1, e_r1⟩
    refine hP _ _ ⟨?_, ?_, ?_⟩
    · show M = M  -- p1.rfl
      rfl
    · show ¬ ((0 ≤ d ∧ d < 8) ∧ M (26 + 2 * d) 0 = 1) → r1 = qRp d (M (26 + 2 * d) 0)  -- p1.hn
      intro _; exact R.2
    · show (0 ≤ d ∧ d < 8) ∧ M (26 + 2 * d) 0 = 1 → r1 = if M (26 + 2 * d) 4 = 1 ∨ (M (26 + 2 * d) 6 = 0 ∧ M (26 + 2 * d) 7 = 0) then -15 else if M (26 + 2 * d) 4 = 4 then M (26 + 2 * d) 8 else if M (26 + 2 * d) 4 = 3 then M (26 + 2 * d) 5 + 100 else M (26 + 2 * d) 5  -- p1.hy
      intro k; exact absurd k R.1
  · -- b1.2
    have hd : (0 ≤ d ∧ d < 8) ∧ M (26 + 2 * d) 0 = 1 := by
      by_cases k : 0 ≤ d ∧ d < 8
      · rw [if_pos k] at e_r1
        by_cases l : M (26 + 2 * d) 0 = 0
        · rw [if_pos l] at e_r1; omega
        · rw [if_neg l] at e_r1
          by_cases q : M (26 + 2 * d) 0 = 1
          · exact ⟨k, q⟩
          · rw [if_neg q] at e_r1; omega
      · rw [if_neg k] at e_r1; omega
    have e7 : r7 = 26 + 2 * d := by rw [if_pos hd.1] at e_r7; exact e_r7
    have sh : zsh r7 := ⟨d, hd.1.1, hd.1.2, e7⟩
    have S := hI.s d hd.1.1 hd.1.2
    subst e7
    refine ⟨fun b2 => ?_, fun b2 => ?_⟩
    · -- b2.1
      have o1 : zsh (26 + 2 * d) := by
        exact sh
      refine ⟨o1, ?_⟩
      have gc3 : pr_X10_pieceFailure (26 + 2 * d) M := by
        refine ⟨?_, ?_⟩
        · show zsh (26 + 2 * d)  -- c3.hs
          exact sh
        · show 0 ≤ M (26 + 2 * d) 5 ∧ M (26 + 2 * d) 5 ≤ 192  -- c3.h5
          omega
      refine ⟨gc3, ?_⟩
      rintro r15 M16 ⟨q_rfl, e_r15⟩ z_r15 z_M16
      have q_rfl := q_rfl.symm
      subst q_rfl
      refine hP _ _ ⟨?_, ?_, ?_⟩
      · show M = M  -- p2.rfl
        rfl
      · show ¬ ((0 ≤ d ∧ d < 8) ∧ M (26 + 2 * d) 0 = 1) → r15 = qRp d (M (26 + 2 * d) 0)  -- p2.hn
        intro k; exact absurd hd k
      · show (0 ≤ d ∧ d < 8) ∧ M (26 + 2 * d) 0 = 1 → r15 = if M (26 + 2 * d) 4 = 1 ∨ (M (26 + 2 * d) 6 = 0 ∧ M (26 + 2 * d) 7 = 0) then -15 else if M (26 + 2 * d) 4 = 4 then M (26 + 2 * d) 8 else if M (26 + 2 * d) 4 = 3 then M (26 + 2 * d) 5 + 100 else M (26 + 2 * d) 5  -- p2.hy
        intro _; exact e_r15
    · -- b2.2
      refine hP _ _ ⟨?_, ?_, ?_⟩
      · show M = M  -- p3.rfl
        rfl
      · show ¬ ((0 ≤ d ∧ d < 8) ∧ M (26 + 2 * d) 0 = 1) → r1 = qRp d (M (26 + 2 * d) 0)  -- p3.hn
        intro k; exact absurd hd k
      · show (0 ≤ d ∧ d < 8) ∧ M (26 + 2 * d) 0 = 1 → r1 = if M (26 + 2 * d) 4 = 1 ∨ (M (26 + 2 * d) 6 = 0 ∧ M (26 + 2 * d) 7 = 0) then -15 else if M (26 + 2 * d) 4 = 4 then M (26 + 2 * d) 8 else if M (26 + 2 * d) 4 = 3 then M (26 + 2 * d) 5 + 100 else M (26 + 2 * d) 5  -- p3.hy
        intro k; omega

abbrev pr_X11_keep (d : Int) (what : Int) (k : Int) (f : Int) (told : Int) (M : zM) : Prop := (bI M) ∧ (bK M)
abbrev po_X11_keep (d : Int) (what : Int) (k : Int) (f : Int) (told : Int) (M : zM) (r : Int) (M' : zM) : Prop := (¬ ((0 ≤ d ∧ d < 8) ∧ 0 ≤ what ∧ what ≤ 1) → r = -1 ∧ M' = M) ∧ (0 ≤ d ∧ d < 8 → what = 0 → r = 0 ∧ M' = zset (zset M (26 + 2 * d) 0 0) (26 + 2 * d) 2 0) ∧ (0 ≤ d ∧ d < 8 → what = 1 → ¬ (0 ≤ k ∧ k ≤ 4) → r = -1 ∧ M' = M) ∧ (0 ≤ d ∧ d < 8 → what = 1 → 0 ≤ k ∧ k ≤ 4 → ∃ N, bW M N ∧ bQ N ∧ (¬ ((0 ≤ f ∧ f < N 5 2) ∧ 0 ≤ told) → r = -1 ∧ M' = N) ∧ ((0 ≤ f ∧ f < N 5 2) ∧ 0 ≤ told → ∃ n, gPer (zg (N 1 0) (N 1 1) (N 12)) f (N 1 2) (gS0 (N 7 f)) n ∧ (¬ (told / 1000 ≤ n ∧ told % 1000 ≤ n) → r = -1 ∧ M' = N) ∧ (told / 1000 ≤ n ∧ told % 1000 ≤ n → r = 0 ∧ ∃ g x y, gGb (zg (N 1 0) (N 1 1) (N 12)) f g ∧ x = gX (zg (N 1 0) (N 1 1) (N 12)) f (N 1 2) (gS0 (N 7 f)) (told % 1000) - gX (zg (N 1 0) (N 1 1) (N 12)) f (N 1 2) (gS0 (N 7 f)) (told / 1000) ∧ y = gY (zg (N 1 0) (N 1 1) (N 12)) f (N 1 2) (gS0 (N 7 f)) (told % 1000) - gY (zg (N 1 0) (N 1 1) (N 12)) f (N 1 2) (gS0 (N 7 f)) (told / 1000) ∧ (0 ≤ g ∧ g ≤ 12) ∧ (max x (-x) ≤ 16 ∧ max y (-y) ≤ 12) ∧ f ≤ 192 ∧ M' = zset (zset (zset (zset (zset (zset (zset N (26 + 2 * d) 0 1) (26 + 2 * d) 2 0) (26 + 2 * d) 4 k) (26 + 2 * d) 5 f) (26 + 2 * d) 6 (max x (-x))) (26 + 2 * d) 7 (max y (-y))) (26 + 2 * d) 8 g)))
set_option maxHeartbeats 2000000 in
theorem ok_X11_keep : zSnd zS 145 0 0 yX11_keep cX11_keep 11 (some .int) 5 [2, 0, 0, 0, 0, 0] (F_X11_keep pr_X11_keep po_X11_keep) := by
  refine (sn_X11_keep ok_X11_shelfAt ok_X11_isFace ok_X1_trace ok_X9_greatestBreadth ok_X10_holdPiece ok_X10_empty).mono ?_
  rintro xs P M hz hR ⟨d, what, k, f, told, rfl, ⟨hI, hK⟩, hP⟩
  refine ⟨_, _, _, _, _, rfl, ?_⟩
  have z_d := zall_h (zall_t hz) (by decide)
  have z_what := zall_h (zall_t (zall_t hz)) (by decide)
  have z_k := zall_h (zall_t (zall_t (zall_t hz))) (by decide)
  have z_f := zall_h (zall_t (zall_t (zall_t (zall_t hz)))) (by decide)
  have z_told := zall_h (zall_t (zall_t (zall_t (zall_t (zall_t hz))))) (by decide)
  change vc_X11_keep pr_X11_shelfAt po_X11_shelfAt pr_X11_isFace po_X11_isFace pr_X1_trace po_X1_trace pr_X9_greatestBreadth po_X9_greatestBreadth pr_X10_holdPiece po_X10_holdPiece pr_X10_empty po_X10_empty d what k f told P M
  unfold vc_X11_keep
  have gc1 : pr_X11_shelfAt d M := trivial
  refine ⟨gc1, ?_⟩
  rintro r1 M2 ⟨q_rfl, e_r1⟩ z_r1 z_M2
  have q_rfl := q_rfl.symm
  subst q_rfl
  refine ⟨fun b1 => ?_, fun b1 => ?_⟩
  · -- b1.1
    refine hP _ _ ⟨?_, ?_, ?_, ?_⟩
    · show ¬ ((0 ≤ d ∧ d < 8) ∧ 0 ≤ what ∧ what ≤ 1) → (-1) = -1 ∧ M = M  -- p1.hn
      intro _; exact ⟨rfl, rfl⟩
    · show 0 ≤ d ∧ d < 8 → what = 0 → (-1) = 0 ∧ M = zset (zset M (26 + 2 * d) 0 0) (26 + 2 * d) 2 0  -- p1.h0
      intro k; rw [if_pos k] at e_r1; omega
    · show 0 ≤ d ∧ d < 8 → what = 1 → ¬ (0 ≤ k ∧ k ≤ 4) → (-1) = -1 ∧ M = M  -- p1.h1
      intro k; rw [if_pos k] at e_r1; omega
    · show 0 ≤ d ∧ d < 8 → what = 1 → 0 ≤ k ∧ k ≤ 4 → ∃ N, bW M N ∧ bQ N ∧ (¬ ((0 ≤ f ∧ f < N 5 2) ∧ 0 ≤ told) → (-1) = -1 ∧ M = N) ∧ ((0 ≤ f ∧ f < N 5 2) ∧ 0 ≤ told → ∃ n, gPer (zg (N 1 0) (N 1 1) (N 12)) f (N 1 2) (gS0 (N 7 f)) n ∧ (¬ (told / 1000 ≤ n ∧ told % 1000 ≤ n) → (-1) = -1 ∧ M = N) ∧ (told / 1000 ≤ n ∧ told % 1000 ≤ n → (-1) = 0 ∧ ∃ g x y, gGb (zg (N 1 0) (N 1 1) (N 12)) f g ∧ x = gX (zg (N 1 0) (N 1 1) (N 12)) f (N 1 2) (gS0 (N 7 f)) (told % 1000) - gX (zg (N 1 0) (N 1 1) (N 12)) f (N 1 2) (gS0 (N 7 f)) (told / 1000) ∧ y = gY (zg (N 1 0) (N 1 1) (N 12)) f (N 1 2) (gS0 (N 7 f)) (told % 1000) - gY (zg (N 1 0) (N 1 1) (N 12)) f (N 1 2) (gS0 (N 7 f)) (told / 1000) ∧ (0 ≤ g ∧ g ≤ 12) ∧ (max x (-x) ≤ 16 ∧ max y (-y) ≤ 12) ∧ f ≤ 192 ∧ M = zset (zset (zset (zset (zset (zset (zset N (26 + 2 * d) 0 1) (26 + 2 * d) 2 0) (26 + 2 * d) 4 k) (26 + 2 * d) 5 f) (26 + 2 * d) 6 (max x (-x))) (26 + 2 * d) 7 (max y (-y))) (26 + 2 * d) 8 g))  -- p1.h2
      intro k; rw [if_pos k] at e_r1; omega
  · -- b1.2
    have hd : 0 ≤ d ∧ d < 8 := by
      apply Classical.byContradiction
      intro k; rw [if_neg k] at e_r1; omega
    have e1 : r1 = 26 + 2 * d := by rw [if_pos hd] at e_r1; exact e_r1
    have sh : zsh r1 := ⟨d, hd.1, hd.2, e1⟩
    subst e1
    refine ⟨fun b2 => ?_, fun b2 => ?_⟩
    · -- b2.1
      refine hP _ _ ⟨?_, ?_, ?_, ?_⟩
      · show ¬ ((0 ≤ d ∧ d < 8) ∧ 0 ≤ what ∧ what ≤ 1) → (-1) = -1 ∧ M = M  -- p2.hn
        intro _; exact ⟨rfl, rfl⟩
      · show 0 ≤ d ∧ d < 8 → what = 0 → (-1) = 0 ∧ M = zset (zset M (26 + 2 * d) 0 0) (26 + 2 * d) 2 0  -- p2.h0
        intro _ h; omega
      · show 0 ≤ d ∧ d < 8 → what = 1 → ¬ (0 ≤ k ∧ k ≤ 4) → (-1) = -1 ∧ M = M  -- p2.h1
        intro _ h; omega
      · show 0 ≤ d ∧ d < 8 → what = 1 → 0 ≤ k ∧ k ≤ 4 → ∃ N, bW M N ∧ bQ N ∧ (¬ ((0 ≤ f ∧ f < N 5 2) ∧ 0 ≤ told) → (-1) = -1 ∧ M = N) ∧ ((0 ≤ f ∧ f < N 5 2) ∧ 0 ≤ told → ∃ n, gPer (zg (N 1 0) (N 1 1) (N 12)) f (N 1 2) (gS0 (N 7 f)) n ∧ (¬ (told / 1000 ≤ n ∧ told % 1000 ≤ n) → (-1) = -1 ∧ M = N) ∧ (told / 1000 ≤ n ∧ told % 1000 ≤ n → (-1) = 0 ∧ ∃ g x y, gGb (zg (N 1 0) (N 1 1) (N 12)) f g ∧ x = gX (zg (N 1 0) (N 1 1) (N 12)) f (N 1 2) (gS0 (N 7 f)) (told % 1000) - gX (zg (N 1 0) (N 1 1) (N 12)) f (N 1 2) (gS0 (N 7 f)) (told / 1000) ∧ y = gY (zg (N 1 0) (N 1 1) (N 12)) f (N 1 2) (gS0 (N 7 f)) (told % 1000) - gY (zg (N 1 0) (N 1 1) (N 12)) f (N 1 2) (gS0 (N 7 f)) (told / 1000) ∧ (0 ≤ g ∧ g ≤ 12) ∧ (max x (-x) ≤ 16 ∧ max y (-y) ≤ 12) ∧ f ≤ 192 ∧ M = zset (zset (zset (zset (zset (zset (zset N (26 + 2 * d) 0 1) (26 + 2 * d) 2 0) (26 + 2 * d) 4 k) (26 + 2 * d) 5 f) (26 + 2 * d) 6 (max x (-x))) (26 + 2 * d) 7 (max y (-y))) (26 + 2 * d) 8 g))  -- p2.h2
        intro _ h; omega
    · -- b2.2
      refine ⟨fun b3 => ?_, fun b3 => ?_⟩
      · -- b3.1
        refine ⟨fun b4 => ?_, fun b4 => ?_⟩
        · -- b4.1
          refine ⟨fun b5 => ?_, fun b5 => ?_⟩
          · -- b5.1
            refine hP _ _ ⟨?_, ?_, ?_, ?_⟩
            · show ¬ ((0 ≤ d ∧ d < 8) ∧ 0 ≤ what ∧ what ≤ 1) → (-1) = -1 ∧ M = M  -- p3.hn
              intro h; omega
            · show 0 ≤ d ∧ d < 8 → what = 0 → (-1) = 0 ∧ M = zset (zset M (26 + 2 * d) 0 0) (26 + 2 * d) 2 0  -- p3.h0
              intro _ h; exact absurd h b4
            · show 0 ≤ d ∧ d < 8 → what = 1 → ¬ (0 ≤ k ∧ k ≤ 4) → (-1) = -1 ∧ M = M  -- p3.h1
              intro _ _ _; exact ⟨rfl, rfl⟩
            · show 0 ≤ d ∧ d < 8 → what = 1 → 0 ≤ k ∧ k ≤ 4 → ∃ N, bW M N ∧ bQ N ∧ (¬ ((0 ≤ f ∧ f < N 5 2) ∧ 0 ≤ told) → (-1) = -1 ∧ M = N) ∧ ((0 ≤ f ∧ f < N 5 2) ∧ 0 ≤ told → ∃ n, gPer (zg (N 1 0) (N 1 1) (N 12)) f (N 1 2) (gS0 (N 7 f)) n ∧ (¬ (told / 1000 ≤ n ∧ told % 1000 ≤ n) → (-1) = -1 ∧ M = N) ∧ (told / 1000 ≤ n ∧ told % 1000 ≤ n → (-1) = 0 ∧ ∃ g x y, gGb (zg (N 1 0) (N 1 1) (N 12)) f g ∧ x = gX (zg (N 1 0) (N 1 1) (N 12)) f (N 1 2) (gS0 (N 7 f)) (told % 1000) - gX (zg (N 1 0) (N 1 1) (N 12)) f (N 1 2) (gS0 (N 7 f)) (told / 1000) ∧ y = gY (zg (N 1 0) (N 1 1) (N 12)) f (N 1 2) (gS0 (N 7 f)) (told % 1000) - gY (zg (N 1 0) (N 1 1) (N 12)) f (N 1 2) (gS0 (N 7 f)) (told / 1000) ∧ (0 ≤ g ∧ g ≤ 12) ∧ (max x (-x) ≤ 16 ∧ max y (-y) ≤ 12) ∧ f ≤ 192 ∧ M = zset (zset (zset (zset (zset (zset (zset N (26 + 2 * d) 0 1) (26 + 2 * d) 2 0) (26 + 2 * d) 4 k) (26 + 2 * d) 5 f) (26 + 2 * d) 6 (max x (-x))) (26 + 2 * d) 7 (max y (-y))) (26 + 2 * d) 8 g))  -- p3.h2
              intro _ _ h; omega
          · -- b5.2
            refine ⟨fun b6 => ?_, fun b6 => ?_⟩
            · -- b6.1
              refine hP _ _ ⟨?_, ?_, ?_, ?_⟩
              · show ¬ ((0 ≤ d ∧ d < 8) ∧ 0 ≤ what ∧ what ≤ 1) → (-1) = -1 ∧ M = M  -- p4.hn
                intro h; omega
              · show 0 ≤ d ∧ d < 8 → what = 0 → (-1) = 0 ∧ M = zset (zset M (26 + 2 * d) 0 0) (26 + 2 * d) 2 0  -- p4.h0
                intro _ h; exact absurd h b4
              · show 0 ≤ d ∧ d < 8 → what = 1 → ¬ (0 ≤ k ∧ k ≤ 4) → (-1) = -1 ∧ M = M  -- p4.h1
                intro _ _ _; exact ⟨rfl, rfl⟩
              · show 0 ≤ d ∧ d < 8 → what = 1 → 0 ≤ k ∧ k ≤ 4 → ∃ N, bW M N ∧ bQ N ∧ (¬ ((0 ≤ f ∧ f < N 5 2) ∧ 0 ≤ told) → (-1) = -1 ∧ M = N) ∧ ((0 ≤ f ∧ f < N 5 2) ∧ 0 ≤ told → ∃ n, gPer (zg (N 1 0) (N 1 1) (N 12)) f (N 1 2) (gS0 (N 7 f)) n ∧ (¬ (told / 1000 ≤ n ∧ told % 1000 ≤ n) → (-1) = -1 ∧ M = N) ∧ (told / 1000 ≤ n ∧ told % 1000 ≤ n → (-1) = 0 ∧ ∃ g x y, gGb (zg (N 1 0) (N 1 1) (N 12)) f g ∧ x = gX (zg (N 1 0) (N 1 1) (N 12)) f (N 1 2) (gS0 (N 7 f)) (told % 1000) - gX (zg (N 1 0) (N 1 1) (N 12)) f (N 1 2) (gS0 (N 7 f)) (told / 1000) ∧ y = gY (zg (N 1 0) (N 1 1) (N 12)) f (N 1 2) (gS0 (N 7 f)) (told % 1000) - gY (zg (N 1 0) (N 1 1) (N 12)) f (N 1 2) (gS0 (N 7 f)) (told / 1000) ∧ (0 ≤ g ∧ g ≤ 12) ∧ (max x (-x) ≤ 16 ∧ max y (-y) ≤ 12) ∧ f ≤ 192 ∧ M = zset (zset (zset (zset (zset (zset (zset N (26 + 2 * d) 0 1) (26 + 2 * d) 2 0) (26 + 2 * d) 4 k) (26 + 2 * d) 5 f) (26 + 2 * d) 6 (max x (-x))) (26 + 2 * d) 7 (max y (-y))) (26 + 2 * d) 8 g))  -- p4.h2
                intro _ _ h; omega
            · -- b6.2
              have gc2 : pr_X11_isFace f M := by
                refine ⟨?_, ?_⟩
                · show bI M  -- c2.hI
                  exact hI
                · show bK M  -- c2.hK
                  exact hK
              refine ⟨gc2, ?_⟩
              rintro r13 M14 ⟨pc2_hf, pc2_hQ, pc2_hs, pc2_hr⟩ z_r13 z_M14
              have I2 := hI.face pc2_hf
              have w2 : bW M M14 := fun c i k => pc2_hf c i (by omega) (by omega)
              refine ⟨fun b7 => ?_, fun b7 => ?_⟩
              · -- b7.1
                refine hP _ _ ⟨?_, ?_, ?_, ?_⟩
                · show ¬ ((0 ≤ d ∧ d < 8) ∧ 0 ≤ what ∧ what ≤ 1) → (-1) = -1 ∧ M14 = M  -- p5.hn
                  intro h; omega
                · show 0 ≤ d ∧ d < 8 → what = 0 → (-1) = 0 ∧ M14 = zset (zset M (26 + 2 * d) 0 0) (26 + 2 * d) 2 0  -- p5.h0
                  intro _ h; exact absurd h b4
                · show 0 ≤ d ∧ d < 8 → what = 1 → ¬ (0 ≤ k ∧ k ≤ 4) → (-1) = -1 ∧ M14 = M  -- p5.h1
                  intro _ _ h; omega
                · show 0 ≤ d ∧ d < 8 → what = 1 → 0 ≤ k ∧ k ≤ 4 → ∃ N, bW M N ∧ bQ N ∧ (¬ ((0 ≤ f ∧ f < N 5 2) ∧ 0 ≤ told) → (-1) = -1 ∧ M14 = N) ∧ ((0 ≤ f ∧ f < N 5 2) ∧ 0 ≤ told → ∃ n, gPer (zg (N 1 0) (N 1 1) (N 12)) f (N 1 2) (gS0 (N 7 f)) n ∧ (¬ (told / 1000 ≤ n ∧ told % 1000 ≤ n) → (-1) = -1 ∧ M14 = N) ∧ (told / 1000 ≤ n ∧ told % 1000 ≤ n → (-1) = 0 ∧ ∃ g x y, gGb (zg (N 1 0) (N 1 1) (N 12)) f g ∧ x = gX (zg (N 1 0) (N 1 1) (N 12)) f (N 1 2) (gS0 (N 7 f)) (told % 1000) - gX (zg (N 1 0) (N 1 1) (N 12)) f (N 1 2) (gS0 (N 7 f)) (told / 1000) ∧ y = gY (zg (N 1 0) (N 1 1) (N 12)) f (N 1 2) (gS0 (N 7 f)) (told % 1000) - gY (zg (N 1 0) (N 1 1) (N 12)) f (N 1 2) (gS0 (N 7 f)) (told / 1000) ∧ (0 ≤ g ∧ g ≤ 12) ∧ (max x (-x) ≤ 16 ∧ max y (-y) ≤ 12) ∧ f ≤ 192 ∧ M14 = zset (zset (zset (zset (zset (zset (zset N (26 + 2 * d) 0 1) (26 + 2 * d) 2 0) (26 + 2 * d) 4 k) (26 + 2 * d) 5 f) (26 + 2 * d) 6 (max x (-x))) (26 + 2 * d) 7 (max y (-y))) (26 + 2 * d) 8 g))  -- p5.h2
                  intro _ _ _; exact ⟨M14, w2, pc2_hQ, fun _ => ⟨rfl, rfl⟩, fun k => absurd k.1 (pc2_hr.z.1 b7)⟩
              · -- b7.2
                have ha := pc2_hr.ne.1 b7
                refine ⟨fun b8 => ?_, fun b8 => ?_⟩
                · -- b8.1
                  have gc3 : pr_X1_trace f M14 := by
                    refine ⟨?_, ?_, ?_, ?_, ?_⟩
                    · show bDim M14  -- c3.hd
                      exact I2.d
                    · show M14 1 2 = 0 ∨ M14 1 2 = 1  -- c3.ht
                      exact I2.t
                    · show bFok M14  -- c3.hF
                      exact pc2_hQ.ok
                    · show 0 ≤ f ∧ f < M14 5 2  -- c3.ha
                      exact ha
                    · show M14 17 6 = M14 5 1 → M14 17 7 = f → bBk M14 f  -- c3.hk
                      exact pc2_hQ.bk
                  refine ⟨gc3, ?_⟩
                  rintro M21 ⟨pc3_hf, pc3_h6, pc3_h7, pc3_hB⟩ z_M21
                  have Q3 := pc2_hQ.trace pc3_hf pc3_h6 pc3_h7 pc3_hB
                  have I3 : bI M21 := I2.fr (fun c i k _ => pc3_hf c i (by omega) (by omega) (by omega) (by omega) (by omega))
                  have n3 : M21 5 2 = M14 5 2 := pc3_hf 5 2 (by omega) (by omega) (by omega) (by omega) (by omega)
                  have X := pc3_hB.XY I3.d Q3.ok (by omega)
                  have w3 : bW M M21 := w2.tr (fun c i k => pc3_hf c i (by omega) (by omega) (by omega) (by omega) (by omega))
                  have Nb := Q3.N I3
                  have o1 : 0 ≤ told := by
                    exact b8
                  refine ⟨o1, ?_⟩
                  refine ⟨fun b9 => ?_, fun b9 => ?_⟩
                  · -- b9.1
                    refine hP _ _ ⟨?_, ?_, ?_, ?_⟩
                    · show ¬ ((0 ≤ d ∧ d < 8) ∧ 0 ≤ what ∧ what ≤ 1) → (-1) = -1 ∧ M21 = M  -- p6.hn
                      intro h; omega
                    · show 0 ≤ d ∧ d < 8 → what = 0 → (-1) = 0 ∧ M21 = zset (zset M (26 + 2 * d) 0 0) (26 + 2 * d) 2 0  -- p6.h0
                      intro _ h; exact absurd h b4
                    · show 0 ≤ d ∧ d < 8 → what = 1 → ¬ (0 ≤ k ∧ k ≤ 4) → (-1) = -1 ∧ M21 = M  -- p6.h1
                      intro _ _ h; omega
                    · show 0 ≤ d ∧ d < 8 → what = 1 → 0 ≤ k ∧ k ≤ 4 → ∃ N, bW M N ∧ bQ N ∧ (¬ ((0 ≤ f ∧ f < N 5 2) ∧ 0 ≤ told) → (-1) = -1 ∧ M21 = N) ∧ ((0 ≤ f ∧ f < N 5 2) ∧ 0 ≤ told → ∃ n, gPer (zg (N 1 0) (N 1 1) (N 12)) f (N 1 2) (gS0 (N 7 f)) n ∧ (¬ (told / 1000 ≤ n ∧ told % 1000 ≤ n) → (-1) = -1 ∧ M21 = N) ∧ (told / 1000 ≤ n ∧ told % 1000 ≤ n → (-1) = 0 ∧ ∃ g x y, gGb (zg (N 1 0) (N 1 1) (N 12)) f g ∧ x = gX (zg (N 1 0) (N 1 1) (N 12)) f (N 1 2) (gS0 (N 7 f)) (told % 1000) - gX (zg (N 1 0) (N 1 1) (N 12)) f (N 1 2) (gS0 (N 7 f)) (told / 1000) ∧ y = gY (zg (N 1 0) (N 1 1) (N 12)) f (N 1 2) (gS0 (N 7 f)) (told % 1000) - gY (zg (N 1 0) (N 1 1) (N 12)) f (N 1 2) (gS0 (N 7 f)) (told / 1000) ∧ (0 ≤ g ∧ g ≤ 12) ∧ (max x (-x) ≤ 16 ∧ max y (-y) ≤ 12) ∧ f ≤ 192 ∧ M21 = zset (zset (zset (zset (zset (zset (zset N (26 + 2 * d) 0 1) (26 + 2 * d) 2 0) (26 + 2 * d) 4 k) (26 + 2 * d) 5 f) (26 + 2 * d) 6 (max x (-x))) (26 + 2 * d) 7 (max y (-y))) (26 + 2 * d) 8 g))  -- p6.h2
                      intro _ _ _; exact ⟨M21, w3, Q3, fun h => absurd ⟨by omega, b8⟩ h, fun _ => ⟨_, pc3_hB.1, fun _ => ⟨rfl, rfl⟩, fun h => by omega⟩⟩
                  · -- b9.2
                    refine ⟨fun b10 => ?_, fun b10 => ?_⟩
                    · -- b10.1
                      have i0 : 0 ≤ told / 1000 := by omega
                      have j0 : 0 ≤ told % 1000 := by omega
                      have Xi := X.1 (told / 1000) i0 (by omega)
                      have Xj := X.1 (told % 1000) j0 (by omega)
                      have Gi := pc3_hB.2.2.1 (told / 1000) i0 (by omega)
                      have Gj := pc3_hB.2.2.1 (told % 1000) j0 (by omega)
                      have o2 : ((0 : Int) ≤ (told % 1000) ∧ (told % 1000) < 413) := by
                        omega
                      refine ⟨o2, ?_⟩
                      have o3 : ((0 : Int) ≤ (told / 1000) ∧ (told / 1000) < 413) := by
                        omega
                      refine ⟨o3, ?_⟩
                      have o4 : zin ((M21 19 (told % 1000)) - (M21 19 (told / 1000))) := by
                        omega
                      refine ⟨o4, ?_⟩
                      have o5 : zin ((M21 20 (told % 1000)) - (M21 20 (told / 1000))) := by
                        omega
                      refine ⟨o5, ?_⟩
                      have gc4 : pr_X9_greatestBreadth f M21 := by
                        refine ⟨?_, ?_⟩
                        · show bDim M21  -- c4.hd
                          exact I3.d
                        · show 0 ≤ f  -- c4.hf0
                          omega
                      refine ⟨gc4, ?_⟩
                      rintro r33 M34 ⟨pc4_hf, pc4_hr, pc4_hb⟩ z_r33 z_M34
                      have Q4 : bQ M34 := Q3.fr (fun c i k => pc4_hf c i (by omega) (by omega))
                      have w4 : bW M M34 := w3.tr (fun c i k => pc4_hf c i (by omega) (by omega))
                      obtain ⟨v0, v1, v2, v3, v4, v5, v6⟩ := bVe.of (M := M21) (M' := M34) (fun c i k => pc4_hf c i (by omega) (by omega))
                      have o6 : zin (max ((M21 20 (told % 1000)) - (M21 20 (told / 1000))) (-((M21 20 (told % 1000)) - (M21 20 (told / 1000))))) := by
                        omega
                      refine ⟨o6, ?_⟩
                      have o7 : zin (max ((M21 19 (told % 1000)) - (M21 19 (told / 1000))) (-((M21 19 (told % 1000)) - (M21 19 (told / 1000))))) := by
                        omega
                      refine ⟨o7, ?_⟩
                      have o8 : zsh (26 + 2 * d) := by
                        exact sh
                      refine ⟨o8, ?_⟩
                      have gc5 : pr_X10_holdPiece (26 + 2 * d) k f (max ((M21 19 (told % 1000)) - (M21 19 (told / 1000))) (-((M21 19 (told % 1000)) - (M21 19 (told / 1000))))) (max ((M21 20 (told % 1000)) - (M21 20 (told / 1000))) (-((M21 20 (told % 1000)) - (M21 20 (told / 1000))))) r33 M34 := by
                        show zsh (26 + 2 * d)
                        exact sh
                      refine ⟨gc5, ?_⟩
                      rintro M41 pc5_e z_M41
                      refine hP _ _ ⟨?_, ?_, ?_, ?_⟩
                      · show ¬ ((0 ≤ d ∧ d < 8) ∧ 0 ≤ what ∧ what ≤ 1) → 0 = -1 ∧ M41 = M  -- p7.hn
                        intro h; omega
                      · show 0 ≤ d ∧ d < 8 → what = 0 → 0 = 0 ∧ M41 = zset (zset M (26 + 2 * d) 0 0) (26 + 2 * d) 2 0  -- p7.h0
                        intro _ h; exact absurd h b4
                      · show 0 ≤ d ∧ d < 8 → what = 1 → ¬ (0 ≤ k ∧ k ≤ 4) → 0 = -1 ∧ M41 = M  -- p7.h1
                        intro _ _ h; omega
                      · show 0 ≤ d ∧ d < 8 → what = 1 → 0 ≤ k ∧ k ≤ 4 → ∃ N, bW M N ∧ bQ N ∧ (¬ ((0 ≤ f ∧ f < N 5 2) ∧ 0 ≤ told) → 0 = -1 ∧ M41 = N) ∧ ((0 ≤ f ∧ f < N 5 2) ∧ 0 ≤ told → ∃ n, gPer (zg (N 1 0) (N 1 1) (N 12)) f (N 1 2) (gS0 (N 7 f)) n ∧ (¬ (told / 1000 ≤ n ∧ told % 1000 ≤ n) → 0 = -1 ∧ M41 = N) ∧ (told / 1000 ≤ n ∧ told % 1000 ≤ n → 0 = 0 ∧ ∃ g x y, gGb (zg (N 1 0) (N 1 1) (N 12)) f g ∧ x = gX (zg (N 1 0) (N 1 1) (N 12)) f (N 1 2) (gS0 (N 7 f)) (told % 1000) - gX (zg (N 1 0) (N 1 1) (N 12)) f (N 1 2) (gS0 (N 7 f)) (told / 1000) ∧ y = gY (zg (N 1 0) (N 1 1) (N 12)) f (N 1 2) (gS0 (N 7 f)) (told % 1000) - gY (zg (N 1 0) (N 1 1) (N 12)) f (N 1 2) (gS0 (N 7 f)) (told / 1000) ∧ (0 ≤ g ∧ g ≤ 12) ∧ (max x (-x) ≤ 16 ∧ max y (-y) ≤ 12) ∧ f ≤ 192 ∧ M41 = zset (zset (zset (zset (zset (zset (zset N (26 + 2 * d) 0 1) (26 + 2 * d) 2 0) (26 + 2 * d) 4 k) (26 + 2 * d) 5 f) (26 + 2 * d) 6 (max x (-x))) (26 + 2 * d) 7 (max y (-y))) (26 + 2 * d) 8 g))  -- p7.h2
                        intro _ _ _
                        refine ⟨M34, w4, Q4, fun h => absurd ⟨by omega, b8⟩ h, fun _ => ⟨M21 17 1, ?_, fun h => absurd ⟨by omega, b10⟩ h, fun _ => ⟨rfl, r33, M21 19 (told % 1000) - M21 19 (told / 1000), M21 20 (told % 1000) - M21 20 (told / 1000), ?_, ?_, ?_, pc4_hb, by omega, by omega, pc5_e⟩⟩⟩
                        · simp only [v0, v1, v2, v4, v5]; exact pc3_hB.1
                        · simp only [v0, v1, v4]; exact pc4_hr
                        · simp only [v0, v1, v2, v4, v5]; unfold gX; rw [Gi.1, Gj.1]
                        · simp only [v0, v1, v2, v4, v5]; unfold gY; rw [Gi.2, Gj.2]
                    · -- b10.2
                      refine hP _ _ ⟨?_, ?_, ?_, ?_⟩
                      · show ¬ ((0 ≤ d ∧ d < 8) ∧ 0 ≤ what ∧ what ≤ 1) → (-1) = -1 ∧ M21 = M  -- p8.hn
                        intro h; omega
                      · show 0 ≤ d ∧ d < 8 → what = 0 → (-1) = 0 ∧ M21 = zset (zset M (26 + 2 * d) 0 0) (26 + 2 * d) 2 0  -- p8.h0
                        intro _ h; exact absurd h b4
                      · show 0 ≤ d ∧ d < 8 → what = 1 → ¬ (0 ≤ k ∧ k ≤ 4) → (-1) = -1 ∧ M21 = M  -- p8.h1
                        intro _ _ h; omega
                      · show 0 ≤ d ∧ d < 8 → what = 1 → 0 ≤ k ∧ k ≤ 4 → ∃ N, bW M N ∧ bQ N ∧ (¬ ((0 ≤ f ∧ f < N 5 2) ∧ 0 ≤ told) → (-1) = -1 ∧ M21 = N) ∧ ((0 ≤ f ∧ f < N 5 2) ∧ 0 ≤ told → ∃ n, gPer (zg (N 1 0) (N 1 1) (N 12)) f (N 1 2) (gS0 (N 7 f)) n ∧ (¬ (told / 1000 ≤ n ∧ told % 1000 ≤ n) → (-1) = -1 ∧ M21 = N) ∧ (told / 1000 ≤ n ∧ told % 1000 ≤ n → (-1) = 0 ∧ ∃ g x y, gGb (zg (N 1 0) (N 1 1) (N 12)) f g ∧ x = gX (zg (N 1 0) (N 1 1) (N 12)) f (N 1 2) (gS0 (N 7 f)) (told % 1000) - gX (zg (N 1 0) (N 1 1) (N 12)) f (N 1 2) (gS0 (N 7 f)) (told / 1000) ∧ y = gY (zg (N 1 0) (N 1 1) (N 12)) f (N 1 2) (gS0 (N 7 f)) (told % 1000) - gY (zg (N 1 0) (N 1 1) (N 12)) f (N 1 2) (gS0 (N 7 f)) (told / 1000) ∧ (0 ≤ g ∧ g ≤ 12) ∧ (max x (-x) ≤ 16 ∧ max y (-y) ≤ 12) ∧ f ≤ 192 ∧ M21 = zset (zset (zset (zset (zset (zset (zset N (26 + 2 * d) 0 1) (26 + 2 * d) 2 0) (26 + 2 * d) 4 k) (26 + 2 * d) 5 f) (26 + 2 * d) 6 (max x (-x))) (26 + 2 * d) 7 (max y (-y))) (26 + 2 * d) 8 g))  -- p8.h2
                        intro _ _ _; exact ⟨M21, w3, Q3, fun h => absurd ⟨by omega, b8⟩ h, fun _ => ⟨_, pc3_hB.1, fun _ => ⟨rfl, rfl⟩, fun h => by omega⟩⟩
                · -- b8.2
                  refine hP _ _ ⟨?_, ?_, ?_, ?_⟩
                  · show ¬ ((0 ≤ d ∧ d < 8) ∧ 0 ≤ what ∧ what ≤ 1) → (-1) = -1 ∧ M14 = M  -- p9.hn
                    intro h; omega
                  · show 0 ≤ d ∧ d < 8 → what = 0 → (-1) = 0 ∧ M14 = zset (zset M (26 + 2 * d) 0 0) (26 + 2 * d) 2 0  -- p9.h0
                    intro _ h; exact absurd h b4
                  · show 0 ≤ d ∧ d < 8 → what = 1 → ¬ (0 ≤ k ∧ k ≤ 4) → (-1) = -1 ∧ M14 = M  -- p9.h1
                    intro _ _ h; omega
                  · show 0 ≤ d ∧ d < 8 → what = 1 → 0 ≤ k ∧ k ≤ 4 → ∃ N, bW M N ∧ bQ N ∧ (¬ ((0 ≤ f ∧ f < N 5 2) ∧ 0 ≤ told) → (-1) = -1 ∧ M14 = N) ∧ ((0 ≤ f ∧ f < N 5 2) ∧ 0 ≤ told → ∃ n, gPer (zg (N 1 0) (N 1 1) (N 12)) f (N 1 2) (gS0 (N 7 f)) n ∧ (¬ (told / 1000 ≤ n ∧ told % 1000 ≤ n) → (-1) = -1 ∧ M14 = N) ∧ (told / 1000 ≤ n ∧ told % 1000 ≤ n → (-1) = 0 ∧ ∃ g x y, gGb (zg (N 1 0) (N 1 1) (N 12)) f g ∧ x = gX (zg (N 1 0) (N 1 1) (N 12)) f (N 1 2) (gS0 (N 7 f)) (told % 1000) - gX (zg (N 1 0) (N 1 1) (N 12)) f (N 1 2) (gS0 (N 7 f)) (told / 1000) ∧ y = gY (zg (N 1 0) (N 1 1) (N 12)) f (N 1 2) (gS0 (N 7 f)) (told % 1000) - gY (zg (N 1 0) (N 1 1) (N 12)) f (N 1 2) (gS0 (N 7 f)) (told / 1000) ∧ (0 ≤ g ∧ g ≤ 12) ∧ (max x (-x) ≤ 16 ∧ max y (-y) ≤ 12) ∧ f ≤ 192 ∧ M14 = zset (zset (zset (zset (zset (zset (zset N (26 + 2 * d) 0 1) (26 + 2 * d) 2 0) (26 + 2 * d) 4 k) (26 + 2 * d) 5 f) (26 + 2 * d) 6 (max x (-x))) (26 + 2 * d) 7 (max y (-y))) (26 + 2 * d) 8 g))  -- p9.h2
                    intro _ _ _; exact ⟨M14, w2, pc2_hQ, fun _ => ⟨rfl, rfl⟩, fun k => absurd k.2 b8⟩
        · -- b4.2
          have o9 : zsh (26 + 2 * d) := by
            exact sh
          refine ⟨o9, ?_⟩
          have gc6 : pr_X10_empty (26 + 2 * d) M := by
            show zsh (26 + 2 * d)
            exact sh
          refine ⟨gc6, ?_⟩
          rintro M47 pc6_e z_M47
          refine hP _ _ ⟨?_, ?_, ?_, ?_⟩
          · show ¬ ((0 ≤ d ∧ d < 8) ∧ 0 ≤ what ∧ what ≤ 1) → 0 = -1 ∧ M47 = M  -- p10.hn
            intro h; omega
          · show 0 ≤ d ∧ d < 8 → what = 0 → 0 = 0 ∧ M47 = zset (zset M (26 + 2 * d) 0 0) (26 + 2 * d) 2 0  -- p10.h0
            intro _ _; exact ⟨rfl, pc6_e⟩
          · show 0 ≤ d ∧ d < 8 → what = 1 → ¬ (0 ≤ k ∧ k ≤ 4) → 0 = -1 ∧ M47 = M  -- p10.h1
            intro _ h; omega
          · show 0 ≤ d ∧ d < 8 → what = 1 → 0 ≤ k ∧ k ≤ 4 → ∃ N, bW M N ∧ bQ N ∧ (¬ ((0 ≤ f ∧ f < N 5 2) ∧ 0 ≤ told) → 0 = -1 ∧ M47 = N) ∧ ((0 ≤ f ∧ f < N 5 2) ∧ 0 ≤ told → ∃ n, gPer (zg (N 1 0) (N 1 1) (N 12)) f (N 1 2) (gS0 (N 7 f)) n ∧ (¬ (told / 1000 ≤ n ∧ told % 1000 ≤ n) → 0 = -1 ∧ M47 = N) ∧ (told / 1000 ≤ n ∧ told % 1000 ≤ n → 0 = 0 ∧ ∃ g x y, gGb (zg (N 1 0) (N 1 1) (N 12)) f g ∧ x = gX (zg (N 1 0) (N 1 1) (N 12)) f (N 1 2) (gS0 (N 7 f)) (told % 1000) - gX (zg (N 1 0) (N 1 1) (N 12)) f (N 1 2) (gS0 (N 7 f)) (told / 1000) ∧ y = gY (zg (N 1 0) (N 1 1) (N 12)) f (N 1 2) (gS0 (N 7 f)) (told % 1000) - gY (zg (N 1 0) (N 1 1) (N 12)) f (N 1 2) (gS0 (N 7 f)) (told / 1000) ∧ (0 ≤ g ∧ g ≤ 12) ∧ (max x (-x) ≤ 16 ∧ max y (-y) ≤ 12) ∧ f ≤ 192 ∧ M47 = zset (zset (zset (zset (zset (zset (zset N (26 + 2 * d) 0 1) (26 + 2 * d) 2 0) (26 + 2 * d) 4 k) (26 + 2 * d) 5 f) (26 + 2 * d) 6 (max x (-x))) (26 + 2 * d) 7 (max y (-y))) (26 + 2 * d) 8 g))  -- p10.h2
            intro _ h; omega
      · -- b3.2
        refine hP _ _ ⟨?_, ?_, ?_, ?_⟩
        · show ¬ ((0 ≤ d ∧ d < 8) ∧ 0 ≤ what ∧ what ≤ 1) → (-1) = -1 ∧ M = M  -- p11.hn
          intro _; exact ⟨rfl, rfl⟩
        · show 0 ≤ d ∧ d < 8 → what = 0 → (-1) = 0 ∧ M = zset (zset M (26 + 2 * d) 0 0) (26 + 2 * d) 2 0  -- p11.h0
          intro _ h; omega
        · show 0 ≤ d ∧ d < 8 → what = 1 → ¬ (0 ≤ k ∧ k ≤ 4) → (-1) = -1 ∧ M = M  -- p11.h1
          intro _ h; omega
        · show 0 ≤ d ∧ d < 8 → what = 1 → 0 ≤ k ∧ k ≤ 4 → ∃ N, bW M N ∧ bQ N ∧ (¬ ((0 ≤ f ∧ f < N 5 2) ∧ 0 ≤ told) → (-1) = -1 ∧ M = N) ∧ ((0 ≤ f ∧ f < N 5 2) ∧ 0 ≤ told → ∃ n, gPer (zg (N 1 0) (N 1 1) (N 12)) f (N 1 2) (gS0 (N 7 f)) n ∧ (¬ (told / 1000 ≤ n ∧ told % 1000 ≤ n) → (-1) = -1 ∧ M = N) ∧ (told / 1000 ≤ n ∧ told % 1000 ≤ n → (-1) = 0 ∧ ∃ g x y, gGb (zg (N 1 0) (N 1 1) (N 12)) f g ∧ x = gX (zg (N 1 0) (N 1 1) (N 12)) f (N 1 2) (gS0 (N 7 f)) (told % 1000) - gX (zg (N 1 0) (N 1 1) (N 12)) f (N 1 2) (gS0 (N 7 f)) (told / 1000) ∧ y = gY (zg (N 1 0) (N 1 1) (N 12)) f (N 1 2) (gS0 (N 7 f)) (told % 1000) - gY (zg (N 1 0) (N 1 1) (N 12)) f (N 1 2) (gS0 (N 7 f)) (told / 1000) ∧ (0 ≤ g ∧ g ≤ 12) ∧ (max x (-x) ≤ 16 ∧ max y (-y) ≤ 12) ∧ f ≤ 192 ∧ M = zset (zset (zset (zset (zset (zset (zset N (26 + 2 * d) 0 1) (26 + 2 * d) 2 0) (26 + 2 * d) 4 k) (26 + 2 * d) 5 f) (26 + 2 * d) 6 (max x (-x))) (26 + 2 * d) 7 (max y (-y))) (26 + 2 * d) 8 g))  -- p11.h2
          intro _ h; omega

