theorem qFa.b {w h t : Int} {D L F : Int → Int} {N f k r : Int} (hw : w ≤ 16) (hh : h ≤ 12) (G : gLab (gD w h) (gA t D) L N F) (hc : ∀ i, gD w h i → 0 ≤ D i ∧ D i ≤ 15) (hf : 0 ≤ f ∧ f < N) (H : qFa w h t D L F N f k r) : -1 ≤ r ∧ r ≤ 1000 := by
  have gF := G.fst f hf.1 hf.2
  have N2 := G.le (a := 192) (fun x d => d.1) (fun x d => by omega) (by decide)
  unfold qFa at H
  by_cases k0 : k = 0
  · rw [if_pos k0] at H; have := zc_b (fun i => L i = f) 192 (by decide); omega
  rw [if_neg k0] at H
  by_cases k1 : k = 1
  · rw [if_pos k1] at H; have := hc _ gF.1; omega
  rw [if_neg k1] at H
  by_cases k2 : k = 2
  · rw [if_pos k2] at H; omega
  rw [if_neg k2] at H
  by_cases k3 : k = 3 ∨ k = 4 ∨ k = 5 ∨ k = 6
  · rw [if_pos k3] at H
    obtain ⟨l, rr, u, b, ⟨B, ⟨x1, d1, _, e1⟩, ⟨x2, d2, l2, e2⟩, ⟨x3, d3, _, e3⟩, ⟨x4, d4, l4, e4⟩⟩, e⟩ := H
    have a1 := B x2 d2 l2
    have a2 := B x4 d4 l4
    split at e
    · omega
    · split at e
      · omega
      · split at e <;> omega
  rw [if_neg k3] at H
  by_cases k7 : k = 7
  · rw [if_pos k7] at H
    obtain ⟨Q, F', g⟩ := H
    have g0 := g.nn
    have g1 := gLab.le (a := 252) (fun x d => d.1) (fun x d => by have := d.2.1; have := d.2.2.1; omega) (by decide) g
    omega
  rw [if_neg k7] at H
  by_cases k8 : k = 8
  · rw [if_pos k8] at H; have := zc_b (fun o => o ≠ f ∧ gNB w h L f o) N G.nn; omega
  rw [if_neg k8] at H
  by_cases k9 : k = 9
  · rw [if_pos k9] at H; have := zc_b (fun o => o ≠ f ∧ gLies w h t L F f o) N G.nn; omega
  rw [if_neg k9] at H
  by_cases k10 : k = 10
  · rw [if_pos k10] at H
    have r0 := H.1
    obtain ⟨x, y, s⟩ := H.2.1
    by_cases z : 1 ≤ r
    · have := gSqr_in hf.1 s z; omega
    · omega
  rw [if_neg k10] at H
  have := H.1
  have := H.2.1
  omega
theorem bI.f5 {M M' : zM} (H : bI M) (w : ∀ c i, ¬ bWk c i → c ≤ 102 → c ≠ 75 → M' c i = M c i) : bI M' := by
  obtain ⟨h1, h2, h3, h4, h5, ⟨h6, h7, h8⟩, ⟨h9, h10, h11, h12, h12b⟩, ⟨h13, h14, h15, h16, h17⟩, h18⟩ := H
  have a0 := w 1 0 (by omega) (by omega) (by omega)
  have a1 := w 1 1 (by omega) (by omega) (by omega)
  have a2 := w 1 2 (by omega) (by omega) (by omega)
  have a3 := w 1 3 (by omega) (by omega) (by omega)
  have a4 := w 77 0 (by omega) (by omega) (by omega)
  have a5 := w 77 1 (by omega) (by omega) (by omega)
  have a6 := w 77 2 (by omega) (by omega) (by omega)
  have a7 := w 99 0 (by omega) (by omega) (by omega)
  have a8 := w 99 1 (by omega) (by omega) (by omega)
  have a9 := w 99 3 (by omega) (by omega) (by omega)
  have a9b := w 99 2 (by omega) (by omega) (by omega)
  have a10 := w 57 0 (by omega) (by omega) (by omega)
  have a11 := w 57 4 (by omega) (by omega) (by omega)
  have a12 := w 0 12 (by omega) (by omega) (by omega)
  refine ⟨by unfold bDim; rw [a0, a1]; exact h1, by rw [a2]; exact h2, by rw [a3]; exact h3, fun i i0 i1 => by rw [w 2 i (by omega) (by omega) (by omega)]; exact h4 i i0 i1, fun i i0 i1 => by rw [w 3 i (by omega) (by omega) (by omega)]; exact h5 i i0 i1,
    ⟨by rw [a4, a5]; exact h6, by rw [a6]; exact h7, fun k i k0 k1 i0 i1 => by rw [w (79 + k) i (by omega) (by omega) (by omega)]; exact h8 k i k0 k1 i0 i1⟩,
    ⟨by rw [a9]; exact h9, by rw [a12, a7, a8]; exact h10, fun i i0 i1 => by rw [w 100 i (by omega) (by omega) (by omega)]; exact h11 i i0 i1, fun i i0 i1 => by rw [w 101 i (by omega) (by omega) (by omega)]; exact h12 i i0 i1, by rw [a9b]; exact h12b⟩,
    ⟨by rw [a10]; exact h13, by rw [a11]; exact h14, fun i i0 i1 => by rw [w 72 i (by omega) (by omega) (by omega)]; exact h15 i i0 i1, fun i i0 i1 => by rw [w 73 i (by omega) (by omega) (by omega)]; exact h16 i i0 i1, fun i i0 i1 => by rw [w 71 i (by omega) (by omega) (by omega)]; exact h17 i i0 i1⟩,
    fun d d0 d1 => ?_⟩
  rw [w (26 + 2 * d) 2 (by omega) (by omega) (by omega), w (26 + 2 * d) 5 (by omega) (by omega) (by omega), w (26 + 2 * d) 6 (by omega) (by omega) (by omega), w (26 + 2 * d) 7 (by omega) (by omega) (by omega), w (26 + 2 * d) 8 (by omega) (by omega) (by omega)]
  exact h18 d d0 d1
abbrev pr_X11_ruleFault (d : Int) (M : zM) : Prop := (bI M) ∧ (bK M) ∧ (bFd M)
abbrev po_X11_ruleFault (d : Int) (M : zM) (r : Int) (M' : zM) : Prop := (bW M M') ∧ (bK M') ∧ (¬ bTok M d → r = qRf d (M (26 + 2 * d) 0)) ∧ (bTok M d → (r = -4 ∧ ∃ v, gRy (M (26 + 2 * d + 1)) (M (26 + 2 * d) 2) (M 75) v) ∨ (0 ≤ r ∧ gRb (M (26 + 2 * d + 1)) (M (26 + 2 * d) 2) (M 75) r))
set_option maxHeartbeats 1000000 in
theorem ok_X11_ruleFault : zSnd zS 145 0 0 yX11_ruleFault cX11_ruleFault 4 (some .int) 42 [2, 0] (F_X11_ruleFault pr_X11_ruleFault po_X11_ruleFault) := by
  refine (sn2_X11_ruleFault ok_X11_refusalOfText ok_X11_shelfAt ok_X7_read).mono ?_
  rintro xs P M hz hR ⟨d, rfl, ⟨hI, hK, hF⟩, hP⟩
  refine ⟨_, rfl, ?_⟩
  have z_d := zall_h (zall_t hz) (by decide)
  change vc_X11_ruleFault pr_X11_refusalOfText po_X11_refusalOfText pr_X11_shelfAt po_X11_shelfAt pr_X7_read po_X7_read d P M
  unfold vc_X11_ruleFault
  have gc1 : pr_X11_refusalOfText d M := trivial
  refine ⟨gc1, ?_⟩
  rintro r1 M2 ⟨q_rfl, e_r1⟩ z_r1 z_M2
  have q_rfl := q_rfl.symm
  subst q_rfl
  have gc2 : pr_X11_shelfAt d M := trivial
  refine ⟨gc2, ?_⟩
  rintro r7 M8 ⟨q_rfl, e_r7⟩ z_r7 z_M8
  have q_rfl := q_rfl.symm
  subst q_rfl
  refine ⟨fun b1 => ?_, fun b1 => ?_⟩
  · -- b1.1
    refine hP _ _ ⟨?_, ?_, ?_, ?_⟩
    · show bW M M  -- p1.hw
      exact bW.r
    · show bK M  -- p1.hK
      exact hK
    · show ¬ bTok M d → r1 = qRf d (M (26 + 2 * d) 0)  -- p1.hn
      intro k; exact (bTok.no k e_r1).1
    · show bTok M d → (r1 = -4 ∧ ∃ v, gRy (M (26 + 2 * d + 1)) (M (26 + 2 * d) 2) (M 75) v) ∨ (0 ≤ r1 ∧ gRb (M (26 + 2 * d + 1)) (M (26 + 2 * d) 2) (M 75) r1)  -- p1.hy
      intro k; have := bTok.yes k e_r1; omega
  · -- b1.2
    refine ⟨fun b2 => ?_, fun b2 => ?_⟩
    · -- b2.1
      have hd : 0 ≤ d ∧ d < 8 := by
        apply Classical.byContradiction
        intro k; rw [if_neg k] at e_r7; omega
      have e7 : r7 = 26 + 2 * d := by rw [if_pos hd] at e_r7; exact e_r7
      have sh : zsh r7 := ⟨d, hd.1, hd.2, e7⟩
      have S := hI.s d hd.1 hd.2
      have yes : bTok M d := by
        apply Classical.byContradiction
        intro k; have := (bTok.no k e_r1).2; omega
      have o1 : zsh r7 := by
        exact sh
      refine ⟨o1, ?_⟩
      have gc3 : pr_X7_read (r7 + 1) (M r7 2) M := by
        refine ⟨?_, ?_, ?_, ?_⟩
        · show zia (r7 + 1)  -- c3.ha
          exact zsh_i sh
        · show (r7 + 1) ≠ 74 ∧ 0 ≤ (r7 + 1)  -- c3.hb
          omega
        · show 0 ≤ (M r7 2) ∧ (M r7 2) ≤ 120 ∧ (M r7 2) ≤ zlni (r7 + 1)  -- c3.hn
          rw [zsh_l sh, e7]; omega
        · show bFd M  -- c3.hF
          exact hF
      refine ⟨gc3, ?_⟩
      rintro r16 M17 ⟨pc3_hf, pc3_hr, pc3_ho⟩ z_r16 z_M17
      refine hP _ _ ⟨?_, ?_, ?_, ?_⟩
      · show bW M M17  -- p2.hw
        intro c i k; exact pc3_hf c i (by omega)
      · show bK M17  -- p2.hK
        exact hK.fr (fun c i k => pc3_hf c i (by omega))
      · show ¬ bTok M d → (M17 74 1) = qRf d (M (26 + 2 * d) 0)  -- p2.hn
        intro k; exact absurd yes k
      · show bTok M d → ((M17 74 1) = -4 ∧ ∃ v, gRy (M (26 + 2 * d + 1)) (M (26 + 2 * d) 2) (M 75) v) ∨ (0 ≤ (M17 74 1) ∧ gRb (M (26 + 2 * d + 1)) (M (26 + 2 * d) 2) (M 75) (M17 74 1))  -- p2.hy
        intro _; rw [e7] at pc3_ho
        rcases pc3_ho with ⟨a, b⟩ | ⟨a, _, b⟩
        · exact .inl ⟨a, _, b⟩
        · exact .inr ⟨a, b⟩
    · -- b2.2
      refine hP _ _ ⟨?_, ?_, ?_, ?_⟩
      · show bW M M  -- p3.hw
        exact bW.r
      · show bK M  -- p3.hK
        exact hK
      · show ¬ bTok M d → r1 = qRf d (M (26 + 2 * d) 0)  -- p3.hn
        intro k; exact (bTok.no k e_r1).1
      · show bTok M d → (r1 = -4 ∧ ∃ v, gRy (M (26 + 2 * d + 1)) (M (26 + 2 * d) 2) (M 75) v) ∨ (0 ≤ r1 ∧ gRb (M (26 + 2 * d + 1)) (M (26 + 2 * d) 2) (M 75) r1)  -- p3.hy
        intro k; rw [if_pos k.1] at e_r7; omega

abbrev pr_X11_rule (d : Int) (M : zM) : Prop := (bI M) ∧ (bK M) ∧ (bFd M)
abbrev po_X11_rule (d : Int) (M : zM) (r : Int) (M' : zM) : Prop := (¬ (0 ≤ d ∧ d < 8) → r = -1 ∧ M' = M) ∧ (0 ≤ d ∧ d < 8 → M 57 0 = 12 → r = -2 ∧ M' = M) ∧ (0 ≤ d ∧ d < 8 → M 57 0 < 12 → ¬ bTok M d → r = qRf d (M (26 + 2 * d) 0) ∧ M' = M) ∧ (bTok M d → M 57 0 < 12 → (∃ q, gRb (M (26 + 2 * d + 1)) (M (26 + 2 * d) 2) (M 75) q ∧ r = -100 - q ∧ bW M M' ∧ bK M') ∨ ((∃ v, gRy (M (26 + 2 * d + 1)) (M (26 + 2 * d) 2) (M 75) v) ∧ r = M 57 0 ∧ (M' 57 0 = M 57 0 + 1 ∧ M' 71 (M 57 0) = M (26 + 2 * d) 2 ∧ M' 72 (M 57 0) = 1) ∧ (∀ i, 0 ≤ i → i < M (26 + 2 * d) 2 → M' (59 + M 57 0) i = M (26 + 2 * d + 1) i) ∧ (∀ c i, ¬ bWk c i → ¬ (c = 57 ∧ i = 0) → ¬ (c = 71 ∧ i = M 57 0) → ¬ (c = 72 ∧ i = M 57 0) → ¬ (c = 59 + M 57 0 ∧ 0 ≤ i ∧ i < M (26 + 2 * d) 2) → M' c i = M c i) ∧ bK M'))
set_option maxHeartbeats 2000000 in
theorem ok_X11_rule : zSnd zS 145 0 0 yX11_rule cX11_rule 4 (some .int) 42 [2, 0] (F_X11_rule pr_X11_rule po_X11_rule) := by
  refine (sn2_X11_rule ok_X11_shelfAt ok_X11_refusalOfText ok_X7_read ok_X8_add).mono ?_
  rintro xs P M hz hR ⟨d, rfl, ⟨hI, hK, hF⟩, hP⟩
  refine ⟨_, rfl, ?_⟩
  have z_d := zall_h (zall_t hz) (by decide)
  change vc_X11_rule pr_X11_shelfAt po_X11_shelfAt pr_X11_refusalOfText po_X11_refusalOfText pr_X7_read po_X7_read pr_X8_add po_X8_add d P M
  unfold vc_X11_rule
  have R0 := hI.r.1
  have gc1 : pr_X11_shelfAt d M := trivial
  refine ⟨gc1, ?_⟩
  rintro r1 M2 ⟨q_rfl, e_r1⟩ z_r1 z_M2
  have q_rfl := q_rfl.symm
  subst q_rfl
  refine ⟨fun b1 => ?_, fun b1 => ?_⟩
  · -- b1.1
    have hd : 0 ≤ d ∧ d < 8 := by
      apply Classical.byContradiction
      intro k; rw [if_neg k] at e_r1; omega
    have e1 : r1 = 26 + 2 * d := by rw [if_pos hd] at e_r1; exact e_r1
    have sh : zsh r1 := ⟨d, hd.1, hd.2, e1⟩
    have S := hI.s d hd.1 hd.2
    subst e1
    refine ⟨fun b2 => ?_, fun b2 => ?_⟩
    · -- b2.1
      have gc2 : pr_X11_refusalOfText d M := trivial
      refine ⟨gc2, ?_⟩
      rintro r9 M10 ⟨q_rfl, e_r9⟩ z_r9 z_M10
      have q_rfl := q_rfl.symm
      subst q_rfl
      refine ⟨fun b3 => ?_, fun b3 => ?_⟩
      · -- b3.1
        have yes : bTok M d := by
          apply Classical.byContradiction
          intro k; have := (bTok.no k e_r9).2; omega
        have o1 : zsh (26 + 2 * d) := by
          exact sh
        refine ⟨o1, ?_⟩
        have gc3 : pr_X7_read ((26 + 2 * d) + 1) (M (26 + 2 * d) 2) M := by
          refine ⟨?_, ?_, ?_, ?_⟩
          · show zia ((26 + 2 * d) + 1)  -- c3.ha
            exact zsh_i sh
          · show ((26 + 2 * d) + 1) ≠ 74 ∧ 0 ≤ ((26 + 2 * d) + 1)  -- c3.hb
            omega
          · show 0 ≤ (M (26 + 2 * d) 2) ∧ (M (26 + 2 * d) 2) ≤ 120 ∧ (M (26 + 2 * d) 2) ≤ zlni ((26 + 2 * d) + 1)  -- c3.hn
            rw [zsh_l sh]; omega
          · show bFd M  -- c3.hF
            exact hF
        refine ⟨gc3, ?_⟩
        rintro r17 M18 ⟨pc3_hf, pc3_hr, pc3_ho⟩ z_r17 z_M18
        have w3 : bW M M18 := fun c i k => pc3_hf c i (by omega)
        have K3 : bK M18 := hK.fr (fun c i k => pc3_hf c i (by omega))
        have e57 : M18 57 0 = M 57 0 := pc3_hf 57 0 (by decide)
        have e2 : M18 (26 + 2 * d) 2 = M (26 + 2 * d) 2 := pc3_hf _ 2 (by omega)
        have eT : M18 (26 + 2 * d + 1) = M (26 + 2 * d + 1) := funext fun i => pc3_hf _ i (by omega)
        refine ⟨fun b4 => ?_, fun b4 => ?_⟩
        · -- b4.1
          have gc4 : pr_X8_add ((26 + 2 * d) + 1) (M18 (26 + 2 * d) 2) M18 := by
            refine ⟨?_, ?_, ?_⟩
            · show zia ((26 + 2 * d) + 1)  -- c4.ha
              exact zsh_i sh
            · show 0 ≤ (M18 (26 + 2 * d) 2) ∧ (M18 (26 + 2 * d) 2) ≤ 120 ∧ (M18 (26 + 2 * d) 2) ≤ zlni ((26 + 2 * d) + 1)  -- c4.hn
              rw [zsh_l sh, e2]; omega
            · show 0 ≤ M18 57 0 ∧ M18 57 0 ≤ 12  -- c4.h0
              rw [e57]; exact R0
          refine ⟨gc4, ?_⟩
          rintro r24 M25 pc4_ho z_r24 z_M25
          refine hP _ _ ⟨?_, ?_, ?_, ?_⟩
          · show ¬ (0 ≤ d ∧ d < 8) → r24 = -1 ∧ M25 = M  -- p1.hn1
            intro k; exact absurd hd k
          · show 0 ≤ d ∧ d < 8 → M 57 0 = 12 → r24 = -2 ∧ M25 = M  -- p1.hn2
            intro _ h; omega
          · show 0 ≤ d ∧ d < 8 → M 57 0 < 12 → ¬ bTok M d → r24 = qRf d (M (26 + 2 * d) 0) ∧ M25 = M  -- p1.hn3
            intro _ _ k; exact absurd yes k
          · show bTok M d → M 57 0 < 12 → (∃ q, gRb (M (26 + 2 * d + 1)) (M (26 + 2 * d) 2) (M 75) q ∧ r24 = -100 - q ∧ bW M M25 ∧ bK M25) ∨ ((∃ v, gRy (M (26 + 2 * d + 1)) (M (26 + 2 * d) 2) (M 75) v) ∧ r24 = M 57 0 ∧ (M25 57 0 = M 57 0 + 1 ∧ M25 71 (M 57 0) = M (26 + 2 * d) 2 ∧ M25 72 (M 57 0) = 1) ∧ (∀ i, 0 ≤ i → i < M (26 + 2 * d) 2 → M25 (59 + M 57 0) i = M (26 + 2 * d + 1) i) ∧ (∀ c i, ¬ bWk c i → ¬ (c = 57 ∧ i = 0) → ¬ (c = 71 ∧ i = M 57 0) → ¬ (c = 72 ∧ i = M 57 0) → ¬ (c = 59 + M 57 0 ∧ 0 ≤ i ∧ i < M (26 + 2 * d) 2) → M25 c i = M c i) ∧ bK M25)  -- p1.hy
            intro _ _
            unfold po_X8_add at pc4_ho
            rcases pc3_ho with ⟨a, b⟩ | ⟨a, _, b⟩
            · rw [e57, e2, eT] at pc4_ho
              rcases pc4_ho with ⟨c, _⟩ | ⟨c, c1, c2, c3, c4, c5, c6⟩
              · omega
              · refine .inr ⟨⟨_, b⟩, c1, ⟨c2, c3, c4⟩, c5, fun c i k1 k2 k3 k4 k5 => ?_, ?_⟩
                · rw [c6 c i k2 k3 k4 k5]; exact w3 c i k1
                · exact K3.fr (fun c i k => c6 c i (by omega) (by omega) (by omega) (by omega))
            · omega
        · -- b4.2
          have o2 : zin ((-100) - (M18 74 1)) := by
            rcases pc3_ho with ⟨a, b⟩ | ⟨a, _, b⟩ <;> omega
          refine ⟨o2, ?_⟩
          refine hP _ _ ⟨?_, ?_, ?_, ?_⟩
          · show ¬ (0 ≤ d ∧ d < 8) → ((-100) - (M18 74 1)) = -1 ∧ M18 = M  -- p2.hn1
            intro k; exact absurd hd k
          · show 0 ≤ d ∧ d < 8 → M 57 0 = 12 → ((-100) - (M18 74 1)) = -2 ∧ M18 = M  -- p2.hn2
            intro _ h; omega
          · show 0 ≤ d ∧ d < 8 → M 57 0 < 12 → ¬ bTok M d → ((-100) - (M18 74 1)) = qRf d (M (26 + 2 * d) 0) ∧ M18 = M  -- p2.hn3
            intro _ _ k; exact absurd yes k
          · show bTok M d → M 57 0 < 12 → (∃ q, gRb (M (26 + 2 * d + 1)) (M (26 + 2 * d) 2) (M 75) q ∧ ((-100) - (M18 74 1)) = -100 - q ∧ bW M M18 ∧ bK M18) ∨ ((∃ v, gRy (M (26 + 2 * d + 1)) (M (26 + 2 * d) 2) (M 75) v) ∧ ((-100) - (M18 74 1)) = M 57 0 ∧ (M18 57 0 = M 57 0 + 1 ∧ M18 71 (M 57 0) = M (26 + 2 * d) 2 ∧ M18 72 (M 57 0) = 1) ∧ (∀ i, 0 ≤ i → i < M (26 + 2 * d) 2 → M18 (59 + M 57 0) i = M (26 + 2 * d + 1) i) ∧ (∀ c i, ¬ bWk c i → ¬ (c = 57 ∧ i = 0) → ¬ (c = 71 ∧ i = M 57 0) → ¬ (c = 72 ∧ i = M 57 0) → ¬ (c = 59 + M 57 0 ∧ 0 ≤ i ∧ i < M (26 + 2 * d) 2) → M18 c i = M c i) ∧ bK M18)  -- p2.hy
            intro _ _
            rcases pc3_ho with ⟨a, b⟩ | ⟨a, _, b⟩
            · exact absurd a b4
            · exact .inl ⟨_, b, rfl, w3, K3⟩
      · -- b3.2
        refine hP _ _ ⟨?_, ?_, ?_, ?_⟩
        · show ¬ (0 ≤ d ∧ d < 8) → r9 = -1 ∧ M = M  -- p3.hn1
          intro k; exact absurd hd k
        · show 0 ≤ d ∧ d < 8 → M 57 0 = 12 → r9 = -2 ∧ M = M  -- p3.hn2
          intro _ h; omega
        · show 0 ≤ d ∧ d < 8 → M 57 0 < 12 → ¬ bTok M d → r9 = qRf d (M (26 + 2 * d) 0) ∧ M = M  -- p3.hn3
          intro _ _ k; exact ⟨(bTok.no k e_r9).1, rfl⟩
        · show bTok M d → M 57 0 < 12 → (∃ q, gRb (M (26 + 2 * d + 1)) (M (26 + 2 * d) 2) (M 75) q ∧ r9 = -100 - q ∧ bW M M ∧ bK M) ∨ ((∃ v, gRy (M (26 + 2 * d + 1)) (M (26 + 2 * d) 2) (M 75) v) ∧ r9 = M 57 0 ∧ (M 57 0 = M 57 0 + 1 ∧ M 71 (M 57 0) = M (26 + 2 * d) 2 ∧ M 72 (M 57 0) = 1) ∧ (∀ i, 0 ≤ i → i < M (26 + 2 * d) 2 → M (59 + M 57 0) i = M (26 + 2 * d + 1) i) ∧ (∀ c i, ¬ bWk c i → ¬ (c = 57 ∧ i = 0) → ¬ (c = 71 ∧ i = M 57 0) → ¬ (c = 72 ∧ i = M 57 0) → ¬ (c = 59 + M 57 0 ∧ 0 ≤ i ∧ i < M (26 + 2 * d) 2) → M c i = M c i) ∧ bK M)  -- p3.hy
          intro k; have := bTok.yes k e_r9; omega
    · -- b2.2
      refine hP _ _ ⟨?_, ?_, ?_, ?_⟩
      · show ¬ (0 ≤ d ∧ d < 8) → (-2) = -1 ∧ M = M  -- p4.hn1
        intro k; exact absurd hd k
      · show 0 ≤ d ∧ d < 8 → M 57 0 = 12 → (-2) = -2 ∧ M = M  -- p4.hn2
        intro _ _; exact ⟨rfl, rfl⟩
      · show 0 ≤ d ∧ d < 8 → M 57 0 < 12 → ¬ bTok M d → (-2) = qRf d (M (26 + 2 * d) 0) ∧ M = M  -- p4.hn3
        intro _ h; exact absurd h b2
      · show bTok M d → M 57 0 < 12 → (∃ q, gRb (M (26 + 2 * d + 1)) (M (26 + 2 * d) 2) (M 75) q ∧ (-2) = -100 - q ∧ bW M M ∧ bK M) ∨ ((∃ v, gRy (M (26 + 2 * d + 1)) (M (26 + 2 * d) 2) (M 75) v) ∧ (-2) = M 57 0 ∧ (M 57 0 = M 57 0 + 1 ∧ M 71 (M 57 0) = M (26 + 2 * d) 2 ∧ M 72 (M 57 0) = 1) ∧ (∀ i, 0 ≤ i → i < M (26 + 2 * d) 2 → M (59 + M 57 0) i = M (26 + 2 * d + 1) i) ∧ (∀ c i, ¬ bWk c i → ¬ (c = 57 ∧ i = 0) → ¬ (c = 71 ∧ i = M 57 0) → ¬ (c = 72 ∧ i = M 57 0) → ¬ (c = 59 + M 57 0 ∧ 0 ≤ i ∧ i < M (26 + 2 * d) 2) → M c i = M c i) ∧ bK M)  -- p4.hy
        intro _ h; exact absurd h b2
  · -- b1.2
    refine hP _ _ ⟨?_, ?_, ?_, ?_⟩
    · show ¬ (0 ≤ d ∧ d < 8) → (-1) = -1 ∧ M = M  -- p5.hn1
      intro _; exact ⟨rfl, rfl⟩
    · show 0 ≤ d ∧ d < 8 → M 57 0 = 12 → (-1) = -2 ∧ M = M  -- p5.hn2
      intro k; rw [if_pos k] at e_r1; omega
    · show 0 ≤ d ∧ d < 8 → M 57 0 < 12 → ¬ bTok M d → (-1) = qRf d (M (26 + 2 * d) 0) ∧ M = M  -- p5.hn3
      intro k; rw [if_pos k] at e_r1; omega
    · show bTok M d → M 57 0 < 12 → (∃ q, gRb (M (26 + 2 * d + 1)) (M (26 + 2 * d) 2) (M 75) q ∧ (-1) = -100 - q ∧ bW M M ∧ bK M) ∨ ((∃ v, gRy (M (26 + 2 * d + 1)) (M (26 + 2 * d) 2) (M 75) v) ∧ (-1) = M 57 0 ∧ (M 57 0 = M 57 0 + 1 ∧ M 71 (M 57 0) = M (26 + 2 * d) 2 ∧ M 72 (M 57 0) = 1) ∧ (∀ i, 0 ≤ i → i < M (26 + 2 * d) 2 → M (59 + M 57 0) i = M (26 + 2 * d + 1) i) ∧ (∀ c i, ¬ bWk c i → ¬ (c = 57 ∧ i = 0) → ¬ (c = 71 ∧ i = M 57 0) → ¬ (c = 72 ∧ i = M 57 0) → ¬ (c = 59 + M 57 0 ∧ 0 ≤ i ∧ i < M (26 + 2 * d) 2) → M c i = M c i) ∧ bK M)  -- p5.hy
      intro k; rw [if_pos k.1] at e_r1; omega

def gRv (T : Int → Int) (n : Int) : Prop := ∀ φ, ∃ v, (v = 0 ∨ v = 1) ∧ gRy T n φ v
def qSr (num : Int) (told : Int → Int) (TT : Int → Int → Int) (nn : Int → Int) (φ : Int → Int) (r : Int) : Prop :=
  (∃ q, (0 ≤ q ∧ q < num) ∧ told q ≠ 0 ∧ gRy (TT q) (nn q) φ 1 ∧ r = TT q 0 ∧ ∀ j, 0 ≤ j → j < q → told j ≠ 0 → gRy (TT j) (nn j) φ 0) ∨ (r = -4 ∧ ∀ j, 0 ≤ j → j < num → told j ≠ 0 → gRy (TT j) (nn j) φ 0)
def qFi (w h t : Int) (D L F : Int → Int) (N f : Int) (φ : Int → Int) : Prop := (∀ j, 0 ≤ j → j < 12 → qFa w h t D L F N f j (φ j)) ∧ φ 12 = zc (fun g => gLk w h L g f) N
def zia59 : ∀ j : Fin 12, zia (59 + (j.val : Nat)) ∧ zlni (59 + (j.val : Nat)) = 120 := by
  intro j
  match j with
  | 0 => exact ⟨zia_k (by decide +kernel), rfl⟩
  | 1 => exact ⟨zia_k (by decide +kernel), rfl⟩
  | 2 => exact ⟨zia_k (by decide +kernel), rfl⟩
  | 3 => exact ⟨zia_k (by decide +kernel), rfl⟩
  | 4 => exact ⟨zia_k (by decide +kernel), rfl⟩
  | 5 => exact ⟨zia_k (by decide +kernel), rfl⟩
  | 6 => exact ⟨zia_k (by decide +kernel), rfl⟩
  | 7 => exact ⟨zia_k (by decide +kernel), rfl⟩
  | 8 => exact ⟨zia_k (by decide +kernel), rfl⟩
  | 9 => exact ⟨zia_k (by decide +kernel), rfl⟩
  | 10 => exact ⟨zia_k (by decide +kernel), rfl⟩
  | 11 => exact ⟨zia_k (by decide +kernel), rfl⟩
theorem zru_i {q : Int} (q0 : 0 ≤ q) (q1 : q < 12) : zia (59 + q) ∧ zlni (59 + q) = 120 := by
  have h := zia59 ⟨q.toNat, by omega⟩
  rw [show ((q.toNat : Nat) : Int) = q by omega] at h
  exact h
abbrev pr_X11_sign (f : Int) (M : zM) : Prop := (bI M) ∧ (bK M) ∧ (bFd M) ∧ (∀ q, 0 ≤ q → q < M 57 0 → gRv (M (59 + q)) (M 71 q))
abbrev po_X11_sign (f : Int) (M : zM) (r : Int) (M' : zM) : Prop := (∀ c i, ¬ bWk c i → c ≠ 75 → M' c i = M c i) ∧ (bQ M') ∧ (bFd M') ∧ (qI (0 ≤ f ∧ f < M' 5 2) (∃ φ, qFi (M' 1 0) (M' 1 1) (M' 1 2) (M' 2) (M' 12) (M' 7) (M' 5 2) f φ ∧ qSr (M 57 0) (M 72) (fun q => M (59 + q)) (M 71) φ r) r)
set_option maxHeartbeats 4000000 in
theorem ok_X11_sign : zSnd zS 145 0 0 yX11_sign cX11_sign 3 (some .int) 42 [2, 0] (F_X11_sign pr_X11_sign po_X11_sign) := by
  refine (sn2_X11_sign ok_X11_isFace ok_X9_countLike ok_X7_read ok_X11_measure).mono ?_
  rintro xs P M hz hR ⟨f, rfl, ⟨hI, hK, hF, hv⟩, hP⟩
  refine ⟨_, rfl, ?_⟩
  have z_f := zall_h (zall_t hz) (by decide)
  change vc_X11_sign pr_X11_isFace po_X11_isFace pr_X9_countLike po_X9_countLike pr_X7_read po_X7_read pr_X11_measure po_X11_measure f P M
  unfold vc_X11_sign
  have gc1 : pr_X11_isFace f M := by
    refine ⟨?_, ?_⟩
    · show bI M  -- c1.hI
      exact hI
    · show bK M  -- c1.hK
      exact hK
  refine ⟨gc1, ?_⟩
  rintro r1 M2 ⟨pc1_hf, pc1_hQ, pc1_hs, pc1_hr⟩ z_r1 z_M2
  have I2 := hI.face pc1_hf
  have N2 := pc1_hQ.N I2
  refine ⟨fun b1 => ?_, fun b1 => ?_⟩
  · -- b1.1
    have ha := pc1_hr.ne.1 b1
    have R0 := hI.r
    have F2 : bFd M2 := hF.w (fun c i k => pc1_hf c i (by omega) (by omega))
    have d2 := I2.d
    have qb : ∀ j x, qFa (M2 1 0) (M2 1 1) (M2 1 2) (M2 2) (M2 12) (M2 7) (M2 5 2) f j x → -1 ≤ x ∧ x ≤ 1000 := fun j x q => q.b (by omega) (by omega) pc1_hQ.ok.1 (fun i d => I2.c i d.1 (by omega)) ha
    refine ⟨fun v8 M10 n12 => (n12 : Int) = (20 - v8) ∧ (0 ≤ v8 ∧ v8 ≤ 12) ∧ (∀ c i, ¬ (13 ≤ c ∧ c ≤ 24) → ¬ (48 ≤ c ∧ c ≤ 49) → ¬ (c = 5 ∧ 14 ≤ i) → c ≠ 75 → M10 c i = M2 c i) ∧ (bQ M10) ∧ (bFd M10) ∧ (∀ j, 0 ≤ j → j < v8 → qFa (M2 1 0) (M2 1 1) (M2 1 2) (M2 2) (M2 12) (M2 7) (M2 5 2) f j (M10 75 j)), ⟨Int.toNat (20 - 0), by omega, ?_, ?_, ?_, ?_, ?_⟩, ?_⟩
    · show 0 ≤ 0 ∧ 0 ≤ 12  -- I12.0.hv8
      first | with_reducible assumption | omega | exact trivial | with_reducible rfl
    · show ∀ c i, ¬ (13 ≤ c ∧ c ≤ 24) → ¬ (48 ≤ c ∧ c ≤ 49) → ¬ (c = 5 ∧ 14 ≤ i) → c ≠ 75 → M2 c i = M2 c i  -- I12.0.kf
      intro c i _ _ _ _; rfl
    · show bQ M2  -- I12.0.kQ
      exact pc1_hQ
    · show bFd M2  -- I12.0.kF
      exact F2
    · show ∀ j, 0 ≤ j → j < 0 → qFa (M2 1 0) (M2 1 1) (M2 1 2) (M2 2) (M2 12) (M2 7) (M2 5 2) f j (M2 75 j)  -- I12.0.kx
      intro j j0 j1; omega
    rintro v8 M10 n12 ⟨h_n12, hv8, kf, kQ, kF, kx⟩ z_v8 z_M10
    have I3 : bI M10 := I2.f5 (fun c i k _ e => kf c i (by omega) (by omega) (by omega) e)
    obtain ⟨v0, v1, v2, v3, v4, v5, v6⟩ := bVe.of (M := M2) (M' := M10) (fun c i k => kf c i (by omega) (by omega) (by omega) (by omega))
    refine ⟨fun b2 => ?_, fun b2 => ?_⟩
    · -- b2.1
      have gc2 : pr_X9_countLike f M10 := by
        refine ⟨?_, ?_, ?_⟩
        · show bDim M10  -- c2.hd
          exact I3.d
        · show bFok M10  -- c2.hF
          exact kQ.ok
        · show 0 ≤ f ∧ f < M10 5 2  -- c2.ha
          omega
      refine ⟨gc2, ?_⟩
      rintro r20 M21 ⟨q_rfl, e_r20⟩ z_r20 z_M21
      have q_rfl := q_rfl.symm
      subst q_rfl
      intro M26 e_M26
      have f26 : ∀ c i, ¬ (13 ≤ c ∧ c ≤ 24) → ¬ (48 ≤ c ∧ c ≤ 49) → ¬ (c = 5 ∧ 14 ≤ i) → c ≠ 75 → M26 c i = M2 c i := fun c i a1 a2 a3 a4 => by rw [e_M26, zset_n _ (by omega)]; exact kf c i a1 a2 a3 a4
      have Q26 : bQ M26 := kQ.fr (fun c i k => by rw [e_M26, zset_n _ (by omega)])
      have x12 : M26 75 12 = zc (fun g => gLk (M2 1 0) (M2 1 1) (M2 12) g f) (M2 5 2) := by rw [e_M26, zset_s, e_r20, v0, v1, v4, v6]
      have x0 : ∀ j, 0 ≤ j → j < 12 → qFa (M2 1 0) (M2 1 1) (M2 1 2) (M2 2) (M2 12) (M2 7) (M2 5 2) f j (M26 75 j) := fun j j0 j1 => by rw [e_M26, zset_n _ (by omega)]; exact kx j j0 (by omega)
      have F26 : bFd M26 := fun j j0 j1 => by
        by_cases e : j = 12
        · rw [e, x12]; have := zc_b (fun g => gLk (M2 1 0) (M2 1 1) (M2 12) g f) (M2 5 2) N2.1; omega
        · have := qb j _ (x0 j j0 (by omega)); omega
      have w26 : ∀ c i, ¬ bWk c i → c ≠ 75 → M26 c i = M c i := fun c i k e => by rw [f26 c i (by omega) (by omega) (by omega) e]; exact pc1_hf c i (by omega) (by omega)
      have q57 : M26 57 0 = M 57 0 := w26 57 0 (by omega) (by decide)
      refine ⟨fun v29 M31 n33 => (n33 : Int) = (20 - v29) ∧ (0 ≤ v29 ∧ v29 ≤ M 57 0) ∧ (∀ c i, c ≠ 74 → M31 c i = M26 c i) ∧ (∀ j, 0 ≤ j → j < v29 → M 72 j ≠ 0 → gRy (M (59 + j)) (M 71 j) (M26 75) 0), ⟨Int.toNat (20 - 0), by omega, ?_, ?_, ?_⟩, ?_⟩
      · show 0 ≤ 0 ∧ 0 ≤ M 57 0  -- I59.0.hv29
        first | with_reducible assumption | omega | exact trivial | with_reducible rfl
      · show ∀ c i, c ≠ 74 → M26 c i = M26 c i  -- I59.0.jf
        intro c i _; rfl
      · show ∀ j, 0 ≤ j → j < 0 → M 72 j ≠ 0 → gRy (M (59 + j)) (M 71 j) (M26 75) 0  -- I59.0.jx
        intro j j0 j1; omega
      rintro v29 M31 n33 ⟨h_n33, hv29, jf, jx⟩ z_v29 z_M31
      have q57' : M31 57 0 = M 57 0 := by rw [jf 57 0 (by decide)]; exact q57
      have Q31 : bQ M31 := Q26.fr (fun c i k => jf c i (by omega))
      have F31 : bFd M31 := fun j j0 j1 => by rw [jf 75 j (by decide)]; exact F26 j j0 j1
      have q72 : ∀ j, M31 72 j = M 72 j := fun j => by rw [jf 72 j (by decide)]; exact w26 72 j (by omega) (by decide)
      have q71 : ∀ j, M31 71 j = M 71 j := fun j => by rw [jf 71 j (by decide)]; exact w26 71 j (by omega) (by decide)
      have qT : ∀ j, 0 ≤ j → j < 12 → M31 (59 + j) = M (59 + j) := fun j j0 j1 => funext fun i => by rw [jf _ i (by omega)]; exact w26 _ i (by omega) (by omega)
      have q75 : M31 75 = M26 75 := funext fun i => jf 75 i (by decide)
      refine ⟨fun b3 => ?_, fun b3 => ?_⟩
      · -- b3.1
        have fin : ∀ r, qSr (M 57 0) (M 72) (fun q => M (59 + q)) (M 71) (M26 75) r → qI (0 ≤ f ∧ f < M31 5 2) (∃ φ, qFi (M31 1 0) (M31 1 1) (M31 1 2) (M31 2) (M31 12) (M31 7) (M31 5 2) f φ ∧ qSr (M 57 0) (M 72) (fun q => M (59 + q)) (M 71) φ r) r := fun r h => by
          have g : ∀ c i, (c = 1 ∧ 0 ≤ i ∧ i ≤ 2) ∨ c = 2 ∨ c = 7 ∨ c = 12 ∨ (c = 5 ∧ i = 2) → M31 c i = M2 c i := fun c i k => by rw [jf c i (by omega)]; exact f26 c i (by omega) (by omega) (by omega) (by omega)
          obtain ⟨u0, u1, u2, u3, u4, u5, u6⟩ := bVe.of g
          rw [u0, u1, u2, u3, u4, u5, u6]
          exact qI.y ha ⟨M26 75, ⟨x0, x12⟩, h⟩
        refine hP _ _ ⟨?_, ?_, ?_, ?_⟩
        · show ∀ c i, ¬ bWk c i → c ≠ 75 → M31 c i = M c i  -- p1.hw
          intro c i k e; rw [jf c i (by omega)]; exact w26 c i k e
        · show bQ M31  -- p1.hQ
          exact Q31
        · show bFd M31  -- p1.hF
          exact F31
        · show qI (0 ≤ f ∧ f < M31 5 2) (∃ φ, qFi (M31 1 0) (M31 1 1) (M31 1 2) (M31 2) (M31 12) (M31 7) (M31 5 2) f φ ∧ qSr (M 57 0) (M 72) (fun q => M (59 + q)) (M 71) φ (-4)) (-4)  -- p1.hr
          exact fin _ (.inr ⟨rfl, fun j j0 j1 => jx j j0 (by omega)⟩)
      · -- b3.2
        have o1 : ((0 : Int) ≤ v29 ∧ v29 < 12) := by
          omega
        refine ⟨o1, ?_⟩
        refine ⟨fun b4 => ?_, fun b4 => ?_⟩
        · -- b4.1
          have o2 : zin (v29 + 1) := by
            first | with_reducible assumption | omega | exact trivial | with_reducible rfl  -- o2
          refine ⟨o2, ?_⟩
          refine ⟨Int.toNat (20 - (v29 + 1)), by omega, by omega, ?_, ?_, ?_⟩
          · show 0 ≤ (v29 + 1) ∧ (v29 + 1) ≤ M 57 0  -- I59.1.hv29
            first | with_reducible assumption | omega | exact trivial | with_reducible rfl
          · show ∀ c i, c ≠ 74 → M31 c i = M26 c i  -- I59.1.jf
            first | with_reducible assumption | omega | exact trivial | with_reducible rfl
          · show ∀ j, 0 ≤ j → j < (v29 + 1) → M 72 j ≠ 0 → gRy (M (59 + j)) (M 71 j) (M26 75) 0  -- I59.1.jx
            intro j j0 j1 t
            by_cases e : j = v29
            · rw [e, ← q72] at t; exact absurd b4 t
            · exact jx j j0 (by omega) t
        · -- b4.2
          have zr := zru_i (q := v29) (by omega) (by omega)
          have sz := R0.2.2.2.2 v29 (by omega) (by omega)
          have gc3 : pr_X7_read (59 + v29) (M31 71 v29) M31 := by
            refine ⟨?_, ?_, ?_, ?_⟩
            · show zia (59 + v29)  -- c3.ha
              exact zr.1
            · show (59 + v29) ≠ 74 ∧ 0 ≤ (59 + v29)  -- c3.hb
              omega
            · show 0 ≤ (M31 71 v29) ∧ (M31 71 v29) ≤ 120 ∧ (M31 71 v29) ≤ zlni (59 + v29)  -- c3.hn
              rw [zr.2, q71]; omega
            · show bFd M31  -- c3.hF
              exact F31
          refine ⟨gc3, ?_⟩
          rintro r47 M48 ⟨pc3_hf, pc3_hr, pc3_ho⟩ z_r47 z_M48
          have ho3 := pc3_ho
          rw [qT v29 (by omega) (by omega), q71, q75] at ho3
          have gy : gRy (M (59 + v29)) (M 71 v29) (M26 75) r47 := by
            obtain ⟨v, _, g⟩ := hv v29 (by omega) (by omega) (M26 75)
            rcases ho3 with ⟨_, a⟩ | ⟨_, _, a⟩
            · exact a
            · exact absurd (a.no g) (fun x => x)
          refine ⟨fun b5 => ?_, fun b5 => ?_⟩
          · -- b5.1
            have o3 : zin (v29 + 1) := by
              first | with_reducible assumption | omega | exact trivial | with_reducible rfl  -- o3
            refine ⟨o3, ?_⟩
            refine ⟨Int.toNat (20 - (v29 + 1)), by omega, by omega, ?_, ?_, ?_⟩
            · show 0 ≤ (v29 + 1) ∧ (v29 + 1) ≤ M 57 0  -- I59.2.hv29
              first | with_reducible assumption | omega | exact trivial | with_reducible rfl
            · show ∀ c i, c ≠ 74 → M48 c i = M26 c i  -- I59.2.jf
              intro c i k; rw [pc3_hf c i k]; exact jf c i k
            · show ∀ j, 0 ≤ j → j < (v29 + 1) → M 72 j ≠ 0 → gRy (M (59 + j)) (M 71 j) (M26 75) 0  -- I59.2.jx
              intro j j0 j1 t
              by_cases e : j = v29
              · rw [e, ← b5]; exact gy
              · exact jx j j0 (by omega) t
          · -- b5.2
            refine hP _ _ ⟨?_, ?_, ?_, ?_⟩
            · show ∀ c i, ¬ bWk c i → c ≠ 75 → M48 c i = M c i  -- p2.hw
              intro c i k e; rw [pc3_hf c i (by omega), jf c i (by omega)]; exact w26 c i k e
            · show bQ M48  -- p2.hQ
              exact Q31.fr (fun c i k => pc3_hf c i (by omega))
            · show bFd M48  -- p2.hF
              intro j j0 j1; rw [pc3_hf 75 j (by decide)]; exact F31 j j0 j1
            · show qI (0 ≤ f ∧ f < M48 5 2) (∃ φ, qFi (M48 1 0) (M48 1 1) (M48 1 2) (M48 2) (M48 12) (M48 7) (M48 5 2) f φ ∧ qSr (M 57 0) (M 72) (fun q => M (59 + q)) (M 71) φ (M48 (59 + v29) 0)) (M48 (59 + v29) 0)  -- p2.hr
              have g : ∀ c i, (c = 1 ∧ 0 ≤ i ∧ i ≤ 2) ∨ c = 2 ∨ c = 7 ∨ c = 12 ∨ (c = 5 ∧ i = 2) → M48 c i = M2 c i := fun c i k => by rw [pc3_hf c i (by omega), jf c i (by omega)]; exact f26 c i (by omega) (by omega) (by omega) (by omega)
              obtain ⟨u0, u1, u2, u3, u4, u5, u6⟩ := bVe.of g
              rw [u0, u1, u2, u3, u4, u5, u6]
              refine qI.y ha ⟨M26 75, ⟨x0, x12⟩, .inl ⟨v29, by omega, by rw [← q72]; exact b4, ?_, ?_, jx⟩⟩
              · have : r47 = 1 := by have := pc3_hr; omega
                rw [← this]; exact gy
              · rw [pc3_hf _ 0 (by omega), qT v29 (by omega) (by omega)]
    · -- b2.2
      have gc4 : pr_X11_measure f v8 M10 := by
        refine ⟨?_, ?_, ?_, ?_⟩
        · show bI M10  -- c4.hI
          exact I3
        · show bQ M10  -- c4.hQ
          exact kQ
        · show 0 ≤ f ∧ f < M10 5 2  -- c4.ha
          omega
        · show 0 ≤ v8 ∧ v8 < 12  -- c4.hk
          omega
      refine ⟨gc4, ?_⟩
      rintro r58 M59 ⟨pc4_hf, pc4_hQ, pc4_hr⟩ z_r58 z_M59
      rw [v0, v1, v2, v3, v4, v5, v6] at pc4_hr
      have b4' := qb v8 r58 pc4_hr
      have f59 : ∀ c i, ¬ (13 ≤ c ∧ c ≤ 24) → ¬ (48 ≤ c ∧ c ≤ 49) → ¬ (c = 5 ∧ 14 ≤ i) → c ≠ 75 → M59 c i = M2 c i := fun c i a1 a2 a3 a4 => by rw [pc4_hf c i a1 a2 a3]; exact kf c i a1 a2 a3 a4
      have f75 : ∀ j, M59 75 j = M10 75 j := fun j => pc4_hf 75 j (by omega) (by omega) (by omega)
      have o4 : ((0 : Int) ≤ v8 ∧ v8 < 13) := by
        omega
      refine ⟨o4, ?_⟩
      intro M65 e_M65
      have o5 : zin (v8 + 1) := by
        first | with_reducible assumption | omega | exact trivial | with_reducible rfl  -- o5
      refine ⟨o5, ?_⟩
      refine ⟨Int.toNat (20 - (v8 + 1)), by omega, by omega, ?_, ?_, ?_, ?_, ?_⟩
      · show 0 ≤ (v8 + 1) ∧ (v8 + 1) ≤ 12  -- I12.1.hv8
        first | with_reducible assumption | omega | exact trivial | with_reducible rfl
      · show ∀ c i, ¬ (13 ≤ c ∧ c ≤ 24) → ¬ (48 ≤ c ∧ c ≤ 49) → ¬ (c = 5 ∧ 14 ≤ i) → c ≠ 75 → M65 c i = M2 c i  -- I12.1.kf
        intro c i a1 a2 a3 a4; rw [e_M65, zset_n _ (by omega)]; exact f59 c i a1 a2 a3 a4
      · show bQ M65  -- I12.1.kQ
        exact pc4_hQ.fr (fun c i k => by rw [e_M65, zset_n _ (by omega)])
      · show bFd M65  -- I12.1.kF
        intro j j0 j1
        by_cases e : j = v8
        · rw [e, e_M65, zset_s]; omega
        · rw [e_M65, zset_n _ (by omega), f75]; exact kF j j0 j1
      · show ∀ j, 0 ≤ j → j < (v8 + 1) → qFa (M2 1 0) (M2 1 1) (M2 1 2) (M2 2) (M2 12) (M2 7) (M2 5 2) f j (M65 75 j)  -- I12.1.kx
        intro j j0 j1
        by_cases e : j = v8
        · rw [e, e_M65, zset_s]; exact pc4_hr
        · rw [e_M65, zset_n _ (by omega), f75]; exact kx j j0 (by omega)
  · -- b1.2
    refine hP _ _ ⟨?_, ?_, ?_, ?_⟩
    · show ∀ c i, ¬ bWk c i → c ≠ 75 → M2 c i = M c i  -- p3.hw
      intro c i k _; exact pc1_hf c i (by omega) (by omega)
    · show bQ M2  -- p3.hQ
      exact pc1_hQ
    · show bFd M2  -- p3.hF
      exact hF.w (fun c i k => pc1_hf c i (by omega) (by omega))
    · show qI (0 ≤ f ∧ f < M2 5 2) (∃ φ, qFi (M2 1 0) (M2 1 1) (M2 1 2) (M2 2) (M2 12) (M2 7) (M2 5 2) f φ ∧ qSr (M 57 0) (M 72) (fun q => M (59 + q)) (M 71) φ (-1)) (-1)  -- p3.hr
      exact qI.n (fun k => pc1_hr.z.1 b1 k)

