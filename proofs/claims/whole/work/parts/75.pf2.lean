theorem gEx_pb {T : Int → Int} {n : Int} (hn : 0 ≤ n) : ∀ (f : Nat) (l p x y : Int) (D : Int → Int), 0 ≤ p → -4 ≤ (gEx T n f l p x y D).1 ∧ (gEx T n f l p x y D).1 ≤ n + p + 5 * (f + 1)
  | 0, l, p, x, y, D, h => by
    show -4 ≤ n ∧ n ≤ n + p + 5 * (((0 : Nat) : Int) + 1)
    omega
  | f + 1, l, p, x, y, D, h => by
    by_cases a : gCl (gBy T n p) < 0 ∨ l ≤ x
    · rw [gEx_a a]; show -4 ≤ p ∧ p ≤ n + p + 5 * (((f + 1 : Nat) : Int) + 1); omega
    · have i := (gCl_i (fun q => a (.inl q))).1
      have g := gRu_b (T := T) i
      by_cases b : gRu T n p < 1 ∨ 16 < gRu T n p ∨ l < x + gRu T n p
      · rw [gEx_b a b]; show -4 ≤ p + 2 ∧ p + 2 ≤ n + p + 5 * (((f + 1 : Nat) : Int) + 1); omega
      · by_cases c : n ≤ gBh T n p ∨ gBy T n (gBh T n p) = 47
        · by_cases d : 0 < y ∧ x + gRu T n p < l
          · rw [gEx_c a b c d]; show -4 ≤ gBh T n p ∧ gBh T n p ≤ n + p + 5 * (((f + 1 : Nat) : Int) + 1); omega
          · by_cases e : n ≤ gBh T n p
            · rw [gEx_d a b d e]; show -4 ≤ (-4 : Int) ∧ (-4 : Int) ≤ n + p + 5 * (((f + 1 : Nat) : Int) + 1); omega
            · have c' := c.resolve_left e
              by_cases k : 12 ≤ y + 1
              · rw [gEx_e a b c' d e k]; show -4 ≤ gBh T n p ∧ gBh T n p ≤ n + p + 5 * (((f + 1 : Nat) : Int) + 1); omega
              · rw [gEx_f a b c' d e k]
                have := gEx_pb (T := T) hn f (x + gRu T n p) (gBh T n p + 1) 0 (y + 1) (gDr D (16 * y + x) (gRu T n p) (gCl (gBy T n p))) (by omega)
                omega
        · rw [gEx_g a b c]
          have := gEx_pb (T := T) hn f l (gBh T n p) (x + gRu T n p) y (gDr D (16 * y + x) (gRu T n p) (gCl (gBy T n p))) (by omega)
          omega
theorem bK.up {M M' : zM} (H : bK M) (e51 : M' 5 1 = M 5 1) (e176 : M' 17 6 = M 17 6) (e423 : M' 42 3 = M 42 3) (v : M' 1 3 = M 1 3 + 1) (h4 : ∀ i, 0 ≤ i → i < 192 → 0 ≤ M' 4 i ∧ M' 4 i ≤ 15) : bK M' := by
  have := H.2.1
  exact ⟨h4, by omega, fun k => by omega, fun k => by omega, fun k => by omega⟩
abbrev bTok (M : zM) (d : Int) : Prop := (0 ≤ d ∧ d < 8) ∧ M (26 + 2 * d) 0 = 2 ∧ M (26 + 2 * d) 1 = 0
def qRf (d h : Int) : Int := if 0 ≤ d ∧ d < 8 then (if h = 0 then -11 else -12) else -1
def bTx (M : zM) (d : Int) : Int × Int × Int × (Int → Int) := gEx (M (26 + 2 * d + 1)) (M (26 + 2 * d) 2) (M (26 + 2 * d) 2 + 1).toNat 16 0 0 0 (fun _ => 0)
theorem bTok.no {M : zM} {d r : Int} (k : ¬ bTok M d) (e : r = if 0 ≤ d ∧ d < 8 then (if M (26 + 2 * d) 0 = 0 then -11 else if M (26 + 2 * d) 0 = 2 ∧ M (26 + 2 * d) 1 = 0 then 0 else -12) else -1) : r = qRf d (M (26 + 2 * d) 0) ∧ r < 0 := by
  unfold qRf
  by_cases a : 0 ≤ d ∧ d < 8
  · rw [if_pos a] at e ⊢
    by_cases b : M (26 + 2 * d) 0 = 0
    · rw [if_pos b] at e ⊢; omega
    · rw [if_neg b] at e ⊢
      rw [if_neg (fun q => k ⟨a, q⟩)] at e
      omega
  · rw [if_neg a] at e ⊢; omega
theorem bTok.yes {M : zM} {d r : Int} (k : bTok M d) (e : r = if 0 ≤ d ∧ d < 8 then (if M (26 + 2 * d) 0 = 0 then -11 else if M (26 + 2 * d) 0 = 2 ∧ M (26 + 2 * d) 1 = 0 then 0 else -12) else -1) : r = 0 := by
  rw [if_pos k.1, if_neg (by omega), if_pos k.2] at e; exact e
abbrev pr_X11_fault (d : Int) (M : zM) : Prop := (bI M) ∧ (bK M)
abbrev po_X11_fault (d : Int) (M : zM) (r : Int) (M' : zM) : Prop := (bW M M') ∧ (bK M') ∧ (¬ bTok M d → r = qRf d (M (26 + 2 * d) 0)) ∧ (bTok M d → r = (bTx M d).1)
set_option maxHeartbeats 1000000 in
theorem ok_X11_fault : zSnd zS 145 0 0 yX11_fault cX11_fault 4 (some .int) 3 [2, 0] (F_X11_fault pr_X11_fault po_X11_fault) := by
  refine (sn_X11_fault ok_X11_refusalOfText ok_X11_shelfAt ok_X0_readText).mono ?_
  rintro xs P M hz hR ⟨d, rfl, ⟨hI, hK⟩, hP⟩
  refine ⟨_, rfl, ?_⟩
  have z_d := zall_h (zall_t hz) (by decide)
  change vc_X11_fault pr_X11_refusalOfText po_X11_refusalOfText pr_X11_shelfAt po_X11_shelfAt pr_X0_readText po_X0_readText d P M
  unfold vc_X11_fault
  have gc1 : pr_X11_refusalOfText d M := trivial
  refine ⟨gc1, ?_⟩
  rintro r1 M2 ⟨q_rfl, e_r1⟩ z_r1 z_M2
  have q_rfl := q_rfl.symm
  subst q_rfl
  have gc2 : pr_X11_shelfAt d M := trivial
  refine ⟨gc2, ?_⟩
  rintro r7 M8 ⟨q_rfl, e_r7⟩ z_r7 z_M8
  have q_rfl := q_rfl.symm
  subst q_rfl
  refine ⟨fun b1 => ?_, fun b1 => ?_⟩
  · -- b1.1
    refine hP _ _ ⟨?_, ?_, ?_, ?_⟩
    · show bW M M  -- p1.hw
      exact bW.r
    · show bK M  -- p1.hK
      exact hK
    · show ¬ bTok M d → r1 = qRf d (M (26 + 2 * d) 0)  -- p1.hn
      intro k; exact (bTok.no k e_r1).1
    · show bTok M d → r1 = (bTx M d).1  -- p1.hy
      intro k; have := bTok.yes k e_r1; omega
  · -- b1.2
    refine ⟨fun b2 => ?_, fun b2 => ?_⟩
    · -- b2.1
      have hd : 0 ≤ d ∧ d < 8 := by
        apply Classical.byContradiction
        intro k; rw [if_neg k] at e_r7; omega
      have e7 : r7 = 26 + 2 * d := by rw [if_pos hd] at e_r7; exact e_r7
      have sh : zsh r7 := ⟨d, hd.1, hd.2, e7⟩
      have S := hI.s d hd.1 hd.2
      have yes : bTok M d := by
        apply Classical.byContradiction
        intro k; have := (bTok.no k e_r1).2; omega
      have o1 : zsh r7 := by
        exact sh
      refine ⟨o1, ?_⟩
      have gc3 : pr_X0_readText (r7 + 1) (M r7 2) M := by
        refine ⟨?_, ?_, ?_, ?_⟩
        · show zia (r7 + 1)  -- c3.ha
          exact zsh_i sh
        · show 0 ≤ (M r7 2) ∧ (M r7 2) ≤ 120 ∧ (M r7 2) ≤ zlni (r7 + 1)  -- c3.hn
          rw [zsh_l sh, e7]; omega
        · show (r7 + 1) ≠ 4 ∧ (r7 + 1) ≠ 1  -- c3.hb
          omega
        · show ∀ i, 0 ≤ i → i < 192 → 0 ≤ M 4 i ∧ M 4 i ≤ 15  -- c3.hq
          exact hK.1
      refine ⟨gc3, ?_⟩
      rintro r16 M17 ⟨pc3_hq, pc3_hr, pc3_hw, pc3_hf⟩ z_r16 z_M17
      refine hP _ _ ⟨?_, ?_, ?_, ?_⟩
      · show bW M M17  -- p2.hw
        intro c i k; exact pc3_hf c i (by omega) (by omega)
      · show bK M17  -- p2.hK
        exact hK.d4 (fun c i k q => pc3_hf c i q (by omega)) pc3_hq
      · show ¬ bTok M d → r16 = qRf d (M (26 + 2 * d) 0)  -- p2.hn
        intro k; exact absurd yes k
      · show bTok M d → r16 = (bTx M d).1  -- p2.hy
        intro _; rw [pc3_hr, e7]; rfl
    · -- b2.2
      refine hP _ _ ⟨?_, ?_, ?_, ?_⟩
      · show bW M M  -- p3.hw
        exact bW.r
      · show bK M  -- p3.hK
        exact hK
      · show ¬ bTok M d → r1 = qRf d (M (26 + 2 * d) 0)  -- p3.hn
        intro k; exact (bTok.no k e_r1).1
      · show bTok M d → r1 = (bTx M d).1  -- p3.hy
        intro k; rw [if_pos k.1] at e_r7; omega

abbrev pr_X11_picture (d : Int) (M : zM) : Prop := (bI M) ∧ (bK M)
abbrev po_X11_picture (d : Int) (M : zM) (r : Int) (M' : zM) : Prop := (¬ bTok M d → r = qRf d (M (26 + 2 * d) 0) ∧ M' = M) ∧ (bTok M d → (bTx M d).1 ≠ -4 → r = -100 - (bTx M d).1 ∧ bW M M' ∧ bK M') ∧ (bTok M d → (bTx M d).1 = -4 → (r = (bTx M d).2.1 * (bTx M d).2.2.1 ∧ M' 1 0 = (bTx M d).2.1 ∧ M' 1 1 = (bTx M d).2.2.1 ∧ M' 1 3 = M 1 3 + 1 ∧ M' 77 0 = 0 ∧ M' 77 1 = 0) ∧ bDim M' ∧ (∀ i, gDo (M' 1 0) 0 (M' 1 1) i → M' 2 i = (bTx M d).2.2.2 i) ∧ (∀ i, 0 ≤ i → i < 192 → 0 ≤ M' 2 i ∧ M' 2 i ≤ 15) ∧ (∀ c i, ¬ bWk c i → c ≠ 2 → ¬ (c = 1 ∧ (i = 0 ∨ i = 1 ∨ i = 3)) → ¬ (c = 77 ∧ (i = 0 ∨ i = 1)) → M' c i = M c i) ∧ bK M')
set_option maxHeartbeats 1000000 in
theorem ok_X11_picture : zSnd zS 145 0 0 yX11_picture cX11_picture 5 (some .int) 3 [2, 0] (F_X11_picture pr_X11_picture po_X11_picture) := by
  refine (sn_X11_picture ok_X11_refusalOfText ok_X11_shelfAt ok_X0_readText ok_X0_takeText ok_X3_forget ok_X0_dots).mono ?_
  rintro xs P M hz hR ⟨d, rfl, ⟨hI, hK⟩, hP⟩
  refine ⟨_, rfl, ?_⟩
  have z_d := zall_h (zall_t hz) (by decide)
  change vc_X11_picture pr_X11_refusalOfText po_X11_refusalOfText pr_X11_shelfAt po_X11_shelfAt pr_X0_readText po_X0_readText pr_X0_takeText po_X0_takeText pr_X3_forget po_X3_forget pr_X0_dots po_X0_dots d P M
  unfold vc_X11_picture
  have gc1 : pr_X11_refusalOfText d M := trivial
  refine ⟨gc1, ?_⟩
  rintro r1 M2 ⟨q_rfl, e_r1⟩ z_r1 z_M2
  have q_rfl := q_rfl.symm
  subst q_rfl
  have gc2 : pr_X11_shelfAt d M := trivial
  refine ⟨gc2, ?_⟩
  rintro r7 M8 ⟨q_rfl, e_r7⟩ z_r7 z_M8
  have q_rfl := q_rfl.symm
  subst q_rfl
  refine ⟨fun b1 => ?_, fun b1 => ?_⟩
  · -- b1.1
    refine hP _ _ ⟨?_, ?_, ?_⟩
    · show ¬ bTok M d → r1 = qRf d (M (26 + 2 * d) 0) ∧ M = M  -- p1.hn
      intro k; exact ⟨(bTok.no k e_r1).1, rfl⟩
    · show bTok M d → (bTx M d).1 ≠ -4 → r1 = -100 - (bTx M d).1 ∧ bW M M ∧ bK M  -- p1.hb
      intro k; have := bTok.yes k e_r1; omega
    · show bTok M d → (bTx M d).1 = -4 → (r1 = (bTx M d).2.1 * (bTx M d).2.2.1 ∧ M 1 0 = (bTx M d).2.1 ∧ M 1 1 = (bTx M d).2.2.1 ∧ M 1 3 = M 1 3 + 1 ∧ M 77 0 = 0 ∧ M 77 1 = 0) ∧ bDim M ∧ (∀ i, gDo (M 1 0) 0 (M 1 1) i → M 2 i = (bTx M d).2.2.2 i) ∧ (∀ i, 0 ≤ i → i < 192 → 0 ≤ M 2 i ∧ M 2 i ≤ 15) ∧ (∀ c i, ¬ bWk c i → c ≠ 2 → ¬ (c = 1 ∧ (i = 0 ∨ i = 1 ∨ i = 3)) → ¬ (c = 77 ∧ (i = 0 ∨ i = 1)) → M c i = M c i) ∧ bK M  -- p1.hy
      intro k; have := bTok.yes k e_r1; omega
  · -- b1.2
    refine ⟨fun b2 => ?_, fun b2 => ?_⟩
    · -- b2.1
      have hd : 0 ≤ d ∧ d < 8 := by
        apply Classical.byContradiction
        intro k; rw [if_neg k] at e_r7; omega
      have e7 : r7 = 26 + 2 * d := by rw [if_pos hd] at e_r7; exact e_r7
      have sh : zsh r7 := ⟨d, hd.1, hd.2, e7⟩
      have S := hI.s d hd.1 hd.2
      have yes : bTok M d := by
        apply Classical.byContradiction
        intro k; have := (bTok.no k e_r1).2; omega
      have o1 : zsh r7 := by
        exact sh
      refine ⟨o1, ?_⟩
      have gc3 : pr_X0_readText (r7 + 1) (M r7 2) M := by
        refine ⟨?_, ?_, ?_, ?_⟩
        · show zia (r7 + 1)  -- c3.ha
          exact zsh_i sh
        · show 0 ≤ (M r7 2) ∧ (M r7 2) ≤ 120 ∧ (M r7 2) ≤ zlni (r7 + 1)  -- c3.hn
          rw [zsh_l sh, e7]; omega
        · show (r7 + 1) ≠ 4 ∧ (r7 + 1) ≠ 1  -- c3.hb
          omega
        · show ∀ i, 0 ≤ i → i < 192 → 0 ≤ M 4 i ∧ M 4 i ≤ 15  -- c3.hq
          exact hK.1
      refine ⟨gc3, ?_⟩
      rintro r16 M17 ⟨pc3_hq, pc3_hr, pc3_hw, pc3_hf⟩ z_r16 z_M17
      have er : r16 = (bTx M d).1 := by rw [pc3_hr, e7]; rfl
      have w3 : bW M M17 := fun c i k => pc3_hf c i (by omega) (by omega)
      have K3 : bK M17 := hK.d4 (fun c i k q => pc3_hf c i q (by omega)) pc3_hq
      have v3 := pc3_hf 1 3 (by omega) (by omega)
      have hv := hI.v
      refine ⟨fun b3 => ?_, fun b3 => ?_⟩
      · -- b3.1
        have gc4 : pr_X0_takeText M17 := by
          refine ⟨?_, ?_⟩
          · show 0 ≤ M17 1 3 ∧ M17 1 3 < 1000000000  -- c4.hv
            rw [v3]; exact hv
          · show ∀ i, 0 ≤ i → i < 192 → 0 ≤ M17 4 i ∧ M17 4 i ≤ 15  -- c4.hq
            exact pc3_hq
        refine ⟨gc4, ?_⟩
        rintro M23 ⟨pc4_hf, pc4_h2, pc4_h3⟩ z_M23
        have W := pc3_hw b3
        have W1 : M17 1 7 = (bTx M d).2.1 := by rw [W.1, e7]; rfl
        have W2 : M17 1 8 = (bTx M d).2.2.1 := by rw [W.2.1, e7]; rfl
        have W5 : ∀ i, gDo (M17 1 7) 0 (M17 1 8) i → M17 4 i = (bTx M d).2.2.2 i := fun i k => by rw [(W.2.2.2.2 i k).1, e7]; rfl
        have gc5 : pr_X3_forget M23 := trivial
        refine ⟨gc5, ?_⟩
        rintro M28 ⟨pc5_hf, pc5_h0⟩ z_M28
        have t0 : M28 1 0 = M17 1 7 := by rw [pc5_hf 1 0 (by omega)]; exact pc4_h3.1
        have t1 : M28 1 1 = M17 1 8 := by rw [pc5_hf 1 1 (by omega)]; exact pc4_h3.2.1
        have d5 : bDim M28 := by unfold bDim; rw [t0, t1]; exact ⟨W.2.2.1.1, W.2.2.1.2, W.2.2.2.1.1, W.2.2.2.1.2⟩
        have gc6 : pr_X0_dots M28 := by
          show bDim M28
          exact d5
        refine ⟨gc6, ?_⟩
        rintro r33 M34 ⟨q_rfl, e_r33⟩ z_r33 z_M34
        have q_rfl := q_rfl.symm
        subst q_rfl
        refine hP _ _ ⟨?_, ?_, ?_⟩
        · show ¬ bTok M d → r33 = qRf d (M (26 + 2 * d) 0) ∧ M28 = M  -- p2.hn
          intro k; exact absurd yes k
        · show bTok M d → (bTx M d).1 ≠ -4 → r33 = -100 - (bTx M d).1 ∧ bW M M28 ∧ bK M28  -- p2.hb
          intro _ k; exact absurd (by rw [← er]; exact b3) k
        · show bTok M d → (bTx M d).1 = -4 → (r33 = (bTx M d).2.1 * (bTx M d).2.2.1 ∧ M28 1 0 = (bTx M d).2.1 ∧ M28 1 1 = (bTx M d).2.2.1 ∧ M28 1 3 = M 1 3 + 1 ∧ M28 77 0 = 0 ∧ M28 77 1 = 0) ∧ bDim M28 ∧ (∀ i, gDo (M28 1 0) 0 (M28 1 1) i → M28 2 i = (bTx M d).2.2.2 i) ∧ (∀ i, 0 ≤ i → i < 192 → 0 ≤ M28 2 i ∧ M28 2 i ≤ 15) ∧ (∀ c i, ¬ bWk c i → c ≠ 2 → ¬ (c = 1 ∧ (i = 0 ∨ i = 1 ∨ i = 3)) → ¬ (c = 77 ∧ (i = 0 ∨ i = 1)) → M28 c i = M c i) ∧ bK M28  -- p2.hy
          intro _ _
          have f2 : ∀ i, M28 2 i = M23 2 i := fun i => pc5_hf 2 i (by omega)
          refine ⟨⟨?_, ?_, ?_, ?_, pc5_h0.1, pc5_h0.2⟩, d5, fun i k => ?_, fun i i0 i1 => ?_, fun c i k1 k2 k3 k4 => ?_, ?_⟩
          · rw [e_r33, t0, t1, W1, W2]
          · rw [t0, W1]
          · rw [t1, W2]
          · rw [pc5_hf 1 3 (by omega), pc4_h3.2.2, v3]
          · rw [t0, t1] at k
            have b := W.2.2.1
            have b' := W.2.2.2.1
            rw [f2, pc4_h2 i k.1 (by unfold gDo at k; omega), W5 i k]
          · rw [f2, pc4_h2 i i0 i1]; exact pc3_hq i i0 i1
          · rw [pc5_hf c i k4, pc4_hf c i k2 k3]; exact w3 c i k1
          · refine hK.up ?_ ?_ ?_ ?_ (fun i i0 i1 => ?_)
            · rw [pc5_hf 5 1 (by omega), pc4_hf 5 1 (by omega) (by omega)]; exact pc3_hf 5 1 (by omega) (by omega)
            · rw [pc5_hf 17 6 (by omega), pc4_hf 17 6 (by omega) (by omega)]; exact pc3_hf 17 6 (by omega) (by omega)
            · rw [pc5_hf 42 3 (by omega), pc4_hf 42 3 (by omega) (by omega)]; exact pc3_hf 42 3 (by omega) (by omega)
            · rw [pc5_hf 1 3 (by omega), pc4_h3.2.2, v3]
            · rw [pc5_hf 4 i (by omega), pc4_hf 4 i (by omega) (by omega)]; exact pc3_hq i i0 i1
      · -- b3.2
        have o2 : zin ((-100) - r16) := by
          have q := gEx_pb (T := M (26 + 2 * d + 1)) (n := M (26 + 2 * d) 2) S.1.1 (M (26 + 2 * d) 2 + 1).toNat 16 0 0 0 (fun _ => 0) (by decide)
          rw [er]; unfold bTx; omega
        refine ⟨o2, ?_⟩
        refine hP _ _ ⟨?_, ?_, ?_⟩
        · show ¬ bTok M d → ((-100) - r16) = qRf d (M (26 + 2 * d) 0) ∧ M17 = M  -- p3.hn
          intro k; exact absurd yes k
        · show bTok M d → (bTx M d).1 ≠ -4 → ((-100) - r16) = -100 - (bTx M d).1 ∧ bW M M17 ∧ bK M17  -- p3.hb
          intro _ _; exact ⟨by rw [er], w3, K3⟩
        · show bTok M d → (bTx M d).1 = -4 → (((-100) - r16) = (bTx M d).2.1 * (bTx M d).2.2.1 ∧ M17 1 0 = (bTx M d).2.1 ∧ M17 1 1 = (bTx M d).2.2.1 ∧ M17 1 3 = M 1 3 + 1 ∧ M17 77 0 = 0 ∧ M17 77 1 = 0) ∧ bDim M17 ∧ (∀ i, gDo (M17 1 0) 0 (M17 1 1) i → M17 2 i = (bTx M d).2.2.2 i) ∧ (∀ i, 0 ≤ i → i < 192 → 0 ≤ M17 2 i ∧ M17 2 i ≤ 15) ∧ (∀ c i, ¬ bWk c i → c ≠ 2 → ¬ (c = 1 ∧ (i = 0 ∨ i = 1 ∨ i = 3)) → ¬ (c = 77 ∧ (i = 0 ∨ i = 1)) → M17 c i = M c i) ∧ bK M17  -- p3.hy
          intro _ k; exact absurd (er.trans k) b3
    · -- b2.2
      refine hP _ _ ⟨?_, ?_, ?_⟩
      · show ¬ bTok M d → r1 = qRf d (M (26 + 2 * d) 0) ∧ M = M  -- p4.hn
        intro k; exact ⟨(bTok.no k e_r1).1, rfl⟩
      · show bTok M d → (bTx M d).1 ≠ -4 → r1 = -100 - (bTx M d).1 ∧ bW M M ∧ bK M  -- p4.hb
        intro k; rw [if_pos k.1] at e_r7; omega
      · show bTok M d → (bTx M d).1 = -4 → (r1 = (bTx M d).2.1 * (bTx M d).2.2.1 ∧ M 1 0 = (bTx M d).2.1 ∧ M 1 1 = (bTx M d).2.2.1 ∧ M 1 3 = M 1 3 + 1 ∧ M 77 0 = 0 ∧ M 77 1 = 0) ∧ bDim M ∧ (∀ i, gDo (M 1 0) 0 (M 1 1) i → M 2 i = (bTx M d).2.2.2 i) ∧ (∀ i, 0 ≤ i → i < 192 → 0 ≤ M 2 i ∧ M 2 i ≤ 15) ∧ (∀ c i, ¬ bWk c i → c ≠ 2 → ¬ (c = 1 ∧ (i = 0 ∨ i = 1 ∨ i = 3)) → ¬ (c = 77 ∧ (i = 0 ∨ i = 1)) → M c i = M c i) ∧ bK M  -- p4.hy
        intro k; rw [if_pos k.1] at e_r7; omega

abbrev pr_X11_tell (q : Int) (v : Int) (M : zM) : Prop := (bI M) ∧ (v = 0 ∨ v = 1)
abbrev po_X11_tell (q : Int) (v : Int) (M : zM) (r : Int) (M' : zM) : Prop := (¬ (0 ≤ q ∧ q < M 57 0) → r = -1 ∧ M' = M) ∧ (0 ≤ q ∧ q < M 57 0 → r = (if M 72 q = v then 0 else 1) ∧ M' = zset M 72 q v)
set_option maxHeartbeats 1000000 in
theorem ok_X11_tell : zSnd zS 145 0 0 yX11_tell cX11_tell 4 (some .int) 1 [2, 0, 0] (F_X11_tell pr_X11_tell po_X11_tell) := by
  refine (sn_X11_tell ok_X11_asNumber).mono ?_
  rintro xs P M hz hR ⟨q, v, rfl, ⟨hI, hv⟩, hP⟩
  refine ⟨_, _, rfl, ?_⟩
  have z_q := zall_h (zall_t hz) (by decide)
  have z_v := zall_h (zall_t (zall_t hz)) (by decide)
  change vc_X11_tell pr_X11_asNumber po_X11_asNumber q v P M
  unfold vc_X11_tell
  have R := hI.r.1
  refine ⟨fun b1 => ?_, fun b1 => ?_⟩
  · -- b1.1
    refine hP _ _ ⟨?_, ?_⟩
    · show ¬ (0 ≤ q ∧ q < M 57 0) → (-1) = -1 ∧ M = M  -- p1.hn
      intro _; exact ⟨rfl, rfl⟩
    · show 0 ≤ q ∧ q < M 57 0 → (-1) = (if M 72 q = v then 0 else 1) ∧ M = zset M 72 q v  -- p1.hy
      intro h; omega
  · -- b1.2
    refine ⟨fun b2 => ?_, fun b2 => ?_⟩
    · -- b2.1
      have o1 : ((0 : Int) ≤ q ∧ q < 12) := by
        first | with_reducible assumption | omega | exact trivial | with_reducible rfl  -- o1
      refine ⟨o1, ?_⟩
      refine ⟨fun b3 => ?_, fun b3 => ?_⟩
      · -- b3.1
        have o2 : (v = 0 ∨ v = 1) := by
          first | with_reducible assumption | omega | exact trivial | with_reducible rfl  -- o2
        refine ⟨o2, ?_⟩
        intro M6 e_M6
        have gc1 : pr_X11_asNumber 0 M6 := by
          show 0 = 0 ∨ 0 = 1
          first | with_reducible assumption | omega | exact trivial | with_reducible rfl  -- c1.hb
        refine ⟨gc1, ?_⟩
        rintro r9 M10 ⟨q_rfl, e_r9⟩ z_r9 z_M10
        have q_rfl := q_rfl.symm
        subst q_rfl
        refine hP _ _ ⟨?_, ?_⟩
        · show ¬ (0 ≤ q ∧ q < M 57 0) → r9 = -1 ∧ M6 = M  -- p2.hn
          intro h; omega
        · show 0 ≤ q ∧ q < M 57 0 → r9 = (if M 72 q = v then 0 else 1) ∧ M6 = zset M 72 q v  -- p2.hy
          intro _; exact ⟨by rw [e_r9, if_pos b3], e_M6⟩
      · -- b3.2
        have o3 : (v = 0 ∨ v = 1) := by
          first | with_reducible assumption | omega | exact trivial | with_reducible rfl  -- o3
        refine ⟨o3, ?_⟩
        intro M16 e_M16
        have gc2 : pr_X11_asNumber 1 M16 := by
          show 1 = 0 ∨ 1 = 1
          first | with_reducible assumption | omega | exact trivial | with_reducible rfl  -- c2.hb
        refine ⟨gc2, ?_⟩
        rintro r19 M20 ⟨q_rfl, e_r19⟩ z_r19 z_M20
        have q_rfl := q_rfl.symm
        subst q_rfl
        refine hP _ _ ⟨?_, ?_⟩
        · show ¬ (0 ≤ q ∧ q < M 57 0) → r19 = -1 ∧ M16 = M  -- p3.hn
          intro h; omega
        · show 0 ≤ q ∧ q < M 57 0 → r19 = (if M 72 q = v then 0 else 1) ∧ M16 = zset M 72 q v  -- p3.hy
          intro _; exact ⟨by rw [e_r19, if_neg b3], e_M16⟩
    · -- b2.2
      refine hP _ _ ⟨?_, ?_⟩
      · show ¬ (0 ≤ q ∧ q < M 57 0) → (-1) = -1 ∧ M = M  -- p4.hn
        intro _; exact ⟨rfl, rfl⟩
      · show 0 ≤ q ∧ q < M 57 0 → (-1) = (if M 72 q = v then 0 else 1) ∧ M = zset M 72 q v  -- p4.hy
        intro h; omega

def qUn (w h : Int) (D : Int → Int) (q : Int) : Prop := gD w h (q / 2) ∧ ((q % 2 = 0 ∧ (q / 2) % 16 + 1 < w ∧ D (q / 2) ≠ D (q / 2 + 1)) ∨ (q % 2 = 1 ∧ (q / 2) / 16 + 1 < h ∧ D (q / 2) ≠ D (q / 2 + 16)))
abbrev pr_X0_countUnlikeSides (M : zM) : Prop := (bDim M)
abbrev po_X0_countUnlikeSides (M : zM) (r : Int) (M' : zM) : Prop := M' = M ∧ r = zc (qUn (M 1 0) (M 1 1) (M 2)) 384
set_option maxHeartbeats 1000000 in
theorem ok_X0_countUnlikeSides : zSnd zS 145 0 0 yX0_countUnlikeSides cX0_countUnlikeSides 4 (some .int) 1 [2] (F_X0_countUnlikeSides pr_X0_countUnlikeSides po_X0_countUnlikeSides) := by
  refine (sn_X0_countUnlikeSides ok_X0_colourAt).mono ?_
  rintro xs P M hz hR ⟨rfl, hd, hP⟩
  refine ⟨rfl, ?_⟩
  change vc_X0_countUnlikeSides pr_X0_colourAt po_X0_colourAt P M
  unfold vc_X0_countUnlikeSides
  generalize hp : qUn (M 1 0) (M 1 1) (M 2) = p
  refine ⟨fun v1 v2 M5 n7 => (n7 : Int) = (20 - v2) ∧ (0 ≤ v2 ∧ v2 ≤ M 1 1) ∧ (M5 = M) ∧ (v1 = zc p (32 * v2)), ⟨Int.toNat (20 - 0), by omega, ?_, ?_, ?_⟩, ?_⟩
  · show 0 ≤ 0 ∧ 0 ≤ M 1 1  -- I4.0.hv
    first | with_reducible assumption | omega | exact trivial | with_reducible rfl
  · first | with_reducible assumption | omega | exact trivial | with_reducible rfl  -- I4.0.rfl
  · show 0 = zc p (32 * 0)  -- I4.0.h1
    rfl
  rintro v1 v2 M5 n7 ⟨h_n7, hv, q_rfl, h1⟩ z_v1 z_v2 z_M5
  have q_rfl := q_rfl.symm
  subst q_rfl
  have u := zc_b p (32 * v2) (by omega)
  refine ⟨fun b1 => ?_, fun b1 => ?_⟩
  · -- b1.1
    refine hP _ _ ⟨rfl, ?_⟩
    · rw [hp, h1]  -- p1
      refine (zc_skip (p := p) (a := 32 * v2) (by omega) 384 (by omega) (fun i i0 i1 q => ?_)).symm
      rw [← hp] at q
      have := q.1.2.2
      omega
  · -- b1.2
    refine ⟨fun v15 v16 M19 n21 => (n21 : Int) = (20 - v16) ∧ (0 ≤ v16 ∧ v16 ≤ M 1 0) ∧ (M19 = M) ∧ (v15 = zc p (32 * v2 + 2 * v16)), ⟨Int.toNat (20 - 0), by omega, ?_, ?_, ?_⟩, ?_⟩
    · show 0 ≤ 0 ∧ 0 ≤ M 1 0  -- I14.0.hv2
      first | with_reducible assumption | omega | exact trivial | with_reducible rfl
    · first | with_reducible assumption | omega | exact trivial | with_reducible rfl  -- I14.0.rfl
    · show v1 = zc p (32 * v2 + 2 * 0)  -- I14.0.h2
      rw [show 32 * v2 + 2 * 0 = 32 * v2 by omega]; exact h1
    rintro v15 v16 M19 n21 ⟨h_n21, hv2, q_rfl, h2⟩ z_v15 z_v16 z_M19
    have q_rfl := q_rfl.symm
    subst q_rfl
    have u2 := zc_b p (32 * v2 + 2 * v16) (by omega)
    refine ⟨fun b2 => ?_, fun b2 => ?_⟩
    · -- b2.1
      have o1 : zin (v2 + 1) := by
        first | with_reducible assumption | omega | exact trivial | with_reducible rfl  -- o1
      refine ⟨o1, ?_⟩
      refine ⟨Int.toNat (20 - (v2 + 1)), by omega, by omega, ?_, ?_, ?_⟩
      · show 0 ≤ (v2 + 1) ∧ (v2 + 1) ≤ M 1 1  -- I4.1.hv
        first | with_reducible assumption | omega | exact trivial | with_reducible rfl
      · first | with_reducible assumption | omega | exact trivial | with_reducible rfl  -- I4.1.rfl
      · show v15 = zc p (32 * (v2 + 1))  -- I4.1.h1
        rw [h2]
        refine (zc_skip (by omega) _ (by omega) (fun i i0 i1 q => ?_)).symm
        rw [← hp] at q
        have := q.1.2.1
        omega
    · -- b2.2
      have ca : (32 * v2 + 2 * v16) / 2 = 16 * v2 + v16 := by omega
      have cb : (32 * v2 + 2 * v16 + 1) / 2 = 16 * v2 + v16 := by omega
      have pa : p (32 * v2 + 2 * v16) ↔ (v16 + 1 < M 1 0 ∧ M 2 (16 * v2 + v16) ≠ M 2 (16 * v2 + (v16 + 1))) := by
        rw [← hp]
        unfold qUn
        rw [ca, show 16 * v2 + (v16 + 1) = 16 * v2 + v16 + 1 by omega]
        constructor
        · rintro ⟨_, ⟨_, a, b⟩ | ⟨a, _⟩⟩
          · exact ⟨by omega, b⟩
          · omega
        · rintro ⟨a, b⟩
          exact ⟨by omega, .inl ⟨by omega, by omega, b⟩⟩
      have pb : p (32 * v2 + 2 * v16 + 1) ↔ (v2 + 1 < M 1 1 ∧ M 2 (16 * v2 + v16) ≠ M 2 (16 * (v2 + 1) + v16)) := by
        rw [← hp]
        unfold qUn
        rw [cb, show 16 * (v2 + 1) + v16 = 16 * v2 + v16 + 16 by omega]
        constructor
        · rintro ⟨_, ⟨a, _⟩ | ⟨_, a, b⟩⟩
          · omega
          · exact ⟨by omega, b⟩
        · rintro ⟨a, b⟩
          exact ⟨by omega, .inr ⟨by omega, by omega, b⟩⟩
      have l0 : bCol M v16 v2 = M 2 (16 * v2 + v16) := if_pos (by omega)
      intro K52 h_K52
      have k_K52 : ∀ (v33 : Int) (M35 : zM), (M35 = M) → (v33 = zc p (32 * v2 + 2 * v16 + 1)) → K52 v33 M35 := by
        intro v33 M35 rfl2 h3
        refine h_K52 _ _ ?_
        intro z_v33 z_M35
        have q11 : M35 1 1 = M 1 1 := by rw [rfl2]
        have u3 := zc_b p (32 * v2 + 2 * v16 + 1) (by omega)
        have o2 : zin (v2 + 1) := by
          first | with_reducible assumption | omega | exact trivial | with_reducible rfl  -- o2
        refine ⟨o2, ?_⟩
        refine ⟨fun b3 => ?_, fun b3 => ?_⟩
        · -- b3.1
          have o3 : zin (v16 + 1) := by
            first | with_reducible assumption | omega | exact trivial | with_reducible rfl  -- o3
          refine ⟨o3, ?_⟩
          refine ⟨Int.toNat (20 - (v16 + 1)), by omega, by omega, ?_, ?_, ?_⟩
          · show 0 ≤ (v16 + 1) ∧ (v16 + 1) ≤ M 1 0  -- I14.1.hv2
            first | with_reducible assumption | omega | exact trivial | with_reducible rfl
          · first | with_reducible assumption | omega | exact trivial | with_reducible rfl  -- I14.1.rfl
          · show v33 = zc p (32 * v2 + 2 * (v16 + 1))  -- I14.1.h2
            rw [show 32 * v2 + 2 * (v16 + 1) = 32 * v2 + 2 * v16 + 1 + 1 by omega, zc_n (by omega) (by rw [pb]; omega)]; exact h3
        · -- b3.2
          have gc1 : pr_X0_colourAt v16 v2 M35 := by
            show bDim M35
            rw [rfl2]; exact hd
          refine ⟨gc1, ?_⟩
          rintro r43 M44 ⟨q_rfl, e_r43⟩ z_r43 z_M44
          have q_rfl := q_rfl.symm
          subst q_rfl
          have gc2 : pr_X0_colourAt v16 (v2 + 1) M35 := by
            show bDim M35
            rw [rfl2]; exact hd
          refine ⟨gc2, ?_⟩
          rintro r49 M50 ⟨q_rfl, e_r49⟩ z_r49 z_M50
          have q_rfl := q_rfl.symm
          subst q_rfl
          have l2 : r49 = M 2 (16 * (v2 + 1) + v16) := by rw [e_r49, rfl2]; exact if_pos (by omega)
          rw [rfl2, l0] at e_r43
          refine ⟨fun b4 => ?_, fun b4 => ?_⟩
          · -- b4.1
            have o4 : zin (v16 + 1) := by
              first | with_reducible assumption | omega | exact trivial | with_reducible rfl  -- o4
            refine ⟨o4, ?_⟩
            refine ⟨Int.toNat (20 - (v16 + 1)), by omega, by omega, ?_, ?_, ?_⟩
            · show 0 ≤ (v16 + 1) ∧ (v16 + 1) ≤ M 1 0  -- I14.2.hv2
              first | with_reducible assumption | omega | exact trivial | with_reducible rfl
            · first | with_reducible assumption | omega | exact trivial | with_reducible rfl  -- I14.2.rfl
            · show v33 = zc p (32 * v2 + 2 * (v16 + 1))  -- I14.2.h2
              rw [show 32 * v2 + 2 * (v16 + 1) = 32 * v2 + 2 * v16 + 1 + 1 by omega, zc_n (by omega) (by rw [pb]; omega)]; exact h3
          · -- b4.2
            have o5 : zin (v33 + 1) := by
              first | with_reducible assumption | omega | exact trivial | with_reducible rfl  -- o5
            refine ⟨o5, ?_⟩
            have o6 : zin (v16 + 1) := by
              first | with_reducible assumption | omega | exact trivial | with_reducible rfl  -- o6
            refine ⟨o6, ?_⟩
            refine ⟨Int.toNat (20 - (v16 + 1)), by omega, by omega, ?_, ?_, ?_⟩
            · show 0 ≤ (v16 + 1) ∧ (v16 + 1) ≤ M 1 0  -- I14.3.hv2
              first | with_reducible assumption | omega | exact trivial | with_reducible rfl
            · first | with_reducible assumption | omega | exact trivial | with_reducible rfl  -- I14.3.rfl
            · show (v33 + 1) = zc p (32 * v2 + 2 * (v16 + 1))  -- I14.3.h2
              rw [show 32 * v2 + 2 * (v16 + 1) = 32 * v2 + 2 * v16 + 1 + 1 by omega, zc_p (by omega) (by rw [pb]; omega), h3]
      have o7 : zin (v16 + 1) := by
        first | with_reducible assumption | omega | exact trivial | with_reducible rfl  -- o7
      refine ⟨o7, ?_⟩
      refine ⟨fun b5 => ?_, fun b5 => ?_⟩
      · -- b5.1
        refine k_K52 _ _ ?_ ?_
        · show M = M  -- K52.1.rfl2
          rfl
        · show v15 = zc p (32 * v2 + 2 * v16 + 1)  -- K52.1.h3
          rw [zc_n (by omega) (by rw [pa]; omega)]; exact h2
      · -- b5.2
        have gc3 : pr_X0_colourAt v16 v2 M := by
          show bDim M
          first | with_reducible assumption | omega | exact trivial | with_reducible rfl  -- c3.hd
        refine ⟨gc3, ?_⟩
        rintro r67 M68 ⟨q_rfl, e_r67⟩ z_r67 z_M68
        have q_rfl := q_rfl.symm
        subst q_rfl
        have gc4 : pr_X0_colourAt (v16 + 1) v2 M := by
          show bDim M
          first | with_reducible assumption | omega | exact trivial | with_reducible rfl  -- c4.hd
        refine ⟨gc4, ?_⟩
        rintro r73 M74 ⟨q_rfl, e_r73⟩ z_r73 z_M74
        have q_rfl := q_rfl.symm
        subst q_rfl
        have l2 : r73 = M 2 (16 * v2 + (v16 + 1)) := by rw [e_r73]; exact if_pos (by omega)
        rw [l0] at e_r67
        refine ⟨fun b6 => ?_, fun b6 => ?_⟩
        · -- b6.1
          refine k_K52 _ _ ?_ ?_
          · show M = M  -- K52.2.rfl2
            rfl
          · show v15 = zc p (32 * v2 + 2 * v16 + 1)  -- K52.2.h3
            rw [zc_n (by omega) (by rw [pa]; omega)]; exact h2
        · -- b6.2
          have o8 : zin (v15 + 1) := by
            first | with_reducible assumption | omega | exact trivial | with_reducible rfl  -- o8
          refine ⟨o8, ?_⟩
          refine k_K52 _ _ ?_ ?_
          · show M = M  -- K52.3.rfl2
            rfl
          · show (v15 + 1) = zc p (32 * v2 + 2 * v16 + 1)  -- K52.3.h3
            rw [zc_p (by omega) (by rw [pa]; omega), h2]

def qCnt (w h : Int) (D L : Int → Int) (N ru ud : Int) (T : Int → Int) (k r : Int) : Prop :=
  r = if k = 0 then w else if k = 1 then h else if k = 2 then N else if k = 3 then zc (fun c => 0 < gCn w h D c) 16 else if k = 4 then zc (fun g => gLd w h L g g) N else if k = 5 then ru else if k = 6 then zc (fun k => T k ≠ 0) ru else if k = 7 then ud else if k = 8 then zc (qUn w h D) 384 else -1
abbrev pr_X11_count (k : Int) (M : zM) : Prop := (bI M) ∧ (bK M)
abbrev po_X11_count (k : Int) (M : zM) (r : Int) (M' : zM) : Prop := (bW M M') ∧ (bQ M') ∧ (qCnt (M' 1 0) (M' 1 1) (M' 2) (M' 12) (M' 5 2) (M' 57 0) (M' 77 0) (M' 72) k r)
set_option maxHeartbeats 1000000 in
theorem ok_X11_count : zSnd zS 145 0 0 yX11_count cX11_count 2 (some .int) 6 [2, 0] (F_X11_count pr_X11_count po_X11_count) := by
  refine (sn_X11_count ok_X2_refresh ok_X4_countColours ok_X9_countLeaders ok_X8_countTold ok_X0_countUnlikeSides).mono ?_
  rintro xs P M hz hR ⟨k, rfl, ⟨hI, hK⟩, hP⟩
  refine ⟨_, rfl, ?_⟩
  have z_k := zall_h (zall_t hz) (by decide)
  change vc_X11_count pr_X2_refresh po_X2_refresh pr_X4_countColours po_X4_countColours pr_X9_countLeaders po_X9_countLeaders pr_X8_countTold po_X8_countTold pr_X0_countUnlikeSides po_X0_countUnlikeSides k P M
  unfold vc_X11_count
  have gc1 : pr_X2_refresh M := by
    refine ⟨?_, ?_, ?_, ?_⟩
    · show bDim M  -- c1.hd
      exact hI.d
    · show M 1 2 = 0 ∨ M 1 2 = 1  -- c1.ht
      exact hI.t
    · show ∀ i, gD (M 1 0) (M 1 1) i → 0 ≤ M 2 i  -- c1.hc
      intro i d; have := hI.d; exact (hI.c i d.1 (by omega)).1
    · show M 5 1 = M 1 3 → bFok M  -- c1.hk
      exact hK.2.2.1
  refine ⟨gc1, ?_⟩
  rintro M1 ⟨pc1_hf, pc1_h51, pc1_hok, pc1_hs⟩ z_M1
  have I2 := hI.face pc1_hf
  have Q2 := hK.refresh pc1_hf pc1_h51 pc1_hok pc1_hs
  have w2 : bW M M1 := fun c i k => pc1_hf c i (by omega) (by omega)
  refine ⟨fun b1 => ?_, fun b1 => ?_⟩
  · -- b1.1
    refine hP _ _ ⟨?_, ?_, ?_⟩
    · show bW M M1  -- p1.hw
      exact w2
    · show bQ M1  -- p1.hQ
      exact Q2
    · show qCnt (M1 1 0) (M1 1 1) (M1 2) (M1 12) (M1 5 2) (M1 57 0) (M1 77 0) (M1 72) k (M1 1 0)  -- p1.hr
      unfold qCnt; rw [if_pos b1]
  · -- b1.2
    refine ⟨fun b2 => ?_, fun b2 => ?_⟩
    · -- b2.1
      refine hP _ _ ⟨?_, ?_, ?_⟩
      · show bW M M1  -- p2.hw
        exact w2
      · show bQ M1  -- p2.hQ
        exact Q2
      · show qCnt (M1 1 0) (M1 1 1) (M1 2) (M1 12) (M1 5 2) (M1 57 0) (M1 77 0) (M1 72) k (M1 1 1)  -- p2.hr
        unfold qCnt; rw [if_neg b1, if_pos b2]
    · -- b2.2
      refine ⟨fun b3 => ?_, fun b3 => ?_⟩
      · -- b3.1
        refine hP _ _ ⟨?_, ?_, ?_⟩
        · show bW M M1  -- p3.hw
          exact w2
        · show bQ M1  -- p3.hQ
          exact Q2
        · show qCnt (M1 1 0) (M1 1 1) (M1 2) (M1 12) (M1 5 2) (M1 57 0) (M1 77 0) (M1 72) k (M1 5 2)  -- p3.hr
          unfold qCnt; rw [if_neg b1, if_neg b2, if_pos b3]
      · -- b3.2
        refine ⟨fun b4 => ?_, fun b4 => ?_⟩
        · -- b4.1
          have gc2 : pr_X4_countColours M1 := by
            refine ⟨?_, ?_⟩
            · show bDim M1  -- c2.hd
              exact I2.d
            · show bCo M1  -- c2.hc
              exact I2.c
          refine ⟨gc2, ?_⟩
          rintro r6 M7 ⟨pc2_hf, pc2_hm, pc2_hr, pc2_ho⟩ z_r6 z_M7
          refine hP _ _ ⟨?_, ?_, ?_⟩
          · show bW M M7  -- p4.hw
            exact w2.tr (fun c i k => pc2_hf c i (by omega) (by omega))
          · show bQ M7  -- p4.hQ
            exact Q2.fr (fun c i k => pc2_hf c i (by omega) (by omega))
          · show qCnt (M7 1 0) (M7 1 1) (M7 2) (M7 12) (M7 5 2) (M7 57 0) (M7 77 0) (M7 72) k r6  -- p4.hr
            unfold qCnt; rw [if_neg b1, if_neg b2, if_neg b3, if_pos b4, pc2_hf 1 0 (by omega) (by omega), pc2_hf 1 1 (by omega) (by omega), show M7 2 = M1 2 from funext fun i => pc2_hf 2 i (by omega) (by omega)]; exact pc2_hr
        · -- b4.2
          refine ⟨fun b5 => ?_, fun b5 => ?_⟩
          · -- b5.1
            have gc3 : pr_X9_countLeaders M1 := by
              refine ⟨?_, ?_⟩
              · show bDim M1  -- c3.hd
                exact I2.d
              · show bFok M1  -- c3.hF
                exact Q2.ok
            refine ⟨gc3, ?_⟩
            rintro r12 M13 ⟨q_rfl, e_r12⟩ z_r12 z_M13
            have q_rfl := q_rfl.symm
            subst q_rfl
            refine hP _ _ ⟨?_, ?_, ?_⟩
            · show bW M M1  -- p5.hw
              exact w2
            · show bQ M1  -- p5.hQ
              exact Q2
            · show qCnt (M1 1 0) (M1 1 1) (M1 2) (M1 12) (M1 5 2) (M1 57 0) (M1 77 0) (M1 72) k r12  -- p5.hr
              unfold qCnt; rw [if_neg b1, if_neg b2, if_neg b3, if_neg b4, if_pos b5]; exact e_r12
          · -- b5.2
            refine ⟨fun b6 => ?_, fun b6 => ?_⟩
            · -- b6.1
              refine hP _ _ ⟨?_, ?_, ?_⟩
              · show bW M M1  -- p6.hw
                exact w2
              · show bQ M1  -- p6.hQ
                exact Q2
              · show qCnt (M1 1 0) (M1 1 1) (M1 2) (M1 12) (M1 5 2) (M1 57 0) (M1 77 0) (M1 72) k (M1 57 0)  -- p6.hr
                unfold qCnt; rw [if_neg b1, if_neg b2, if_neg b3, if_neg b4, if_neg b5, if_pos b6]
            · -- b6.2
              refine ⟨fun b7 => ?_, fun b7 => ?_⟩
              · -- b7.1
                have gc4 : pr_X8_countTold M1 := by
                  show 0 ≤ M1 57 0 ∧ M1 57 0 ≤ 12
                  exact I2.r.1
                refine ⟨gc4, ?_⟩
                rintro r18 M19 ⟨q_rfl, e_r18⟩ z_r18 z_M19
                have q_rfl := q_rfl.symm
                subst q_rfl
                refine hP _ _ ⟨?_, ?_, ?_⟩
                · show bW M M1  -- p7.hw
                  exact w2
                · show bQ M1  -- p7.hQ
                  exact Q2
                · show qCnt (M1 1 0) (M1 1 1) (M1 2) (M1 12) (M1 5 2) (M1 57 0) (M1 77 0) (M1 72) k r18  -- p7.hr
                  unfold qCnt; rw [if_neg b1, if_neg b2, if_neg b3, if_neg b4, if_neg b5, if_neg b6, if_pos b7]; exact e_r18
              · -- b7.2
                refine ⟨fun b8 => ?_, fun b8 => ?_⟩
                · -- b8.1
                  refine hP _ _ ⟨?_, ?_, ?_⟩
                  · show bW M M1  -- p8.hw
                    exact w2
                  · show bQ M1  -- p8.hQ
                    exact Q2
                  · show qCnt (M1 1 0) (M1 1 1) (M1 2) (M1 12) (M1 5 2) (M1 57 0) (M1 77 0) (M1 72) k (M1 77 0)  -- p8.hr
                    unfold qCnt; rw [if_neg b1, if_neg b2, if_neg b3, if_neg b4, if_neg b5, if_neg b6, if_neg b7, if_pos b8]
                · -- b8.2
                  refine ⟨fun b9 => ?_, fun b9 => ?_⟩
                  · -- b9.1
                    have gc5 : pr_X0_countUnlikeSides M1 := by
                      show bDim M1
                      exact I2.d
                    refine ⟨gc5, ?_⟩
                    rintro r24 M25 ⟨q_rfl, e_r24⟩ z_r24 z_M25
                    have q_rfl := q_rfl.symm
                    subst q_rfl
                    refine hP _ _ ⟨?_, ?_, ?_⟩
                    · show bW M M1  -- p9.hw
                      exact w2
                    · show bQ M1  -- p9.hQ
                      exact Q2
                    · show qCnt (M1 1 0) (M1 1 1) (M1 2) (M1 12) (M1 5 2) (M1 57 0) (M1 77 0) (M1 72) k r24  -- p9.hr
                      unfold qCnt; rw [if_neg b1, if_neg b2, if_neg b3, if_neg b4, if_neg b5, if_neg b6, if_neg b7, if_neg b8, if_pos b9]; exact e_r24
                  · -- b9.2
                    refine hP _ _ ⟨?_, ?_, ?_⟩
                    · show bW M M1  -- p10.hw
                      exact w2
                    · show bQ M1  -- p10.hQ
                      exact Q2
                    · show qCnt (M1 1 0) (M1 1 1) (M1 2) (M1 12) (M1 5 2) (M1 57 0) (M1 77 0) (M1 72) k (-1)  -- p10.hr
                      unfold qCnt; rw [if_neg b1, if_neg b2, if_neg b3, if_neg b4, if_neg b5, if_neg b6, if_neg b7, if_neg b8, if_neg b9]

