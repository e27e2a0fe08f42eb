abbrev pr_X12_few (k : Int) (what : Int) (M : zM) : Prop := (mI M)
abbrev po_X12_few (k : Int) (what : Int) (M : zM) (r : Int) (M' : zM) : Prop := (mW M M') ∧ (qI ((1 ≤ k ∧ k ≤ 4) ∧ 0 ≤ what ∧ what ≤ 1) (qFw (M 103 1) (M 103 2) (M 104) (M 105) k what r) r)
set_option maxHeartbeats 1000000 in
theorem ok_X12_few : zSnd zS 145 0 0 yX12_few cX12_few 3 (some .int) 3 [2, 0, 0] (F_X12_few pr_X12_few po_X12_few) := by
  refine (sn_X12_few ok_X12_in ok_X12_findFew).mono ?_
  rintro xs P M hz hR ⟨k, what, rfl, hI, hP⟩
  refine ⟨_, _, rfl, ?_⟩
  have z_k := zall_h (zall_t hz) (by decide)
  have z_what := zall_h (zall_t (zall_t hz)) (by decide)
  change vc_X12_few pr_X12_in po_X12_in pr_X12_findFew po_X12_findFew k what P M
  unfold vc_X12_few
  intro M1 e_M1
  have I1 : mI M1 := hI.fr (fun c i k _ => by rw [e_M1, zset_n _ (by omega)])
  have w1 : mW M M1 := fun c i k => by rw [e_M1, zset_n _ (by omega)]
  have q1 := w1 103 1 (by omega)
  have q2 := w1 103 2 (by omega)
  have q104 : M1 104 = M 104 := funext fun i => w1 104 i (by omega)
  have q105 : M1 105 = M 105 := funext fun i => w1 105 i (by omega)
  have gc1 : pr_X12_in k 1 4 M1 := trivial
  refine ⟨gc1, ?_⟩
  rintro r4 M5 ⟨q_rfl, e_r4⟩ z_r4 z_M5
  have q_rfl := q_rfl.symm
  subst q_rfl
  have z1 := zif01 e_r4
  refine ⟨fun b1 => ?_, fun b1 => ?_⟩
  · -- b1.1
    refine hP _ _ ⟨?_, ?_⟩
    · show mW M M1  -- p1.hw
      exact w1
    · show qI ((1 ≤ k ∧ k ≤ 4) ∧ 0 ≤ what ∧ what ≤ 1) (qFw (M 103 1) (M 103 2) (M 104) (M 105) k what (-1)) (-1)  -- p1.hr
      exact qI.n (fun k => z1.z.1 b1 k.1)
  · -- b1.2
    have hk := z1.ne.1 b1
    have gc2 : pr_X12_in what 0 1 M1 := trivial
    refine ⟨gc2, ?_⟩
    rintro r11 M12 ⟨q_rfl, e_r11⟩ z_r11 z_M12
    have q_rfl := q_rfl.symm
    subst q_rfl
    have z2 := zif01 e_r11
    refine ⟨fun b2 => ?_, fun b2 => ?_⟩
    · -- b2.1
      have hk2 := z2.ne.1 b2
      have gc3 : pr_X12_findFew k M1 := by
        refine ⟨?_, ?_, ?_, ?_⟩
        · show mDim M1  -- c3.hd
          exact I1.d
        · show mCo M1  -- c3.hc
          exact I1.c
        · show ∀ c, 0 ≤ c → c < 16 → 0 ≤ M1 105 c ∧ M1 105 c ≤ 255  -- c3.ht
          exact I1.tn
        · show 1 ≤ k ∧ k ≤ 4  -- c3.hk
          exact hk
      refine ⟨gc3, ?_⟩
      rintro r18 M19 ⟨pc3_hf, pc3_hr, pc3_hw⟩ z_r18 z_M19
      have w3 : mW M M19 := w1.tr (fun c i k => pc3_hf c i (by omega) (by omega))
      rw [q1, q2, q104] at pc3_hr pc3_hw
      rw [q105] at pc3_hw
      refine ⟨fun b3 => ?_, fun b3 => ?_⟩
      · -- b3.1
        refine ⟨fun b4 => ?_, fun b4 => ?_⟩
        · -- b4.1
          refine hP _ _ ⟨?_, ?_⟩
          · show mW M M19  -- p2.hw
            exact w3
          · show qI ((1 ≤ k ∧ k ≤ 4) ∧ 0 ≤ what ∧ what ≤ 1) (qFw (M 103 1) (M 103 2) (M 104) (M 105) k what (M19 103 52)) (M19 103 52)  -- p2.hr
            exact qI.y ⟨hk, hk2⟩ (.inr ⟨pc3_hr.ne.1 b3, _, _, pc3_hw (pc3_hr.ne.1 b3), by rw [if_neg b4]⟩)
        · -- b4.2
          refine hP _ _ ⟨?_, ?_⟩
          · show mW M M19  -- p3.hw
            exact w3
          · show qI ((1 ≤ k ∧ k ≤ 4) ∧ 0 ≤ what ∧ what ≤ 1) (qFw (M 103 1) (M 103 2) (M 104) (M 105) k what (M19 103 53)) (M19 103 53)  -- p3.hr
            exact qI.y ⟨hk, hk2⟩ (.inr ⟨pc3_hr.ne.1 b3, _, _, pc3_hw (pc3_hr.ne.1 b3), by rw [if_pos b4]⟩)
      · -- b3.2
        refine hP _ _ ⟨?_, ?_⟩
        · show mW M M19  -- p4.hw
          exact w3
        · show qI ((1 ≤ k ∧ k ≤ 4) ∧ 0 ≤ what ∧ what ≤ 1) (qFw (M 103 1) (M 103 2) (M 104) (M 105) k what (-3)) (-3)  -- p4.hr
          exact qI.y ⟨hk, hk2⟩ (.inl ⟨by have := pc3_hr.z.1 b3; omega, rfl⟩)
    · -- b2.2
      refine hP _ _ ⟨?_, ?_⟩
      · show mW M M1  -- p5.hw
        exact w1
      · show qI ((1 ≤ k ∧ k ≤ 4) ∧ 0 ≤ what ∧ what ≤ 1) (qFw (M 103 1) (M 103 2) (M 104) (M 105) k what (-1)) (-1)  -- p5.hr
        exact qI.n (fun k => z2.z.1 b2 k.2)

abbrev pr_X12_makeFew (k : Int) (M : zM) : Prop := (mI M)
abbrev po_X12_makeFew (k : Int) (M : zM) (r : Int) (M' : zM) : Prop := (¬ (1 ≤ k ∧ k ≤ 4) → r = -1 ∧ mW M M') ∧ (1 ≤ k ∧ k ≤ 4 → 8 < zc (fun c => 0 < gCn (M 103 1) (M 103 2) (M 104) c) 16 → r = -3 ∧ mW M M') ∧ (1 ≤ k ∧ k ≤ 4 → zc (fun c => 0 < gCn (M 103 1) (M 103 2) (M 104) c) 16 ≤ 8 → ∃ N l s, gFw (gCn (M 103 1) (M 103 2) (M 104)) (M 105) k l s ∧ (∀ i, 0 ≤ i → i < 192 → N 114 i = if gD (M 103 1) (M 103 2) i then gNe (M 105) s (M 104 i) 16 else M 104 i) ∧ mW M N ∧ po_X12_change N r M')
set_option maxHeartbeats 1000000 in
theorem ok_X12_makeFew : zSnd zS 145 0 0 yX12_makeFew cX12_makeFew 3 (some .int) 3 [2, 0] (F_X12_makeFew pr_X12_makeFew po_X12_makeFew) := by
  refine (sn_X12_makeFew ok_X12_in ok_X12_findFew ok_X12_copyDots ok_X12_change ok_X12_isDot ok_X12_nearestOf).mono ?_
  rintro xs P M hz hR ⟨k, rfl, hI, hP⟩
  refine ⟨_, rfl, ?_⟩
  have z_k := zall_h (zall_t hz) (by decide)
  change vc_X12_makeFew pr_X12_in po_X12_in pr_X12_findFew po_X12_findFew pr_X12_copyDots po_X12_copyDots pr_X12_change po_X12_change pr_X12_isDot po_X12_isDot pr_X12_nearestOf po_X12_nearestOf k P M
  unfold vc_X12_makeFew
  intro M1 e_M1
  have I1 : mI M1 := hI.fr (fun c i k _ => by rw [e_M1, zset_n _ (by omega)])
  have w1 : mW M M1 := fun c i k => by rw [e_M1, zset_n _ (by omega)]
  have q1 := w1 103 1 (by omega)
  have q2 := w1 103 2 (by omega)
  have q104 : M1 104 = M 104 := funext fun i => w1 104 i (by omega)
  have q105 : M1 105 = M 105 := funext fun i => w1 105 i (by omega)
  have gc1 : pr_X12_in k 1 4 M1 := trivial
  refine ⟨gc1, ?_⟩
  rintro r4 M5 ⟨q_rfl, e_r4⟩ z_r4 z_M5
  have q_rfl := q_rfl.symm
  subst q_rfl
  have z1 := zif01 e_r4
  refine ⟨fun b1 => ?_, fun b1 => ?_⟩
  · -- b1.1
    have hk := z1.ne.1 b1
    have gc2 : pr_X12_findFew k M1 := by
      refine ⟨?_, ?_, ?_, ?_⟩
      · show mDim M1  -- c2.hd
        exact I1.d
      · show mCo M1  -- c2.hc
        exact I1.c
      · show ∀ c, 0 ≤ c → c < 16 → 0 ≤ M1 105 c ∧ M1 105 c ≤ 255  -- c2.ht
        exact I1.tn
      · show 1 ≤ k ∧ k ≤ 4  -- c2.hk
        exact hk
    refine ⟨gc2, ?_⟩
    rintro r11 M12 ⟨pc2_hf, pc2_hr, pc2_hw⟩ z_r11 z_M12
    have w3 : mW M M12 := w1.tr (fun c i k => pc2_hf c i (by omega) (by omega))
    rw [q1, q2, q104] at pc2_hr pc2_hw
    rw [q105] at pc2_hw
    refine ⟨fun b2 => ?_, fun b2 => ?_⟩
    · -- b2.1
      have le8 := pc2_hr.ne.1 b2
      have W := pc2_hw le8
      have gc3 : pr_X12_copyDots M12 := trivial
      refine ⟨gc3, ?_⟩
      rintro M18 ⟨pc3_hf, pc3_h4⟩ z_M18
      have I3 : mI M18 := (hI.w w3).fr (fun c i k _ => pc3_hf c i (by omega))
      have k1 : M18 103 1 = M 103 1 := by rw [pc3_hf 103 1 (by decide)]; exact w3 103 1 (by omega)
      have k2 : M18 103 2 = M 103 2 := by rw [pc3_hf 103 2 (by decide)]; exact w3 103 2 (by omega)
      have k104 : M18 104 = M 104 := funext fun i => by rw [pc3_hf 104 i (by decide)]; exact w3 104 i (by omega)
      have k105 : M18 105 = M 105 := funext fun i => by rw [pc3_hf 105 i (by decide)]; exact w3 105 i (by omega)
      have k52 : M18 103 52 = M12 103 52 := pc3_hf 103 52 (by decide)
      refine ⟨fun v23 M25 n27 => (n27 : Int) = (200 - v23) ∧ (0 ≤ v23 ∧ v23 ≤ 192) ∧ (∀ c i, c ≠ 114 → M25 c i = M18 c i) ∧ (∀ i, 0 ≤ i → i < v23 → M25 114 i = if gD (M 103 1) (M 103 2) i then gNe (M 105) (M12 103 52) (M 104 i) 16 else M 104 i) ∧ (∀ i, v23 ≤ i → i < 192 → M25 114 i = M 104 i), ⟨Int.toNat (200 - 0), by omega, ?_, ?_, ?_, ?_⟩, ?_⟩
      · show 0 ≤ 0 ∧ 0 ≤ 192  -- I36.0.hv
        first | with_reducible assumption | omega | exact trivial | with_reducible rfl
      · show ∀ c i, c ≠ 114 → M18 c i = M18 c i  -- I36.0.hf
        intro c i _; rfl
      · show ∀ i, 0 ≤ i → i < 0 → M18 114 i = if gD (M 103 1) (M 103 2) i then gNe (M 105) (M12 103 52) (M 104 i) 16 else M 104 i  -- I36.0.ha
        intro i i0 i1; omega
      · show ∀ i, 0 ≤ i → i < 192 → M18 114 i = M 104 i  -- I36.0.hb
        intro i i0 i1; rw [pc3_h4 i (by omega) i1, w3 104 i (by omega)]
      rintro v23 M25 n27 ⟨h_n27, hv, hf, ha, hb⟩ z_v23 z_M25
      have I4 : mI M25 := I3.fr (fun c i k _ => hf c i (by omega))
      have w4 : mW M M25 := fun c i k => by rw [hf c i (by omega), pc3_hf c i (by omega)]; exact w3 c i k
      refine ⟨fun b3 => ?_, fun b3 => ?_⟩
      · -- b3.1
        have gc4 : pr_X12_change M25 := by
          show 0 ≤ M25 103 8 ∧ M25 103 8 ≤ 20
          have := I4.h.1; omega
        refine ⟨gc4, ?_⟩
        rintro r35 M36 ⟨pc4_hr, pc4_hs, pc4_hf, pc4_hd⟩ z_r35 z_M36
        refine hP _ _ ⟨?_, ?_, ?_⟩
        · show ¬ (1 ≤ k ∧ k ≤ 4) → r35 = -1 ∧ mW M M36  -- p1.hn
          intro h; exact absurd hk h
        · show 1 ≤ k ∧ k ≤ 4 → 8 < zc (fun c => 0 < gCn (M 103 1) (M 103 2) (M 104) c) 16 → r35 = -3 ∧ mW M M36  -- p1.hm
          intro _ h; omega
        · show 1 ≤ k ∧ k ≤ 4 → zc (fun c => 0 < gCn (M 103 1) (M 103 2) (M 104) c) 16 ≤ 8 → ∃ N l s, gFw (gCn (M 103 1) (M 103 2) (M 104)) (M 105) k l s ∧ (∀ i, 0 ≤ i → i < 192 → N 114 i = if gD (M 103 1) (M 103 2) i then gNe (M 105) s (M 104 i) 16 else M 104 i) ∧ mW M N ∧ po_X12_change N r35 M36  -- p1.hy
          intro _ _; exact ⟨M25, _, _, W, fun i i0 i1 => ha i i0 (by omega), w4, pc4_hr, pc4_hs, pc4_hf, pc4_hd⟩
      · -- b3.2
        have gc5 : pr_X12_isDot v23 M25 := trivial
        refine ⟨gc5, ?_⟩
        rintro r41 M42 ⟨q_rfl, e_r41⟩ z_r41 z_M42
        have q_rfl := q_rfl.symm
        subst q_rfl
        have z5 := zif01 e_r41
        have dd : mDot M25 v23 ↔ gD (M 103 1) (M 103 2) v23 := by
          show gD (M25 103 1) (M25 103 2) v23 ↔ _
          rw [hf 103 1 (by decide), hf 103 2 (by decide), k1, k2]
        refine ⟨fun b4 => ?_, fun b4 => ?_⟩
        · -- b4.1
          have o1 : ((0 : Int) ≤ v23 ∧ v23 < 192) := by
            first | with_reducible assumption | omega | exact trivial | with_reducible rfl  -- o1
          refine ⟨o1, ?_⟩
          intro M49 e_M49
          have o2 : zin (v23 + 1) := by
            first | with_reducible assumption | omega | exact trivial | with_reducible rfl  -- o2
          refine ⟨o2, ?_⟩
          refine ⟨Int.toNat (200 - (v23 + 1)), by omega, by omega, ?_, ?_, ?_, ?_⟩
          · show 0 ≤ (v23 + 1) ∧ (v23 + 1) ≤ 192  -- I36.1.hv
            first | with_reducible assumption | omega | exact trivial | with_reducible rfl
          · show ∀ c i, c ≠ 114 → M49 c i = M18 c i  -- I36.1.hf
            intro c i k; rw [e_M49, zset_n _ (.inl k)]; exact hf c i k
          · show ∀ i, 0 ≤ i → i < (v23 + 1) → M49 114 i = if gD (M 103 1) (M 103 2) i then gNe (M 105) (M12 103 52) (M 104 i) 16 else M 104 i  -- I36.1.ha
            intro i i0 i1
            by_cases c : i = v23
            · subst c; rw [e_M49, zset_s, if_neg (fun q => z5.z.1 b4 (dd.2 q))]; exact hb i (by omega) (by omega)
            · rw [e_M49, zset_n _ (.inr c)]; exact ha i i0 (by omega)
          · show ∀ i, (v23 + 1) ≤ i → i < 192 → M49 114 i = M 104 i  -- I36.1.hb
            intro i i0 i1; rw [e_M49, zset_n _ (.inr (by omega))]; exact hb i (by omega) i1
        · -- b4.2
          have o3 : ((0 : Int) ≤ v23 ∧ v23 < 192) := by
            first | with_reducible assumption | omega | exact trivial | with_reducible rfl  -- o3
          refine ⟨o3, ?_⟩
          have gc6 : pr_X12_nearestOf (M25 104 v23) (M25 103 52) M25 := by
            refine ⟨?_, ?_, ?_⟩
            · show ∀ c, 0 ≤ c → c < 16 → 0 ≤ M25 105 c ∧ M25 105 c ≤ 255  -- c6.ht
              exact I4.tn
            · show 0 ≤ (M25 104 v23) ∧ (M25 104 v23) < 16  -- c6.hc
              have := I4.c v23 hv.1 (by omega); omega
            · show 0 ≤ (M25 103 52) ∧ (M25 103 52) < 65536  -- c6.hs
              rw [hf 103 52 (by decide), k52]; have := W.1; omega
          refine ⟨gc6, ?_⟩
          rintro r57 M58 ⟨q_rfl, e_r57⟩ z_r57 z_M58
          have q_rfl := q_rfl.symm
          subst q_rfl
          rw [show M25 105 = M 105 from by rw [← k105]; exact funext fun i => hf 105 i (by decide), hf 103 52 (by decide), k52, hf 104 v23 (by decide), k104] at e_r57
          intro M63 e_M63
          have o4 : zin (v23 + 1) := by
            first | with_reducible assumption | omega | exact trivial | with_reducible rfl  -- o4
          refine ⟨o4, ?_⟩
          refine ⟨Int.toNat (200 - (v23 + 1)), by omega, by omega, ?_, ?_, ?_, ?_⟩
          · show 0 ≤ (v23 + 1) ∧ (v23 + 1) ≤ 192  -- I36.2.hv
            first | with_reducible assumption | omega | exact trivial | with_reducible rfl
          · show ∀ c i, c ≠ 114 → M63 c i = M18 c i  -- I36.2.hf
            intro c i k; rw [e_M63, zset_n _ (.inl k)]; exact hf c i k
          · show ∀ i, 0 ≤ i → i < (v23 + 1) → M63 114 i = if gD (M 103 1) (M 103 2) i then gNe (M 105) (M12 103 52) (M 104 i) 16 else M 104 i  -- I36.2.ha
            intro i i0 i1
            by_cases c : i = v23
            · subst c; rw [e_M63, zset_s, if_pos (dd.1 (z5.ne.1 b4))]; exact e_r57
            · rw [e_M63, zset_n _ (.inr c)]; exact ha i i0 (by omega)
          · show ∀ i, (v23 + 1) ≤ i → i < 192 → M63 114 i = M 104 i  -- I36.2.hb
            intro i i0 i1; rw [e_M63, zset_n _ (.inr (by omega))]; exact hb i (by omega) i1
    · -- b2.2
      refine hP _ _ ⟨?_, ?_, ?_⟩
      · show ¬ (1 ≤ k ∧ k ≤ 4) → (-3) = -1 ∧ mW M M12  -- p2.hn
        intro h; exact absurd hk h
      · show 1 ≤ k ∧ k ≤ 4 → 8 < zc (fun c => 0 < gCn (M 103 1) (M 103 2) (M 104) c) 16 → (-3) = -3 ∧ mW M M12  -- p2.hm
        intro _ _; exact ⟨rfl, w3⟩
      · show 1 ≤ k ∧ k ≤ 4 → zc (fun c => 0 < gCn (M 103 1) (M 103 2) (M 104) c) 16 ≤ 8 → ∃ N l s, gFw (gCn (M 103 1) (M 103 2) (M 104)) (M 105) k l s ∧ (∀ i, 0 ≤ i → i < 192 → N 114 i = if gD (M 103 1) (M 103 2) i then gNe (M 105) s (M 104 i) 16 else M 104 i) ∧ mW M N ∧ po_X12_change N (-3) M12  -- p2.hy
        intro _ h; exact absurd h (pc2_hr.z.1 b2)
  · -- b1.2
    refine hP _ _ ⟨?_, ?_, ?_⟩
    · show ¬ (1 ≤ k ∧ k ≤ 4) → (-1) = -1 ∧ mW M M1  -- p3.hn
      intro _; exact ⟨rfl, w1⟩
    · show 1 ≤ k ∧ k ≤ 4 → 8 < zc (fun c => 0 < gCn (M 103 1) (M 103 2) (M 104) c) 16 → (-1) = -3 ∧ mW M M1  -- p3.hm
      intro h; exact absurd h (z1.z.1 b1)
    · show 1 ≤ k ∧ k ≤ 4 → zc (fun c => 0 < gCn (M 103 1) (M 103 2) (M 104) c) 16 ≤ 8 → ∃ N l s, gFw (gCn (M 103 1) (M 103 2) (M 104)) (M 105) k l s ∧ (∀ i, 0 ≤ i → i < 192 → N 114 i = if gD (M 103 1) (M 103 2) i then gNe (M 105) s (M 104 i) 16 else M 104 i) ∧ mW M N ∧ po_X12_change N (-1) M1  -- p3.hy
      intro h; exact absurd h (z1.z.1 b1)

abbrev pr_X12_pen (c : Int) (i : Int) (M : zM) : Prop := (mI M)
abbrev po_X12_pen (c : Int) (i : Int) (M : zM) (r : Int) (M' : zM) : Prop := (mW M M') ∧ ((0 ≤ c ∧ c ≤ 15) ∧ -1 ≤ i ∧ i ≤ 6 → mFok M' ∧ qPen (M' 104) (M' 116) (M' 103 30) c i r) ∧ (¬ ((0 ≤ c ∧ c ≤ 15) ∧ -1 ≤ i ∧ i ≤ 6) → r = -1)
set_option maxHeartbeats 1000000 in
theorem ok_X12_pen : zSnd zS 145 0 0 yX12_pen cX12_pen 4 (some .int) 3 [2, 0, 0] (F_X12_pen pr_X12_pen po_X12_pen) := by
  refine (sn_X12_pen ok_X12_in ok_X12_findFaces ok_X12_findPen).mono ?_
  rintro xs P M hz hR ⟨c, i, rfl, hI, hP⟩
  refine ⟨_, _, rfl, ?_⟩
  have z_c := zall_h (zall_t hz) (by decide)
  have z_i := zall_h (zall_t (zall_t hz)) (by decide)
  change vc_X12_pen pr_X12_in po_X12_in pr_X12_findFaces po_X12_findFaces pr_X12_findPen po_X12_findPen c i P M
  unfold vc_X12_pen
  intro M1 e_M1
  have I1 : mI M1 := hI.fr (fun c i k _ => by rw [e_M1, zset_n _ (by omega)])
  have w1 : mW M M1 := fun c i k => by rw [e_M1, zset_n _ (by omega)]
  have gc1 : pr_X12_in c 0 15 M1 := trivial
  refine ⟨gc1, ?_⟩
  rintro r4 M5 ⟨q_rfl, e_r4⟩ z_r4 z_M5
  have q_rfl := q_rfl.symm
  subst q_rfl
  have z1 := zif01 e_r4
  refine ⟨fun b1 => ?_, fun b1 => ?_⟩
  · -- b1.1
    refine hP _ _ ⟨?_, ?_, ?_⟩
    · show mW M M1  -- p1.hw
      exact w1
    · show (0 ≤ c ∧ c ≤ 15) ∧ -1 ≤ i ∧ i ≤ 6 → mFok M1 ∧ qPen (M1 104) (M1 116) (M1 103 30) c i (-1)  -- p1.hy
      intro h; exact absurd h.1 (z1.z.1 b1)
    · show ¬ ((0 ≤ c ∧ c ≤ 15) ∧ -1 ≤ i ∧ i ≤ 6) → (-1) = -1  -- p1.hn
      intro _; rfl
  · -- b1.2
    have hc := z1.ne.1 b1
    have gc2 : pr_X12_in i (-1) 6 M1 := trivial
    refine ⟨gc2, ?_⟩
    rintro r11 M12 ⟨q_rfl, e_r11⟩ z_r11 z_M12
    have q_rfl := q_rfl.symm
    subst q_rfl
    have z2 := zif01 e_r11
    refine ⟨fun b2 => ?_, fun b2 => ?_⟩
    · -- b2.1
      have hi := z2.ne.1 b2
      have gc3 : pr_X12_findFaces M1 := by
        refine ⟨?_, ?_⟩
        · show mDim M1  -- c3.hd
          exact I1.d
        · show M1 103 5 = 0 ∨ M1 103 5 = 1  -- c3.ht
          exact I1.t
      refine ⟨gc3, ?_⟩
      rintro M18 ⟨pc3_hf, pc3_hL, pc3_hn⟩ z_M18
      have e1 := pc3_hf 103 1 (by omega) (by omega) (by omega)
      have e2 := pc3_hf 103 2 (by omega) (by omega) (by omega)
      have e5 := pc3_hf 103 5 (by omega) (by omega) (by omega)
      have e104 : M18 104 = M1 104 := funext fun i => pc3_hf 104 i (by omega) (by omega) (by omega)
      have F3 : mFok M18 := by unfold mFok; rw [e1, e2, e5, e104]; exact ⟨pc3_hL, pc3_hn⟩
      have I3 := I1.face pc3_hf
      have w3 : mW M M18 := w1.tr (fun c i k => pc3_hf c i (by omega) (by omega) (by omega))
      have N3 := F3.N I3.d
      have d3 := I3.d
      generalize hp : (fun f => M18 104 (M18 116 f) = c) = p
      have ip : ∀ f, p f ↔ M18 104 (M18 116 f) = c := fun f => by rw [← hp]
      have zb := zc_b p (M18 103 30) N3.1
      intro M23 e_M23
      refine ⟨fun v26 M28 n30 => (n30 : Int) = (200 - v26) ∧ (0 ≤ v26 ∧ v26 ≤ M18 103 30) ∧ (∀ c i, c ≠ 129 → ¬ (c = 103 ∧ i = 57) → M28 c i = M18 c i) ∧ (M28 103 57 = zc p v26) ∧ (∀ t, 0 ≤ t → t < M28 103 57 → 0 ≤ M28 129 t ∧ M28 129 t < v26 ∧ p (M28 129 t) ∧ zc p (M28 129 t) = t), ⟨Int.toNat (200 - 0), by omega, ?_, ?_, ?_, ?_⟩, ?_⟩
      · show 0 ≤ 0 ∧ 0 ≤ M18 103 30  -- I44.0.hv
        first | with_reducible assumption | omega | exact trivial | with_reducible rfl
      · show ∀ c i, c ≠ 129 → ¬ (c = 103 ∧ i = 57) → M23 c i = M18 c i  -- I44.0.hf
        intro c i k1 k2; rw [e_M23, zset_n _ (by omega)]
      · show M23 103 57 = zc p 0  -- I44.0.h1
        rw [e_M23, zset_s]; rfl
      · show ∀ t, 0 ≤ t → t < M23 103 57 → 0 ≤ M23 129 t ∧ M23 129 t < 0 ∧ p (M23 129 t) ∧ zc p (M23 129 t) = t  -- I44.0.h2
        intro t t0 t1; rw [e_M23, zset_s] at t1; omega
      rintro v26 M28 n30 ⟨h_n30, hv, hf, h1, h2⟩ z_v26 z_M28
      have u := zc_b p v26 hv.1
      have w4 : mW M M28 := fun c i k => by rw [hf c i (by omega) (by omega)]; exact w3 c i k
      obtain ⟨v0, v1, v2, v3, v4, v5, v6⟩ := mVe.of (M := M18) (M' := M28) (fun c i k => hf c i (by omega) (by omega))
      have F4 := F3.ve (M' := M28) ⟨v0, v1, v2, v3, v4, v5, v6⟩
      have Q : (fun f => M28 104 (M28 116 f) = c) = p := by rw [v3, v5]; exact hp
      refine ⟨fun b3 => ?_, fun b3 => ?_⟩
      · -- b3.1
        have e26 : v26 = M28 103 30 := by omega
        rw [e26] at h1 h2
        refine ⟨fun b4 => ?_, fun b4 => ?_⟩
        · -- b4.1
          refine ⟨fun b5 => ?_, fun b5 => ?_⟩
          · -- b5.1
            refine hP _ _ ⟨?_, ?_, ?_⟩
            · show mW M M28  -- p2.hw
              exact w4
            · show (0 ≤ c ∧ c ≤ 15) ∧ -1 ≤ i ∧ i ≤ 6 → mFok M28 ∧ qPen (M28 104) (M28 116) (M28 103 30) c i (-4)  -- p2.hy
              intro _; refine ⟨F4, .inr (.inl ?_)⟩; rw [Q]; exact ⟨by omega, .inl (by omega), rfl⟩
            · show ¬ ((0 ≤ c ∧ c ≤ 15) ∧ -1 ≤ i ∧ i ≤ 6) → (-4) = -1  -- p2.hn
              intro h; exact absurd ⟨hc, hi⟩ h
          · -- b5.2
            refine ⟨fun b6 => ?_, fun b6 => ?_⟩
            · -- b6.1
              have gc4 : pr_X12_findPen M28 := by
                refine ⟨?_, ?_⟩
                · show 1 ≤ M28 103 57 ∧ M28 103 57 ≤ 7  -- c4.hn
                  omega
                · show gSp (M28 103 57) (M28 116) (M28 129)  -- c4.hS
                  intro t t0 t1
                  have a := h2 t t0 t1
                  have F := F4.F (f := M28 129 t) (by omega)
                  rw [v0, v1] at F
                  omega
              refine ⟨gc4, ?_⟩
              rintro r41 M42 ⟨pc4_hf, pc4_hw⟩ z_r41 z_M42
              obtain ⟨u0, u1, u2, u3, u4, u5, u6⟩ := mVe.of (M := M28) (M' := M42) (fun c i k => pc4_hf c i (by omega) (by omega))
              have F5 := F4.ve (M' := M42) ⟨u0, u1, u2, u3, u4, u5, u6⟩
              have w5 : mW M M42 := w4.tr (fun c i k => pc4_hf c i (by omega) (by omega))
              obtain ⟨σ, hσ, ho⟩ := pc4_hw
              have R : ∀ x, x = (if i < 0 then r41 else M28 129 (σ i)) → qPen (M42 104) (M42 116) (M42 103 30) c i x := fun x ex => by
                refine .inr (.inr ⟨M28 103 57, ?_, by omega, by omega, M28 129, σ, r41, ?_, ?_, ex⟩)
                · rw [u3, u5, u6, Q]; exact h1
                · intro t t0 t1
                  have a := h2 t t0 t1
                  rw [u3, u5, u6, Q]
                  refine ⟨a.1, a.2.1, ?_, a.2.2.2⟩
                  rw [v3, v5]; exact (ip _).1 a.2.2.1
                · rw [u5]; exact hσ
              refine ⟨fun b7 => ?_, fun b7 => ?_⟩
              · -- b7.1
                have o1 : ((0 : Int) ≤ i ∧ i < 7) := by
                  omega
                refine ⟨o1, ?_⟩
                refine hP _ _ ⟨?_, ?_, ?_⟩
                · show mW M M42  -- p3.hw
                  exact w5
                · show (0 ≤ c ∧ c ≤ 15) ∧ -1 ≤ i ∧ i ≤ 6 → mFok M42 ∧ qPen (M42 104) (M42 116) (M42 103 30) c i (M42 131 i)  -- p3.hy
                  intro _; exact ⟨F5, R _ (by rw [if_neg (by omega)]; exact ho i (by omega) (by omega))⟩
                · show ¬ ((0 ≤ c ∧ c ≤ 15) ∧ -1 ≤ i ∧ i ≤ 6) → (M42 131 i) = -1  -- p3.hn
                  intro h; exact absurd ⟨hc, hi⟩ h
              · -- b7.2
                refine hP _ _ ⟨?_, ?_, ?_⟩
                · show mW M M42  -- p4.hw
                  exact w5
                · show (0 ≤ c ∧ c ≤ 15) ∧ -1 ≤ i ∧ i ≤ 6 → mFok M42 ∧ qPen (M42 104) (M42 116) (M42 103 30) c i r41  -- p4.hy
                  intro _; exact ⟨F5, R _ (by rw [if_pos (by omega)])⟩
                · show ¬ ((0 ≤ c ∧ c ≤ 15) ∧ -1 ≤ i ∧ i ≤ 6) → r41 = -1  -- p4.hn
                  intro h; exact absurd ⟨hc, hi⟩ h
            · -- b6.2
              refine hP _ _ ⟨?_, ?_, ?_⟩
              · show mW M M28  -- p5.hw
                exact w4
              · show (0 ≤ c ∧ c ≤ 15) ∧ -1 ≤ i ∧ i ≤ 6 → mFok M28 ∧ qPen (M28 104) (M28 116) (M28 103 30) c i (-4)  -- p5.hy
                intro _; refine ⟨F4, .inr (.inl ?_)⟩; rw [Q]; exact ⟨by omega, .inr (by omega), rfl⟩
              · show ¬ ((0 ≤ c ∧ c ≤ 15) ∧ -1 ≤ i ∧ i ≤ 6) → (-4) = -1  -- p5.hn
                intro h; exact absurd ⟨hc, hi⟩ h
        · -- b4.2
          refine hP _ _ ⟨?_, ?_, ?_⟩
          · show mW M M28  -- p6.hw
            exact w4
          · show (0 ≤ c ∧ c ≤ 15) ∧ -1 ≤ i ∧ i ≤ 6 → mFok M28 ∧ qPen (M28 104) (M28 116) (M28 103 30) c i (-3)  -- p6.hy
            intro _; refine ⟨F4, .inl ⟨?_, rfl⟩⟩; rw [Q]; omega
          · show ¬ ((0 ≤ c ∧ c ≤ 15) ∧ -1 ≤ i ∧ i ≤ 6) → (-3) = -1  -- p6.hn
            intro h; exact absurd ⟨hc, hi⟩ h
      · -- b3.2
        have o2 : ((0 : Int) ≤ v26 ∧ v26 < 192) := by
          omega
        refine ⟨o2, ?_⟩
        have gF := F4.F (f := v26) (by omega)
        have o3 : ((0 : Int) ≤ (M28 116 v26) ∧ (M28 116 v26) < 192) := by
          omega
        refine ⟨o3, ?_⟩
        refine ⟨fun b8 => ?_, fun b8 => ?_⟩
        · -- b8.1
          have np : ¬ p v26 := fun q => b8 (by rw [v3, v5]; exact (ip _).1 q)
          have o4 : zin (v26 + 1) := by
            first | with_reducible assumption | omega | exact trivial | with_reducible rfl  -- o4
          refine ⟨o4, ?_⟩
          refine ⟨Int.toNat (200 - (v26 + 1)), by omega, by omega, ?_, ?_, ?_, ?_⟩
          · show 0 ≤ (v26 + 1) ∧ (v26 + 1) ≤ M18 103 30  -- I44.1.hv
            first | with_reducible assumption | omega | exact trivial | with_reducible rfl
          · show ∀ c i, c ≠ 129 → ¬ (c = 103 ∧ i = 57) → M28 c i = M18 c i  -- I44.1.hf
            first | with_reducible assumption | omega | exact trivial | with_reducible rfl
          · show M28 103 57 = zc p (v26 + 1)  -- I44.1.h1
            rw [zc_n hv.1 np]; exact h1
          · show ∀ t, 0 ≤ t → t < M28 103 57 → 0 ≤ M28 129 t ∧ M28 129 t < (v26 + 1) ∧ p (M28 129 t) ∧ zc p (M28 129 t) = t  -- I44.1.h2
            intro t t0 t1; have := h2 t t0 t1; exact ⟨this.1, by omega, this.2.2⟩
        · -- b8.2
          have yp : p v26 := (ip _).2 (by rw [← v3, ← v5]; exact b8)
          have o5 : ((0 : Int) ≤ (M28 103 57) ∧ (M28 103 57) < 192) := by
            omega
          refine ⟨o5, ?_⟩
          intro M57 e_M57
          have e57 : M57 103 57 = M28 103 57 := by rw [e_M57, zset_n _ (by omega)]
          have o6 : zin ((M57 103 57) + 1) := by
            omega
          refine ⟨o6, ?_⟩
          intro M61 e_M61
          have f57 : M61 103 57 = M28 103 57 + 1 := by rw [e_M61, zset_s, e57]
          have f129 : ∀ t, M61 129 t = if t = M28 103 57 then v26 else M28 129 t := fun t => by
            rw [e_M61, zset_n _ (by omega), e_M57]
            by_cases k : t = M28 103 57
            · rw [k, zset_s, if_pos rfl]
            · rw [zset_n _ (by omega), if_neg k]
          have o7 : zin (v26 + 1) := by
            first | with_reducible assumption | omega | exact trivial | with_reducible rfl  -- o7
          refine ⟨o7, ?_⟩
          refine ⟨Int.toNat (200 - (v26 + 1)), by omega, by omega, ?_, ?_, ?_, ?_⟩
          · show 0 ≤ (v26 + 1) ∧ (v26 + 1) ≤ M18 103 30  -- I44.2.hv
            first | with_reducible assumption | omega | exact trivial | with_reducible rfl
          · show ∀ c i, c ≠ 129 → ¬ (c = 103 ∧ i = 57) → M61 c i = M18 c i  -- I44.2.hf
            intro c i k1 k2; rw [e_M61, zset_n _ (by omega), e_M57, zset_n _ (by omega)]; exact hf c i k1 k2
          · show M61 103 57 = zc p (v26 + 1)  -- I44.2.h1
            rw [f57, zc_p hv.1 yp, h1]
          · show ∀ t, 0 ≤ t → t < M61 103 57 → 0 ≤ M61 129 t ∧ M61 129 t < (v26 + 1) ∧ p (M61 129 t) ∧ zc p (M61 129 t) = t  -- I44.2.h2
            intro t t0 t1
            rw [f57] at t1
            rw [f129]
            by_cases k : t = M28 103 57
            · rw [if_pos k]; exact ⟨hv.1, by omega, yp, by omega⟩
            · rw [if_neg k]; have := h2 t t0 (by omega); exact ⟨this.1, by omega, this.2.2⟩
    · -- b2.2
      refine hP _ _ ⟨?_, ?_, ?_⟩
      · show mW M M1  -- p7.hw
        exact w1
      · show (0 ≤ c ∧ c ≤ 15) ∧ -1 ≤ i ∧ i ≤ 6 → mFok M1 ∧ qPen (M1 104) (M1 116) (M1 103 30) c i (-1)  -- p7.hy
        intro h; exact absurd h.2 (z2.z.1 b2)
      · show ¬ ((0 ≤ c ∧ c ≤ 15) ∧ -1 ≤ i ∧ i ≤ 6) → (-1) = -1  -- p7.hn
        intro _; rfl

abbrev pr_X12_clean (n : Int) (M : zM) : Prop := (mI M)
abbrev po_X12_clean (n : Int) (M : zM) (r : Int) (M' : zM) : Prop := (¬ (1 ≤ n ∧ n ≤ 20) → r = -1 ∧ mW M M') ∧ (1 ≤ n ∧ n ≤ 20 → ∃ N, qClv (N 103 1) (N 103 2) (N 104) (N 115) n (N 103 30) (N 114) ∧ mW M N ∧ mFok N ∧ po_X12_change N r M')
set_option maxHeartbeats 2000000 in
theorem ok_X12_clean : zSnd zS 145 0 0 yX12_clean cX12_clean 5 (some .int) 3 [2, 0] (F_X12_clean pr_X12_clean po_X12_clean) := by
  refine (sn_X12_clean ok_X12_in ok_X12_findFaces ok_X12_copyDots ok_X12_change ok_X12_sizeOf ok_X12_mostBeside).mono ?_
  rintro xs P M hz hR ⟨n, rfl, hI, hP⟩
  refine ⟨_, rfl, ?_⟩
  have z_n := zall_h (zall_t hz) (by decide)
  change vc_X12_clean pr_X12_in po_X12_in pr_X12_findFaces po_X12_findFaces pr_X12_copyDots po_X12_copyDots pr_X12_change po_X12_change pr_X12_sizeOf po_X12_sizeOf pr_X12_mostBeside po_X12_mostBeside n P M
  unfold vc_X12_clean
  intro M1 e_M1
  have I1 : mI M1 := hI.fr (fun c i k _ => by rw [e_M1, zset_n _ (by omega)])
  have w1 : mW M M1 := fun c i k => by rw [e_M1, zset_n _ (by omega)]
  have gc1 : pr_X12_in n 1 20 M1 := trivial
  refine ⟨gc1, ?_⟩
  rintro r4 M5 ⟨q_rfl, e_r4⟩ z_r4 z_M5
  have q_rfl := q_rfl.symm
  subst q_rfl
  have z1 := zif01 e_r4
  refine ⟨fun b1 => ?_, fun b1 => ?_⟩
  · -- b1.1
    have hk := z1.ne.1 b1
    have gc2 : pr_X12_findFaces M1 := by
      refine ⟨?_, ?_⟩
      · show mDim M1  -- c2.hd
        exact I1.d
      · show M1 103 5 = 0 ∨ M1 103 5 = 1  -- c2.ht
        exact I1.t
    refine ⟨gc2, ?_⟩
    rintro M11 ⟨pc2_hf, pc2_hL, pc2_hn⟩ z_M11
    have e1 := pc2_hf 103 1 (by omega) (by omega) (by omega)
    have e2 := pc2_hf 103 2 (by omega) (by omega) (by omega)
    have e5 := pc2_hf 103 5 (by omega) (by omega) (by omega)
    have e104 : M11 104 = M1 104 := funext fun i => pc2_hf 104 i (by omega) (by omega) (by omega)
    have F1 : mFok M11 := by unfold mFok; rw [e1, e2, e5, e104]; exact ⟨pc2_hL, pc2_hn⟩
    have I2 := I1.face pc2_hf
    have w2 : mW M M11 := w1.tr (fun c i k => pc2_hf c i (by omega) (by omega) (by omega))
    have N2 := F1.N I2.d
    have gc3 : pr_X12_copyDots M11 := trivial
    refine ⟨gc3, ?_⟩
    rintro M16 ⟨pc3_hf, pc3_h4⟩ z_M16
    obtain ⟨v0, v1, v2, v3, v4, v5, v6⟩ := mVe.of (M := M11) (M' := M16) (fun c i k => pc3_hf c i (by omega))
    have F3 := F1.ve (M' := M16) ⟨v0, v1, v2, v3, v4, v5, v6⟩
    have I3 : mI M16 := I2.fr (fun c i k _ => pc3_hf c i (by omega))
    have w3 : mW M M16 := w2.tr (fun c i k => pc3_hf c i (by omega))
    refine ⟨fun v21 M23 n25 => (n25 : Int) = (200 - v21) ∧ (0 ≤ v21 ∧ v21 ≤ M16 103 30) ∧ (∀ c i, c ≠ 114 → M23 c i = M16 c i) ∧ (qClv (M16 103 1) (M16 103 2) (M16 104) (M16 115) n v21 (M23 114)), ⟨Int.toNat (200 - 0), by omega, ?_, ?_, ?_⟩, ?_⟩
    · show 0 ≤ 0 ∧ 0 ≤ M16 103 30  -- I29.0.hv
      first | with_reducible assumption | omega | exact trivial | with_reducible rfl
    · show ∀ c i, c ≠ 114 → M16 c i = M16 c i  -- I29.0.hf
      intro c i k1; rfl
    · show qClv (M16 103 1) (M16 103 2) (M16 104) (M16 115) n 0 (M16 114)  -- I29.0.hc
      intro i i0 i1; exact ⟨fun _ => by rw [pc3_h4 i i0 i1, v3], fun q => by omega, fun q => by omega⟩
    rintro v21 M23 n25 ⟨h_n25, hv, hf, hc⟩ z_v21 z_M23
    obtain ⟨u0, u1, u2, u3, u4, u5, u6⟩ := mVe.of (M := M16) (M' := M23) (fun c i k => hf c i (by omega))
    have F4 := F3.ve (M' := M23) ⟨u0, u1, u2, u3, u4, u5, u6⟩
    have I4 : mI M23 := I3.fr (fun c i k _ => hf c i (by omega))
    refine ⟨fun b2 => ?_, fun b2 => ?_⟩
    · -- b2.1
      have gc4 : pr_X12_change M23 := by
        show 0 ≤ M23 103 8 ∧ M23 103 8 ≤ 20
        have := I4.h.1; omega
      refine ⟨gc4, ?_⟩
      rintro r33 M34 ⟨pc4_hr, pc4_hs, pc4_hf, pc4_hd⟩ z_r33 z_M34
      refine hP _ _ ⟨?_, ?_⟩
      · show ¬ (1 ≤ n ∧ n ≤ 20) → r33 = -1 ∧ mW M M34  -- p1.hn
        intro h; exact absurd hk h
      · show 1 ≤ n ∧ n ≤ 20 → ∃ N, qClv (N 103 1) (N 103 2) (N 104) (N 115) n (N 103 30) (N 114) ∧ mW M N ∧ mFok N ∧ po_X12_change N r33 M34  -- p1.hy
        intro _
        refine ⟨M23, ?_, w3.tr (fun c i k => hf c i (by omega)), F4, pc4_hr, pc4_hs, pc4_hf, pc4_hd⟩
        rw [u0, u1, u3, u4, u6, show M16 103 30 = v21 by omega]
        exact hc
    · -- b2.2
      have gc5 : pr_X12_sizeOf v21 M23 := trivial
      refine ⟨gc5, ?_⟩
      rintro r39 M40 ⟨q_rfl, e_r39⟩ z_r39 z_M40
      have q_rfl := q_rfl.symm
      subst q_rfl
      have sz : r39 = zc (fun j => M16 115 j = v21) 192 := by rw [e_r39, u4]
      refine ⟨fun b3 => ?_, fun b3 => ?_⟩
      · -- b3.1
        refine ⟨fun v46 M48 n50 => (n50 : Int) = (200 - v46) ∧ (0 ≤ v46 ∧ v46 ≤ 192) ∧ (∀ c i, c ≠ 114 → M48 c i = M23 c i) ∧ (∃ e, ((n < r39 ∧ e = -1) ∨ (r39 ≤ n ∧ gMost (fun c => zc (gSd (M23 103 1) (M23 103 2) (M23 115) (M23 104) v21 c) 768) e)) ∧ (e < 0 → v46 = 0) ∧ ∀ i, 0 ≤ i → i < 192 → M48 114 i = if i < v46 ∧ M23 115 i = v21 then e else M23 114 i), ⟨Int.toNat (200 - 0), by omega, ?_, ?_, ?_⟩, ?_⟩
        · show 0 ≤ 0 ∧ 0 ≤ 192  -- I59.0.kv
          first | with_reducible assumption | omega | exact trivial | with_reducible rfl
        · show ∀ c i, c ≠ 114 → M23 c i = M23 c i  -- I59.0.kf
          intro c i k1; rfl
        · show ∃ e, ((n < r39 ∧ e = -1) ∨ (r39 ≤ n ∧ gMost (fun c => zc (gSd (M23 103 1) (M23 103 2) (M23 115) (M23 104) v21 c) 768) e)) ∧ (e < 0 → 0 = 0) ∧ ∀ i, 0 ≤ i → i < 192 → M23 114 i = if i < 0 ∧ M23 115 i = v21 then e else M23 114 i  -- I59.0.ke
          first | exact ⟨-1, .inl ⟨b3, rfl⟩, fun _ => rfl, fun i i0 i1 => by rw [if_neg (by omega)]⟩ | exact ⟨r83, .inr ⟨by omega, pc6_hr⟩, fun _ => rfl, fun i i0 i1 => by rw [if_neg (by omega)]⟩
        rintro v46 M48 n50 ⟨h_n50, kv, kf, ke⟩ z_v46 z_M48
        refine ⟨fun b4 => ?_, fun b4 => ?_⟩
        · -- b4.1
          have o1 : zin (v21 + 1) := by
            first | with_reducible assumption | omega | exact trivial | with_reducible rfl  -- o1
          refine ⟨o1, ?_⟩
          refine ⟨Int.toNat (200 - (v21 + 1)), by omega, by omega, ?_, ?_, ?_⟩
          · show 0 ≤ (v21 + 1) ∧ (v21 + 1) ≤ M16 103 30  -- I29.1.hv
            first | with_reducible assumption | omega | exact trivial | with_reducible rfl
          · show ∀ c i, c ≠ 114 → M48 c i = M16 c i  -- I29.1.hf
            intro c i k; rw [kf c i k]; exact hf c i k
          · show qClv (M16 103 1) (M16 103 2) (M16 104) (M16 115) n (v21 + 1) (M48 114)  -- I29.1.hc
            obtain ⟨e, he, h0, hE⟩ := ke; have := h0 (by omega); omega
        · -- b4.2
          refine ⟨fun b5 => ?_, fun b5 => ?_⟩
          · -- b5.1
            have o2 : zin (v21 + 1) := by
              first | with_reducible assumption | omega | exact trivial | with_reducible rfl  -- o2
            refine ⟨o2, ?_⟩
            refine ⟨Int.toNat (200 - (v21 + 1)), by omega, by omega, ?_, ?_, ?_⟩
            · show 0 ≤ (v21 + 1) ∧ (v21 + 1) ≤ M16 103 30  -- I29.2.hv
              first | with_reducible assumption | omega | exact trivial | with_reducible rfl
            · show ∀ c i, c ≠ 114 → M48 c i = M16 c i  -- I29.2.hf
              intro c i k; rw [kf c i k]; exact hf c i k
            · show qClv (M16 103 1) (M16 103 2) (M16 104) (M16 115) n (v21 + 1) (M48 114)  -- I29.2.hc
              obtain ⟨e, he, h0, hE⟩ := ke
              have z := h0 (by omega)
              have sk := hc.skip hv.1 (by omega)
              intro i i0 i1
              rw [hE i i0 i1, if_neg (by omega)]
              exact sk i i0 i1
          · -- b5.2
            have o3 : ((0 : Int) ≤ v46 ∧ v46 < 192) := by
              first | with_reducible assumption | omega | exact trivial | with_reducible rfl  -- o3
            refine ⟨o3, ?_⟩
            refine ⟨fun b6 => ?_, fun b6 => ?_⟩
            · -- b6.1
              intro M69 e_M69
              have o4 : zin (v46 + 1) := by
                first | with_reducible assumption | omega | exact trivial | with_reducible rfl  -- o4
              refine ⟨o4, ?_⟩
              refine ⟨Int.toNat (200 - (v46 + 1)), by omega, by omega, ?_, ?_, ?_⟩
              · show 0 ≤ (v46 + 1) ∧ (v46 + 1) ≤ 192  -- I59.1.kv
                first | with_reducible assumption | omega | exact trivial | with_reducible rfl
              · show ∀ c i, c ≠ 114 → M69 c i = M23 c i  -- I59.1.kf
                omega
              · show ∃ e, ((n < r39 ∧ e = -1) ∨ (r39 ≤ n ∧ gMost (fun c => zc (gSd (M23 103 1) (M23 103 2) (M23 115) (M23 104) v21 c) 768) e)) ∧ (e < 0 → (v46 + 1) = 0) ∧ ∀ i, 0 ≤ i → i < 192 → M69 114 i = if i < (v46 + 1) ∧ M23 115 i = v21 then e else M23 114 i  -- I59.1.ke
                omega
            · -- b6.2
              intro M76 e_M76
              have o5 : zin (v46 + 1) := by
                first | with_reducible assumption | omega | exact trivial | with_reducible rfl  -- o5
              refine ⟨o5, ?_⟩
              refine ⟨Int.toNat (200 - (v46 + 1)), by omega, by omega, ?_, ?_, ?_⟩
              · show 0 ≤ (v46 + 1) ∧ (v46 + 1) ≤ 192  -- I59.2.kv
                first | with_reducible assumption | omega | exact trivial | with_reducible rfl
              · show ∀ c i, c ≠ 114 → M76 c i = M23 c i  -- I59.2.kf
                omega
              · show ∃ e, ((n < r39 ∧ e = -1) ∨ (r39 ≤ n ∧ gMost (fun c => zc (gSd (M23 103 1) (M23 103 2) (M23 115) (M23 104) v21 c) 768) e)) ∧ (e < 0 → (v46 + 1) = 0) ∧ ∀ i, 0 ≤ i → i < 192 → M76 114 i = if i < (v46 + 1) ∧ M23 115 i = v21 then e else M23 114 i  -- I59.2.ke
                omega
      · -- b3.2
        have gc6 : pr_X12_mostBeside v21 M23 := by
          refine ⟨?_, ?_, ?_⟩
          · show mDim M23  -- c6.hd
            exact I4.d
          · show mFok M23  -- c6.hF
            exact F4
          · show 0 ≤ v21  -- c6.hf
            exact hv.1
        refine ⟨gc6, ?_⟩
        rintro r83 M84 ⟨q_rfl, pc6_hr⟩ z_r83 z_M84
        have q_rfl := q_rfl.symm
        subst q_rfl
        have eu : ∀ e, ((n < r39 ∧ e = -1) ∨ (r39 ≤ n ∧ gMost (fun c => zc (gSd (M23 103 1) (M23 103 2) (M23 115) (M23 104) v21 c) 768) e)) → e = r83 := fun e he => by
          rcases he with ⟨a, _⟩ | ⟨_, a⟩
          · omega
          · exact a.uq pc6_hr
        have hm : gMost (fun c => zc (gSd (M16 103 1) (M16 103 2) (M16 115) (M16 104) v21 c) 768) r83 := by rw [← u0, ← u1, ← u3, ← u4]; exact pc6_hr
        refine ⟨fun v89 M91 n93 => (n93 : Int) = (200 - v89) ∧ (0 ≤ v89 ∧ v89 ≤ 192) ∧ (∀ c i, c ≠ 114 → M91 c i = M23 c i) ∧ (∃ e, ((n < r39 ∧ e = -1) ∨ (r39 ≤ n ∧ gMost (fun c => zc (gSd (M23 103 1) (M23 103 2) (M23 115) (M23 104) v21 c) 768) e)) ∧ (e < 0 → v89 = 0) ∧ ∀ i, 0 ≤ i → i < 192 → M91 114 i = if i < v89 ∧ M23 115 i = v21 then e else M23 114 i), ⟨Int.toNat (200 - 0), by omega, ?_, ?_, ?_⟩, ?_⟩
        · show 0 ≤ 0 ∧ 0 ≤ 192  -- I59.0.kv
          first | with_reducible assumption | omega | exact trivial | with_reducible rfl
        · show ∀ c i, c ≠ 114 → M23 c i = M23 c i  -- I59.0.kf
          intro c i k1; rfl
        · show ∃ e, ((n < r39 ∧ e = -1) ∨ (r39 ≤ n ∧ gMost (fun c => zc (gSd (M23 103 1) (M23 103 2) (M23 115) (M23 104) v21 c) 768) e)) ∧ (e < 0 → 0 = 0) ∧ ∀ i, 0 ≤ i → i < 192 → M23 114 i = if i < 0 ∧ M23 115 i = v21 then e else M23 114 i  -- I59.0.ke
          first | exact ⟨-1, .inl ⟨b3, rfl⟩, fun _ => rfl, fun i i0 i1 => by rw [if_neg (by omega)]⟩ | exact ⟨r83, .inr ⟨by omega, pc6_hr⟩, fun _ => rfl, fun i i0 i1 => by rw [if_neg (by omega)]⟩
        rintro v89 M91 n93 ⟨h_n93, kv, kf, ke⟩ z_v89 z_M91
        refine ⟨fun b7 => ?_, fun b7 => ?_⟩
        · -- b7.1
          have o6 : zin (v21 + 1) := by
            first | with_reducible assumption | omega | exact trivial | with_reducible rfl  -- o6
          refine ⟨o6, ?_⟩
          refine ⟨Int.toNat (200 - (v21 + 1)), by omega, by omega, ?_, ?_, ?_⟩
          · show 0 ≤ (v21 + 1) ∧ (v21 + 1) ≤ M16 103 30  -- I29.3.hv
            first | with_reducible assumption | omega | exact trivial | with_reducible rfl
          · show ∀ c i, c ≠ 114 → M91 c i = M16 c i  -- I29.3.hf
            intro c i k; rw [kf c i k]; exact hf c i k
          · show qClv (M16 103 1) (M16 103 2) (M16 104) (M16 115) n (v21 + 1) (M91 114)  -- I29.3.hc
            obtain ⟨e, he, h0, hE⟩ := ke
            have e83 := eu e he
            subst e83
            refine hc.paint hv.1 (by omega) hm (fun i i0 i1 => ?_)
            rw [hE i i0 i1, u4]
            by_cases k : M16 115 i = v21
            · rw [if_pos ⟨by omega, k⟩, if_pos ⟨by omega, k⟩]
            · rw [if_neg (fun q => k q.2), if_neg (fun q => k q.2)]
        · -- b7.2
          refine ⟨fun b8 => ?_, fun b8 => ?_⟩
          · -- b8.1
            have o7 : zin (v21 + 1) := by
              first | with_reducible assumption | omega | exact trivial | with_reducible rfl  -- o7
            refine ⟨o7, ?_⟩
            refine ⟨Int.toNat (200 - (v21 + 1)), by omega, by omega, ?_, ?_, ?_⟩
            · show 0 ≤ (v21 + 1) ∧ (v21 + 1) ≤ M16 103 30  -- I29.4.hv
              first | with_reducible assumption | omega | exact trivial | with_reducible rfl
            · show ∀ c i, c ≠ 114 → M91 c i = M16 c i  -- I29.4.hf
              intro c i k; rw [kf c i k]; exact hf c i k
            · show qClv (M16 103 1) (M16 103 2) (M16 104) (M16 115) n (v21 + 1) (M91 114)  -- I29.4.hc
              obtain ⟨e, he, h0, hE⟩ := ke
              have e83 := eu e he
              subst e83
              have z := h0 b8
              refine hc.paint hv.1 (by omega) hm (fun i i0 i1 => ?_)
              rw [hE i i0 i1, if_neg (by omega), if_neg (by omega)]
          · -- b8.2
            have o8 : ((0 : Int) ≤ v89 ∧ v89 < 192) := by
              first | with_reducible assumption | omega | exact trivial | with_reducible rfl  -- o8
            refine ⟨o8, ?_⟩
            refine ⟨fun b9 => ?_, fun b9 => ?_⟩
            · -- b9.1
              intro M112 e_M112
              have o9 : zin (v89 + 1) := by
                first | with_reducible assumption | omega | exact trivial | with_reducible rfl  -- o9
              refine ⟨o9, ?_⟩
              refine ⟨Int.toNat (200 - (v89 + 1)), by omega, by omega, ?_, ?_, ?_⟩
              · show 0 ≤ (v89 + 1) ∧ (v89 + 1) ≤ 192  -- I59.3.kv
                first | with_reducible assumption | omega | exact trivial | with_reducible rfl
              · show ∀ c i, c ≠ 114 → M112 c i = M23 c i  -- I59.3.kf
                intro c i k; rw [e_M112, zset_n _ (.inl k)]; exact kf c i k
              · show ∃ e, ((n < r39 ∧ e = -1) ∨ (r39 ≤ n ∧ gMost (fun c => zc (gSd (M23 103 1) (M23 103 2) (M23 115) (M23 104) v21 c) 768) e)) ∧ (e < 0 → (v89 + 1) = 0) ∧ ∀ i, 0 ≤ i → i < 192 → M112 114 i = if i < (v89 + 1) ∧ M23 115 i = v21 then e else M23 114 i  -- I59.3.ke
                obtain ⟨e, he, h0, hE⟩ := ke
                have e83 := eu e he
                subst e83
                refine ⟨e, he, fun q => by omega, fun i i0 i1 => ?_⟩
                rw [kf 115 v89 (by decide)] at b9
                by_cases k : i = v89
                · subst k; rw [e_M112, zset_s, hE i i0 i1, if_neg (by omega), if_neg (fun q => b9 q.2)]
                · rw [e_M112, zset_n _ (.inr k), hE i i0 i1]
                  by_cases l : i < v89 ∧ M23 115 i = v21
                  · rw [if_pos l, if_pos ⟨by omega, l.2⟩]
                  · rw [if_neg l, if_neg (fun q => l ⟨by omega, q.2⟩)]
            · -- b9.2
              intro M119 e_M119
              have o10 : zin (v89 + 1) := by
                first | with_reducible assumption | omega | exact trivial | with_reducible rfl  -- o10
              refine ⟨o10, ?_⟩
              refine ⟨Int.toNat (200 - (v89 + 1)), by omega, by omega, ?_, ?_, ?_⟩
              · show 0 ≤ (v89 + 1) ∧ (v89 + 1) ≤ 192  -- I59.4.kv
                first | with_reducible assumption | omega | exact trivial | with_reducible rfl
              · show ∀ c i, c ≠ 114 → M119 c i = M23 c i  -- I59.4.kf
                intro c i k; rw [e_M119, zset_n _ (.inl k)]; exact kf c i k
              · show ∃ e, ((n < r39 ∧ e = -1) ∨ (r39 ≤ n ∧ gMost (fun c => zc (gSd (M23 103 1) (M23 103 2) (M23 115) (M23 104) v21 c) 768) e)) ∧ (e < 0 → (v89 + 1) = 0) ∧ ∀ i, 0 ≤ i → i < 192 → M119 114 i = if i < (v89 + 1) ∧ M23 115 i = v21 then e else M23 114 i  -- I59.4.ke
                obtain ⟨e, he, h0, hE⟩ := ke
                have e83 := eu e he
                refine ⟨e, he, fun q => by omega, fun i i0 i1 => ?_⟩
                rw [kf 115 v89 (by decide)] at b9
                by_cases k : i = v89
                · subst k; rw [e_M119, zset_s, if_pos ⟨by omega, b9⟩, e83]
                · rw [e_M119, zset_n _ (.inr k), hE i i0 i1]
                  by_cases l : i < v89 ∧ M23 115 i = v21
                  · rw [if_pos l, if_pos ⟨by omega, l.2⟩]
                  · rw [if_neg l, if_neg (fun q => l ⟨by omega, q.2⟩)]
  · -- b1.2
    refine hP _ _ ⟨?_, ?_⟩
    · show ¬ (1 ≤ n ∧ n ≤ 20) → (-1) = -1 ∧ mW M M1  -- p2.hn
      intro _; exact ⟨rfl, w1⟩
    · show 1 ≤ n ∧ n ≤ 20 → ∃ N, qClv (N 103 1) (N 103 2) (N 104) (N 115) n (N 103 30) (N 114) ∧ mW M N ∧ mFok N ∧ po_X12_change N (-1) M1  -- p2.hy
      intro h; exact absurd h (z1.z.1 b1)

