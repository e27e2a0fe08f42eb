abbrev mTok (M : zM) (d : Int) : Prop := (0 ≤ d ∧ d < 8) ∧ M 134 d = 2 ∧ M 140 d = 0
def mTx (M : zM) (d : Int) : Int × Int × Int × (Int → Int) := gEx (fun i => zland (M 142 (120 * d + i)) 255) (M 141 d) (M 141 d + 1).toNat 16 0 0 0 (fun _ => 0)
theorem mTok.no {M : zM} {d r : Int} (k : ¬ mTok M d) (e : r = if 0 ≤ d ∧ d < 8 then (if M 134 d = 0 then -11 else if M 134 d = 2 ∧ M 140 d = 0 then 0 else -12) else -1) : r = qRf d (M 134 d) ∧ r < 0 := by
  unfold qRf
  by_cases a : 0 ≤ d ∧ d < 8
  · rw [if_pos a] at e ⊢
    by_cases b : M 134 d = 0
    · rw [if_pos b] at e ⊢; omega
    · rw [if_neg b] at e ⊢
      rw [if_neg (fun q => k ⟨a, q⟩)] at e
      omega
  · rw [if_neg a] at e ⊢; omega
theorem mTok.yes {M : zM} {d r : Int} (k : mTok M d) (e : r = if 0 ≤ d ∧ d < 8 then (if M 134 d = 0 then -11 else if M 134 d = 2 ∧ M 140 d = 0 then 0 else -12) else -1) : r = 0 := by
  rw [if_pos k.1, if_neg (by omega), if_pos k.2] at e; exact e
theorem mTok.w {M M' : zM} {d : Int} (w : mW M M') : mTok M' d ↔ mTok M d := by
  unfold mTok
  rw [w 134 d (by omega), w 140 d (by omega)]
theorem mTx.w {M M' : zM} {d : Int} (w : mW M M') : mTx M' d = mTx M d := by
  unfold mTx
  rw [w 141 d (by omega), show M' 142 = M 142 from funext fun i => w 142 i (by omega)]
abbrev pr_X12_fault (d : Int) (M : zM) : Prop := (mI M)
abbrev po_X12_fault (d : Int) (M : zM) (r : Int) (M' : zM) : Prop := (mW M M') ∧ (¬ mTok M d → r = qRf d (M 134 d)) ∧ (mTok M d → r = (mTx M d).1)
set_option maxHeartbeats 1000000 in
theorem ok_X12_fault : zSnd zS 145 0 0 yX12_fault cX12_fault 4 (some .int) 5 [2, 0] (F_X12_fault pr_X12_fault po_X12_fault) := by
  refine (sn_X12_fault ok_X12_lacks ok_X12_pictureFault).mono ?_
  rintro xs P M hz hR ⟨d, rfl, hI, hP⟩
  refine ⟨_, rfl, ?_⟩
  have z_d := zall_h (zall_t hz) (by decide)
  change vc_X12_fault pr_X12_lacks po_X12_lacks pr_X12_pictureFault po_X12_pictureFault d P M
  unfold vc_X12_fault
  intro M1 e_M1
  have I1 : mI M1 := hI.fr (fun c i k _ => by rw [e_M1, zset_n _ (by omega)])
  have w1 : mW M M1 := fun c i k => by rw [e_M1, zset_n _ (by omega)]
  have w134 := w1 134 d (by omega)
  have gc1 : pr_X12_lacks d M1 := trivial
  refine ⟨gc1, ?_⟩
  rintro r4 M5 ⟨q_rfl, e_r4⟩ z_r4 z_M5
  have q_rfl := q_rfl.symm
  subst q_rfl
  refine ⟨fun b1 => ?_, fun b1 => ?_⟩
  · -- b1.1
    have yes : mTok M1 d := by
      apply Classical.byContradiction
      intro k; have := (mTok.no k e_r4).2; omega
    have S := I1.s d yes.1.1 yes.1.2
    have gc2 : pr_X12_pictureFault d M1 := by
      refine ⟨?_, ?_⟩
      · show 0 ≤ d ∧ d < 8  -- c2.hd
        exact yes.1
      · show 0 ≤ M1 141 d ∧ M1 141 d ≤ 120  -- c2.hn
        exact S.1
    refine ⟨gc2, ?_⟩
    rintro r11 M12 ⟨pc2_hf, pc2_hr⟩ z_r11 z_M12
    have w2 : mW M M12 := w1.tr (fun c i k => pc2_hf c i (by omega) (by omega))
    have eT : mTx M1 d = mTx M d := mTx.w w1
    refine ⟨fun b2 => ?_, fun b2 => ?_⟩
    · -- b2.1
      refine hP _ _ ⟨?_, ?_, ?_⟩
      · show mW M M12  -- p1.hw
        exact w2
      · show ¬ mTok M d → r11 = qRf d (M 134 d)  -- p1.hn
        intro k; exact absurd ((mTok.w w1).1 yes) k
      · show mTok M d → r11 = (mTx M d).1  -- p1.hy
        intro _; rw [← eT]; unfold mTx
        rcases pc2_hr with ⟨a, _⟩ | ⟨a, _⟩
        · exact a.symm
        · omega
    · -- b2.2
      refine hP _ _ ⟨?_, ?_, ?_⟩
      · show mW M M12  -- p2.hw
        exact w2
      · show ¬ mTok M d → (-4) = qRf d (M 134 d)  -- p2.hn
        intro k; exact absurd ((mTok.w w1).1 yes) k
      · show mTok M d → (-4) = (mTx M d).1  -- p2.hy
        intro _; rw [← eT]; unfold mTx
        rcases pc2_hr with ⟨_, a⟩ | ⟨_, _, _, D, e, _⟩
        · omega
        · rw [e]
  · -- b1.2
    refine hP _ _ ⟨?_, ?_, ?_⟩
    · show mW M M1  -- p3.hw
      exact w1
    · show ¬ mTok M d → r4 = qRf d (M 134 d)  -- p3.hn
      intro k; rw [← w134]; exact (mTok.no (fun q => k ((mTok.w w1).1 q)) e_r4).1
    · show mTok M d → r4 = (mTx M d).1  -- p3.hy
      intro k; have := mTok.yes ((mTok.w w1).2 k) e_r4; omega

abbrev pr_X12_picture (d : Int) (M : zM) : Prop := (mI M)
abbrev po_X12_picture (d : Int) (M : zM) (r : Int) (M' : zM) : Prop := (¬ mTok M d → r = qRf d (M 134 d) ∧ mW M M') ∧ (mTok M d → (mTx M d).1 ≠ -4 → r = -100 - (mTx M d).1 ∧ mW M M') ∧ (mTok M d → (mTx M d).1 = -4 → (r = (mTx M d).2.1 * (mTx M d).2.2.1 ∧ M' 103 1 = (mTx M d).2.1 ∧ M' 103 2 = (mTx M d).2.2.1 ∧ M' 103 7 = 0 ∧ M' 103 8 = 0) ∧ mDim M' ∧ (∀ i, gDo (M' 103 1) 0 (M' 103 2) i → M' 104 i = (mTx M d).2.2.2 i) ∧ (∀ i, 0 ≤ i → i < 192 → 0 ≤ M' 104 i ∧ M' 104 i ≤ 15) ∧ ∀ c i, ¬ mWk c i → c ≠ 104 → ¬ (c = 103 ∧ (i = 1 ∨ i = 2 ∨ i = 7 ∨ i = 8)) → M' c i = M c i)
set_option maxHeartbeats 1000000 in
theorem ok_X12_picture : zSnd zS 145 0 0 yX12_picture cX12_picture 5 (some .int) 5 [2, 0] (F_X12_picture pr_X12_picture po_X12_picture) := by
  refine (sn_X12_picture ok_X12_lacks ok_X12_pictureFault ok_X12_isDot).mono ?_
  rintro xs P M hz hR ⟨d, rfl, hI, hP⟩
  refine ⟨_, rfl, ?_⟩
  have z_d := zall_h (zall_t hz) (by decide)
  change vc_X12_picture pr_X12_lacks po_X12_lacks pr_X12_pictureFault po_X12_pictureFault pr_X12_isDot po_X12_isDot d P M
  unfold vc_X12_picture
  intro M1 e_M1
  have I1 : mI M1 := hI.fr (fun c i k _ => by rw [e_M1, zset_n _ (by omega)])
  have w1 : mW M M1 := fun c i k => by rw [e_M1, zset_n _ (by omega)]
  have w134 := w1 134 d (by omega)
  have gc1 : pr_X12_lacks d M1 := trivial
  refine ⟨gc1, ?_⟩
  rintro r4 M5 ⟨q_rfl, e_r4⟩ z_r4 z_M5
  have q_rfl := q_rfl.symm
  subst q_rfl
  refine ⟨fun b1 => ?_, fun b1 => ?_⟩
  · -- b1.1
    have yes : mTok M1 d := by
      apply Classical.byContradiction
      intro k; have := (mTok.no k e_r4).2; omega
    have S := I1.s d yes.1.1 yes.1.2
    have gc2 : pr_X12_pictureFault d M1 := by
      refine ⟨?_, ?_⟩
      · show 0 ≤ d ∧ d < 8  -- c2.hd
        exact yes.1
      · show 0 ≤ M1 141 d ∧ M1 141 d ≤ 120  -- c2.hn
        exact S.1
    refine ⟨gc2, ?_⟩
    rintro r11 M12 ⟨pc2_hf, pc2_hr⟩ z_r11 z_M12
    have w2 : mW M M12 := w1.tr (fun c i k => pc2_hf c i (by omega) (by omega))
    have eT : mTx M1 d = mTx M d := mTx.w w1
    have pb := gEx_pb (T := fun i => zland (M1 142 (120 * d + i)) 255) (n := M1 141 d) S.1.1 (M1 141 d + 1).toNat 16 0 0 0 (fun _ => 0) (by decide)
    refine ⟨fun b2 => ?_, fun b2 => ?_⟩
    · -- b2.1
      have ⟨rw1, rh1, D, eD, hD⟩ : (1 ≤ M12 103 26 ∧ M12 103 26 ≤ 16) ∧ (1 ≤ M12 103 27 ∧ M12 103 27 ≤ 12) ∧ ∃ D, gEx (fun i => zland (M1 142 (120 * d + i)) 255) (M1 141 d) (M1 141 d + 1).toNat 16 0 0 0 (fun _ => 0) = (-4, M12 103 26, M12 103 27, D) ∧ ∀ i, gDo (M12 103 26) 0 (M12 103 27) i → M12 113 i = D i ∧ 0 ≤ D i ∧ D i ≤ 15 := by
        rcases pc2_hr with ⟨_, a⟩ | ⟨_, a⟩
        · omega
        · exact a
      have eX : mTx M d = (-4, M12 103 26, M12 103 27, D) := by rw [← eT]; exact eD
      intro M18 e_M18
      intro M21 e_M21
      have f21 : ∀ c i, ¬ (c = 103 ∧ (i = 1 ∨ i = 2)) → M21 c i = M12 c i := fun c i k => by rw [e_M21, zset_n _ (by omega), e_M18, zset_n _ (by omega)]
      have g1 : M21 103 1 = M12 103 26 := by rw [e_M21, zset_n _ (by omega), e_M18, zset_s]
      have g2 : M21 103 2 = M12 103 27 := by rw [e_M21, zset_s, e_M18, zset_n _ (by omega)]
      refine ⟨fun v24 M26 n28 => (n28 : Int) = (200 - v24) ∧ (0 ≤ v24 ∧ v24 ≤ 192) ∧ (∀ c i, c ≠ 104 → M26 c i = M21 c i) ∧ (∀ i, 0 ≤ i → i < v24 → gDo (M12 103 26) 0 (M12 103 27) i → M26 104 i = D i) ∧ (∀ i, 0 ≤ i → i < 192 → 0 ≤ M26 104 i ∧ M26 104 i ≤ 15), ⟨Int.toNat (200 - 0), by omega, ?_, ?_, ?_, ?_⟩, ?_⟩
      · show 0 ≤ 0 ∧ 0 ≤ 192  -- I51.0.hv
        first | with_reducible assumption | omega | exact trivial | with_reducible rfl
      · show ∀ c i, c ≠ 104 → M21 c i = M21 c i  -- I51.0.hf
        intro c i _; rfl
      · show ∀ i, 0 ≤ i → i < 0 → gDo (M12 103 26) 0 (M12 103 27) i → M21 104 i = D i  -- I51.0.ha
        intro i i0 i1; omega
      · show ∀ i, 0 ≤ i → i < 192 → 0 ≤ M21 104 i ∧ M21 104 i ≤ 15  -- I51.0.hb
        intro i i0 i1; rw [f21 104 i (by omega), w2 104 i (by omega)]; exact hI.c i i0 i1
      rintro v24 M26 n28 ⟨h_n28, hv, hf, ha, hb⟩ z_v24 z_M26
      have h1 : M26 103 1 = M12 103 26 := by rw [hf 103 1 (by decide)]; exact g1
      have h2 : M26 103 2 = M12 103 27 := by rw [hf 103 2 (by decide)]; exact g2
      refine ⟨fun b3 => ?_, fun b3 => ?_⟩
      · -- b3.1
        intro M36 e_M36
        intro M39 e_M39
        have k1 : M39 103 1 = M12 103 26 := by rw [e_M39, zset_n _ (by omega), e_M36, zset_n _ (by omega)]; exact h1
        have k2 : M39 103 2 = M12 103 27 := by rw [e_M39, zset_n _ (by omega), e_M36, zset_n _ (by omega)]; exact h2
        have mb := Int.mul_le_mul (show M39 103 1 ≤ 16 by omega) (show M39 103 2 ≤ 12 by omega) (by omega) (by omega)
        have mp := Int.mul_nonneg (show 0 ≤ M39 103 1 by omega) (show 0 ≤ M39 103 2 by omega)
        have o1 : zin ((M39 103 1) * (M39 103 2)) := by
          first | with_reducible assumption | omega | exact trivial | with_reducible rfl  -- o1
        refine ⟨o1, ?_⟩
        refine hP _ _ ⟨?_, ?_, ?_⟩
        · show ¬ mTok M d → ((M39 103 1) * (M39 103 2)) = qRf d (M 134 d) ∧ mW M M39  -- p1.hn
          intro k; exact absurd ((mTok.w w1).1 yes) k
        · show mTok M d → (mTx M d).1 ≠ -4 → ((M39 103 1) * (M39 103 2)) = -100 - (mTx M d).1 ∧ mW M M39  -- p1.hb
          intro _ k; rw [eX] at k; exact absurd rfl k
        · show mTok M d → (mTx M d).1 = -4 → (((M39 103 1) * (M39 103 2)) = (mTx M d).2.1 * (mTx M d).2.2.1 ∧ M39 103 1 = (mTx M d).2.1 ∧ M39 103 2 = (mTx M d).2.2.1 ∧ M39 103 7 = 0 ∧ M39 103 8 = 0) ∧ mDim M39 ∧ (∀ i, gDo (M39 103 1) 0 (M39 103 2) i → M39 104 i = (mTx M d).2.2.2 i) ∧ (∀ i, 0 ≤ i → i < 192 → 0 ≤ M39 104 i ∧ M39 104 i ≤ 15) ∧ ∀ c i, ¬ mWk c i → c ≠ 104 → ¬ (c = 103 ∧ (i = 1 ∨ i = 2 ∨ i = 7 ∨ i = 8)) → M39 c i = M c i  -- p1.hy
          intro _ _; rw [eX]
          refine ⟨⟨?_, k1, k2, ?_, ?_⟩, ?_, fun i k => ?_, fun i i0 i1 => ?_, fun c i a1 a2 a3 => ?_⟩
          · rw [k1, k2]
          · rw [e_M39, zset_n _ (by omega), e_M36, zset_s]
          · rw [e_M39, zset_s]
          · unfold mDim; rw [k1, k2]; omega
          · rw [k1, k2] at k
            rw [e_M39, zset_n _ (by omega), e_M36, zset_n _ (by omega)]
            exact ha i k.1 (by unfold gDo at k; omega) k
          · rw [e_M39, zset_n _ (by omega), e_M36, zset_n _ (by omega)]; exact hb i i0 i1
          · rw [e_M39, zset_n _ (by omega), e_M36, zset_n _ (by omega), hf c i a2, f21 c i (by omega)]; exact w2 c i a1
      · -- b3.2
        have gc3 : pr_X12_isDot v24 M26 := trivial
        refine ⟨gc3, ?_⟩
        rintro r43 M44 ⟨q_rfl, e_r43⟩ z_r43 z_M44
        have q_rfl := q_rfl.symm
        subst q_rfl
        have z3 := zif01 e_r43
        have dd : mDot M26 v24 ↔ gDo (M12 103 26) 0 (M12 103 27) v24 := by
          show gD (M26 103 1) (M26 103 2) v24 ↔ _
          rw [h1, h2]; unfold gDo; omega
        refine ⟨fun b4 => ?_, fun b4 => ?_⟩
        · -- b4.1
          have o2 : ((0 : Int) ≤ v24 ∧ v24 < 192) := by
            first | with_reducible assumption | omega | exact trivial | with_reducible rfl  -- o2
          refine ⟨o2, ?_⟩
          intro M51 e_M51
          have o3 : zin (v24 + 1) := by
            first | with_reducible assumption | omega | exact trivial | with_reducible rfl  -- o3
          refine ⟨o3, ?_⟩
          refine ⟨Int.toNat (200 - (v24 + 1)), by omega, by omega, ?_, ?_, ?_, ?_⟩
          · show 0 ≤ (v24 + 1) ∧ (v24 + 1) ≤ 192  -- I51.1.hv
            first | with_reducible assumption | omega | exact trivial | with_reducible rfl
          · show ∀ c i, c ≠ 104 → M51 c i = M21 c i  -- I51.1.hf
            intro c i k; rw [e_M51, zset_n _ (.inl k)]; exact hf c i k
          · show ∀ i, 0 ≤ i → i < (v24 + 1) → gDo (M12 103 26) 0 (M12 103 27) i → M51 104 i = D i  -- I51.1.ha
            intro i i0 i1 q
            by_cases c : i = v24
            · subst c; exact absurd (dd.2 q) (z3.z.1 b4)
            · rw [e_M51, zset_n _ (.inr c)]; exact ha i i0 (by omega) q
          · show ∀ i, 0 ≤ i → i < 192 → 0 ≤ M51 104 i ∧ M51 104 i ≤ 15  -- I51.1.hb
            intro i i0 i1
            by_cases c : i = v24
            · subst c; rw [e_M51, zset_s]; omega
            · rw [e_M51, zset_n _ (.inr c)]; exact hb i i0 i1
        · -- b4.2
          have dq := hD v24 (dd.1 (z3.ne.1 b4))
          have e113 : M26 113 v24 = M12 113 v24 := by rw [hf 113 v24 (by decide), f21 113 v24 (by omega)]
          have o4 : ((0 : Int) ≤ v24 ∧ v24 < 192) := by
            first | with_reducible assumption | omega | exact trivial | with_reducible rfl  -- o4
          refine ⟨o4, ?_⟩
          intro M59 e_M59
          have o5 : zin (v24 + 1) := by
            first | with_reducible assumption | omega | exact trivial | with_reducible rfl  -- o5
          refine ⟨o5, ?_⟩
          refine ⟨Int.toNat (200 - (v24 + 1)), by omega, by omega, ?_, ?_, ?_, ?_⟩
          · show 0 ≤ (v24 + 1) ∧ (v24 + 1) ≤ 192  -- I51.2.hv
            first | with_reducible assumption | omega | exact trivial | with_reducible rfl
          · show ∀ c i, c ≠ 104 → M59 c i = M21 c i  -- I51.2.hf
            intro c i k; rw [e_M59, zset_n _ (.inl k)]; exact hf c i k
          · show ∀ i, 0 ≤ i → i < (v24 + 1) → gDo (M12 103 26) 0 (M12 103 27) i → M59 104 i = D i  -- I51.2.ha
            intro i i0 i1 q
            by_cases c : i = v24
            · subst c; rw [e_M59, zset_s, e113]; exact dq.1
            · rw [e_M59, zset_n _ (.inr c)]; exact ha i i0 (by omega) q
          · show ∀ i, 0 ≤ i → i < 192 → 0 ≤ M59 104 i ∧ M59 104 i ≤ 15  -- I51.2.hb
            intro i i0 i1
            by_cases c : i = v24
            · subst c; rw [e_M59, zset_s, e113, dq.1]; exact dq.2
            · rw [e_M59, zset_n _ (.inr c)]; exact hb i i0 i1
    · -- b2.2
      have o6 : zin ((-100) - r11) := by
        rcases pc2_hr with ⟨a, _⟩ | ⟨a, _⟩ <;> omega
      refine ⟨o6, ?_⟩
      refine hP _ _ ⟨?_, ?_, ?_⟩
      · show ¬ mTok M d → ((-100) - r11) = qRf d (M 134 d) ∧ mW M M12  -- p2.hn
        intro k; exact absurd ((mTok.w w1).1 yes) k
      · show mTok M d → (mTx M d).1 ≠ -4 → ((-100) - r11) = -100 - (mTx M d).1 ∧ mW M M12  -- p2.hb
        intro _ _; refine ⟨?_, w2⟩; rw [← eT]; unfold mTx
        rcases pc2_hr with ⟨a, _⟩ | ⟨a, _⟩
        · rw [a]
        · omega
      · show mTok M d → (mTx M d).1 = -4 → (((-100) - r11) = (mTx M d).2.1 * (mTx M d).2.2.1 ∧ M12 103 1 = (mTx M d).2.1 ∧ M12 103 2 = (mTx M d).2.2.1 ∧ M12 103 7 = 0 ∧ M12 103 8 = 0) ∧ mDim M12 ∧ (∀ i, gDo (M12 103 1) 0 (M12 103 2) i → M12 104 i = (mTx M d).2.2.2 i) ∧ (∀ i, 0 ≤ i → i < 192 → 0 ≤ M12 104 i ∧ M12 104 i ≤ 15) ∧ ∀ c i, ¬ mWk c i → c ≠ 104 → ¬ (c = 103 ∧ (i = 1 ∨ i = 2 ∨ i = 7 ∨ i = 8)) → M12 c i = M c i  -- p2.hy
        intro _ q; rw [← eT] at q; unfold mTx at q
        rcases pc2_hr with ⟨a, b⟩ | ⟨a, _⟩ <;> omega
  · -- b1.2
    refine hP _ _ ⟨?_, ?_, ?_⟩
    · show ¬ mTok M d → r4 = qRf d (M 134 d) ∧ mW M M1  -- p3.hn
      intro k; rw [← w134]; exact ⟨(mTok.no (fun q => k ((mTok.w w1).1 q)) e_r4).1, w1⟩
    · show mTok M d → (mTx M d).1 ≠ -4 → r4 = -100 - (mTx M d).1 ∧ mW M M1  -- p3.hb
      intro k; have := mTok.yes ((mTok.w w1).2 k) e_r4; omega
    · show mTok M d → (mTx M d).1 = -4 → (r4 = (mTx M d).2.1 * (mTx M d).2.2.1 ∧ M1 103 1 = (mTx M d).2.1 ∧ M1 103 2 = (mTx M d).2.2.1 ∧ M1 103 7 = 0 ∧ M1 103 8 = 0) ∧ mDim M1 ∧ (∀ i, gDo (M1 103 1) 0 (M1 103 2) i → M1 104 i = (mTx M d).2.2.2 i) ∧ (∀ i, 0 ≤ i → i < 192 → 0 ≤ M1 104 i ∧ M1 104 i ≤ 15) ∧ ∀ c i, ¬ mWk c i → c ≠ 104 → ¬ (c = 103 ∧ (i = 1 ∨ i = 2 ∨ i = 7 ∨ i = 8)) → M1 c i = M c i  -- p3.hy
      intro k; have := mTok.yes ((mTok.w w1).2 k) e_r4; omega

abbrev pr_X12_tell (q : Int) (v : Int) (M : zM) : Prop := (mI M) ∧ (v = 0 ∨ v = 1)
abbrev po_X12_tell (q : Int) (v : Int) (M : zM) (r : Int) (M' : zM) : Prop := (¬ (0 ≤ q ∧ q < M 103 9) → r = -1 ∧ M' = zset M 103 0 0) ∧ (0 ≤ q ∧ q < M 103 9 → r = (if M 109 q = v then 0 else 1) ∧ M' = zset (zset M 103 0 0) 109 q v)
set_option maxHeartbeats 1000000 in
theorem ok_X12_tell : zSnd zS 145 0 0 yX12_tell cX12_tell 4 (some .int) 1 [2, 0, 0] (F_X12_tell pr_X12_tell po_X12_tell) := by
  refine (sn_X12_tell ok_X12_in).mono ?_
  rintro xs P M hz hR ⟨q, v, rfl, ⟨hI, hv⟩, hP⟩
  refine ⟨_, _, rfl, ?_⟩
  have z_q := zall_h (zall_t hz) (by decide)
  have z_v := zall_h (zall_t (zall_t hz)) (by decide)
  change vc_X12_tell pr_X12_in po_X12_in q v P M
  unfold vc_X12_tell
  intro M1 e_M1
  have R := hI.r.1
  have q9 : M1 103 9 = M 103 9 := by rw [e_M1, zset_n _ (by omega)]
  have q109 : M1 109 q = M 109 q := by rw [e_M1, zset_n _ (by omega)]
  have o1 : zin ((M1 103 9) - 1) := by
    first | with_reducible assumption | omega | exact trivial | with_reducible rfl  -- o1
  refine ⟨o1, ?_⟩
  have gc1 : pr_X12_in q 0 ((M1 103 9) - 1) M1 := trivial
  refine ⟨gc1, ?_⟩
  rintro r5 M6 ⟨q_rfl, e_r5⟩ z_r5 z_M6
  have q_rfl := q_rfl.symm
  subst q_rfl
  have z1 := zif01 e_r5
  refine ⟨fun b1 => ?_, fun b1 => ?_⟩
  · -- b1.1
    have hk := z1.ne.1 b1
    have o2 : ((0 : Int) ≤ q ∧ q < 12) := by
      first | with_reducible assumption | omega | exact trivial | with_reducible rfl  -- o2
    refine ⟨o2, ?_⟩
    have o3 : (v = 0 ∨ v = 1) := by
      first | with_reducible assumption | omega | exact trivial | with_reducible rfl  -- o3
    refine ⟨o3, ?_⟩
    intro M14 e_M14
    refine ⟨fun b2 => ?_, fun b2 => ?_⟩
    · -- b2.1
      refine hP _ _ ⟨?_, ?_⟩
      · show ¬ (0 ≤ q ∧ q < M 103 9) → 1 = -1 ∧ M14 = zset M 103 0 0  -- p1.hn
        intro h; omega
      · show 0 ≤ q ∧ q < M 103 9 → 1 = (if M 109 q = v then 0 else 1) ∧ M14 = zset (zset M 103 0 0) 109 q v  -- p1.hy
        intro _; exact ⟨by rw [if_neg (by omega)], by rw [e_M14, e_M1]⟩
    · -- b2.2
      refine hP _ _ ⟨?_, ?_⟩
      · show ¬ (0 ≤ q ∧ q < M 103 9) → 0 = -1 ∧ M14 = zset M 103 0 0  -- p2.hn
        intro h; omega
      · show 0 ≤ q ∧ q < M 103 9 → 0 = (if M 109 q = v then 0 else 1) ∧ M14 = zset (zset M 103 0 0) 109 q v  -- p2.hy
        intro _; exact ⟨by rw [if_pos (by omega)], by rw [e_M14, e_M1]⟩
  · -- b1.2
    refine hP _ _ ⟨?_, ?_⟩
    · show ¬ (0 ≤ q ∧ q < M 103 9) → (-1) = -1 ∧ M1 = zset M 103 0 0  -- p3.hn
      intro _; exact ⟨rfl, e_M1⟩
    · show 0 ≤ q ∧ q < M 103 9 → (-1) = (if M 109 q = v then 0 else 1) ∧ M1 = zset (zset M 103 0 0) 109 q v  -- p3.hy
      intro h; exact absurd (by omega) (z1.z.1 b1)

abbrev pr_X12_count (k : Int) (M : zM) : Prop := (mI M)
abbrev po_X12_count (k : Int) (M : zM) (r : Int) (M' : zM) : Prop := (mW M M') ∧ (mFok M') ∧ (qCnt (M' 103 1) (M' 103 2) (M' 104) (M' 115) (M' 103 30) (M' 103 9) (M' 103 8) (M' 109) k r)
set_option maxHeartbeats 2000000 in
theorem ok_X12_count : zSnd zS 145 0 0 yX12_count cX12_count 6 (some .int) 4 [2, 0] (F_X12_count pr_X12_count po_X12_count) := by
  refine (sn_X12_count ok_X12_findFaces ok_X12_findColours ok_X12_ones ok_X12_leaderOf ok_X12_isDot ok_X12_beside).mono ?_
  rintro xs P M hz hR ⟨k, rfl, hI, hP⟩
  refine ⟨_, rfl, ?_⟩
  have z_k := zall_h (zall_t hz) (by decide)
  change vc_X12_count pr_X12_findFaces po_X12_findFaces pr_X12_findColours po_X12_findColours pr_X12_ones po_X12_ones pr_X12_leaderOf po_X12_leaderOf pr_X12_isDot po_X12_isDot pr_X12_beside po_X12_beside k P M
  unfold vc_X12_count
  intro M1 e_M1
  have I1 : mI M1 := hI.fr (fun c i k _ => by rw [e_M1, zset_n _ (by omega)])
  have w1 : mW M M1 := fun c i k => by rw [e_M1, zset_n _ (by omega)]
  have gc1 : pr_X12_findFaces M1 := by
    refine ⟨?_, ?_⟩
    · show mDim M1  -- c1.hd
      exact I1.d
    · show M1 103 5 = 0 ∨ M1 103 5 = 1  -- c1.ht
      exact I1.t
  refine ⟨gc1, ?_⟩
  rintro M4 ⟨pc1_hf, pc1_hL, pc1_hn⟩ z_M4
  have e1 := pc1_hf 103 1 (by omega) (by omega) (by omega)
  have e2 := pc1_hf 103 2 (by omega) (by omega) (by omega)
  have e5 := pc1_hf 103 5 (by omega) (by omega) (by omega)
  have e104 : M4 104 = M1 104 := funext fun i => pc1_hf 104 i (by omega) (by omega) (by omega)
  have F1 : mFok M4 := by unfold mFok; rw [e1, e2, e5, e104]; exact ⟨pc1_hL, pc1_hn⟩
  have I2 := I1.face pc1_hf
  have w2 : mW M M4 := w1.tr (fun c i k => pc1_hf c i (by omega) (by omega) (by omega))
  have N2 := F1.N I2.d
  have R2 := I2.r
  have d2 := I2.d
  refine ⟨fun b1 => ?_, fun b1 => ?_⟩
  · -- b1.1
    refine hP _ _ ⟨?_, ?_, ?_⟩
    · show mW M M4  -- p1.hw
      exact w2
    · show mFok M4  -- p1.hF
      exact F1
    · show qCnt (M4 103 1) (M4 103 2) (M4 104) (M4 115) (M4 103 30) (M4 103 9) (M4 103 8) (M4 109) k (M4 103 1)  -- p1.hr
      unfold qCnt; rw [if_pos b1]
  · -- b1.2
    refine ⟨fun b2 => ?_, fun b2 => ?_⟩
    · -- b2.1
      refine hP _ _ ⟨?_, ?_, ?_⟩
      · show mW M M4  -- p2.hw
        exact w2
      · show mFok M4  -- p2.hF
        exact F1
      · show qCnt (M4 103 1) (M4 103 2) (M4 104) (M4 115) (M4 103 30) (M4 103 9) (M4 103 8) (M4 109) k (M4 103 2)  -- p2.hr
        unfold qCnt; rw [if_neg b1, if_pos b2]
    · -- b2.2
      refine ⟨fun b3 => ?_, fun b3 => ?_⟩
      · -- b3.1
        refine hP _ _ ⟨?_, ?_, ?_⟩
        · show mW M M4  -- p3.hw
          exact w2
        · show mFok M4  -- p3.hF
          exact F1
        · show qCnt (M4 103 1) (M4 103 2) (M4 104) (M4 115) (M4 103 30) (M4 103 9) (M4 103 8) (M4 109) k (M4 103 30)  -- p3.hr
          unfold qCnt; rw [if_neg b1, if_neg b2, if_pos b3]
      · -- b3.2
        refine ⟨fun b4 => ?_, fun b4 => ?_⟩
        · -- b4.1
          have gc2 : pr_X12_findColours M4 := by
            refine ⟨?_, ?_⟩
            · show mDim M4  -- c2.hd
              exact I2.d
            · show mCo M4  -- c2.hc
              exact I2.c
          refine ⟨gc2, ?_⟩
          rintro r9 M10 ⟨pc2_hf, pc2_hm, pc2_hr⟩ z_r9 z_M10
          have w3 : mW M M10 := w2.tr (fun c i k => pc2_hf c i (by omega))
          have u := mVe.of (M := M4) (M' := M10) (fun c i k => pc2_hf c i (by omega))
          have gc3 : pr_X12_ones r9 M10 := by
            show 0 ≤ r9 ∧ r9 < 65536
            exact pc2_hr.1
          refine ⟨gc3, ?_⟩
          rintro r15 M16 ⟨q_rfl, e_r15⟩ z_r15 z_M16
          have q_rfl := q_rfl.symm
          subst q_rfl
          refine hP _ _ ⟨?_, ?_, ?_⟩
          · show mW M M10  -- p4.hw
            exact w3
          · show mFok M10  -- p4.hF
            exact F1.ve u
          · show qCnt (M10 103 1) (M10 103 2) (M10 104) (M10 115) (M10 103 30) (M10 103 9) (M10 103 8) (M10 109) k r15  -- p4.hr
            unfold qCnt; rw [if_neg b1, if_neg b2, if_neg b3, if_pos b4, u.1, u.2.1, u.2.2.2.1, e_r15]
            exact zc_c 16 (by decide) (fun i i0 i1 => by rw [pc2_hr.2 i i0]; exact ⟨fun h => h.2, fun h => ⟨i1, h⟩⟩)
        · -- b4.2
          refine ⟨fun b5 => ?_, fun b5 => ?_⟩
          · -- b5.1
            refine ⟨fun v21 v22 M25 n27 => (n27 : Int) = (200 - v22) ∧ (0 ≤ v22 ∧ v22 ≤ M4 103 30) ∧ (∀ c i, ¬ (c = 103 ∧ 32 ≤ i ∧ i ≤ 35) → M25 c i = M4 c i) ∧ (v21 = zc (fun g => gLd (M4 103 1) (M4 103 2) (M4 115) g g) v22), ⟨Int.toNat (200 - 0), by omega, ?_, ?_, ?_⟩, ?_⟩
            · show 0 ≤ 0 ∧ 0 ≤ M4 103 30  -- I89.0.hv
              first | with_reducible assumption | omega | exact trivial | with_reducible rfl
            · show ∀ c i, ¬ (c = 103 ∧ 32 ≤ i ∧ i ≤ 35) → M4 c i = M4 c i  -- I89.0.hf
              intro c i _; rfl
            · show 0 = zc (fun g => gLd (M4 103 1) (M4 103 2) (M4 115) g g) 0  -- I89.0.h1
              rfl
            rintro v21 v22 M25 n27 ⟨h_n27, hv, hf, h1⟩ z_v21 z_v22 z_M25
            have u := mVe.of (M := M4) (M' := M25) (fun c i k => hf c i (by omega))
            have F2 := F1.ve u
            have I3 : mI M25 := I2.fr (fun c i k _ => hf c i (by omega))
            obtain ⟨v0, v1, v2, v3, v4, v5, v6⟩ := u
            have zb := zc_b (fun g => gLd (M4 103 1) (M4 103 2) (M4 115) g g) v22 hv.1
            refine ⟨fun b6 => ?_, fun b6 => ?_⟩
            · -- b6.1
              refine hP _ _ ⟨?_, ?_, ?_⟩
              · show mW M M25  -- p5.hw
                exact w2.tr (fun c i k => hf c i (by omega))
              · show mFok M25  -- p5.hF
                exact F2
              · show qCnt (M25 103 1) (M25 103 2) (M25 104) (M25 115) (M25 103 30) (M25 103 9) (M25 103 8) (M25 109) k v21  -- p5.hr
                unfold qCnt; rw [if_neg b1, if_neg b2, if_neg b3, if_neg b4, if_pos b5, v0, v1, v4, h1, show v22 = M25 103 30 by omega]
            · -- b6.2
              have gc4 : pr_X12_leaderOf v22 M25 := by
                refine ⟨?_, ?_, ?_⟩
                · show mDim M25  -- c4.hd
                  exact I3.d
                · show mFok M25  -- c4.hF
                  exact F2
                · show 0 ≤ v22 ∧ v22 < M25 103 30  -- c4.ha
                  omega
              refine ⟨gc4, ?_⟩
              rintro r35 M36 ⟨pc4_hf, pc4_hr⟩ z_r35 z_M36
              rw [v0, v1, v4] at pc4_hr
              refine ⟨fun b7 => ?_, fun b7 => ?_⟩
              · -- b7.1
                have o1 : zin (v21 + 0) := by
                  first | with_reducible assumption | omega | exact trivial | with_reducible rfl  -- o1
                refine ⟨o1, ?_⟩
                have o2 : zin (v22 + 1) := by
                  first | with_reducible assumption | omega | exact trivial | with_reducible rfl  -- o2
                refine ⟨o2, ?_⟩
                refine ⟨Int.toNat (200 - (v22 + 1)), by omega, by omega, ?_, ?_, ?_⟩
                · show 0 ≤ (v22 + 1) ∧ (v22 + 1) ≤ M4 103 30  -- I89.1.hv
                  first | with_reducible assumption | omega | exact trivial | with_reducible rfl
                · show ∀ c i, ¬ (c = 103 ∧ 32 ≤ i ∧ i ≤ 35) → M36 c i = M4 c i  -- I89.1.hf
                  intro c i k; rw [pc4_hf c i k]; exact hf c i k
                · show (v21 + 0) = zc (fun g => gLd (M4 103 1) (M4 103 2) (M4 115) g g) (v22 + 1)  -- I89.1.h1
                  rw [zc_n (p := fun g => gLd (M4 103 1) (M4 103 2) (M4 115) g g) hv.1 (fun q => b7 (gLd.uq pc4_hr q))]; omega
              · -- b7.2
                have o3 : zin (v21 + 1) := by
                  first | with_reducible assumption | omega | exact trivial | with_reducible rfl  -- o3
                refine ⟨o3, ?_⟩
                have o4 : zin (v22 + 1) := by
                  first | with_reducible assumption | omega | exact trivial | with_reducible rfl  -- o4
                refine ⟨o4, ?_⟩
                refine ⟨Int.toNat (200 - (v22 + 1)), by omega, by omega, ?_, ?_, ?_⟩
                · show 0 ≤ (v22 + 1) ∧ (v22 + 1) ≤ M4 103 30  -- I89.2.hv
                  first | with_reducible assumption | omega | exact trivial | with_reducible rfl
                · show ∀ c i, ¬ (c = 103 ∧ 32 ≤ i ∧ i ≤ 35) → M36 c i = M4 c i  -- I89.2.hf
                  intro c i k; rw [pc4_hf c i k]; exact hf c i k
                · show (v21 + 1) = zc (fun g => gLd (M4 103 1) (M4 103 2) (M4 115) g g) (v22 + 1)  -- I89.2.h1
                  rw [zc_p (p := fun g => gLd (M4 103 1) (M4 103 2) (M4 115) g g) hv.1 (by rw [b7] at pc4_hr; exact pc4_hr)]; omega
          · -- b5.2
            refine ⟨fun b8 => ?_, fun b8 => ?_⟩
            · -- b8.1
              refine hP _ _ ⟨?_, ?_, ?_⟩
              · show mW M M4  -- p6.hw
                exact w2
              · show mFok M4  -- p6.hF
                exact F1
              · show qCnt (M4 103 1) (M4 103 2) (M4 104) (M4 115) (M4 103 30) (M4 103 9) (M4 103 8) (M4 109) k (M4 103 9)  -- p6.hr
                unfold qCnt; rw [if_neg b1, if_neg b2, if_neg b3, if_neg b4, if_neg b5, if_pos b8]
            · -- b8.2
              refine ⟨fun b9 => ?_, fun b9 => ?_⟩
              · -- b9.1
                refine ⟨fun v52 v53 n56 => (n56 : Int) = (200 - v53) ∧ (0 ≤ v53 ∧ v53 ≤ M4 103 9) ∧ (v52 = zc (fun k => M4 109 k ≠ 0) v53), ⟨Int.toNat (200 - 0), by omega, ?_, ?_⟩, ?_⟩
                · show 0 ≤ 0 ∧ 0 ≤ M4 103 9  -- I129.0.hv3
                  first | with_reducible assumption | omega | exact trivial | with_reducible rfl
                · show 0 = zc (fun k => M4 109 k ≠ 0) 0  -- I129.0.h3
                  rfl
                rintro v52 v53 n56 ⟨h_n56, hv3, h3⟩ z_v52 z_v53
                have zb := zc_b (fun k => M4 109 k ≠ 0) v53 hv3.1
                refine ⟨fun b10 => ?_, fun b10 => ?_⟩
                · -- b10.1
                  refine hP _ _ ⟨?_, ?_, ?_⟩
                  · show mW M M4  -- p7.hw
                    exact w2
                  · show mFok M4  -- p7.hF
                    exact F1
                  · show qCnt (M4 103 1) (M4 103 2) (M4 104) (M4 115) (M4 103 30) (M4 103 9) (M4 103 8) (M4 109) k v52  -- p7.hr
                    unfold qCnt; rw [if_neg b1, if_neg b2, if_neg b3, if_neg b4, if_neg b5, if_neg b8, if_pos b9, h3, show v53 = M4 103 9 by omega]
                · -- b10.2
                  have o5 : ((0 : Int) ≤ v53 ∧ v53 < 12) := by
                    first | with_reducible assumption | omega | exact trivial | with_reducible rfl  -- o5
                  refine ⟨o5, ?_⟩
                  refine ⟨fun b11 => ?_, fun b11 => ?_⟩
                  · -- b11.1
                    have o6 : zin (v52 + 0) := by
                      first | with_reducible assumption | omega | exact trivial | with_reducible rfl  -- o6
                    refine ⟨o6, ?_⟩
                    have o7 : zin (v53 + 1) := by
                      first | with_reducible assumption | omega | exact trivial | with_reducible rfl  -- o7
                    refine ⟨o7, ?_⟩
                    refine ⟨Int.toNat (200 - (v53 + 1)), by omega, by omega, ?_, ?_⟩
                    · show 0 ≤ (v53 + 1) ∧ (v53 + 1) ≤ M4 103 9  -- I129.1.hv3
                      first | with_reducible assumption | omega | exact trivial | with_reducible rfl
                    · show (v52 + 0) = zc (fun k => M4 109 k ≠ 0) (v53 + 1)  -- I129.1.h3
                      rw [zc_n hv3.1 (fun q => q b11)]; omega
                  · -- b11.2
                    have o8 : zin (v52 + 1) := by
                      first | with_reducible assumption | omega | exact trivial | with_reducible rfl  -- o8
                    refine ⟨o8, ?_⟩
                    have o9 : zin (v53 + 1) := by
                      first | with_reducible assumption | omega | exact trivial | with_reducible rfl  -- o9
                    refine ⟨o9, ?_⟩
                    refine ⟨Int.toNat (200 - (v53 + 1)), by omega, by omega, ?_, ?_⟩
                    · show 0 ≤ (v53 + 1) ∧ (v53 + 1) ≤ M4 103 9  -- I129.2.hv3
                      first | with_reducible assumption | omega | exact trivial | with_reducible rfl
                    · show (v52 + 1) = zc (fun k => M4 109 k ≠ 0) (v53 + 1)  -- I129.2.h3
                      rw [zc_p hv3.1 b11]; omega
              · -- b9.2
                refine ⟨fun b12 => ?_, fun b12 => ?_⟩
                · -- b12.1
                  refine hP _ _ ⟨?_, ?_, ?_⟩
                  · show mW M M4  -- p8.hw
                    exact w2
                  · show mFok M4  -- p8.hF
                    exact F1
                  · show qCnt (M4 103 1) (M4 103 2) (M4 104) (M4 115) (M4 103 30) (M4 103 9) (M4 103 8) (M4 109) k (M4 103 8)  -- p8.hr
                    unfold qCnt; rw [if_neg b1, if_neg b2, if_neg b3, if_neg b4, if_neg b5, if_neg b8, if_neg b9, if_pos b12]
                · -- b12.2
                  refine ⟨fun b13 => ?_, fun b13 => ?_⟩
                  · -- b13.1
                    generalize hp : qUn (M4 103 1) (M4 103 2) (M4 104) = p
                    refine ⟨fun v76 v77 M80 n82 => (n82 : Int) = (200 - v77) ∧ (0 ≤ v77 ∧ v77 ≤ 192) ∧ (M80 = M4) ∧ (v76 = zc p (2 * v77)), ⟨Int.toNat (200 - 0), by omega, ?_, ?_, ?_⟩, ?_⟩
                    · show 0 ≤ 0 ∧ 0 ≤ 192  -- I169.0.hv4
                      first | with_reducible assumption | omega | exact trivial | with_reducible rfl
                    · first | with_reducible assumption | omega | exact trivial | with_reducible rfl  -- I169.0.rfl
                    · show 0 = zc p (2 * 0)  -- I169.0.h4
                      rfl
                    rintro v76 v77 M80 n82 ⟨h_n82, hv4, q_rfl, h4⟩ z_v76 z_v77 z_M80
                    have q_rfl := q_rfl.symm
                    subst q_rfl
                    have zb := zc_b p (2 * v77) (by omega)
                    refine ⟨fun b14 => ?_, fun b14 => ?_⟩
                    · -- b14.1
                      refine hP _ _ ⟨?_, ?_, ?_⟩
                      · show mW M M4  -- p9.hw
                        exact w2
                      · show mFok M4  -- p9.hF
                        exact F1
                      · show qCnt (M4 103 1) (M4 103 2) (M4 104) (M4 115) (M4 103 30) (M4 103 9) (M4 103 8) (M4 109) k v76  -- p9.hr
                        unfold qCnt; rw [if_neg b1, if_neg b2, if_neg b3, if_neg b4, if_neg b5, if_neg b8, if_neg b9, if_neg b12, if_pos b13, hp, h4, show 2 * v77 = 384 by omega]
                    · -- b14.2
                      refine ⟨fun v90 v91 M94 n96 => (n96 : Int) = (2 - v91) ∧ (0 ≤ v91 ∧ v91 ≤ 2) ∧ (M94 = M4) ∧ (v90 = zc p (2 * v77 + v91)), ⟨Int.toNat (2 - 0), by omega, ?_, ?_, ?_⟩, ?_⟩
                      · show 0 ≤ 0 ∧ 0 ≤ 2  -- I179.0.hv5
                        first | with_reducible assumption | omega | exact trivial | with_reducible rfl
                      · first | with_reducible assumption | omega | exact trivial | with_reducible rfl  -- I179.0.rfl
                      · show v76 = zc p (2 * v77 + 0)  -- I179.0.h5
                        rw [show 2 * v77 + 0 = 2 * v77 by omega]; exact h4
                      rintro v90 v91 M94 n96 ⟨h_n96, hv5, q_rfl, h5⟩ z_v90 z_v91 z_M94
                      have q_rfl := q_rfl.symm
                      subst q_rfl
                      have zb2 := zc_b p (2 * v77 + v91) (by omega)
                      have ca : (2 * v77 + v91) / 2 = v77 ∨ v91 = 2 := by omega
                      refine ⟨fun b15 => ?_, fun b15 => ?_⟩
                      · -- b15.1
                        have o10 : zin (v77 + 1) := by
                          first | with_reducible assumption | omega | exact trivial | with_reducible rfl  -- o10
                        refine ⟨o10, ?_⟩
                        refine ⟨Int.toNat (200 - (v77 + 1)), by omega, by omega, ?_, ?_, ?_⟩
                        · show 0 ≤ (v77 + 1) ∧ (v77 + 1) ≤ 192  -- I169.1.hv4
                          first | with_reducible assumption | omega | exact trivial | with_reducible rfl
                        · first | with_reducible assumption | omega | exact trivial | with_reducible rfl  -- I169.1.rfl
                        · show v90 = zc p (2 * (v77 + 1))  -- I169.1.h4
                          rw [h5, show 2 * v77 + v91 = 2 * (v77 + 1) by omega]
                      · -- b15.2
                        have gc5 : pr_X12_isDot v77 M4 := trivial
                        refine ⟨gc5, ?_⟩
                        rintro r108 M109 ⟨q_rfl, e_r108⟩ z_r108 z_M109
                        have q_rfl := q_rfl.symm
                        subst q_rfl
                        have z5 := zif01 e_r108
                        have cb : (2 * v77 + v91) / 2 = v77 := by omega
                        have pa : p (2 * v77 + v91) ↔ gD (M4 103 1) (M4 103 2) v77 ∧ ((v91 = 0 ∧ v77 % 16 + 1 < M4 103 1 ∧ M4 104 v77 ≠ M4 104 (v77 + 1)) ∨ (v91 = 1 ∧ v77 / 16 + 1 < M4 103 2 ∧ M4 104 v77 ≠ M4 104 (v77 + 16))) := by
                          rw [← hp]; unfold qUn; rw [cb, show (2 * v77 + v91) % 2 = v91 by omega]
                        refine ⟨fun b16 => ?_, fun b16 => ?_⟩
                        · -- b16.1
                          have o11 : zin (v77 + 1) := by
                            first | with_reducible assumption | omega | exact trivial | with_reducible rfl  -- o11
                          refine ⟨o11, ?_⟩
                          refine ⟨Int.toNat (200 - (v77 + 1)), by omega, by omega, ?_, ?_, ?_⟩
                          · show 0 ≤ (v77 + 1) ∧ (v77 + 1) ≤ 192  -- I169.2.hv4
                            first | with_reducible assumption | omega | exact trivial | with_reducible rfl
                          · first | with_reducible assumption | omega | exact trivial | with_reducible rfl  -- I169.2.rfl
                          · show v90 = zc p (2 * (v77 + 1))  -- I169.2.h4
                            have nd : ¬ gD (M4 103 1) (M4 103 2) v77 := z5.z.1 b16
                            rw [h5]
                            refine (zc_skip (p := p) (by omega) _ (by omega) (fun i i0 i1 q => ?_)).symm
                            rw [← hp] at q
                            have y := q.1
                            rw [show i / 2 = v77 by omega] at y
                            exact nd y
                        · -- b16.2
                          have hD : gD (M4 103 1) (M4 103 2) v77 := z5.ne.1 b16
                          have gc6 : pr_X12_beside v77 v91 M4 := by
                            refine ⟨?_, ?_, ?_⟩
                            · show mDim M4  -- c6.hd
                              exact d2
                            · show 0 ≤ v77  -- c6.h0
                              omega
                            · show v77 < 192  -- c6.h1
                              omega
                          refine ⟨gc6, ?_⟩
                          rintro r119 M120 ⟨q_rfl, e_r119⟩ z_r119 z_M120
                          have q_rfl := q_rfl.symm
                          subst q_rfl
                          have xd : v91 = 0 ∨ v91 = 1 := by omega
                          have dx : (v91 = 0 → zdx v91 = 1 ∧ zdy v91 = 0) ∧ (v91 = 1 → zdx v91 = 0 ∧ zdy v91 = 1) := ⟨fun e => by rw [e]; exact ⟨rfl, rfl⟩, fun e => by rw [e]; exact ⟨rfl, rfl⟩⟩
                          have bE : ∀ y, gD (M4 103 1) (M4 103 2) y → y % 16 = v77 % 16 + zdx v91 → y / 16 = v77 / 16 + zdy v91 → r119 = y := fun y dy a b => by rw [e_r119]; exact mBes_E d2 dy a b
                          refine ⟨fun b17 => ?_, fun b17 => ?_⟩
                          · -- b17.1
                            have o12 : zin (v90 + 0) := by
                              first | with_reducible assumption | omega | exact trivial | with_reducible rfl  -- o12
                            refine ⟨o12, ?_⟩
                            have o13 : zin (v91 + 1) := by
                              first | with_reducible assumption | omega | exact trivial | with_reducible rfl  -- o13
                            refine ⟨o13, ?_⟩
                            refine ⟨Int.toNat (2 - (v91 + 1)), by omega, by omega, ?_, ?_, ?_⟩
                            · show 0 ≤ (v91 + 1) ∧ (v91 + 1) ≤ 2  -- I179.1.hv5
                              first | with_reducible assumption | omega | exact trivial | with_reducible rfl
                            · first | with_reducible assumption | omega | exact trivial | with_reducible rfl  -- I179.1.rfl
                            · show (v90 + 0) = zc p (2 * v77 + (v91 + 1))  -- I179.1.h5
                              rw [show 2 * v77 + (v91 + 1) = 2 * v77 + v91 + 1 by omega, zc_n (by omega) (by
                                rw [pa]
                                rintro ⟨_, ⟨a, b, _⟩ | ⟨a, b, _⟩⟩
                                · have := bE (v77 + 1) (by omega) (by omega) (by omega); omega
                                · have := bE (v77 + 16) (by omega) (by omega) (by omega); omega)]; omega
                          · -- b17.2
                            have bD := mBes_D (a := v77) (d := v91) d2 (by rw [← e_r119]; omega)
                            rw [← e_r119] at bD
                            have e0 : v91 = 0 → r119 = v77 + 1 ∧ v77 % 16 + 1 < M4 103 1 := fun e => by have := dx.1 e; omega
                            have e1' : v91 = 1 → r119 = v77 + 16 ∧ v77 / 16 + 1 < M4 103 2 := fun e => by have := dx.2 e; omega
                            have o14 : ((0 : Int) ≤ r119 ∧ r119 < 192) := by
                              omega
                            refine ⟨o14, ?_⟩
                            have o15 : ((0 : Int) ≤ v77 ∧ v77 < 192) := by
                              first | with_reducible assumption | omega | exact trivial | with_reducible rfl  -- o15
                            refine ⟨o15, ?_⟩
                            refine ⟨fun b18 => ?_, fun b18 => ?_⟩
                            · -- b18.1
                              have o16 : zin (v90 + 0) := by
                                first | with_reducible assumption | omega | exact trivial | with_reducible rfl  -- o16
                              refine ⟨o16, ?_⟩
                              have o17 : zin (v91 + 1) := by
                                first | with_reducible assumption | omega | exact trivial | with_reducible rfl  -- o17
                              refine ⟨o17, ?_⟩
                              refine ⟨Int.toNat (2 - (v91 + 1)), by omega, by omega, ?_, ?_, ?_⟩
                              · show 0 ≤ (v91 + 1) ∧ (v91 + 1) ≤ 2  -- I179.2.hv5
                                first | with_reducible assumption | omega | exact trivial | with_reducible rfl
                              · first | with_reducible assumption | omega | exact trivial | with_reducible rfl  -- I179.2.rfl
                              · show (v90 + 0) = zc p (2 * v77 + (v91 + 1))  -- I179.2.h5
                                rw [show 2 * v77 + (v91 + 1) = 2 * v77 + v91 + 1 by omega, zc_n (by omega) (by
                                  rw [pa]
                                  rintro ⟨_, ⟨a, b, c⟩ | ⟨a, b, c⟩⟩
                                  · rw [(e0 a).1] at b18; exact c b18.symm
                                  · rw [(e1' a).1] at b18; exact c b18.symm)]; omega
                            · -- b18.2
                              have o18 : zin (v90 + 1) := by
                                first | with_reducible assumption | omega | exact trivial | with_reducible rfl  -- o18
                              refine ⟨o18, ?_⟩
                              have o19 : zin (v91 + 1) := by
                                first | with_reducible assumption | omega | exact trivial | with_reducible rfl  -- o19
                              refine ⟨o19, ?_⟩
                              refine ⟨Int.toNat (2 - (v91 + 1)), by omega, by omega, ?_, ?_, ?_⟩
                              · show 0 ≤ (v91 + 1) ∧ (v91 + 1) ≤ 2  -- I179.3.hv5
                                first | with_reducible assumption | omega | exact trivial | with_reducible rfl
                              · first | with_reducible assumption | omega | exact trivial | with_reducible rfl  -- I179.3.rfl
                              · show (v90 + 1) = zc p (2 * v77 + (v91 + 1))  -- I179.3.h5
                                rw [show 2 * v77 + (v91 + 1) = 2 * v77 + v91 + 1 by omega, zc_p (by omega) (by
                                  rw [pa]
                                  refine ⟨hD, ?_⟩
                                  rcases xd with a | a
                                  · rw [(e0 a).1] at b18; exact .inl ⟨a, (e0 a).2, fun q => b18 q.symm⟩
                                  · rw [(e1' a).1] at b18; exact .inr ⟨a, (e1' a).2, fun q => b18 q.symm⟩)]; omega
                  · -- b13.2
                    refine hP _ _ ⟨?_, ?_, ?_⟩
                    · show mW M M4  -- p10.hw
                      exact w2
                    · show mFok M4  -- p10.hF
                      exact F1
                    · show qCnt (M4 103 1) (M4 103 2) (M4 104) (M4 115) (M4 103 30) (M4 103 9) (M4 103 8) (M4 109) k (-1)  -- p10.hr
                      unfold qCnt; rw [if_neg b1, if_neg b2, if_neg b3, if_neg b4, if_neg b5, if_neg b8, if_neg b9, if_neg b12, if_neg b13]

