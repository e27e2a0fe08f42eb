def mTT (M : zM) : Int → Int := if M 103 58 = 0 then (fun i => zland (M 142 (M 103 21 + i)) 255) else (fun i => M 107 (M 103 21 + i))
def mC (M : zM) : Prop := (0 ≤ M 103 21 ∧ (M 103 58 = 0 → M 103 21 ≤ 840) ∧ M 103 21 ≤ 1320) ∧ (0 ≤ M 103 22 ∧ M 103 22 ≤ 120) ∧ (0 ≤ M 103 23 ∧ M 103 23 ≤ M 103 22) ∧ (M 103 58 ≠ 0 → mI M ∧ mFok M ∧ 0 ≤ M 103 59 ∧ M 103 59 < M 103 30)
abbrev mB2 (M : zM) : Int := gBy (mTT M) (M 103 22) (M 103 23)
def mPh (M : zM) (φ : Int → Int) : Prop := (M 103 58 = 0 → ∀ k, φ k = 0) ∧ (M 103 58 ≠ 0 → (∀ k r, 0 ≤ k → k < 12 → qFa (M 103 1) (M 103 2) (M 103 5) (M 104) (M 115) (M 116) (M 103 30) (M 103 59) k r → r = φ k) ∧ φ 12 = zc (fun g => gLk (M 103 1) (M 103 2) (M 115) g (M 103 59)) (M 103 30))
abbrev mF2 (c i : Int) : Prop := (117 ≤ c ∧ c ≤ 120) ∨ (c = 103 ∧ (i = 23 ∨ i = 24 ∨ (31 ≤ i ∧ i ≤ 40)))
theorem mC.fr {M M' : zM} (H : mC M) (hf : ∀ c i, ¬ mF2 c i → M' c i = M c i) (h : 0 ≤ M' 103 23 ∧ M' 103 23 ≤ M 103 22) : mC M' := by
  have e1 := hf 103 21 (by omega)
  have e2 := hf 103 22 (by omega)
  have e3 := hf 103 58 (by omega)
  have e4 := hf 103 59 (by omega)
  have e5 := hf 103 30 (by omega)
  obtain ⟨a, b, c, d⟩ := H
  refine ⟨by rw [e1, e3]; exact a, by rw [e2]; exact b, by rw [e2]; exact h, fun k => ?_⟩
  have := d (by rw [← e3]; exact k)
  exact ⟨this.1.fr (fun c i k _ => hf c i (by omega)), this.2.1.ve (mVe.of (fun c i k => hf c i (by omega))), by rw [e4, e5]; exact this.2.2⟩
theorem mTT.fr {M M' : zM} (hf : ∀ c i, ¬ mF2 c i → M' c i = M c i) : mTT M' = mTT M ∧ M' 103 22 = M 103 22 := by
  have e1 := hf 103 21 (by omega)
  have e3 := hf 103 58 (by omega)
  refine ⟨?_, hf 103 22 (by omega)⟩
  unfold mTT
  rw [e1, e3, show M' 142 = M 142 from funext fun i => hf 142 i (by omega), show M' 107 = M 107 from funext fun i => hf 107 i (by omega)]
theorem mPh.fr {M M' : zM} {φ : Int → Int} (H : mPh M φ) (hf : ∀ c i, ¬ mF2 c i → M' c i = M c i) : mPh M' φ := by
  unfold mPh at H ⊢
  obtain ⟨v0, v1, v2, v3, v4, v5, v6⟩ := mVe.of (M := M) (M' := M') (fun c i k => hf c i (by omega))
  rw [v0, v1, v2, v3, v4, v5, v6, hf 103 58 (by omega), hf 103 59 (by omega)]
  exact H
abbrev pr_X12_look (M : zM) : Prop := (mC M)
abbrev po_X12_look (M : zM) (r : Int) (M' : zM) : Prop := M' = M ∧ r = mB2 M
set_option maxHeartbeats 1000000 in
theorem ok_X12_look : zSnd zS 145 0 0 yX12_look cX12_look 1 (some .int) 0 [2] (F_X12_look pr_X12_look po_X12_look) := by
  refine (sn_X12_look).mono ?_
  rintro xs P M hz hR ⟨rfl, hC, hP⟩
  refine ⟨rfl, ?_⟩
  change vc_X12_look P M
  unfold vc_X12_look
  have a1 := hC.1
  have a2 := hC.2.1
  have a3 := hC.2.2.1
  refine ⟨fun b1 => ?_, fun b1 => ?_⟩
  · -- b1.1
    refine ⟨fun b2 => ?_, fun b2 => ?_⟩
    · -- b2.1
      have o1 : ((0 : Int) ≤ ((M 103 21) + (M 103 23)) ∧ ((M 103 21) + (M 103 23)) < 960) := by
        omega
      refine ⟨o1, ?_⟩
      refine hP _ _ ⟨rfl, ?_⟩
      · refine Eq.symm ((if_pos (by omega)).trans ?_); unfold mTT; rw [if_pos b2]  -- p1
    · -- b2.2
      have o2 : ((0 : Int) ≤ ((M 103 21) + (M 103 23)) ∧ ((M 103 21) + (M 103 23)) < 1440) := by
        omega
      refine ⟨o2, ?_⟩
      refine hP _ _ ⟨rfl, ?_⟩
      · refine Eq.symm ((if_pos (by omega)).trans ?_); unfold mTT; rw [if_neg b2]  -- p2
  · -- b1.2
    refine hP _ _ ⟨rfl, ?_⟩
    · exact (if_neg (by omega)).symm  -- p3

abbrev pr_X12_worth (q : Int) (M : zM) : Prop := (mI M) ∧ (mFok M) ∧ (0 ≤ M 103 59 ∧ M 103 59 < M 103 30) ∧ (0 ≤ q ∧ q ≤ 12)
abbrev po_X12_worth (q : Int) (M : zM) (r : Int) (M' : zM) : Prop := (∀ c i, ¬ (117 ≤ c ∧ c ≤ 120) → ¬ (c = 103 ∧ 31 ≤ i ∧ i ≤ 40) → M' c i = M c i) ∧ (q = 12 → r = zc (fun g => gLk (M 103 1) (M 103 2) (M 115) g (M 103 59)) (M 103 30)) ∧ (q ≠ 12 → qFa (M 103 1) (M 103 2) (M 103 5) (M 104) (M 115) (M 116) (M 103 30) (M 103 59) q r) ∧ (-1 ≤ r ∧ r ≤ 1000)
set_option maxHeartbeats 1000000 in
theorem ok_X12_worth : zSnd zS 145 0 0 yX12_worth cX12_worth 4 (some .int) 5 [2, 0] (F_X12_worth pr_X12_worth po_X12_worth) := by
  refine (sn_X12_worth ok_X12_areLike ok_X12_fieldOf).mono ?_
  rintro xs P M hz hR ⟨q, rfl, ⟨hI, hF, hf, hq⟩, hP⟩
  refine ⟨_, rfl, ?_⟩
  have z_q := zall_h (zall_t hz) (by decide)
  change vc_X12_worth pr_X12_areLike po_X12_areLike pr_X12_fieldOf po_X12_fieldOf q P M
  unfold vc_X12_worth
  have hd := hI.d
  have N := hF.N hd
  refine ⟨fun b1 => ?_, fun b1 => ?_⟩
  · -- b1.1
    refine ⟨fun v2 v3 M6 n8 => (n8 : Int) = (200 - v3) ∧ (0 ≤ v3 ∧ v3 ≤ M 103 30) ∧ (∀ c i, ¬ (c = 103 ∧ 32 ≤ i ∧ i ≤ 35) → M6 c i = M c i) ∧ (v2 = zc (fun g => gLk (M 103 1) (M 103 2) (M 115) g (M 103 59)) v3), ⟨Int.toNat (200 - 0), by omega, ?_, ?_, ?_⟩, ?_⟩
    · show 0 ≤ 0 ∧ 0 ≤ M 103 30  -- I20#1.0.hv
      first | with_reducible assumption | omega | exact trivial | with_reducible rfl
    · show ∀ c i, ¬ (c = 103 ∧ 32 ≤ i ∧ i ≤ 35) → M c i = M c i  -- I20#1.0.kf
      intro c i _; rfl
    · show 0 = zc (fun g => gLk (M 103 1) (M 103 2) (M 115) g (M 103 59)) 0  -- I20#1.0.k1
      rfl
    rintro v2 v3 M6 n8 ⟨h_n8, hv, kf, k1⟩ z_v2 z_v3 z_M6
    have zb := zc_b (fun g => gLk (M 103 1) (M 103 2) (M 115) g (M 103 59)) v3 hv.1
    have v := mVe.of (M := M) (M' := M6) (fun c i k => kf c i (by omega))
    have F6 := hF.ve v
    have e59 := kf 103 59 (by omega)
    obtain ⟨v0, v1, v2', v3', v4, v5, v6⟩ := v
    refine ⟨fun b2 => ?_, fun b2 => ?_⟩
    · -- b2.1
      refine hP _ _ ⟨?_, ?_, ?_, ?_⟩
      · show ∀ c i, ¬ (117 ≤ c ∧ c ≤ 120) → ¬ (c = 103 ∧ 31 ≤ i ∧ i ≤ 40) → M6 c i = M c i  -- p1.hf
        intro c i k1 k2; exact kf c i (by omega)
      · show q = 12 → v2 = zc (fun g => gLk (M 103 1) (M 103 2) (M 115) g (M 103 59)) (M 103 30)  -- p1.h12
        intro _; rw [k1, show v3 = M 103 30 by omega]
      · show q ≠ 12 → qFa (M 103 1) (M 103 2) (M 103 5) (M 104) (M 115) (M 116) (M 103 30) (M 103 59) q v2  -- p1.hr
        intro k; exact absurd b1 k
      · show -1 ≤ v2 ∧ v2 ≤ 1000  -- p1.hb
        omega
    · -- b2.2
      have gc1 : pr_X12_areLike (M6 103 59) v3 M6 := by
        refine ⟨?_, ?_, ?_, ?_⟩
        · show mDim M6  -- c1.hd
          unfold mDim; rw [v0, v1]; exact hd
        · show mFok M6  -- c1.hF
          exact F6
        · show 0 ≤ (M6 103 59) ∧ (M6 103 59) < M6 103 30  -- c1.ha
          omega
        · show 0 ≤ v3 ∧ v3 < M6 103 30  -- c1.hb0
          omega
      refine ⟨gc1, ?_⟩
      rintro r16 M17 ⟨pc1_hf, pc1_hr⟩ z_r16 z_M17
      rw [v0, v1, v4, e59] at pc1_hr
      refine ⟨fun b3 => ?_, fun b3 => ?_⟩
      · -- b3.1
        have o1 : zin (v2 + 0) := by
          first | with_reducible assumption | omega | exact trivial | with_reducible rfl  -- o1
        refine ⟨o1, ?_⟩
        have o2 : zin (v3 + 1) := by
          first | with_reducible assumption | omega | exact trivial | with_reducible rfl  -- o2
        refine ⟨o2, ?_⟩
        refine ⟨Int.toNat (200 - (v3 + 1)), by omega, by omega, ?_, ?_, ?_⟩
        · show 0 ≤ (v3 + 1) ∧ (v3 + 1) ≤ M 103 30  -- I20.1.hv
          first | with_reducible assumption | omega | exact trivial | with_reducible rfl
        · show ∀ c i, ¬ (c = 103 ∧ 32 ≤ i ∧ i ≤ 35) → M17 c i = M c i  -- I20.1.kf
          intro c i k; rw [pc1_hf c i k]; exact kf c i k
        · show (v2 + 0) = zc (fun g => gLk (M 103 1) (M 103 2) (M 115) g (M 103 59)) (v3 + 1)  -- I20.1.k1
          rw [zc_n hv.1 (fun k => pc1_hr.z.1 b3 k.sym)]; omega
      · -- b3.2
        have o3 : zin (v2 + 1) := by
          first | with_reducible assumption | omega | exact trivial | with_reducible rfl  -- o3
        refine ⟨o3, ?_⟩
        have o4 : zin (v3 + 1) := by
          first | with_reducible assumption | omega | exact trivial | with_reducible rfl  -- o4
        refine ⟨o4, ?_⟩
        refine ⟨Int.toNat (200 - (v3 + 1)), by omega, by omega, ?_, ?_, ?_⟩
        · show 0 ≤ (v3 + 1) ∧ (v3 + 1) ≤ M 103 30  -- I20.2.hv
          first | with_reducible assumption | omega | exact trivial | with_reducible rfl
        · show ∀ c i, ¬ (c = 103 ∧ 32 ≤ i ∧ i ≤ 35) → M17 c i = M c i  -- I20.2.kf
          intro c i k; rw [pc1_hf c i k]; exact kf c i k
        · show (v2 + 1) = zc (fun g => gLk (M 103 1) (M 103 2) (M 115) g (M 103 59)) (v3 + 1)  -- I20.2.k1
          rw [zc_p hv.1 ((pc1_hr.ne.1 b3).sym)]; omega
  · -- b1.2
    have gc2 : pr_X12_fieldOf (M 103 59) q M := by
      refine ⟨?_, ?_, ?_, ?_⟩
      · show mI M  -- c2.hI
        exact hI
      · show mFok M  -- c2.hF
        exact hF
      · show 0 ≤ (M 103 59) ∧ (M 103 59) < M 103 30  -- c2.ha
        exact hf
      · show 0 ≤ q ∧ q < 12  -- c2.hk
        omega
    refine ⟨gc2, ?_⟩
    rintro r33 M34 ⟨pc2_hf, pc2_hr⟩ z_r33 z_M34
    refine hP _ _ ⟨?_, ?_, ?_, ?_⟩
    · show ∀ c i, ¬ (117 ≤ c ∧ c ≤ 120) → ¬ (c = 103 ∧ 31 ≤ i ∧ i ≤ 40) → M34 c i = M c i  -- p2.hf
      intro c i k1 k2; exact pc2_hf c i (by omega) (by omega)
    · show q = 12 → r33 = zc (fun g => gLk (M 103 1) (M 103 2) (M 115) g (M 103 59)) (M 103 30)  -- p2.h12
      intro k; exact absurd k b1
    · show q ≠ 12 → qFa (M 103 1) (M 103 2) (M 103 5) (M 104) (M 115) (M 116) (M 103 30) (M 103 59) q r33  -- p2.hr
      intro _; exact pc2_hr
    · show -1 ≤ r33 ∧ r33 ≤ 1000  -- p2.hb
      exact pc2_hr.b (by omega) (by omega) hF.1 (fun i d => hI.c i d.1 (by omega)) hf

abbrev pr_X12_readAtom (M : zM) : Prop := (mC M) ∧ (M 103 24 = 0)
abbrev po_X12_readAtom (M : zM) (r : Int) (M' : zM) : Prop := (∀ c i, ¬ mF2 c i → M' c i = M c i) ∧ (-100000 ≤ r ∧ r ≤ 100000) ∧ (M 103 23 ≤ M' 103 23 ∧ M' 103 23 ≤ M 103 22) ∧ ((M' 103 24 = 0 ∧ M 103 23 < M' 103 23) ∨ M' 103 24 = 1) ∧ (∀ φ, mPh M φ → ((gAt (mTT M) (M 103 22) φ (M 103 23)).1 = 0 ∧ M' 103 24 = 0 ∧ M' 103 23 = (gAt (mTT M) (M 103 22) φ (M 103 23)).2.1 ∧ r = (gAt (mTT M) (M 103 22) φ (M 103 23)).2.2) ∨ ((gAt (mTT M) (M 103 22) φ (M 103 23)).1 = 1 ∧ M' 103 24 = 1 ∧ M' 103 23 = (gAt (mTT M) (M 103 22) φ (M 103 23)).2.1))
set_option maxHeartbeats 2000000 in
theorem ok_X12_readAtom : zSnd zS 145 0 0 yX12_readAtom cX12_readAtom 4 (some .int) 6 [2] (F_X12_readAtom pr_X12_readAtom po_X12_readAtom) := by
  refine (sn_X12_readAtom ok_X12_look ok_X12_letterOf ok_X12_isDigit ok_X12_worth).mono ?_
  rintro xs P M hz hR ⟨rfl, ⟨hC, h0⟩, hP⟩
  refine ⟨rfl, ?_⟩
  change vc_X12_readAtom pr_X12_look po_X12_look pr_X12_letterOf po_X12_letterOf pr_X12_isDigit po_X12_isDigit pr_X12_worth po_X12_worth P M
  unfold vc_X12_readAtom
  have a1 := hC.1
  have a2 := hC.2.1
  have a3 := hC.2.2.1
  have gc1 : pr_X12_look M := by
    show mC M
    exact hC
  refine ⟨gc1, ?_⟩
  rintro r1 M2 ⟨q_rfl, e_r1⟩ z_r1 z_M2
  have q_rfl := q_rfl.symm
  subst q_rfl
  have iB : r1 ≠ -1 → M 103 23 < M 103 22 := fun k => (gBy_i (T := mTT M) (n := M 103 22) (p := M 103 23) (show mB2 M ≠ -1 by rw [← e_r1]; exact k)).2
  have lb := gLt_b r1
  have gc2 : pr_X12_letterOf r1 M := trivial
  refine ⟨gc2, ?_⟩
  rintro r7 M8 ⟨q_rfl, e_r7⟩ z_r7 z_M8
  have q_rfl := q_rfl.symm
  subst q_rfl
  refine ⟨fun b1 => ?_, fun b1 => ?_⟩
  · -- b1.1
    have gc3 : pr_X12_isDigit r1 M := trivial
    refine ⟨gc3, ?_⟩
    rintro r14 M15 ⟨q_rfl, pc3_pb⟩ z_r14 z_M15
    have q_rfl := q_rfl.symm
    subst q_rfl
    refine ⟨fun b2 => ?_, fun b2 => ?_⟩
    · -- b2.1
      have dg := pc3_pb.ne.1 b2
      have lt := iB (by omega)
      have o1 : zin ((M 103 23) + 1) := by
        omega
      refine ⟨o1, ?_⟩
      intro M22 e_M22
      have f22 : ∀ c i, ¬ (c = 103 ∧ i = 23) → M22 c i = M c i := fun c i k => by rw [e_M22, zset_n _ (by omega)]
      have g22 : M22 103 23 = M 103 23 + 1 := by rw [e_M22, zset_s]
      have o2 : zin (r1 - 48) := by
        omega
      refine ⟨o2, ?_⟩
      refine ⟨fun v25 v26 M30 n32 => (n32 : Int) = (4 - v26) ∧ (1 ≤ v26 ∧ v26 ≤ 4) ∧ ((v26 = 1 ∧ 0 ≤ v25 ∧ v25 ≤ 9) ∨ (v26 = 2 ∧ 0 ≤ v25 ∧ v25 ≤ 99) ∨ (v26 = 3 ∧ 0 ≤ v25 ∧ v25 ≤ 999) ∨ (v26 = 4 ∧ 0 ≤ v25 ∧ v25 ≤ 9999)) ∧ (∀ c i, ¬ (c = 103 ∧ i = 23) → M30 c i = M c i) ∧ (M 103 23 < M30 103 23 ∧ M30 103 23 ≤ M 103 22) ∧ ((r1 = 48 ∧ v25 = 0 ∧ M30 103 23 = M 103 23 + 1) ∨ (r1 ≠ 48 ∧ gNu (mTT M) (M 103 22) 4 (M 103 23) 0 = gNu (mTT M) (M 103 22) (Int.toNat (4 - v26)) (M30 103 23) v25)), ⟨Int.toNat (4 - 1), by omega, ?_, ?_, ?_, ?_, ?_⟩, ?_⟩
      · show 1 ≤ 1 ∧ 1 ≤ 4  -- I73#1.0.hv
        first | with_reducible assumption | omega | exact trivial | with_reducible rfl
      · show (1 = 1 ∧ 0 ≤ (r1 - 48) ∧ (r1 - 48) ≤ 9) ∨ (1 = 2 ∧ 0 ≤ (r1 - 48) ∧ (r1 - 48) ≤ 99) ∨ (1 = 3 ∧ 0 ≤ (r1 - 48) ∧ (r1 - 48) ≤ 999) ∨ (1 = 4 ∧ 0 ≤ (r1 - 48) ∧ (r1 - 48) ≤ 9999)  -- I73#1.0.hx
        first | with_reducible assumption | omega | exact trivial | with_reducible rfl
      · show ∀ c i, ¬ (c = 103 ∧ i = 23) → M22 c i = M c i  -- I73#1.0.kf
        exact f22
      · show M 103 23 < M22 103 23 ∧ M22 103 23 ≤ M 103 22  -- I73#1.0.kp
        first | with_reducible assumption | omega | exact trivial | with_reducible rfl
      · show (r1 = 48 ∧ (r1 - 48) = 0 ∧ M22 103 23 = M 103 23 + 1) ∨ (r1 ≠ 48 ∧ gNu (mTT M) (M 103 22) 4 (M 103 23) 0 = gNu (mTT M) (M 103 22) (Int.toNat (4 - 1)) (M22 103 23) (r1 - 48))  -- I73#1.0.kx
        by_cases z : r1 = 48
        · exact .inl ⟨z, by omega, g22⟩
        · refine .inr ⟨z, ?_⟩
          rw [gNu_y (by rw [show gBy (mTT M) (M 103 22) (M 103 23) = r1 from e_r1.symm]; exact dg), g22, show gBy (mTT M) (M 103 22) (M 103 23) = r1 from e_r1.symm, show 10 * 0 + r1 - 48 = r1 - 48 by omega]
          rfl
      rintro v25 v26 M30 n32 ⟨h_n32, hv, hx, kf, kp, kx⟩ z_v25 z_v26 z_M30
      have C5 : mC M30 := hC.fr (fun c i k => kf c i (by omega)) (by omega)
      have T5 := mTT.fr (M := M) (M' := M30) (fun c i k => kf c i (by omega))
      have k24 : M30 103 24 = 0 := by rw [kf 103 24 (by omega)]; exact h0
      have R : (r1 ≠ 48 → gNu (mTT M) (M 103 22) 4 (M 103 23) 0 = (M30 103 23, v25)) → ∀ φ, mPh M φ → ((gAt (mTT M) (M 103 22) φ (M 103 23)).1 = 0 ∧ M30 103 24 = 0 ∧ M30 103 23 = (gAt (mTT M) (M 103 22) φ (M 103 23)).2.1 ∧ v25 = (gAt (mTT M) (M 103 22) φ (M 103 23)).2.2) ∨ ((gAt (mTT M) (M 103 22) φ (M 103 23)).1 = 1 ∧ M30 103 24 = 1 ∧ M30 103 23 = (gAt (mTT M) (M 103 22) φ (M 103 23)).2.1) := fun hx φ _ => by
        refine .inl ?_
        unfold gAt
        rw [show gBy (mTT M) (M 103 22) (M 103 23) = r1 from e_r1.symm, if_neg (by omega), if_pos dg]
        by_cases z : r1 = 48
        · rw [if_pos z]
          rcases kx with ⟨_, x1, x2⟩ | ⟨x, _⟩
          · exact ⟨rfl, k24, x2, x1⟩
          · exact absurd z x
        · rw [if_neg z, hx z]
          exact ⟨rfl, k24, rfl, rfl⟩
      refine ⟨fun b3 => ?_, fun b3 => ?_⟩
      · -- b3.1
        refine hP _ _ ⟨?_, ?_, ?_, ?_, ?_⟩
        · show ∀ c i, ¬ mF2 c i → M30 c i = M c i  -- p1.hf
          intro c i k; exact kf c i (by omega)
        · show -100000 ≤ v25 ∧ v25 ≤ 100000  -- p1.hb
          first | with_reducible assumption | omega | exact trivial | with_reducible rfl
        · show M 103 23 ≤ M30 103 23 ∧ M30 103 23 ≤ M 103 22  -- p1.hp
          first | with_reducible assumption | omega | exact trivial | with_reducible rfl
        · show (M30 103 24 = 0 ∧ M 103 23 < M30 103 23) ∨ M30 103 24 = 1  -- p1.h01
          exact .inl ⟨k24, kp.1⟩
        · show ∀ φ, mPh M φ → ((gAt (mTT M) (M 103 22) φ (M 103 23)).1 = 0 ∧ M30 103 24 = 0 ∧ M30 103 23 = (gAt (mTT M) (M 103 22) φ (M 103 23)).2.1 ∧ v25 = (gAt (mTT M) (M 103 22) φ (M 103 23)).2.2) ∨ ((gAt (mTT M) (M 103 22) φ (M 103 23)).1 = 1 ∧ M30 103 24 = 1 ∧ M30 103 23 = (gAt (mTT M) (M 103 22) φ (M 103 23)).2.1)  -- p1.ho
          exact R (fun z => by
            rcases kx with ⟨x, _⟩ | ⟨_, x⟩
            · exact absurd x z
            · rw [x, show Int.toNat (4 - v26) = 0 by omega]; rfl)
      · -- b3.2
        refine ⟨fun b4 => ?_, fun b4 => ?_⟩
        · -- b4.1
          refine hP _ _ ⟨?_, ?_, ?_, ?_, ?_⟩
          · show ∀ c i, ¬ mF2 c i → M30 c i = M c i  -- p2.hf
            intro c i k; exact kf c i (by omega)
          · show -100000 ≤ v25 ∧ v25 ≤ 100000  -- p2.hb
            first | with_reducible assumption | omega | exact trivial | with_reducible rfl
          · show M 103 23 ≤ M30 103 23 ∧ M30 103 23 ≤ M 103 22  -- p2.hp
            first | with_reducible assumption | omega | exact trivial | with_reducible rfl
          · show (M30 103 24 = 0 ∧ M 103 23 < M30 103 23) ∨ M30 103 24 = 1  -- p2.h01
            exact .inl ⟨k24, kp.1⟩
          · show ∀ φ, mPh M φ → ((gAt (mTT M) (M 103 22) φ (M 103 23)).1 = 0 ∧ M30 103 24 = 0 ∧ M30 103 23 = (gAt (mTT M) (M 103 22) φ (M 103 23)).2.1 ∧ v25 = (gAt (mTT M) (M 103 22) φ (M 103 23)).2.2) ∨ ((gAt (mTT M) (M 103 22) φ (M 103 23)).1 = 1 ∧ M30 103 24 = 1 ∧ M30 103 23 = (gAt (mTT M) (M 103 22) φ (M 103 23)).2.1)  -- p2.ho
            exact R (fun z => absurd b4 z)
        · -- b4.2
          have gc4 : pr_X12_look M30 := by
            show mC M30
            exact C5
          refine ⟨gc4, ?_⟩
          rintro r41 M42 ⟨q_rfl, e_r41⟩ z_r41 z_M42
          have q_rfl := q_rfl.symm
          subst q_rfl
          rw [show mB2 M30 = gBy (mTT M) (M 103 22) (M30 103 23) by unfold mB2; rw [T5.1, T5.2]] at e_r41
          have st : Int.toNat (4 - v26) = Int.toNat (4 - (v26 + 1)) + 1 := by omega
          have gc5 : pr_X12_isDigit r41 M30 := trivial
          refine ⟨gc5, ?_⟩
          rintro r47 M48 ⟨q_rfl, pc5_pb⟩ z_r47 z_M48
          have q_rfl := q_rfl.symm
          subst q_rfl
          refine ⟨fun b5 => ?_, fun b5 => ?_⟩
          · -- b5.1
            refine hP _ _ ⟨?_, ?_, ?_, ?_, ?_⟩
            · show ∀ c i, ¬ mF2 c i → M30 c i = M c i  -- p3.hf
              intro c i k; exact kf c i (by omega)
            · show -100000 ≤ v25 ∧ v25 ≤ 100000  -- p3.hb
              first | with_reducible assumption | omega | exact trivial | with_reducible rfl
            · show M 103 23 ≤ M30 103 23 ∧ M30 103 23 ≤ M 103 22  -- p3.hp
              first | with_reducible assumption | omega | exact trivial | with_reducible rfl
            · show (M30 103 24 = 0 ∧ M 103 23 < M30 103 23) ∨ M30 103 24 = 1  -- p3.h01
              exact .inl ⟨k24, kp.1⟩
            · show ∀ φ, mPh M φ → ((gAt (mTT M) (M 103 22) φ (M 103 23)).1 = 0 ∧ M30 103 24 = 0 ∧ M30 103 23 = (gAt (mTT M) (M 103 22) φ (M 103 23)).2.1 ∧ v25 = (gAt (mTT M) (M 103 22) φ (M 103 23)).2.2) ∨ ((gAt (mTT M) (M 103 22) φ (M 103 23)).1 = 1 ∧ M30 103 24 = 1 ∧ M30 103 23 = (gAt (mTT M) (M 103 22) φ (M 103 23)).2.1)  -- p3.ho
              exact R (fun z => by
                rcases kx with ⟨x, _⟩ | ⟨_, x⟩
                · exact absurd x z
                · rw [x, st, gNu_n (by rw [← e_r41]; exact pc5_pb.z.1 b5)])
          · -- b5.2
            have dg2 := pc5_pb.ne.1 b5
            have lt2 := (gBy_i (T := mTT M) (n := M 103 22) (p := M30 103 23) (by rw [← e_r41]; omega)).2
            have gc6 : pr_X12_look M30 := by
              show mC M30
              exact C5
            refine ⟨gc6, ?_⟩
            rintro r54 M55 ⟨q_rfl, e_r54⟩ z_r54 z_M55
            have q_rfl := q_rfl.symm
            subst q_rfl
            rw [show mB2 M30 = gBy (mTT M) (M 103 22) (M30 103 23) by unfold mB2; rw [T5.1, T5.2], ← e_r41] at e_r54
            have o3 : zin ((M30 103 23) + 1) := by
              omega
            refine ⟨o3, ?_⟩
            intro M61 e_M61
            have g61 : M61 103 23 = M30 103 23 + 1 := by rw [e_M61, zset_s]
            have o4 : zin (((10 * v25) + r54) - 48) := by
              omega
            refine ⟨o4, ?_⟩
            have o5 : zin (v26 + 1) := by
              first | with_reducible assumption | omega | exact trivial | with_reducible rfl  -- o5
            refine ⟨o5, ?_⟩
            refine ⟨Int.toNat (4 - (v26 + 1)), by omega, by omega, ?_, ?_, ?_, ?_, ?_⟩
            · show 1 ≤ (v26 + 1) ∧ (v26 + 1) ≤ 4  -- I73.1.hv
              first | with_reducible assumption | omega | exact trivial | with_reducible rfl
            · show ((v26 + 1) = 1 ∧ 0 ≤ (((10 * v25) + r54) - 48) ∧ (((10 * v25) + r54) - 48) ≤ 9) ∨ ((v26 + 1) = 2 ∧ 0 ≤ (((10 * v25) + r54) - 48) ∧ (((10 * v25) + r54) - 48) ≤ 99) ∨ ((v26 + 1) = 3 ∧ 0 ≤ (((10 * v25) + r54) - 48) ∧ (((10 * v25) + r54) - 48) ≤ 999) ∨ ((v26 + 1) = 4 ∧ 0 ≤ (((10 * v25) + r54) - 48) ∧ (((10 * v25) + r54) - 48) ≤ 9999)  -- I73.1.hx
              first | with_reducible assumption | omega | exact trivial | with_reducible rfl
            · show ∀ c i, ¬ (c = 103 ∧ i = 23) → M61 c i = M c i  -- I73.1.kf
              intro c i k; rw [e_M61, zset_n _ (by omega)]; exact kf c i k
            · show M 103 23 < M61 103 23 ∧ M61 103 23 ≤ M 103 22  -- I73.1.kp
              omega
            · show (r1 = 48 ∧ (((10 * v25) + r54) - 48) = 0 ∧ M61 103 23 = M 103 23 + 1) ∨ (r1 ≠ 48 ∧ gNu (mTT M) (M 103 22) 4 (M 103 23) 0 = gNu (mTT M) (M 103 22) (Int.toNat (4 - (v26 + 1))) (M61 103 23) (((10 * v25) + r54) - 48))  -- I73.1.kx
              rcases kx with ⟨x, _⟩ | ⟨z, x⟩
              · exact absurd x b4
              · refine .inr ⟨z, ?_⟩
                rw [x, st, gNu_y (by rw [← e_r41]; exact dg2), g61, e_r54, e_r41]
    · -- b2.2
      have nd := pc3_pb.z.1 b2
      intro M69 e_M69
      refine hP _ _ ⟨?_, ?_, ?_, ?_, ?_⟩
      · show ∀ c i, ¬ mF2 c i → M69 c i = M c i  -- p4.hf
        intro c i k; rw [e_M69, zset_n _ (by omega)]
      · show -100000 ≤ 0 ∧ 0 ≤ 100000  -- p4.hb
        first | with_reducible assumption | omega | exact trivial | with_reducible rfl
      · show M 103 23 ≤ M69 103 23 ∧ M69 103 23 ≤ M 103 22  -- p4.hp
        rw [e_M69, zset_n _ (by omega)]; omega
      · show (M69 103 24 = 0 ∧ M 103 23 < M69 103 23) ∨ M69 103 24 = 1  -- p4.h01
        exact .inr (by rw [e_M69, zset_s])
      · show ∀ φ, mPh M φ → ((gAt (mTT M) (M 103 22) φ (M 103 23)).1 = 0 ∧ M69 103 24 = 0 ∧ M69 103 23 = (gAt (mTT M) (M 103 22) φ (M 103 23)).2.1 ∧ 0 = (gAt (mTT M) (M 103 22) φ (M 103 23)).2.2) ∨ ((gAt (mTT M) (M 103 22) φ (M 103 23)).1 = 1 ∧ M69 103 24 = 1 ∧ M69 103 23 = (gAt (mTT M) (M 103 22) φ (M 103 23)).2.1)  -- p4.ho
        intro φ _; unfold gAt; rw [show gBy (mTT M) (M 103 22) (M 103 23) = r1 from e_r1.symm, if_neg (by omega), if_neg nd]
        exact .inr ⟨rfl, by rw [e_M69, zset_s], by rw [e_M69, zset_n _ (by omega)]⟩
  · -- b1.2
    have lt := iB (by omega)
    have o6 : zin ((M 103 23) + 1) := by
      omega
    refine ⟨o6, ?_⟩
    intro M73 e_M73
    have f73 : ∀ c i, ¬ (c = 103 ∧ i = 23) → M73 c i = M c i := fun c i k => by rw [e_M73, zset_n _ (by omega)]
    have g73 : M73 103 23 = M 103 23 + 1 := by rw [e_M73, zset_s]
    have e58 := f73 103 58 (by omega)
    have z24 : M73 103 24 = 0 := by rw [f73 103 24 (by omega)]; exact h0
    refine ⟨fun b6 => ?_, fun b6 => ?_⟩
    · -- b6.1
      refine hP _ _ ⟨?_, ?_, ?_, ?_, ?_⟩
      · show ∀ c i, ¬ mF2 c i → M73 c i = M c i  -- p5.hf
        intro c i k; exact f73 c i (by omega)
      · show -100000 ≤ 0 ∧ 0 ≤ 100000  -- p5.hb
        first | with_reducible assumption | omega | exact trivial | with_reducible rfl
      · show M 103 23 ≤ M73 103 23 ∧ M73 103 23 ≤ M 103 22  -- p5.hp
        omega
      · show (M73 103 24 = 0 ∧ M 103 23 < M73 103 23) ∨ M73 103 24 = 1  -- p5.h01
        exact .inl ⟨z24, by omega⟩
      · show ∀ φ, mPh M φ → ((gAt (mTT M) (M 103 22) φ (M 103 23)).1 = 0 ∧ M73 103 24 = 0 ∧ M73 103 23 = (gAt (mTT M) (M 103 22) φ (M 103 23)).2.1 ∧ 0 = (gAt (mTT M) (M 103 22) φ (M 103 23)).2.2) ∨ ((gAt (mTT M) (M 103 22) φ (M 103 23)).1 = 1 ∧ M73 103 24 = 1 ∧ M73 103 23 = (gAt (mTT M) (M 103 22) φ (M 103 23)).2.1)  -- p5.ho
        intro φ h; unfold gAt; rw [show gBy (mTT M) (M 103 22) (M 103 23) = r1 from e_r1.symm, if_pos (by omega)]
        exact .inl ⟨rfl, z24, g73, (h.1 (by rw [← e58]; exact b6) _).symm⟩
    · -- b6.2
      have wI := hC.2.2.2 (by rw [← e58]; exact b6)
      have I73' : mI M73 := wI.1.fr (fun c i k _ => f73 c i (by omega))
      have vv := mVe.of (M := M) (M' := M73) (fun c i k => f73 c i (by omega))
      have e59 := f73 103 59 (by omega)
      have gc7 : pr_X12_letterOf r1 M73 := trivial
      refine ⟨gc7, ?_⟩
      rintro r77 M78 ⟨q_rfl, e_r77⟩ z_r77 z_M78
      have q_rfl := q_rfl.symm
      subst q_rfl
      have gc8 : pr_X12_worth r77 M73 := by
        refine ⟨?_, ?_, ?_, ?_⟩
        · show mI M73  -- c8.hI
          exact I73'
        · show mFok M73  -- c8.hF
          exact wI.2.1.ve vv
        · show 0 ≤ M73 103 59 ∧ M73 103 59 < M73 103 30  -- c8.hf
          rw [e59, vv.2.2.2.2.2.2]; exact wI.2.2
        · show 0 ≤ r77 ∧ r77 ≤ 12  -- c8.hq
          omega
      refine ⟨gc8, ?_⟩
      rintro r83 M84 ⟨pc8_hf, pc8_h12, pc8_hr, pc8_hb⟩ z_r83 z_M84
      obtain ⟨v0, v1, v2, v3, v4, v5, v6⟩ := vv
      rw [v0, v1, v2, v3, v4, v5, v6, e59] at pc8_hr
      rw [v0, v1, v4, v6, e59] at pc8_h12
      have p23 : M84 103 23 = M 103 23 + 1 := by rw [pc8_hf 103 23 (by omega) (by omega)]; exact g73
      have p24 : M84 103 24 = 0 := by rw [pc8_hf 103 24 (by omega) (by omega)]; exact z24
      refine hP _ _ ⟨?_, ?_, ?_, ?_, ?_⟩
      · show ∀ c i, ¬ mF2 c i → M84 c i = M c i  -- p6.hf
        intro c i k; rw [pc8_hf c i (by omega) (by omega)]; exact f73 c i (by omega)
      · show -100000 ≤ r83 ∧ r83 ≤ 100000  -- p6.hb
        first | with_reducible assumption | omega | exact trivial | with_reducible rfl
      · show M 103 23 ≤ M84 103 23 ∧ M84 103 23 ≤ M 103 22  -- p6.hp
        omega
      · show (M84 103 24 = 0 ∧ M 103 23 < M84 103 23) ∨ M84 103 24 = 1  -- p6.h01
        exact .inl ⟨p24, by omega⟩
      · show ∀ φ, mPh M φ → ((gAt (mTT M) (M 103 22) φ (M 103 23)).1 = 0 ∧ M84 103 24 = 0 ∧ M84 103 23 = (gAt (mTT M) (M 103 22) φ (M 103 23)).2.1 ∧ r83 = (gAt (mTT M) (M 103 22) φ (M 103 23)).2.2) ∨ ((gAt (mTT M) (M 103 22) φ (M 103 23)).1 = 1 ∧ M84 103 24 = 1 ∧ M84 103 23 = (gAt (mTT M) (M 103 22) φ (M 103 23)).2.1)  -- p6.ho
        intro φ h; unfold gAt; rw [show gBy (mTT M) (M 103 22) (M 103 23) = r1 from e_r1.symm, if_pos (by omega)]
        have h2 := h.2 (by rw [← e58]; exact b6)
        refine .inl ⟨rfl, p24, p23, ?_⟩
        show r83 = φ (gLt r1)
        rw [← e_r7]
        by_cases z : r77 = 12
        · rw [pc8_h12 z, show r7 = 12 by omega]; exact h2.2.symm
        · have := h2.1 r77 r83 (by omega) (by omega) (pc8_hr z)
          rw [this, e_r77, ← e_r7]

abbrev pr_X12_readSum (M : zM) : Prop := (mC M) ∧ (M 103 24 = 0)
abbrev po_X12_readSum (M : zM) (r : Int) (M' : zM) : Prop := (∀ c i, ¬ mF2 c i → M' c i = M c i) ∧ (-20000000 ≤ r ∧ r ≤ 20000000) ∧ (M 103 23 ≤ M' 103 23 ∧ M' 103 23 ≤ M 103 22) ∧ ((M' 103 24 = 0 ∧ M 103 23 < M' 103 23) ∨ M' 103 24 = 1) ∧ (∀ φ, mPh M φ → ((gSS (mTT M) (M 103 22) φ (M 103 23)).1 = 0 ∧ M' 103 24 = 0 ∧ M' 103 23 = (gSS (mTT M) (M 103 22) φ (M 103 23)).2.1 ∧ r = (gSS (mTT M) (M 103 22) φ (M 103 23)).2.2) ∨ ((gSS (mTT M) (M 103 22) φ (M 103 23)).1 = 1 ∧ M' 103 24 = 1 ∧ M' 103 23 = (gSS (mTT M) (M 103 22) φ (M 103 23)).2.1))
set_option maxHeartbeats 2000000 in
theorem ok_X12_readSum : zSnd zS 145 0 0 yX12_readSum cX12_readSum 4 (some .int) 7 [2] (F_X12_readSum pr_X12_readSum po_X12_readSum) := by
  refine (sn_X12_readSum ok_X12_readAtom ok_X12_look).mono ?_
  rintro xs P M hz hR ⟨rfl, ⟨hC, h0⟩, hP⟩
  refine ⟨rfl, ?_⟩
  change vc_X12_readSum pr_X12_readAtom po_X12_readAtom pr_X12_look po_X12_look P M
  unfold vc_X12_readSum
  have a2 := hC.2.1
  have a3 := hC.2.2.1
  have gc1 : pr_X12_readAtom M := by
    refine ⟨?_, ?_⟩
    · show mC M  -- c1.hC
      exact hC
    · show M 103 24 = 0  -- c1.h0
      exact h0
  refine ⟨gc1, ?_⟩
  rintro r1 M2 ⟨pc1_hf, pc1_hb, pc1_hp, pc1_h01, pc1_ho⟩ z_r1 z_M2
  refine ⟨fun v7 M9 n11 => (n11 : Int) = (200 - M9 103 23) ∧ (-100000 * (M9 103 23 + 1) ≤ v7 ∧ v7 ≤ 100000 * (M9 103 23 + 1)) ∧ (∀ c i, ¬ mF2 c i → M9 c i = M c i) ∧ (M 103 23 ≤ M9 103 23 ∧ M9 103 23 ≤ M 103 22) ∧ ((M9 103 24 = 0 ∧ M 103 23 < M9 103 23) ∨ M9 103 24 = 1) ∧ (∀ φ, mPh M φ → (M9 103 24 = 0 ∧ ∃ f : Nat, M 103 22 - M9 103 23 < f ∧ gSS (mTT M) (M 103 22) φ (M 103 23) = gSu (mTT M) (M 103 22) φ f (M9 103 23) v7) ∨ (M9 103 24 = 1 ∧ (gSS (mTT M) (M 103 22) φ (M 103 23)).1 = 1 ∧ M9 103 23 = (gSS (mTT M) (M 103 22) φ (M 103 23)).2.1)), ⟨Int.toNat (200 - M2 103 23), by omega, ?_, ?_, ?_, ?_, ?_⟩, ?_⟩
  · show -100000 * (M2 103 23 + 1) ≤ r1 ∧ r1 ≤ 100000 * (M2 103 23 + 1)  -- I5#1.0.hr
    omega
  · show ∀ c i, ¬ mF2 c i → M2 c i = M c i  -- I5#1.0.kf
    exact pc1_hf
  · show M 103 23 ≤ M2 103 23 ∧ M2 103 23 ≤ M 103 22  -- I5#1.0.kp
    exact pc1_hp
  · show (M2 103 24 = 0 ∧ M 103 23 < M2 103 23) ∨ M2 103 24 = 1  -- I5#1.0.k01
    exact pc1_h01
  · show ∀ φ, mPh M φ → (M2 103 24 = 0 ∧ ∃ f : Nat, M 103 22 - M2 103 23 < f ∧ gSS (mTT M) (M 103 22) φ (M 103 23) = gSu (mTT M) (M 103 22) φ f (M2 103 23) r1) ∨ (M2 103 24 = 1 ∧ (gSS (mTT M) (M 103 22) φ (M 103 23)).1 = 1 ∧ M2 103 23 = (gSS (mTT M) (M 103 22) φ (M 103 23)).2.1)  -- I5#1.0.ko
    intro φ h; rcases pc1_ho φ h with ⟨a, b, c, d⟩ | ⟨a, b, c⟩
    · refine .inl ⟨b, (M 103 22).toNat, by omega, ?_⟩
      unfold gSS; rw [if_pos a, c, d]
    · refine .inr ⟨b, ?_, ?_⟩
      · unfold gSS; rw [if_neg (by omega)]
      · unfold gSS; rw [if_neg (by omega)]; exact c
  rintro v7 M9 n11 ⟨h_n11, hr, kf, kp, k01, ko⟩ z_v7 z_M9
  have C5 := hC.fr (M' := M9) kf (by omega)
  have T5 := mTT.fr (M := M) (M' := M9) kf
  have eB : mB2 M9 = gBy (mTT M) (M 103 22) (M9 103 23) := by unfold mB2; rw [T5.1, T5.2]
  refine ⟨fun b1 => ?_, fun b1 => ?_⟩
  · -- b1.1
    refine hP _ _ ⟨?_, ?_, ?_, ?_, ?_⟩
    · show ∀ c i, ¬ mF2 c i → M9 c i = M c i  -- p1.hf
      exact kf
    · show -20000000 ≤ v7 ∧ v7 ≤ 20000000  -- p1.hb
      first | with_reducible assumption | omega | exact trivial | with_reducible rfl
    · show M 103 23 ≤ M9 103 23 ∧ M9 103 23 ≤ M 103 22  -- p1.hp
      exact kp
    · show (M9 103 24 = 0 ∧ M 103 23 < M9 103 23) ∨ M9 103 24 = 1  -- p1.h01
      exact k01
    · show ∀ φ, mPh M φ → ((gSS (mTT M) (M 103 22) φ (M 103 23)).1 = 0 ∧ M9 103 24 = 0 ∧ M9 103 23 = (gSS (mTT M) (M 103 22) φ (M 103 23)).2.1 ∧ v7 = (gSS (mTT M) (M 103 22) φ (M 103 23)).2.2) ∨ ((gSS (mTT M) (M 103 22) φ (M 103 23)).1 = 1 ∧ M9 103 24 = 1 ∧ M9 103 23 = (gSS (mTT M) (M 103 22) φ (M 103 23)).2.1)  -- p1.ho
      intro φ h; rcases ko φ h with ⟨a, _⟩ | ⟨a, b, c⟩
      · exact absurd a b1
      · exact .inr ⟨b, a, c⟩
  · -- b1.2
    have gc2 : pr_X12_look M9 := by
      show mC M9
      exact C5
    refine ⟨gc2, ?_⟩
    rintro r19 M20 ⟨q_rfl, e_r19⟩ z_r19 z_M20
    have q_rfl := q_rfl.symm
    subst q_rfl
    rw [eB] at e_r19
    intro K30 h_K30
    have k_K30 : ∀ (M25 : zM), (M25 = M9) → (r19 = 43 ∨ r19 = 45) → K30 M25 := by
      intro M25 rfl2 kop
      refine h_K30 _ ?_
      intro z_M25
      have i := (gBy_i (T := mTT M) (n := M 103 22) (p := M9 103 23) (by rw [← e_r19]; omega)).2
      have gc3 : pr_X12_look M25 := by
        show mC M25
        rw [rfl2]; exact C5
      refine ⟨gc3, ?_⟩
      rintro r27 M28 ⟨q_rfl, e_r27⟩ z_r27 z_M28
      have q_rfl := q_rfl.symm
      subst q_rfl
      rw [rfl2, eB, ← e_r19] at e_r27
      have o1 : zin ((M25 103 23) + 1) := by
        rw [rfl2]; omega
      refine ⟨o1, ?_⟩
      intro M34 e_M34
      rw [rfl2] at e_M34
      have m23 : M34 103 23 = M9 103 23 + 1 := by rw [e_M34, zset_s]
      have f34 : ∀ c i, ¬ (c = 103 ∧ i = 23) → M34 c i = M9 c i := fun c i k => by rw [e_M34, zset_n _ (by omega)]
      have m24 : M34 103 24 = 0 := by rw [f34 103 24 (by omega)]; exact b1
      have C6 : mC M34 := C5.fr (fun c i k => f34 c i (by omega)) (by have := T5.2; omega)
      have T6 := mTT.fr (M := M9) (M' := M34) (fun c i k => f34 c i (by omega))
      have t22 : M34 103 22 = M 103 22 := by rw [T6.2, T5.2]
      have gc4 : pr_X12_readAtom M34 := by
        refine ⟨?_, ?_⟩
        · show mC M34  -- c4.hC
          exact C6
        · show M34 103 24 = 0  -- c4.h0
          exact m24
      refine ⟨gc4, ?_⟩
      rintro r37 M38 ⟨pc4_hf, pc4_hb, pc4_hp, pc4_h01, pc4_ho⟩ z_r37 z_M38
      have nf : ∀ c i, ¬ mF2 c i → M38 c i = M c i := fun c i k => by rw [pc4_hf c i k, f34 c i (by omega)]; exact kf c i k
      have ho4 : ∀ φ, mPh M φ → ((gAt (mTT M) (M 103 22) φ (M9 103 23 + 1)).1 = 0 ∧ M38 103 24 = 0 ∧ M38 103 23 = (gAt (mTT M) (M 103 22) φ (M9 103 23 + 1)).2.1 ∧ r37 = (gAt (mTT M) (M 103 22) φ (M9 103 23 + 1)).2.2) ∨ ((gAt (mTT M) (M 103 22) φ (M9 103 23 + 1)).1 = 1 ∧ M38 103 24 = 1 ∧ M38 103 23 = (gAt (mTT M) (M 103 22) φ (M9 103 23 + 1)).2.1) := fun φ h => by
        have q := pc4_ho φ ((h.fr kf).fr (fun c i k => f34 c i (by omega)))
        rw [T6.1, T6.2, T5.1, T5.2, m23] at q
        exact q
      have np : M9 103 23 + 1 ≤ M38 103 23 ∧ M38 103 23 ≤ M 103 22 := by omega
      have R : ∀ x, x = (if gBy (mTT M) (M 103 22) (M9 103 23) = 43 then v7 + r37 else v7 - r37) → ∀ φ, mPh M φ → (M38 103 24 = 0 ∧ ∃ f : Nat, M 103 22 - M38 103 23 < f ∧ gSS (mTT M) (M 103 22) φ (M 103 23) = gSu (mTT M) (M 103 22) φ f (M38 103 23) x) ∨ (M38 103 24 = 1 ∧ (gSS (mTT M) (M 103 22) φ (M 103 23)).1 = 1 ∧ M38 103 23 = (gSS (mTT M) (M 103 22) φ (M 103 23)).2.1) := fun x hx φ h => by
        have op : gBy (mTT M) (M 103 22) (M9 103 23) = 43 ∨ gBy (mTT M) (M 103 22) (M9 103 23) = 45 := by rw [← e_r19]; exact kop
        rcases ko φ h with ⟨_, f, lf, e⟩ | ⟨a, _⟩
        · obtain ⟨g, rfl⟩ : ∃ g, f = g + 1 := ⟨f - 1, by omega⟩
          rcases ho4 φ h with ⟨a, b, c, d⟩ | ⟨a, b, c⟩
          · rw [gSu_y op a] at e
            exact .inl ⟨b, g, by omega, by rw [e, c, hx, d]⟩
          · rw [gSu_b1 op (by omega)] at e
            exact .inr ⟨b, by rw [e], by rw [e]; exact c⟩
        · omega
      refine ⟨fun b2 => ?_, fun b2 => ?_⟩
      · -- b2.1
        have o2 : zin (v7 - r37) := by
          omega
        refine ⟨o2, ?_⟩
        refine ⟨Int.toNat (200 - M38 103 23), by omega, by omega, ?_, ?_, ?_, ?_, ?_⟩
        · show -100000 * (M38 103 23 + 1) ≤ (v7 - r37) ∧ (v7 - r37) ≤ 100000 * (M38 103 23 + 1)  -- I5.1.hr
          omega
        · show ∀ c i, ¬ mF2 c i → M38 c i = M c i  -- I5.1.kf
          exact nf
        · show M 103 23 ≤ M38 103 23 ∧ M38 103 23 ≤ M 103 22  -- I5.1.kp
          omega
        · show (M38 103 24 = 0 ∧ M 103 23 < M38 103 23) ∨ M38 103 24 = 1  -- I5.1.k01
          rcases pc4_h01 with a | a
          · exact .inl ⟨a.1, by omega⟩
          · exact .inr a
        · show ∀ φ, mPh M φ → (M38 103 24 = 0 ∧ ∃ f : Nat, M 103 22 - M38 103 23 < f ∧ gSS (mTT M) (M 103 22) φ (M 103 23) = gSu (mTT M) (M 103 22) φ f (M38 103 23) (v7 - r37)) ∨ (M38 103 24 = 1 ∧ (gSS (mTT M) (M 103 22) φ (M 103 23)).1 = 1 ∧ M38 103 23 = (gSS (mTT M) (M 103 22) φ (M 103 23)).2.1)  -- I5.1.ko
          exact R _ (by rw [← e_r19, if_neg (by omega)])
      · -- b2.2
        have o3 : zin (v7 + r37) := by
          omega
        refine ⟨o3, ?_⟩
        refine ⟨Int.toNat (200 - M38 103 23), by omega, by omega, ?_, ?_, ?_, ?_, ?_⟩
        · show -100000 * (M38 103 23 + 1) ≤ (v7 + r37) ∧ (v7 + r37) ≤ 100000 * (M38 103 23 + 1)  -- I5.2.hr
          omega
        · show ∀ c i, ¬ mF2 c i → M38 c i = M c i  -- I5.2.kf
          exact nf
        · show M 103 23 ≤ M38 103 23 ∧ M38 103 23 ≤ M 103 22  -- I5.2.kp
          omega
        · show (M38 103 24 = 0 ∧ M 103 23 < M38 103 23) ∨ M38 103 24 = 1  -- I5.2.k01
          rcases pc4_h01 with a | a
          · exact .inl ⟨a.1, by omega⟩
          · exact .inr a
        · show ∀ φ, mPh M φ → (M38 103 24 = 0 ∧ ∃ f : Nat, M 103 22 - M38 103 23 < f ∧ gSS (mTT M) (M 103 22) φ (M 103 23) = gSu (mTT M) (M 103 22) φ f (M38 103 23) (v7 + r37)) ∨ (M38 103 24 = 1 ∧ (gSS (mTT M) (M 103 22) φ (M 103 23)).1 = 1 ∧ M38 103 23 = (gSS (mTT M) (M 103 22) φ (M 103 23)).2.1)  -- I5.2.ko
          exact R _ (by rw [← e_r19, if_pos (by omega)])
    refine ⟨fun b3 => ?_, fun b3 => ?_⟩
    · -- b3.1
      refine k_K30 _ ?_ ?_
      · show M9 = M9  -- K30.1.rfl2
        rfl
      · show r19 = 43 ∨ r19 = 45  -- K30.1.kop
        exact .inl b3
    · -- b3.2
      have gc5 : pr_X12_look M9 := by
        show mC M9
        exact C5
      refine ⟨gc5, ?_⟩
      rintro r53 M54 ⟨q_rfl, e_r53⟩ z_r53 z_M54
      have q_rfl := q_rfl.symm
      subst q_rfl
      rw [eB, ← e_r19] at e_r53
      refine ⟨fun b4 => ?_, fun b4 => ?_⟩
      · -- b4.1
        refine hP _ _ ⟨?_, ?_, ?_, ?_, ?_⟩
        · show ∀ c i, ¬ mF2 c i → M9 c i = M c i  -- p2.hf
          exact kf
        · show -20000000 ≤ v7 ∧ v7 ≤ 20000000  -- p2.hb
          first | with_reducible assumption | omega | exact trivial | with_reducible rfl
        · show M 103 23 ≤ M9 103 23 ∧ M9 103 23 ≤ M 103 22  -- p2.hp
          exact kp
        · show (M9 103 24 = 0 ∧ M 103 23 < M9 103 23) ∨ M9 103 24 = 1  -- p2.h01
          exact k01
        · show ∀ φ, mPh M φ → ((gSS (mTT M) (M 103 22) φ (M 103 23)).1 = 0 ∧ M9 103 24 = 0 ∧ M9 103 23 = (gSS (mTT M) (M 103 22) φ (M 103 23)).2.1 ∧ v7 = (gSS (mTT M) (M 103 22) φ (M 103 23)).2.2) ∨ ((gSS (mTT M) (M 103 22) φ (M 103 23)).1 = 1 ∧ M9 103 24 = 1 ∧ M9 103 23 = (gSS (mTT M) (M 103 22) φ (M 103 23)).2.1)  -- p2.ho
          intro φ h; rcases ko φ h with ⟨a, f, lf, e⟩ | ⟨a, b, c⟩
          · rw [gSu_n (by omega)] at e
            rw [e]; exact .inl ⟨rfl, a, rfl, rfl⟩
          · omega
      · -- b4.2
        refine k_K30 _ ?_ ?_
        · show M9 = M9  -- K30.2.rfl2
          rfl
        · show r19 = 43 ∨ r19 = 45  -- K30.2.kop
          omega

abbrev pr_X12_readTest (M : zM) : Prop := (mC M) ∧ (M 103 24 = 0)
abbrev po_X12_readTest (M : zM) (r : Int) (M' : zM) : Prop := (∀ c i, ¬ mF2 c i → M' c i = M c i) ∧ (r = 0 ∨ r = 1) ∧ (M 103 23 ≤ M' 103 23 ∧ M' 103 23 ≤ M 103 22) ∧ ((M' 103 24 = 0 ∧ M 103 23 < M' 103 23) ∨ M' 103 24 = 1) ∧ (∀ φ, mPh M φ → ((gTs (mTT M) (M 103 22) φ (M 103 23)).1 = 0 ∧ M' 103 24 = 0 ∧ M' 103 23 = (gTs (mTT M) (M 103 22) φ (M 103 23)).2.1 ∧ r = (gTs (mTT M) (M 103 22) φ (M 103 23)).2.2) ∨ ((gTs (mTT M) (M 103 22) φ (M 103 23)).1 = 1 ∧ M' 103 24 = 1 ∧ M' 103 23 = (gTs (mTT M) (M 103 22) φ (M 103 23)).2.1))
set_option maxHeartbeats 2000000 in
theorem ok_X12_readTest : zSnd zS 145 0 0 yX12_readTest cX12_readTest 4 (some .boolean) 8 [2] (F_X12_readTest pr_X12_readTest po_X12_readTest) := by
  refine (sn_X12_readTest ok_X12_readSum ok_X12_look).mono ?_
  rintro xs P M hz hR ⟨rfl, ⟨hC, h0⟩, hP⟩
  refine ⟨rfl, ?_⟩
  change vc_X12_readTest pr_X12_readSum po_X12_readSum pr_X12_look po_X12_look P M
  unfold vc_X12_readTest
  have a2 := hC.2.1
  have a3 := hC.2.2.1
  have gc1 : pr_X12_readSum M := by
    refine ⟨?_, ?_⟩
    · show mC M  -- c1.hC
      exact hC
    · show M 103 24 = 0  -- c1.h0
      exact h0
  refine ⟨gc1, ?_⟩
  rintro r1 M2 ⟨pc1_hf, pc1_hb, pc1_hp, pc1_h01, pc1_ho⟩ z_r1 z_M2
  have C5 := hC.fr pc1_hf (by omega)
  have T5 := mTT.fr pc1_hf
  have eB : mB2 M2 = gBy (mTT M) (M 103 22) (M2 103 23) := by unfold mB2; rw [T5.1, T5.2]
  have gc2 : pr_X12_look M2 := by
    show mC M2
    exact C5
  refine ⟨gc2, ?_⟩
  rintro r7 M8 ⟨q_rfl, e_r7⟩ z_r7 z_M8
  have q_rfl := q_rfl.symm
  subst q_rfl
  rw [eB] at e_r7
  refine ⟨fun b1 => ?_, fun b1 => ?_⟩
  · -- b1.1
    intro M14 e_M14
    refine hP _ _ ⟨?_, ?_, ?_, ?_, ?_⟩
    · show ∀ c i, ¬ mF2 c i → M14 c i = M c i  -- p1.hf
      intro c i k; rw [e_M14, zset_n _ (by omega)]; exact pc1_hf c i k
    · show 0 = 0 ∨ 0 = 1  -- p1.hr
      first | with_reducible assumption | omega | exact trivial | with_reducible rfl
    · show M 103 23 ≤ M14 103 23 ∧ M14 103 23 ≤ M 103 22  -- p1.hp
      rw [e_M14, zset_n _ (by omega)]; exact pc1_hp
    · show (M14 103 24 = 0 ∧ M 103 23 < M14 103 23) ∨ M14 103 24 = 1  -- p1.h01
      exact .inr (by rw [e_M14, zset_s])
    · show ∀ φ, mPh M φ → ((gTs (mTT M) (M 103 22) φ (M 103 23)).1 = 0 ∧ M14 103 24 = 0 ∧ M14 103 23 = (gTs (mTT M) (M 103 22) φ (M 103 23)).2.1 ∧ 0 = (gTs (mTT M) (M 103 22) φ (M 103 23)).2.2) ∨ ((gTs (mTT M) (M 103 22) φ (M 103 23)).1 = 1 ∧ M14 103 24 = 1 ∧ M14 103 23 = (gTs (mTT M) (M 103 22) φ (M 103 23)).2.1)  -- p1.ho
      intro φ h; rcases pc1_ho φ h with ⟨a, b, c, d⟩ | ⟨a, b, c⟩
      · exact absurd b b1
      · rw [gTs_a (by omega)]
        exact .inr ⟨rfl, by rw [e_M14, zset_s], by rw [e_M14, zset_n _ (by omega)]; exact c⟩
  · -- b1.2
    intro K42 h_K42
    have k_K42 : (r7 = 60 ∨ r7 = 62 ∨ r7 = 61) → K42  := by
      intro  kc
      refine h_K42 ?_
      have i := (gBy_i (T := mTT M) (n := M 103 22) (p := M2 103 23) (by rw [← e_r7]; omega)).2
      have o1 : zin ((M2 103 23) + 1) := by
        omega
      refine ⟨o1, ?_⟩
      intro M18 e_M18
      have m23 : M18 103 23 = M2 103 23 + 1 := by rw [e_M18, zset_s]
      have f18 : ∀ c i, ¬ (c = 103 ∧ i = 23) → M18 c i = M2 c i := fun c i k => by rw [e_M18, zset_n _ (by omega)]
      have m24 : M18 103 24 = 0 := by rw [f18 103 24 (by omega)]; exact b1
      have C6 : mC M18 := C5.fr (fun c i k => f18 c i (by omega)) (by have := T5.2; omega)
      have T6 := mTT.fr (M := M2) (M' := M18) (fun c i k => f18 c i (by omega))
      have t22 : M18 103 22 = M 103 22 := by rw [T6.2, T5.2]
      have gc3 : pr_X12_readSum M18 := by
        refine ⟨?_, ?_⟩
        · show mC M18  -- c3.hC
          exact C6
        · show M18 103 24 = 0  -- c3.h0
          exact m24
      refine ⟨gc3, ?_⟩
      rintro r21 M22 ⟨pc3_hf, pc3_hb, pc3_hp, pc3_h01, pc3_ho⟩ z_r21 z_M22
      have nf : ∀ c i, ¬ mF2 c i → M22 c i = M c i := fun c i k => by rw [pc3_hf c i k, f18 c i (by omega)]; exact pc1_hf c i k
      have np : M 103 23 ≤ M22 103 23 ∧ M22 103 23 ≤ M 103 22 := by omega
      have n01 : (M22 103 24 = 0 ∧ M 103 23 < M22 103 23) ∨ M22 103 24 = 1 := by
        rcases pc3_h01 with a | a
        · exact .inl ⟨a.1, by omega⟩
        · exact .inr a
      have R : ∀ x, (x = if r7 = 61 then (if r1 = r21 then 1 else 0) else if r7 = 60 then (if r1 < r21 then 1 else 0) else (if r21 < r1 then 1 else 0)) → ∀ φ, mPh M φ → ((gTs (mTT M) (M 103 22) φ (M 103 23)).1 = 0 ∧ M22 103 24 = 0 ∧ M22 103 23 = (gTs (mTT M) (M 103 22) φ (M 103 23)).2.1 ∧ x = (gTs (mTT M) (M 103 22) φ (M 103 23)).2.2) ∨ ((gTs (mTT M) (M 103 22) φ (M 103 23)).1 = 1 ∧ M22 103 24 = 1 ∧ M22 103 23 = (gTs (mTT M) (M 103 22) φ (M 103 23)).2.1) := fun x hx φ h => by
        rcases pc1_ho φ h with ⟨s0, s1, s4, s5⟩ | ⟨_, s1, _⟩
        · have q := pc3_ho φ ((h.fr pc1_hf).fr (fun c i k => f18 c i (by omega)))
          rw [T6.1, T6.2, T5.1, T5.2, m23, s4] at q
          have cc : gBy (mTT M) (M 103 22) (gSS (mTT M) (M 103 22) φ (M 103 23)).2.1 = r7 := by rw [← s4]; exact e_r7.symm
          rcases q with ⟨a, b, c, d⟩ | ⟨a, b, c⟩
          · rw [gTs_e s0 (by rw [cc]; exact kc) a]
            refine .inl ⟨rfl, b, c, ?_⟩
            rw [cc, ← s5, ← d]; exact hx
          · rw [gTs_d s0 (by rw [cc]; exact kc) (by omega)]
            exact .inr ⟨rfl, b, c⟩
        · omega
      refine ⟨fun b2 => ?_, fun b2 => ?_⟩
      · -- b2.1
        refine ⟨fun b3 => ?_, fun b3 => ?_⟩
        · -- b3.1
          refine ⟨fun b4 => ?_, fun b4 => ?_⟩
          · -- b4.1
            refine hP _ _ ⟨?_, ?_, ?_, ?_, ?_⟩
            · show ∀ c i, ¬ mF2 c i → M22 c i = M c i  -- p2.hf
              exact nf
            · show 0 = 0 ∨ 0 = 1  -- p2.hr
              first | with_reducible assumption | omega | exact trivial | with_reducible rfl
            · show M 103 23 ≤ M22 103 23 ∧ M22 103 23 ≤ M 103 22  -- p2.hp
              exact np
            · show (M22 103 24 = 0 ∧ M 103 23 < M22 103 23) ∨ M22 103 24 = 1  -- p2.h01
              exact n01
            · show ∀ φ, mPh M φ → ((gTs (mTT M) (M 103 22) φ (M 103 23)).1 = 0 ∧ M22 103 24 = 0 ∧ M22 103 23 = (gTs (mTT M) (M 103 22) φ (M 103 23)).2.1 ∧ 0 = (gTs (mTT M) (M 103 22) φ (M 103 23)).2.2) ∨ ((gTs (mTT M) (M 103 22) φ (M 103 23)).1 = 1 ∧ M22 103 24 = 1 ∧ M22 103 23 = (gTs (mTT M) (M 103 22) φ (M 103 23)).2.1)  -- p2.ho
              exact R _ (by rw [if_pos (by omega), if_neg b4])
          · -- b4.2
            refine hP _ _ ⟨?_, ?_, ?_, ?_, ?_⟩
            · show ∀ c i, ¬ mF2 c i → M22 c i = M c i  -- p3.hf
              exact nf
            · show 1 = 0 ∨ 1 = 1  -- p3.hr
              first | with_reducible assumption | omega | exact trivial | with_reducible rfl
            · show M 103 23 ≤ M22 103 23 ∧ M22 103 23 ≤ M 103 22  -- p3.hp
              exact np
            · show (M22 103 24 = 0 ∧ M 103 23 < M22 103 23) ∨ M22 103 24 = 1  -- p3.h01
              exact n01
            · show ∀ φ, mPh M φ → ((gTs (mTT M) (M 103 22) φ (M 103 23)).1 = 0 ∧ M22 103 24 = 0 ∧ M22 103 23 = (gTs (mTT M) (M 103 22) φ (M 103 23)).2.1 ∧ 1 = (gTs (mTT M) (M 103 22) φ (M 103 23)).2.2) ∨ ((gTs (mTT M) (M 103 22) φ (M 103 23)).1 = 1 ∧ M22 103 24 = 1 ∧ M22 103 23 = (gTs (mTT M) (M 103 22) φ (M 103 23)).2.1)  -- p3.ho
              exact R _ (by rw [if_pos (by omega), if_pos b4])
        · -- b3.2
          refine ⟨fun b5 => ?_, fun b5 => ?_⟩
          · -- b5.1
            refine hP _ _ ⟨?_, ?_, ?_, ?_, ?_⟩
            · show ∀ c i, ¬ mF2 c i → M22 c i = M c i  -- p4.hf
              exact nf
            · show 0 = 0 ∨ 0 = 1  -- p4.hr
              first | with_reducible assumption | omega | exact trivial | with_reducible rfl
            · show M 103 23 ≤ M22 103 23 ∧ M22 103 23 ≤ M 103 22  -- p4.hp
              exact np
            · show (M22 103 24 = 0 ∧ M 103 23 < M22 103 23) ∨ M22 103 24 = 1  -- p4.h01
              exact n01
            · show ∀ φ, mPh M φ → ((gTs (mTT M) (M 103 22) φ (M 103 23)).1 = 0 ∧ M22 103 24 = 0 ∧ M22 103 23 = (gTs (mTT M) (M 103 22) φ (M 103 23)).2.1 ∧ 0 = (gTs (mTT M) (M 103 22) φ (M 103 23)).2.2) ∨ ((gTs (mTT M) (M 103 22) φ (M 103 23)).1 = 1 ∧ M22 103 24 = 1 ∧ M22 103 23 = (gTs (mTT M) (M 103 22) φ (M 103 23)).2.1)  -- p4.ho
              exact R _ (by rw [if_neg (by omega), if_neg (by omega), if_neg (by omega)])
          · -- b5.2
            refine hP _ _ ⟨?_, ?_, ?_, ?_, ?_⟩
            · show ∀ c i, ¬ mF2 c i → M22 c i = M c i  -- p5.hf
              exact nf
            · show 1 = 0 ∨ 1 = 1  -- p5.hr
              first | with_reducible assumption | omega | exact trivial | with_reducible rfl
            · show M 103 23 ≤ M22 103 23 ∧ M22 103 23 ≤ M 103 22  -- p5.hp
              exact np
            · show (M22 103 24 = 0 ∧ M 103 23 < M22 103 23) ∨ M22 103 24 = 1  -- p5.h01
              exact n01
            · show ∀ φ, mPh M φ → ((gTs (mTT M) (M 103 22) φ (M 103 23)).1 = 0 ∧ M22 103 24 = 0 ∧ M22 103 23 = (gTs (mTT M) (M 103 22) φ (M 103 23)).2.1 ∧ 1 = (gTs (mTT M) (M 103 22) φ (M 103 23)).2.2) ∨ ((gTs (mTT M) (M 103 22) φ (M 103 23)).1 = 1 ∧ M22 103 24 = 1 ∧ M22 103 23 = (gTs (mTT M) (M 103 22) φ (M 103 23)).2.1)  -- p5.ho
              exact R _ (by rw [if_neg (by omega), if_neg (by omega), if_pos (by omega)])
      · -- b2.2
        refine ⟨fun b6 => ?_, fun b6 => ?_⟩
        · -- b6.1
          refine hP _ _ ⟨?_, ?_, ?_, ?_, ?_⟩
          · show ∀ c i, ¬ mF2 c i → M22 c i = M c i  -- p6.hf
            exact nf
          · show 0 = 0 ∨ 0 = 1  -- p6.hr
            first | with_reducible assumption | omega | exact trivial | with_reducible rfl
          · show M 103 23 ≤ M22 103 23 ∧ M22 103 23 ≤ M 103 22  -- p6.hp
            exact np
          · show (M22 103 24 = 0 ∧ M 103 23 < M22 103 23) ∨ M22 103 24 = 1  -- p6.h01
            exact n01
          · show ∀ φ, mPh M φ → ((gTs (mTT M) (M 103 22) φ (M 103 23)).1 = 0 ∧ M22 103 24 = 0 ∧ M22 103 23 = (gTs (mTT M) (M 103 22) φ (M 103 23)).2.1 ∧ 0 = (gTs (mTT M) (M 103 22) φ (M 103 23)).2.2) ∨ ((gTs (mTT M) (M 103 22) φ (M 103 23)).1 = 1 ∧ M22 103 24 = 1 ∧ M22 103 23 = (gTs (mTT M) (M 103 22) φ (M 103 23)).2.1)  -- p6.ho
            exact R _ (by rw [if_neg (by omega), if_pos (by omega), if_neg (by omega)])
        · -- b6.2
          refine hP _ _ ⟨?_, ?_, ?_, ?_, ?_⟩
          · show ∀ c i, ¬ mF2 c i → M22 c i = M c i  -- p7.hf
            exact nf
          · show 1 = 0 ∨ 1 = 1  -- p7.hr
            first | with_reducible assumption | omega | exact trivial | with_reducible rfl
          · show M 103 23 ≤ M22 103 23 ∧ M22 103 23 ≤ M 103 22  -- p7.hp
            exact np
          · show (M22 103 24 = 0 ∧ M 103 23 < M22 103 23) ∨ M22 103 24 = 1  -- p7.h01
            exact n01
          · show ∀ φ, mPh M φ → ((gTs (mTT M) (M 103 22) φ (M 103 23)).1 = 0 ∧ M22 103 24 = 0 ∧ M22 103 23 = (gTs (mTT M) (M 103 22) φ (M 103 23)).2.1 ∧ 1 = (gTs (mTT M) (M 103 22) φ (M 103 23)).2.2) ∨ ((gTs (mTT M) (M 103 22) φ (M 103 23)).1 = 1 ∧ M22 103 24 = 1 ∧ M22 103 23 = (gTs (mTT M) (M 103 22) φ (M 103 23)).2.1)  -- p7.ho
            exact R _ (by rw [if_neg (by omega), if_pos (by omega), if_pos (by omega)])
    refine ⟨fun b7 => ?_, fun b7 => ?_⟩
    · -- b7.1
      refine k_K42 ?_
      · show r7 = 60 ∨ r7 = 62 ∨ r7 = 61  -- K42.1.kc
        omega
    · -- b7.2
      refine ⟨fun b8 => ?_, fun b8 => ?_⟩
      · -- b8.1
        refine k_K42 ?_
        · show r7 = 60 ∨ r7 = 62 ∨ r7 = 61  -- K42.2.kc
          omega
      · -- b8.2
        refine ⟨fun b9 => ?_, fun b9 => ?_⟩
        · -- b9.1
          refine k_K42 ?_
          · show r7 = 60 ∨ r7 = 62 ∨ r7 = 61  -- K42.3.kc
            omega
        · -- b9.2
          intro M35 e_M35
          refine hP _ _ ⟨?_, ?_, ?_, ?_, ?_⟩
          · show ∀ c i, ¬ mF2 c i → M35 c i = M c i  -- p8.hf
            intro c i k; rw [e_M35, zset_n _ (by omega)]; exact pc1_hf c i k
          · show 0 = 0 ∨ 0 = 1  -- p8.hr
            first | with_reducible assumption | omega | exact trivial | with_reducible rfl
          · show M 103 23 ≤ M35 103 23 ∧ M35 103 23 ≤ M 103 22  -- p8.hp
            rw [e_M35, zset_n _ (by omega)]; exact pc1_hp
          · show (M35 103 24 = 0 ∧ M 103 23 < M35 103 23) ∨ M35 103 24 = 1  -- p8.h01
            exact .inr (by rw [e_M35, zset_s])
          · show ∀ φ, mPh M φ → ((gTs (mTT M) (M 103 22) φ (M 103 23)).1 = 0 ∧ M35 103 24 = 0 ∧ M35 103 23 = (gTs (mTT M) (M 103 22) φ (M 103 23)).2.1 ∧ 0 = (gTs (mTT M) (M 103 22) φ (M 103 23)).2.2) ∨ ((gTs (mTT M) (M 103 22) φ (M 103 23)).1 = 1 ∧ M35 103 24 = 1 ∧ M35 103 23 = (gTs (mTT M) (M 103 22) φ (M 103 23)).2.1)  -- p8.ho
            intro φ h; rcases pc1_ho φ h with ⟨a, b, c, d⟩ | ⟨a, b, c⟩
            · have cc : gBy (mTT M) (M 103 22) (gSS (mTT M) (M 103 22) φ (M 103 23)).2.1 = r7 := by rw [← c]; exact e_r7.symm
              rw [gTs_c a (by rw [cc]; omega)]
              exact .inr ⟨rfl, by rw [e_M35, zset_s], by rw [e_M35, zset_n _ (by omega)]; exact c⟩
            · omega

