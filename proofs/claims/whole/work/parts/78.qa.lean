theorem mFok.F {M : zM} (h : mFok M) {f : Int} (hf : 0 ≤ f ∧ f < M 103 30) : gD (M 103 1) (M 103 2) (M 116 f) ∧ M 115 (M 116 f) = f := h.1.fst f hf.1 hf.2
def mVe (M M' : zM) : Prop := M' 103 1 = M 103 1 ∧ M' 103 2 = M 103 2 ∧ M' 103 5 = M 103 5 ∧ M' 104 = M 104 ∧ M' 115 = M 115 ∧ M' 116 = M 116 ∧ M' 103 30 = M 103 30
theorem mVe.of {M M' : zM} (e : ∀ c i, (c = 103 ∧ (i = 1 ∨ i = 2 ∨ i = 5 ∨ i = 30)) ∨ c = 104 ∨ c = 115 ∨ c = 116 → M' c i = M c i) : mVe M M' :=
  ⟨e 103 1 (by omega), e 103 2 (by omega), e 103 5 (by omega), funext fun i => e 104 i (by omega), funext fun i => e 115 i (by omega), funext fun i => e 116 i (by omega), e 103 30 (by omega)⟩
theorem mFok.ve {M M' : zM} (H : mFok M) (v : mVe M M') : mFok M' := H.mem v.1 v.2.1 v.2.2.1 v.2.2.2.2.2.2 v.2.2.2.1 v.2.2.2.2.1 v.2.2.2.2.2.1
theorem mFok.nn {M M' : zM} (H : mFok M) (H' : mFok M') (e : ∀ c i, c ≠ 115 → c ≠ 116 → ¬ (c = 103 ∧ i = 30) → M' c i = M c i) : M' 103 30 = M 103 30 := by
  have a := H'.1
  rw [e 103 1 (by omega) (by omega) (by omega), e 103 2 (by omega) (by omega) (by omega), e 103 5 (by omega) (by omega) (by omega), show M' 104 = M 104 from funext fun i => e 104 i (by omega) (by omega) (by omega)] at a
  exact (gLab.uniq (fun a d => d.1) a H.1).2.1
section
variable {w h f t n : Int} {L : Int → Int} {s : gS}
theorem gPer.t2 (H : gPer (zg w h L) f t s n) (v : gV (zg w h L) f s) : ∀ k, 0 ≤ k → k < n → ((gE (zg w h L) f t s k).2.2 - (gE (zg w h L) f t s (if k = 0 then n - 1 else k - 1)).2.2) % 4 ≠ 2 := by
  intro k k0 k1
  have st : ∀ j, 0 ≤ j → ((gE (zg w h L) f t s (j + 1)).2.2 - (gE (zg w h L) f t s j).2.2) % 4 ≠ 2 := by
    intro j j0
    have r := (gE_V (t := t) v j).1
    have d := gN_d (G := zg w h L) (f := f) (t := t) r
    rw [gE_s j0]
    omega
  by_cases z : k = 0
  · rw [if_pos z, z]
    have a := st (n - 1) (by have := H.1; omega)
    rw [show n - 1 + 1 = n by omega, H.2.2.1] at a
    exact a
  · rw [if_neg z]
    have a := st (k - 1) (by omega)
    rw [show k - 1 + 1 = k by omega] at a
    exact a
theorem gPer.tn (H : gPer (zg w h L) f t s n) (v : gV (zg w h L) f s) {W : Int → Int} (hW : ∀ j, 0 ≤ j → j < n → W j = (gE (zg w h L) f t s j).2.2) (s0 : s.2.2 = 0) : 1 ≤ zc (fun i => zTurn W n i ≠ 0) n := by
  apply Classical.byContradiction
  intro c
  have n1 := H.1
  have z : ∀ i, 0 ≤ i → i < n → zTurn W n i = 0 := by
    intro i i0 i1
    apply Classical.byContradiction
    intro q
    have a := zc_lt2 (p := fun i => zTurn W n i ≠ 0) i0 i1 q
    have b := zc_b (fun i => zTurn W n i ≠ 0) i i0
    omega
  have rg : ∀ j, 0 ≤ j → j < n → 0 ≤ W j ∧ W j < 4 := fun j j0 j1 => by rw [hW j j0 j1]; exact H.V v j
  have w0 : ∀ k, 0 ≤ k → k < n → W k = 0 := by
    refine zind (P := fun k => k < n → W k = 0) ?_ ?_
    · intro l; rw [hW 0 (by omega) l, gE_0]; exact s0
    · intro k k0 ih l
      have a := ih (by omega)
      have b := z (k + 1) (by omega) l
      unfold zTurn at b
      rw [if_neg (show ¬ (k + 1 = 0) by omega), show k + 1 - 1 = k by omega] at b
      have r := rg (k + 1) (by omega) l
      split at b
      · omega
      · split at b <;> omega
  have x : ∀ k, 0 ≤ k → k ≤ n → (gE (zg w h L) f t s k).1 = s.1 + k := by
    refine zind (P := fun k => k ≤ n → (gE (zg w h L) f t s k).1 = s.1 + k) ?_ ?_
    · intro _; rw [gE_0]; omega
    · intro k k0 ih l
      have a := ih (by omega)
      have b := w0 k k0 (by omega)
      rw [hW k k0 (by omega)] at b
      rw [gE_s k0]
      show (gE (zg w h L) f t s k).1 + zdx (gE (zg w h L) f t s k).2.2 = _
      rw [a, b, show zdx 0 = 1 from rfl]; omega
  have := x n (by omega) (by omega)
  rw [H.2.2.1] at this
  omega
end
theorem mBk.XY {M : zM} {f : Int} (H : mBk M f) (hd : mDim M) (hF : mFok M) (ha : 0 ≤ f ∧ f < M 103 30) : mXY M ∧ (3 ≤ M 103 38 ∧ M 103 38 ≤ 412) ∧ (∀ k, 0 ≤ k → k < M 103 38 → 0 ≤ M 118 k ∧ M 118 k < 4) ∧ (∀ k, 0 ≤ k → k < M 103 38 → (M 118 k - M 118 (if k = 0 then M 103 38 - 1 else k - 1)) % 4 ≠ 2) ∧ 1 ≤ zc (fun i => zTurn (M 118) (M 103 38) i ≠ 0) (M 103 38) := by
  have v := gS0_V (w := M 103 1) (h := M 103 2) (f := f) (a := M 116 f) (by omega) hF.1 rfl ha.1 ha.2 rfl
  have H1 := H.1
  have n1 := H1.1
  refine ⟨fun k k0 k1 => ?_, ⟨H1.n3 v, H1.2.1⟩, fun k k0 k1 => ?_, fun k k0 k1 => ?_, ?_⟩
  · have c := H.2.2 k k0 k1
    have b := gV.bx ha.1 (gE_V (t := M 103 5) v k)
    rw [c.1, c.2]; omega
  · rw [H.2.1 k k0 k1]; exact H1.V v k
  · rw [H.2.1 k k0 k1, H.2.1 _ (by split <;> omega) (by split <;> omega)]; exact H1.t2 v k k0 k1
  · exact H1.tn v (fun j j0 j1 => H.2.1 j j0 j1) rfl
abbrev pr_X12_isFace (f : Int) (M : zM) : Prop := (mI M)
abbrev po_X12_isFace (f : Int) (M : zM) (r : Int) (M' : zM) : Prop := (∀ c i, c ≠ 115 → c ≠ 116 → ¬ (c = 103 ∧ i = 30) → M' c i = M c i) ∧ (mFok M') ∧ (zB r (0 ≤ f ∧ f < M' 103 30))
set_option maxHeartbeats 1000000 in
theorem ok_X12_isFace : zSnd zS 145 0 0 yX12_isFace cX12_isFace 2 (some .boolean) 3 [2, 0] (F_X12_isFace pr_X12_isFace po_X12_isFace) := by
  refine (sn_X12_isFace ok_X12_findFaces ok_X12_in).mono ?_
  rintro xs P M hz hR ⟨f, rfl, hI, hP⟩
  refine ⟨_, rfl, ?_⟩
  have z_f := zall_h (zall_t hz) (by decide)
  change vc_X12_isFace pr_X12_findFaces po_X12_findFaces pr_X12_in po_X12_in f P M
  unfold vc_X12_isFace
  have gc1 : pr_X12_findFaces M := by
    refine ⟨?_, ?_⟩
    · show mDim M  -- c1.hd
      exact hI.d
    · show M 103 5 = 0 ∨ M 103 5 = 1  -- c1.ht
      exact hI.t
  refine ⟨gc1, ?_⟩
  rintro M1 ⟨pc1_hf, pc1_hL, pc1_hn⟩ z_M1
  have e1 := pc1_hf 103 1 (by omega) (by omega) (by omega)
  have e2 := pc1_hf 103 2 (by omega) (by omega) (by omega)
  have e5 := pc1_hf 103 5 (by omega) (by omega) (by omega)
  have e104 : M1 104 = M 104 := funext fun i => pc1_hf 104 i (by omega) (by omega) (by omega)
  have F1 : mFok M1 := by unfold mFok; rw [e1, e2, e5, e104]; exact ⟨pc1_hL, pc1_hn⟩
  have d1 : mDim M1 := by unfold mDim; rw [e1, e2]; exact hI.d
  have N1 := F1.N d1
  have o1 : zin ((M1 103 30) - 1) := by
    omega
  refine ⟨o1, ?_⟩
  have gc2 : pr_X12_in f 0 ((M1 103 30) - 1) M1 := trivial
  refine ⟨gc2, ?_⟩
  rintro r7 M8 ⟨q_rfl, e_r7⟩ z_r7 z_M8
  have q_rfl := q_rfl.symm
  subst q_rfl
  have o2 : (r7 = 0 ∨ r7 = 1) := by
    split at e_r7 <;> omega
  refine ⟨o2, ?_⟩
  refine hP _ _ ⟨?_, ?_, ?_⟩
  · show ∀ c i, c ≠ 115 → c ≠ 116 → ¬ (c = 103 ∧ i = 30) → M1 c i = M c i  -- p1.hf
    exact pc1_hf
  · show mFok M1  -- p1.hF
    exact F1
  · show zB r7 (0 ≤ f ∧ f < M1 103 30)  -- p1.hr
    exact (zif01 e_r7).iff (by omega)

theorem mI.face {M M' : zM} (H : mI M) (hf : ∀ c i, c ≠ 115 → c ≠ 116 → ¬ (c = 103 ∧ i = 30) → M' c i = M c i) : mI M' := H.fr (fun c i k _ => hf c i (by omega) (by omega) (by omega))
theorem mFok.bxm {M : zM} (h : mFok M) (hd : mDim M) {f l r u b : Int} (hf : 0 ≤ f ∧ f < M 103 30) (H : gBox (fun k => 0 ≤ k ∧ k < 192) (M 115) f l r u b) : gBox (gD (M 103 1) (M 103 2)) (M 115) f l r u b := gBox.dom (by omega) (by omega) hf.1 h.2 H
abbrev pr_X12_fieldOf (f : Int) (k : Int) (M : zM) : Prop := (mI M) ∧ (mFok M) ∧ (0 ≤ f ∧ f < M 103 30) ∧ (0 ≤ k ∧ k < 12)
abbrev po_X12_fieldOf (f : Int) (k : Int) (M : zM) (r : Int) (M' : zM) : Prop := (∀ c i, ¬ (117 ≤ c ∧ c ≤ 120) → ¬ (c = 103 ∧ 31 ≤ i ∧ i ≤ 40) → M' c i = M c i) ∧ (qFa (M 103 1) (M 103 2) (M 103 5) (M 104) (M 115) (M 116) (M 103 30) f k r)
set_option maxHeartbeats 1000000 in
theorem ok_X12_fieldOf : zSnd zS 145 0 0 yX12_fieldOf cX12_fieldOf 3 (some .int) 4 [2, 0, 0] (F_X12_fieldOf pr_X12_fieldOf po_X12_fieldOf) := by
  refine (sn_X12_fieldOf ok_X12_sizeOf ok_X12_findBox ok_X12_findHoles ok_X12_neighboursOf ok_X12_depthOf ok_X12_greatestOf ok_X12_findBorder).mono ?_
  rintro xs P M hz hR ⟨f, k, rfl, ⟨hI, hF, ha, hk⟩, hP⟩
  refine ⟨_, _, rfl, ?_⟩
  have z_f := zall_h (zall_t hz) (by decide)
  have z_k := zall_h (zall_t (zall_t hz)) (by decide)
  change vc_X12_fieldOf pr_X12_sizeOf po_X12_sizeOf pr_X12_findBox po_X12_findBox pr_X12_findHoles po_X12_findHoles pr_X12_neighboursOf po_X12_neighboursOf pr_X12_depthOf po_X12_depthOf pr_X12_greatestOf po_X12_greatestOf pr_X12_findBorder po_X12_findBorder f k P M
  unfold vc_X12_fieldOf
  have hd := hI.d
  have hN := hF.N hd
  have gF := hF.F ha
  have ex := hF.ex hd ha
  refine ⟨fun b1 => ?_, fun b1 => ?_⟩
  · -- b1.1
    have gc1 : pr_X12_sizeOf f M := trivial
    refine ⟨gc1, ?_⟩
    rintro r1 M2 ⟨q_rfl, e_r1⟩ z_r1 z_M2
    have q_rfl := q_rfl.symm
    subst q_rfl
    refine hP _ _ ⟨?_, ?_⟩
    · show ∀ c i, ¬ (117 ≤ c ∧ c ≤ 120) → ¬ (c = 103 ∧ 31 ≤ i ∧ i ≤ 40) → M c i = M c i  -- p1.hf
      intro c i _ _; rfl
    · show qFa (M 103 1) (M 103 2) (M 103 5) (M 104) (M 115) (M 116) (M 103 30) f k r1  -- p1.hr
      unfold qFa; rw [if_pos b1]; exact e_r1
  · -- b1.2
    refine ⟨fun b2 => ?_, fun b2 => ?_⟩
    · -- b2.1
      have o1 : ((0 : Int) ≤ f ∧ f < 192) := by
        omega
      refine ⟨o1, ?_⟩
      have o2 : ((0 : Int) ≤ (M 116 f) ∧ (M 116 f) < 192) := by
        omega
      refine ⟨o2, ?_⟩
      refine hP _ _ ⟨?_, ?_⟩
      · show ∀ c i, ¬ (117 ≤ c ∧ c ≤ 120) → ¬ (c = 103 ∧ 31 ≤ i ∧ i ≤ 40) → M c i = M c i  -- p2.hf
        intro c i _ _; rfl
      · show qFa (M 103 1) (M 103 2) (M 103 5) (M 104) (M 115) (M 116) (M 103 30) f k (M 104 (M 116 f))  -- p2.hr
        unfold qFa; rw [if_neg b1, if_pos b2]
    · -- b2.2
      refine ⟨fun b3 => ?_, fun b3 => ?_⟩
      · -- b3.1
        have o3 : ((0 : Int) ≤ f ∧ f < 192) := by
          omega
        refine ⟨o3, ?_⟩
        refine hP _ _ ⟨?_, ?_⟩
        · show ∀ c i, ¬ (117 ≤ c ∧ c ≤ 120) → ¬ (c = 103 ∧ 31 ≤ i ∧ i ≤ 40) → M c i = M c i  -- p3.hf
          intro c i _ _; rfl
        · show qFa (M 103 1) (M 103 2) (M 103 5) (M 104) (M 115) (M 116) (M 103 30) f k (M 116 f)  -- p3.hr
          unfold qFa; rw [if_neg b1, if_neg b2, if_pos b3]
      · -- b3.2
        refine ⟨fun b4 => ?_, fun b4 => ?_⟩
        · -- b4.1
          have gc2 : pr_X12_findBox f M := by
            show ∃ k, 0 ≤ k ∧ k < 192 ∧ M 115 k = f
            exact ex
          refine ⟨gc2, ?_⟩
          rintro M10 ⟨pc2_hf, pc2_hb⟩ z_M10
          have B := hF.bxm hd ha pc2_hb
          refine ⟨fun b5 => ?_, fun b5 => ?_⟩
          · -- b5.1
            refine ⟨fun b6 => ?_, fun b6 => ?_⟩
            · -- b6.1
              refine ⟨fun b7 => ?_, fun b7 => ?_⟩
              · -- b7.1
                refine hP _ _ ⟨?_, ?_⟩
                · show ∀ c i, ¬ (117 ≤ c ∧ c ≤ 120) → ¬ (c = 103 ∧ 31 ≤ i ∧ i ≤ 40) → M10 c i = M c i  -- p4.hf
                  intro c i _ _; exact pc2_hf c i (by omega)
                · show qFa (M 103 1) (M 103 2) (M 103 5) (M 104) (M 115) (M 116) (M 103 30) f k (M10 103 35)  -- p4.hr
                  omega
              · -- b7.2
                refine hP _ _ ⟨?_, ?_⟩
                · show ∀ c i, ¬ (117 ≤ c ∧ c ≤ 120) → ¬ (c = 103 ∧ 31 ≤ i ∧ i ≤ 40) → M10 c i = M c i  -- p5.hf
                  intro c i _ _; exact pc2_hf c i (by omega)
                · show qFa (M 103 1) (M 103 2) (M 103 5) (M 104) (M 115) (M 116) (M 103 30) f k (M10 103 34)  -- p5.hr
                  omega
            · -- b6.2
              refine hP _ _ ⟨?_, ?_⟩
              · show ∀ c i, ¬ (117 ≤ c ∧ c ≤ 120) → ¬ (c = 103 ∧ 31 ≤ i ∧ i ≤ 40) → M10 c i = M c i  -- p6.hf
                intro c i _ _; exact pc2_hf c i (by omega)
              · show qFa (M 103 1) (M 103 2) (M 103 5) (M 104) (M 115) (M 116) (M 103 30) f k (M10 103 33)  -- p6.hr
                omega
          · -- b5.2
            refine hP _ _ ⟨?_, ?_⟩
            · show ∀ c i, ¬ (117 ≤ c ∧ c ≤ 120) → ¬ (c = 103 ∧ 31 ≤ i ∧ i ≤ 40) → M10 c i = M c i  -- p7.hf
              intro c i _ _; exact pc2_hf c i (by omega)
            · show qFa (M 103 1) (M 103 2) (M 103 5) (M 104) (M 115) (M 116) (M 103 30) f k (M10 103 32)  -- p7.hr
              exact qFa_box (by omega) B (by rw [if_pos b4])
        · -- b4.2
          refine ⟨fun b8 => ?_, fun b8 => ?_⟩
          · -- b8.1
            have gc3 : pr_X12_findBox f M := by
              show ∃ k, 0 ≤ k ∧ k < 192 ∧ M 115 k = f
              exact ex
            refine ⟨gc3, ?_⟩
            rintro M18 ⟨pc3_hf, pc3_hb⟩ z_M18
            have B := hF.bxm hd ha pc3_hb
            refine ⟨fun b9 => ?_, fun b9 => ?_⟩
            · -- b9.1
              refine ⟨fun b10 => ?_, fun b10 => ?_⟩
              · -- b10.1
                refine ⟨fun b11 => ?_, fun b11 => ?_⟩
                · -- b11.1
                  refine hP _ _ ⟨?_, ?_⟩
                  · show ∀ c i, ¬ (117 ≤ c ∧ c ≤ 120) → ¬ (c = 103 ∧ 31 ≤ i ∧ i ≤ 40) → M18 c i = M c i  -- p8.hf
                    intro c i _ _; exact pc3_hf c i (by omega)
                  · show qFa (M 103 1) (M 103 2) (M 103 5) (M 104) (M 115) (M 116) (M 103 30) f k (M18 103 35)  -- p8.hr
                    omega
                · -- b11.2
                  refine hP _ _ ⟨?_, ?_⟩
                  · show ∀ c i, ¬ (117 ≤ c ∧ c ≤ 120) → ¬ (c = 103 ∧ 31 ≤ i ∧ i ≤ 40) → M18 c i = M c i  -- p9.hf
                    intro c i _ _; exact pc3_hf c i (by omega)
                  · show qFa (M 103 1) (M 103 2) (M 103 5) (M 104) (M 115) (M 116) (M 103 30) f k (M18 103 34)  -- p9.hr
                    omega
              · -- b10.2
                refine hP _ _ ⟨?_, ?_⟩
                · show ∀ c i, ¬ (117 ≤ c ∧ c ≤ 120) → ¬ (c = 103 ∧ 31 ≤ i ∧ i ≤ 40) → M18 c i = M c i  -- p10.hf
                  intro c i _ _; exact pc3_hf c i (by omega)
                · show qFa (M 103 1) (M 103 2) (M 103 5) (M 104) (M 115) (M 116) (M 103 30) f k (M18 103 33)  -- p10.hr
                  exact qFa_box (by omega) B (by rw [if_neg b4, if_pos b8])
            · -- b9.2
              refine hP _ _ ⟨?_, ?_⟩
              · show ∀ c i, ¬ (117 ≤ c ∧ c ≤ 120) → ¬ (c = 103 ∧ 31 ≤ i ∧ i ≤ 40) → M18 c i = M c i  -- p11.hf
                intro c i _ _; exact pc3_hf c i (by omega)
              · show qFa (M 103 1) (M 103 2) (M 103 5) (M 104) (M 115) (M 116) (M 103 30) f k (M18 103 32)  -- p11.hr
                omega
          · -- b8.2
            refine ⟨fun b12 => ?_, fun b12 => ?_⟩
            · -- b12.1
              have gc4 : pr_X12_findBox f M := by
                show ∃ k, 0 ≤ k ∧ k < 192 ∧ M 115 k = f
                exact ex
              refine ⟨gc4, ?_⟩
              rintro M26 ⟨pc4_hf, pc4_hb⟩ z_M26
              have B := hF.bxm hd ha pc4_hb
              refine ⟨fun b13 => ?_, fun b13 => ?_⟩
              · -- b13.1
                refine ⟨fun b14 => ?_, fun b14 => ?_⟩
                · -- b14.1
                  refine ⟨fun b15 => ?_, fun b15 => ?_⟩
                  · -- b15.1
                    refine hP _ _ ⟨?_, ?_⟩
                    · show ∀ c i, ¬ (117 ≤ c ∧ c ≤ 120) → ¬ (c = 103 ∧ 31 ≤ i ∧ i ≤ 40) → M26 c i = M c i  -- p12.hf
                      intro c i _ _; exact pc4_hf c i (by omega)
                    · show qFa (M 103 1) (M 103 2) (M 103 5) (M 104) (M 115) (M 116) (M 103 30) f k (M26 103 35)  -- p12.hr
                      omega
                  · -- b15.2
                    refine hP _ _ ⟨?_, ?_⟩
                    · show ∀ c i, ¬ (117 ≤ c ∧ c ≤ 120) → ¬ (c = 103 ∧ 31 ≤ i ∧ i ≤ 40) → M26 c i = M c i  -- p13.hf
                      intro c i _ _; exact pc4_hf c i (by omega)
                    · show qFa (M 103 1) (M 103 2) (M 103 5) (M 104) (M 115) (M 116) (M 103 30) f k (M26 103 34)  -- p13.hr
                      exact qFa_box (by omega) B (by rw [if_neg b4, if_neg b8, if_pos b12]; omega)
                · -- b14.2
                  refine hP _ _ ⟨?_, ?_⟩
                  · show ∀ c i, ¬ (117 ≤ c ∧ c ≤ 120) → ¬ (c = 103 ∧ 31 ≤ i ∧ i ≤ 40) → M26 c i = M c i  -- p14.hf
                    intro c i _ _; exact pc4_hf c i (by omega)
                  · show qFa (M 103 1) (M 103 2) (M 103 5) (M 104) (M 115) (M 116) (M 103 30) f k (M26 103 33)  -- p14.hr
                    omega
              · -- b13.2
                refine hP _ _ ⟨?_, ?_⟩
                · show ∀ c i, ¬ (117 ≤ c ∧ c ≤ 120) → ¬ (c = 103 ∧ 31 ≤ i ∧ i ≤ 40) → M26 c i = M c i  -- p15.hf
                  intro c i _ _; exact pc4_hf c i (by omega)
                · show qFa (M 103 1) (M 103 2) (M 103 5) (M 104) (M 115) (M 116) (M 103 30) f k (M26 103 32)  -- p15.hr
                  omega
            · -- b12.2
              refine ⟨fun b16 => ?_, fun b16 => ?_⟩
              · -- b16.1
                have gc5 : pr_X12_findBox f M := by
                  show ∃ k, 0 ≤ k ∧ k < 192 ∧ M 115 k = f
                  exact ex
                refine ⟨gc5, ?_⟩
                rintro M34 ⟨pc5_hf, pc5_hb⟩ z_M34
                have B := hF.bxm hd ha pc5_hb
                refine ⟨fun b17 => ?_, fun b17 => ?_⟩
                · -- b17.1
                  refine ⟨fun b18 => ?_, fun b18 => ?_⟩
                  · -- b18.1
                    refine ⟨fun b19 => ?_, fun b19 => ?_⟩
                    · -- b19.1
                      refine hP _ _ ⟨?_, ?_⟩
                      · show ∀ c i, ¬ (117 ≤ c ∧ c ≤ 120) → ¬ (c = 103 ∧ 31 ≤ i ∧ i ≤ 40) → M34 c i = M c i  -- p16.hf
                        intro c i _ _; exact pc5_hf c i (by omega)
                      · show qFa (M 103 1) (M 103 2) (M 103 5) (M 104) (M 115) (M 116) (M 103 30) f k (M34 103 35)  -- p16.hr
                        exact qFa_box (by omega) B (by rw [if_neg b4, if_neg b8, if_neg b12]; omega)
                    · -- b19.2
                      refine hP _ _ ⟨?_, ?_⟩
                      · show ∀ c i, ¬ (117 ≤ c ∧ c ≤ 120) → ¬ (c = 103 ∧ 31 ≤ i ∧ i ≤ 40) → M34 c i = M c i  -- p17.hf
                        intro c i _ _; exact pc5_hf c i (by omega)
                      · show qFa (M 103 1) (M 103 2) (M 103 5) (M 104) (M 115) (M 116) (M 103 30) f k (M34 103 34)  -- p17.hr
                        omega
                  · -- b18.2
                    refine hP _ _ ⟨?_, ?_⟩
                    · show ∀ c i, ¬ (117 ≤ c ∧ c ≤ 120) → ¬ (c = 103 ∧ 31 ≤ i ∧ i ≤ 40) → M34 c i = M c i  -- p18.hf
                      intro c i _ _; exact pc5_hf c i (by omega)
                    · show qFa (M 103 1) (M 103 2) (M 103 5) (M 104) (M 115) (M 116) (M 103 30) f k (M34 103 33)  -- p18.hr
                      omega
                · -- b17.2
                  refine hP _ _ ⟨?_, ?_⟩
                  · show ∀ c i, ¬ (117 ≤ c ∧ c ≤ 120) → ¬ (c = 103 ∧ 31 ≤ i ∧ i ≤ 40) → M34 c i = M c i  -- p19.hf
                    intro c i _ _; exact pc5_hf c i (by omega)
                  · show qFa (M 103 1) (M 103 2) (M 103 5) (M 104) (M 115) (M 116) (M 103 30) f k (M34 103 32)  -- p19.hr
                    omega
              · -- b16.2
                refine ⟨fun b20 => ?_, fun b20 => ?_⟩
                · -- b20.1
                  have gc6 : pr_X12_findHoles f M := by
                    refine ⟨?_, ?_, ?_⟩
                    · show mDim M  -- c6.hd
                      exact hI.d
                    · show M 103 5 = 0 ∨ M 103 5 = 1  -- c6.ht
                      exact hI.t
                    · show 0 ≤ f  -- c6.hf0
                      omega
                  refine ⟨gc6, ?_⟩
                  rintro M42 ⟨pc6_hf, pc6_hL, pc6_hn⟩ z_M42
                  have o4 : zin ((M42 103 37) - 1) := by
                    have := hF.N hd; obtain ⟨F, G⟩ := pc6_hL; have g0 := G.nn; have g1 := gLab.le (a := 252) (fun x d => d.1) (fun x d => by have := d.2.1; have := d.2.2.1; omega) (by decide) G; omega
                  refine ⟨o4, ?_⟩
                  refine hP _ _ ⟨?_, ?_⟩
                  · show ∀ c i, ¬ (117 ≤ c ∧ c ≤ 120) → ¬ (c = 103 ∧ 31 ≤ i ∧ i ≤ 40) → M42 c i = M c i  -- p20.hf
                    intro c i _ _; exact pc6_hf c i (by omega) (by omega)
                  · show qFa (M 103 1) (M 103 2) (M 103 5) (M 104) (M 115) (M 116) (M 103 30) f k ((M42 103 37) - 1)  -- p20.hr
                    unfold qFa; rw [if_neg b1, if_neg b2, if_neg b3, if_neg (by omega), if_pos b20]; exact ⟨_, by rw [show M42 103 37 - 1 + 1 = M42 103 37 by omega]; exact pc6_hL⟩
                · -- b20.2
                  refine ⟨fun b21 => ?_, fun b21 => ?_⟩
                  · -- b21.1
                    have gc7 : pr_X12_neighboursOf f M := by
                      refine ⟨?_, ?_, ?_⟩
                      · show mDim M  -- c7.hd
                        exact hI.d
                      · show mFok M  -- c7.hF
                        exact hF
                      · show 0 ≤ f  -- c7.hf
                        omega
                    refine ⟨gc7, ?_⟩
                    rintro r48 M49 ⟨q_rfl, e_r48⟩ z_r48 z_M49
                    have q_rfl := q_rfl.symm
                    subst q_rfl
                    refine hP _ _ ⟨?_, ?_⟩
                    · show ∀ c i, ¬ (117 ≤ c ∧ c ≤ 120) → ¬ (c = 103 ∧ 31 ≤ i ∧ i ≤ 40) → M c i = M c i  -- p21.hf
                      intro c i _ _; rfl
                    · show qFa (M 103 1) (M 103 2) (M 103 5) (M 104) (M 115) (M 116) (M 103 30) f k r48  -- p21.hr
                      unfold qFa; rw [if_neg b1, if_neg b2, if_neg b3, if_neg (by omega), if_neg b20, if_pos b21]; exact e_r48
                  · -- b21.2
                    refine ⟨fun b22 => ?_, fun b22 => ?_⟩
                    · -- b22.1
                      have gc8 : pr_X12_depthOf f M := by
                        refine ⟨?_, ?_, ?_, ?_⟩
                        · show mDim M  -- c8.hd
                          exact hI.d
                        · show M 103 5 = 0 ∨ M 103 5 = 1  -- c8.ht
                          exact hI.t
                        · show mFok M  -- c8.hF
                          exact hF
                        · show 0 ≤ f ∧ f < M 103 30  -- c8.hf
                          exact ha
                      refine ⟨gc8, ?_⟩
                      rintro r54 M55 ⟨pc8_hfr, pc8_hr⟩ z_r54 z_M55
                      refine hP _ _ ⟨?_, ?_⟩
                      · show ∀ c i, ¬ (117 ≤ c ∧ c ≤ 120) → ¬ (c = 103 ∧ 31 ≤ i ∧ i ≤ 40) → M55 c i = M c i  -- p22.hf
                        intro c i _ _; exact pc8_hfr c i (by omega) (by omega)
                      · show qFa (M 103 1) (M 103 2) (M 103 5) (M 104) (M 115) (M 116) (M 103 30) f k r54  -- p22.hr
                        unfold qFa; rw [if_neg b1, if_neg b2, if_neg b3, if_neg (by omega), if_neg b20, if_neg b21, if_pos b22]; exact pc8_hr
                    · -- b22.2
                      refine ⟨fun b23 => ?_, fun b23 => ?_⟩
                      · -- b23.1
                        have gc9 : pr_X12_greatestOf f M := by
                          refine ⟨?_, ?_⟩
                          · show mDim M  -- c9.hd
                            exact hI.d
                          · show 0 ≤ f  -- c9.hf0
                            omega
                        refine ⟨gc9, ?_⟩
                        rintro r60 M61 ⟨q_rfl, pc9_hr, pc9_hb⟩ z_r60 z_M61
                        have q_rfl := q_rfl.symm
                        subst q_rfl
                        refine hP _ _ ⟨?_, ?_⟩
                        · show ∀ c i, ¬ (117 ≤ c ∧ c ≤ 120) → ¬ (c = 103 ∧ 31 ≤ i ∧ i ≤ 40) → M c i = M c i  -- p23.hf
                          intro c i _ _; rfl
                        · show qFa (M 103 1) (M 103 2) (M 103 5) (M 104) (M 115) (M 116) (M 103 30) f k r60  -- p23.hr
                          unfold qFa; rw [if_neg b1, if_neg b2, if_neg b3, if_neg (by omega), if_neg b20, if_neg b21, if_neg b22, if_pos b23]; exact pc9_hr
                      · -- b23.2
                        have gc10 : pr_X12_findBorder f M := by
                          refine ⟨?_, ?_, ?_, ?_⟩
                          · show mDim M  -- c10.hd
                            exact hI.d
                          · show M 103 5 = 0 ∨ M 103 5 = 1  -- c10.ht
                            exact hI.t
                          · show mFok M  -- c10.hF
                            exact hF
                          · show 0 ≤ f ∧ f < M 103 30  -- c10.ha
                            exact ha
                        refine ⟨gc10, ?_⟩
                        rintro M66 ⟨pc10_hf, pc10_hB⟩ z_M66
                        refine hP _ _ ⟨?_, ?_⟩
                        · show ∀ c i, ¬ (117 ≤ c ∧ c ≤ 120) → ¬ (c = 103 ∧ 31 ≤ i ∧ i ≤ 40) → M66 c i = M c i  -- p24.hf
                          intro c i _ _; exact pc10_hf c i (by omega) (by omega) (by omega) (by omega)
                        · show qFa (M 103 1) (M 103 2) (M 103 5) (M 104) (M 115) (M 116) (M 103 30) f k (M66 103 38)  -- p24.hr
                          unfold qFa; rw [if_neg b1, if_neg b2, if_neg b3, if_neg (by omega), if_neg b20, if_neg b21, if_neg b22, if_neg b23]
                          have H := pc10_hB.1
                          rw [pc10_hf 103 1 (by omega) (by omega) (by omega) (by omega), pc10_hf 103 2 (by omega) (by omega) (by omega) (by omega), pc10_hf 103 5 (by omega) (by omega) (by omega) (by omega), pc10_hf 116 f (by omega) (by omega) (by omega) (by omega), show M66 115 = M 115 from funext fun i => pc10_hf 115 i (by omega) (by omega) (by omega) (by omega)] at H
                          exact H

abbrev pr_X12_isBorder (f : Int) (m : Int) (M : zM) : Prop := (mI M)
abbrev po_X12_isBorder (f : Int) (m : Int) (M : zM) (r : Int) (M' : zM) : Prop := (∀ c i, ¬ (115 ≤ c ∧ c ≤ 120) → ¬ (c = 103 ∧ 30 ≤ i ∧ i ≤ 40) → M' c i = M c i) ∧ (mFok M') ∧ (zB r ((0 ≤ f ∧ f < M' 103 30) ∧ 0 ≤ m ∧ m ≤ 400)) ∧ (r = 1 → mBk M' f)
set_option maxHeartbeats 1000000 in
theorem ok_X12_isBorder : zSnd zS 145 0 0 yX12_isBorder cX12_isBorder 3 (some .boolean) 4 [2, 0, 0] (F_X12_isBorder pr_X12_isBorder po_X12_isBorder) := by
  refine (sn_X12_isBorder ok_X12_isFace ok_X12_in ok_X12_findBorder).mono ?_
  rintro xs P M hz hR ⟨f, m, rfl, hI, hP⟩
  refine ⟨_, _, rfl, ?_⟩
  have z_f := zall_h (zall_t hz) (by decide)
  have z_m := zall_h (zall_t (zall_t hz)) (by decide)
  change vc_X12_isBorder pr_X12_isFace po_X12_isFace pr_X12_in po_X12_in pr_X12_findBorder po_X12_findBorder f m P M
  unfold vc_X12_isBorder
  have gc1 : pr_X12_isFace f M := by
    show mI M
    exact hI
  refine ⟨gc1, ?_⟩
  rintro r1 M2 ⟨pc1_hf, pc1_hF, pc1_hr⟩ z_r1 z_M2
  have I1 := hI.face pc1_hf
  refine ⟨fun b1 => ?_, fun b1 => ?_⟩
  · -- b1.1
    refine hP _ _ ⟨?_, ?_, ?_, ?_⟩
    · show ∀ c i, ¬ (115 ≤ c ∧ c ≤ 120) → ¬ (c = 103 ∧ 30 ≤ i ∧ i ≤ 40) → M2 c i = M c i  -- p1.hf
      intro c i k1 k2; exact pc1_hf c i (by omega) (by omega) (by omega)
    · show mFok M2  -- p1.hF
      exact pc1_hF
    · show zB 0 ((0 ≤ f ∧ f < M2 103 30) ∧ 0 ≤ m ∧ m ≤ 400)  -- p1.hr
      exact zB.f (fun k => pc1_hr.z.1 b1 k.1)
    · show 0 = 1 → mBk M2 f  -- p1.hB
      intro h; omega
  · -- b1.2
    have ha := pc1_hr.ne.1 b1
    have gc2 : pr_X12_in m 0 400 M2 := trivial
    refine ⟨gc2, ?_⟩
    rintro r8 M9 ⟨q_rfl, e_r8⟩ z_r8 z_M9
    have q_rfl := q_rfl.symm
    subst q_rfl
    have z2 := zif01 e_r8
    refine ⟨fun b2 => ?_, fun b2 => ?_⟩
    · -- b2.1
      have gc3 : pr_X12_findBorder f M2 := by
        refine ⟨?_, ?_, ?_, ?_⟩
        · show mDim M2  -- c3.hd
          exact I1.d
        · show M2 103 5 = 0 ∨ M2 103 5 = 1  -- c3.ht
          exact I1.t
        · show mFok M2  -- c3.hF
          exact pc1_hF
        · show 0 ≤ f ∧ f < M2 103 30  -- c3.ha
          exact ha
      refine ⟨gc3, ?_⟩
      rintro M15 ⟨pc3_hf, pc3_hB⟩ z_M15
      have v := mVe.of (M := M2) (M' := M15) (fun c i k => pc3_hf c i (by omega) (by omega) (by omega) (by omega))
      refine hP _ _ ⟨?_, ?_, ?_, ?_⟩
      · show ∀ c i, ¬ (115 ≤ c ∧ c ≤ 120) → ¬ (c = 103 ∧ 30 ≤ i ∧ i ≤ 40) → M15 c i = M c i  -- p2.hf
        intro c i k1 k2; rw [pc3_hf c i (by omega) (by omega) (by omega) (by omega)]; exact pc1_hf c i (by omega) (by omega) (by omega)
      · show mFok M15  -- p2.hF
        exact pc1_hF.ve v
      · show zB 1 ((0 ≤ f ∧ f < M15 103 30) ∧ 0 ≤ m ∧ m ≤ 400)  -- p2.hr
        exact zB.t ⟨by rw [v.2.2.2.2.2.2]; exact ha, z2.ne.1 b2⟩
      · show 1 = 1 → mBk M15 f  -- p2.hB
        intro _; exact pc3_hB
    · -- b2.2
      refine hP _ _ ⟨?_, ?_, ?_, ?_⟩
      · show ∀ c i, ¬ (115 ≤ c ∧ c ≤ 120) → ¬ (c = 103 ∧ 30 ≤ i ∧ i ≤ 40) → M2 c i = M c i  -- p3.hf
        intro c i k1 k2; exact pc1_hf c i (by omega) (by omega) (by omega)
      · show mFok M2  -- p3.hF
        exact pc1_hF
      · show zB 0 ((0 ≤ f ∧ f < M2 103 30) ∧ 0 ≤ m ∧ m ≤ 400)  -- p3.hr
        exact zB.f (fun k => z2.z.1 b2 k.2)
      · show 0 = 1 → mBk M2 f  -- p3.hB
        intro h; omega

abbrev pr_X12_face (f : Int) (k : Int) (M : zM) : Prop := (mI M)
abbrev po_X12_face (f : Int) (k : Int) (M : zM) (r : Int) (M' : zM) : Prop := (mW M M') ∧ (mFok M') ∧ (qI ((0 ≤ f ∧ f < M' 103 30) ∧ 0 ≤ k ∧ k < 12) (qFa (M' 103 1) (M' 103 2) (M' 103 5) (M' 104) (M' 115) (M' 116) (M' 103 30) f k r) r)
set_option maxHeartbeats 1000000 in
theorem ok_X12_face : zSnd zS 145 0 0 yX12_face cX12_face 3 (some .int) 5 [2, 0, 0] (F_X12_face pr_X12_face po_X12_face) := by
  refine (sn_X12_face ok_X12_isFace ok_X12_in ok_X12_fieldOf).mono ?_
  rintro xs P M hz hR ⟨f, k, rfl, hI, hP⟩
  refine ⟨_, _, rfl, ?_⟩
  have z_f := zall_h (zall_t hz) (by decide)
  have z_k := zall_h (zall_t (zall_t hz)) (by decide)
  change vc_X12_face pr_X12_isFace po_X12_isFace pr_X12_in po_X12_in pr_X12_fieldOf po_X12_fieldOf f k P M
  unfold vc_X12_face
  intro M1 e_M1
  have I1 : mI M1 := hI.fr (fun c i k _ => by rw [e_M1, zset_n _ (by omega)])
  have w1 : mW M M1 := fun c i k => by rw [e_M1, zset_n _ (by omega)]
  have gc1 : pr_X12_isFace f M1 := by
    show mI M1
    exact I1
  refine ⟨gc1, ?_⟩
  rintro r4 M5 ⟨pc1_hf, pc1_hF, pc1_hr⟩ z_r4 z_M5
  have I2 := I1.face pc1_hf
  have w2 : mW M M5 := w1.tr (fun c i k => pc1_hf c i (by omega) (by omega) (by omega))
  refine ⟨fun b1 => ?_, fun b1 => ?_⟩
  · -- b1.1
    refine hP _ _ ⟨?_, ?_, ?_⟩
    · show mW M M5  -- p1.hw
      exact w2
    · show mFok M5  -- p1.hF
      exact pc1_hF
    · show qI ((0 ≤ f ∧ f < M5 103 30) ∧ 0 ≤ k ∧ k < 12) (qFa (M5 103 1) (M5 103 2) (M5 103 5) (M5 104) (M5 115) (M5 116) (M5 103 30) f k (-1)) (-1)  -- p1.hr
      exact qI.n (fun k => pc1_hr.z.1 b1 k.1)
  · -- b1.2
    have ha := pc1_hr.ne.1 b1
    have gc2 : pr_X12_in k 0 11 M5 := trivial
    refine ⟨gc2, ?_⟩
    rintro r11 M12 ⟨q_rfl, e_r11⟩ z_r11 z_M12
    have q_rfl := q_rfl.symm
    subst q_rfl
    have z2 := zif01 e_r11
    refine ⟨fun b2 => ?_, fun b2 => ?_⟩
    · -- b2.1
      refine hP _ _ ⟨?_, ?_, ?_⟩
      · show mW M M5  -- p2.hw
        exact w2
      · show mFok M5  -- p2.hF
        exact pc1_hF
      · show qI ((0 ≤ f ∧ f < M5 103 30) ∧ 0 ≤ k ∧ k < 12) (qFa (M5 103 1) (M5 103 2) (M5 103 5) (M5 104) (M5 115) (M5 116) (M5 103 30) f k (-1)) (-1)  -- p2.hr
        exact qI.n (fun k => z2.z.1 b2 (by omega))
    · -- b2.2
      have hk := z2.ne.1 b2
      have gc3 : pr_X12_fieldOf f k M5 := by
        refine ⟨?_, ?_, ?_, ?_⟩
        · show mI M5  -- c3.hI
          exact I2
        · show mFok M5  -- c3.hF
          exact pc1_hF
        · show 0 ≤ f ∧ f < M5 103 30  -- c3.ha
          exact ha
        · show 0 ≤ k ∧ k < 12  -- c3.hk
          omega
      refine ⟨gc3, ?_⟩
      rintro r18 M19 ⟨pc3_hf, pc3_hr⟩ z_r18 z_M19
      have v := mVe.of (M := M5) (M' := M19) (fun c i k => pc3_hf c i (by omega) (by omega))
      refine hP _ _ ⟨?_, ?_, ?_⟩
      · show mW M M19  -- p3.hw
        exact w2.tr (fun c i k => pc3_hf c i (by omega) (by omega))
      · show mFok M19  -- p3.hF
        exact pc1_hF.ve v
      · show qI ((0 ≤ f ∧ f < M19 103 30) ∧ 0 ≤ k ∧ k < 12) (qFa (M19 103 1) (M19 103 2) (M19 103 5) (M19 104) (M19 115) (M19 116) (M19 103 30) f k r18) r18  -- p3.hr
        obtain ⟨v0, v1, v2, v3, v4, v5, v6⟩ := v
        rw [v0, v1, v2, v3, v4, v5, v6]
        exact qI.y ⟨ha, by omega⟩ pc3_hr

abbrev pr_X12_pair (a : Int) (b : Int) (k : Int) (M : zM) : Prop := (mI M)
abbrev po_X12_pair (a : Int) (b : Int) (k : Int) (M : zM) (r : Int) (M' : zM) : Prop := (mW M M') ∧ (mFok M') ∧ (qI ((0 ≤ a ∧ a < M' 103 30) ∧ (0 ≤ b ∧ b < M' 103 30) ∧ a ≠ b ∧ 0 ≤ k ∧ k ≤ 1) (zB r (if k = 0 then gNB (M' 103 1) (M' 103 2) (M' 115) a b else gLies (M' 103 1) (M' 103 2) (M' 103 5) (M' 115) (M' 116) a b)) r)
set_option maxHeartbeats 1000000 in
theorem ok_X12_pair : zSnd zS 145 0 0 yX12_pair cX12_pair 4 (some .int) 4 [2, 0, 0, 0] (F_X12_pair pr_X12_pair po_X12_pair) := by
  refine (sn_X12_pair ok_X12_isFace ok_X12_in ok_X12_findHoles ok_X12_liesIn ok_X12_areNeighbours).mono ?_
  rintro xs P M hz hR ⟨a, b, k, rfl, hI, hP⟩
  refine ⟨_, _, _, rfl, ?_⟩
  have z_a := zall_h (zall_t hz) (by decide)
  have z_b := zall_h (zall_t (zall_t hz)) (by decide)
  have z_k := zall_h (zall_t (zall_t (zall_t hz))) (by decide)
  change vc_X12_pair pr_X12_isFace po_X12_isFace pr_X12_in po_X12_in pr_X12_findHoles po_X12_findHoles pr_X12_liesIn po_X12_liesIn pr_X12_areNeighbours po_X12_areNeighbours a b k P M
  unfold vc_X12_pair
  intro M1 e_M1
  have I1 : mI M1 := hI.fr (fun c i k _ => by rw [e_M1, zset_n _ (by omega)])
  have w1 : mW M M1 := fun c i k => by rw [e_M1, zset_n _ (by omega)]
  have gc1 : pr_X12_isFace a M1 := by
    show mI M1
    exact I1
  refine ⟨gc1, ?_⟩
  rintro r4 M5 ⟨pc1_hf, pc1_hF, pc1_hr⟩ z_r4 z_M5
  have I2 := I1.face pc1_hf
  have w2 : mW M M5 := w1.tr (fun c i k => pc1_hf c i (by omega) (by omega) (by omega))
  refine ⟨fun b1 => ?_, fun b1 => ?_⟩
  · -- b1.1
    refine hP _ _ ⟨?_, ?_, ?_⟩
    · show mW M M5  -- p1.hw
      exact w2
    · show mFok M5  -- p1.hF
      exact pc1_hF
    · show qI ((0 ≤ a ∧ a < M5 103 30) ∧ (0 ≤ b ∧ b < M5 103 30) ∧ a ≠ b ∧ 0 ≤ k ∧ k ≤ 1) (zB (-1) (if k = 0 then gNB (M5 103 1) (M5 103 2) (M5 115) a b else gLies (M5 103 1) (M5 103 2) (M5 103 5) (M5 115) (M5 116) a b)) (-1)  -- p1.hr
      exact qI.n (fun k => pc1_hr.z.1 b1 k.1)
  · -- b1.2
    have ha0 := pc1_hr.ne.1 b1
    have gc2 : pr_X12_isFace b M5 := by
      show mI M5
      exact I2
    refine ⟨gc2, ?_⟩
    rintro r11 M12 ⟨pc2_hf, pc2_hF, pc2_hr⟩ z_r11 z_M12
    have I3 := I2.face pc2_hf
    have w3 : mW M M12 := w2.tr (fun c i k => pc2_hf c i (by omega) (by omega) (by omega))
    have nn := pc1_hF.nn pc2_hF pc2_hf
    have ha : 0 ≤ a ∧ a < M12 103 30 := by omega
    have Nb := pc2_hF.N I3.d
    refine ⟨fun b2 => ?_, fun b2 => ?_⟩
    · -- b2.1
      refine hP _ _ ⟨?_, ?_, ?_⟩
      · show mW M M12  -- p2.hw
        exact w3
      · show mFok M12  -- p2.hF
        exact pc2_hF
      · show qI ((0 ≤ a ∧ a < M12 103 30) ∧ (0 ≤ b ∧ b < M12 103 30) ∧ a ≠ b ∧ 0 ≤ k ∧ k ≤ 1) (zB (-1) (if k = 0 then gNB (M12 103 1) (M12 103 2) (M12 115) a b else gLies (M12 103 1) (M12 103 2) (M12 103 5) (M12 115) (M12 116) a b)) (-1)  -- p2.hr
        exact qI.n (fun k => pc2_hr.z.1 b2 k.2.1)
    · -- b2.2
      have hb' := pc2_hr.ne.1 b2
      refine ⟨fun b3 => ?_, fun b3 => ?_⟩
      · -- b3.1
        refine hP _ _ ⟨?_, ?_, ?_⟩
        · show mW M M12  -- p3.hw
          exact w3
        · show mFok M12  -- p3.hF
          exact pc2_hF
        · show qI ((0 ≤ a ∧ a < M12 103 30) ∧ (0 ≤ b ∧ b < M12 103 30) ∧ a ≠ b ∧ 0 ≤ k ∧ k ≤ 1) (zB (-1) (if k = 0 then gNB (M12 103 1) (M12 103 2) (M12 115) a b else gLies (M12 103 1) (M12 103 2) (M12 103 5) (M12 115) (M12 116) a b)) (-1)  -- p3.hr
          exact qI.n (fun k => k.2.2.1 b3)
      · -- b3.2
        have gc3 : pr_X12_in k 0 1 M12 := trivial
        refine ⟨gc3, ?_⟩
        rintro r19 M20 ⟨q_rfl, e_r19⟩ z_r19 z_M20
        have q_rfl := q_rfl.symm
        subst q_rfl
        have z3 := zif01 e_r19
        refine ⟨fun b4 => ?_, fun b4 => ?_⟩
        · -- b4.1
          have hk := z3.ne.1 b4
          refine ⟨fun b5 => ?_, fun b5 => ?_⟩
          · -- b5.1
            have gc4 : pr_X12_findHoles b M12 := by
              refine ⟨?_, ?_, ?_⟩
              · show mDim M12  -- c4.hd
                exact I3.d
              · show M12 103 5 = 0 ∨ M12 103 5 = 1  -- c4.ht
                exact I3.t
              · show 0 ≤ b  -- c4.hf0
                omega
            refine ⟨gc4, ?_⟩
            rintro M27 ⟨pc4_hf, pc4_hL, pc4_hn⟩ z_M27
            have v := mVe.of (M := M12) (M' := M27) (fun c i k => pc4_hf c i (by omega) (by omega))
            have F4 : mFok M27 := pc2_hF.ve v
            have w4 : mW M M27 := w3.tr (fun c i k => pc4_hf c i (by omega) (by omega))
            have d3 := I3.d
            obtain ⟨v0, v1, v2, v3, v4, v5, v6⟩ := v
            have fa := F4.F (f := a) (by omega)
            have gc5 : pr_X12_liesIn a M27 := by
              refine ⟨?_, ?_⟩
              · show 0 ≤ a ∧ a < 192  -- c5.ha
                omega
              · show 0 ≤ M27 116 a ∧ M27 116 a < 192  -- c5.hF
                omega
            refine ⟨gc5, ?_⟩
            rintro r32 M33 ⟨q_rfl, pc5_pb⟩ z_r32 z_M33
            have q_rfl := q_rfl.symm
            subst q_rfl
            have iff5 : gLies (M27 103 1) (M27 103 2) (M27 103 5) (M27 115) (M27 116) a b ↔ (0 < M27 117 (hC (M27 116 a)) ∧ ∀ k, 0 ≤ k → k < 192 → M27 115 k = a → M27 117 (hC k) = M27 117 (hC (M27 116 a))) := by
              have hL := pc4_hL
              rw [← v0, ← v1, ← v2, ← v4] at hL
              rw [gLies_iff hL (by omega) b3 fa.1 fa.2]
              refine ⟨fun ⟨x, y⟩ => ⟨x, fun k k0 k1 e => y k ?_ e⟩, fun ⟨x, y⟩ => ⟨x, fun k d e => y k d.1 (by omega) e⟩⟩
              apply Classical.byContradiction
              intro nd
              have := F4.2 k k0 k1 nd
              omega
            refine ⟨fun b6 => ?_, fun b6 => ?_⟩
            · -- b6.1
              refine hP _ _ ⟨?_, ?_, ?_⟩
              · show mW M M27  -- p4.hw
                exact w4
              · show mFok M27  -- p4.hF
                exact F4
              · show qI ((0 ≤ a ∧ a < M27 103 30) ∧ (0 ≤ b ∧ b < M27 103 30) ∧ a ≠ b ∧ 0 ≤ k ∧ k ≤ 1) (zB 0 (if k = 0 then gNB (M27 103 1) (M27 103 2) (M27 115) a b else gLies (M27 103 1) (M27 103 2) (M27 103 5) (M27 115) (M27 116) a b)) 0  -- p4.hr
                exact qI.y ⟨by omega, by omega, b3, by omega⟩ (by rw [if_neg b5]; exact zB.f (fun q => pc5_pb.z.1 b6 (iff5.1 q)))
            · -- b6.2
              refine hP _ _ ⟨?_, ?_, ?_⟩
              · show mW M M27  -- p5.hw
                exact w4
              · show mFok M27  -- p5.hF
                exact F4
              · show qI ((0 ≤ a ∧ a < M27 103 30) ∧ (0 ≤ b ∧ b < M27 103 30) ∧ a ≠ b ∧ 0 ≤ k ∧ k ≤ 1) (zB 1 (if k = 0 then gNB (M27 103 1) (M27 103 2) (M27 115) a b else gLies (M27 103 1) (M27 103 2) (M27 103 5) (M27 115) (M27 116) a b)) 1  -- p5.hr
                exact qI.y ⟨by omega, by omega, b3, by omega⟩ (by rw [if_neg b5]; exact zB.t (iff5.2 (pc5_pb.ne.1 b6)))
          · -- b5.2
            have gc6 : pr_X12_areNeighbours a b M12 := by
              refine ⟨?_, ?_, ?_, ?_⟩
              · show mDim M12  -- c6.hd
                exact I3.d
              · show mFok M12  -- c6.hF
                exact pc2_hF
              · show 0 ≤ a  -- c6.ha
                omega
              · show 0 ≤ b  -- c6.hb
                omega
            refine ⟨gc6, ?_⟩
            rintro r39 M40 ⟨q_rfl, pc6_pb⟩ z_r39 z_M40
            have q_rfl := q_rfl.symm
            subst q_rfl
            refine ⟨fun b7 => ?_, fun b7 => ?_⟩
            · -- b7.1
              refine hP _ _ ⟨?_, ?_, ?_⟩
              · show mW M M12  -- p6.hw
                exact w3
              · show mFok M12  -- p6.hF
                exact pc2_hF
              · show qI ((0 ≤ a ∧ a < M12 103 30) ∧ (0 ≤ b ∧ b < M12 103 30) ∧ a ≠ b ∧ 0 ≤ k ∧ k ≤ 1) (zB 0 (if k = 0 then gNB (M12 103 1) (M12 103 2) (M12 115) a b else gLies (M12 103 1) (M12 103 2) (M12 103 5) (M12 115) (M12 116) a b)) 0  -- p6.hr
                exact qI.y ⟨ha, hb', b3, by omega⟩ (by rw [if_pos b5]; exact zB.f (pc6_pb.z.1 b7))
            · -- b7.2
              refine hP _ _ ⟨?_, ?_, ?_⟩
              · show mW M M12  -- p7.hw
                exact w3
              · show mFok M12  -- p7.hF
                exact pc2_hF
              · show qI ((0 ≤ a ∧ a < M12 103 30) ∧ (0 ≤ b ∧ b < M12 103 30) ∧ a ≠ b ∧ 0 ≤ k ∧ k ≤ 1) (zB 1 (if k = 0 then gNB (M12 103 1) (M12 103 2) (M12 115) a b else gLies (M12 103 1) (M12 103 2) (M12 103 5) (M12 115) (M12 116) a b)) 1  -- p7.hr
                exact qI.y ⟨ha, hb', b3, by omega⟩ (by rw [if_pos b5]; exact zB.t (pc6_pb.ne.1 b7))
        · -- b4.2
          refine hP _ _ ⟨?_, ?_, ?_⟩
          · show mW M M12  -- p8.hw
            exact w3
          · show mFok M12  -- p8.hF
            exact pc2_hF
          · show qI ((0 ≤ a ∧ a < M12 103 30) ∧ (0 ≤ b ∧ b < M12 103 30) ∧ a ≠ b ∧ 0 ≤ k ∧ k ≤ 1) (zB (-1) (if k = 0 then gNB (M12 103 1) (M12 103 2) (M12 115) a b else gLies (M12 103 1) (M12 103 2) (M12 103 5) (M12 115) (M12 116) a b)) (-1)  -- p8.hr
            exact qI.n (fun k => z3.z.1 b4 k.2.2.2)

abbrev pr_X12_faceOf (a : Int) (M : zM) : Prop := (mI M)
abbrev po_X12_faceOf (a : Int) (M : zM) (r : Int) (M' : zM) : Prop := (mW M M') ∧ (mFok M') ∧ (r = if gD (M 103 1) (M 103 2) a then M' 115 a else -1)
set_option maxHeartbeats 1000000 in
theorem ok_X12_faceOf : zSnd zS 145 0 0 yX12_faceOf cX12_faceOf 2 (some .int) 3 [2, 0] (F_X12_faceOf pr_X12_faceOf po_X12_faceOf) := by
  refine (sn_X12_faceOf ok_X12_findFaces ok_X12_isDot).mono ?_
  rintro xs P M hz hR ⟨a, rfl, hI, hP⟩
  refine ⟨_, rfl, ?_⟩
  have z_a := zall_h (zall_t hz) (by decide)
  change vc_X12_faceOf pr_X12_findFaces po_X12_findFaces pr_X12_isDot po_X12_isDot a P M
  unfold vc_X12_faceOf
  intro M1 e_M1
  have I1 : mI M1 := hI.fr (fun c i k _ => by rw [e_M1, zset_n _ (by omega)])
  have w1 : mW M M1 := fun c i k => by rw [e_M1, zset_n _ (by omega)]
  have gc1 : pr_X12_findFaces M1 := by
    refine ⟨?_, ?_⟩
    · show mDim M1  -- c1.hd
      exact I1.d
    · show M1 103 5 = 0 ∨ M1 103 5 = 1  -- c1.ht
      exact I1.t
  refine ⟨gc1, ?_⟩
  rintro M4 ⟨pc1_hf, pc1_hL, pc1_hn⟩ z_M4
  have e1 := pc1_hf 103 1 (by omega) (by omega) (by omega)
  have e2 := pc1_hf 103 2 (by omega) (by omega) (by omega)
  have e5 := pc1_hf 103 5 (by omega) (by omega) (by omega)
  have e104 : M4 104 = M1 104 := funext fun i => pc1_hf 104 i (by omega) (by omega) (by omega)
  have F1 : mFok M4 := by unfold mFok; rw [e1, e2, e5, e104]; exact ⟨pc1_hL, pc1_hn⟩
  have I2 := I1.face pc1_hf
  have w2 : mW M M4 := w1.tr (fun c i k => pc1_hf c i (by omega) (by omega) (by omega))
  have d2 := I2.d
  have q1 := w1 103 1 (by omega)
  have q2 := w1 103 2 (by omega)
  have gc2 : pr_X12_isDot a M4 := trivial
  refine ⟨gc2, ?_⟩
  rintro r9 M10 ⟨q_rfl, e_r9⟩ z_r9 z_M10
  have q_rfl := q_rfl.symm
  subst q_rfl
  have zr := zif01 e_r9
  have dd : mDot M4 a ↔ gD (M 103 1) (M 103 2) a := by
    show gD (M4 103 1) (M4 103 2) a ↔ _
    rw [e1, e2, q1, q2]
  refine ⟨fun b1 => ?_, fun b1 => ?_⟩
  · -- b1.1
    refine hP _ _ ⟨?_, ?_, ?_⟩
    · show mW M M4  -- p1.hw
      exact w2
    · show mFok M4  -- p1.hF
      exact F1
    · show (-1) = if gD (M 103 1) (M 103 2) a then M4 115 a else -1  -- p1.hr
      rw [if_neg (fun k => zr.z.1 b1 (dd.2 k))]
  · -- b1.2
    have y := zr.ne.1 b1
    have o1 : ((0 : Int) ≤ a ∧ a < 192) := by
      have y' : gD (M4 103 1) (M4 103 2) a := y; omega
    refine ⟨o1, ?_⟩
    refine hP _ _ ⟨?_, ?_, ?_⟩
    · show mW M M4  -- p2.hw
      exact w2
    · show mFok M4  -- p2.hF
      exact F1
    · show (M4 115 a) = if gD (M 103 1) (M 103 2) a then M4 115 a else -1  -- p2.hr
      rw [if_pos (dd.1 y)]

