theorem mFok.ex {M : zM} (h : mFok M) (hd : mDim M) {f : Int} (hf : 0 ≤ f ∧ f < M 103 30) : ∃ k, 0 ≤ k ∧ k < 192 ∧ M 115 k = f := by
  have := h.1.fst f hf.1 hf.2
  exact ⟨_, this.1.1, by omega, this.2⟩
theorem mFok.mem {M M' : zM} (H : mFok M) (e1 : M' 103 1 = M 103 1) (e2 : M' 103 2 = M 103 2) (e5 : M' 103 5 = M 103 5) (e30 : M' 103 30 = M 103 30) (e104 : M' 104 = M 104) (e115 : M' 115 = M 115) (e116 : M' 116 = M 116) : mFok M' := by
  unfold mFok at H ⊢
  rw [e1, e2, e5, e30, e104, e115, e116]
  exact H
abbrev pr_X12_liesOn (a : Int) (b : Int) (t : Int) (M : zM) : Prop := (mDim M) ∧ (mFok M) ∧ (0 ≤ a ∧ a < M 103 30) ∧ (0 ≤ b ∧ b < M 103 30) ∧ (0 ≤ t ∧ t < 8)
abbrev po_X12_liesOn (a : Int) (b : Int) (t : Int) (M : zM) (r : Int) (M' : zM) : Prop := (∀ c i, ¬ (c = 103 ∧ 32 ≤ i ∧ i ≤ 35) → M' c i = M c i) ∧ (∀ la ra ua ba lb rb ub bb, gBox (gD (M 103 1) (M 103 2)) (M 115) a la ra ua ba → gBox (gD (M 103 1) (M 103 2)) (M 115) b lb rb ub bb → zB r (gOn (zg (M 103 1) (M 103 2) (M 115)) a b la ua (ra - la + 1) (ba - ua + 1) lb ub (rb - lb + 1) (bb - ub + 1) (if t < 4 then 0 else 1) (t % 2) (t / 2 % 2)))
set_option maxHeartbeats 4000000 in
theorem ok_X12_liesOn : zSnd zS 145 0 0 yX12_liesOn cX12_liesOn 14 (some .boolean) 1 [2, 0, 0, 0] (F_X12_liesOn pr_X12_liesOn po_X12_liesOn) := by
  refine (sn_X12_liesOn ok_X12_findBox ok_X12_isOf).mono ?_
  rintro xs P M hz hR ⟨a, b, t, rfl, ⟨hd, hF, ha, hb0, ht⟩, hP⟩
  refine ⟨_, _, _, rfl, ?_⟩
  have z_a := zall_h (zall_t hz) (by decide)
  have z_b := zall_h (zall_t (zall_t hz)) (by decide)
  have z_t := zall_h (zall_t (zall_t (zall_t hz))) (by decide)
  change vc_X12_liesOn pr_X12_findBox po_X12_findBox pr_X12_isOf po_X12_isOf a b t P M
  unfold vc_X12_liesOn
  have gc1 : pr_X12_findBox b M := by
    show ∃ k, 0 ≤ k ∧ k < 192 ∧ M 115 k = b
    exact hF.ex hd hb0
  refine ⟨gc1, ?_⟩
  rintro M1 ⟨pc1_hf, pc1_hb⟩ z_M1
  have w1 := pc1_hf 103 1 (by omega)
  have w2 := pc1_hf 103 2 (by omega)
  have w115 : M1 115 = M 115 := funext fun i => pc1_hf 115 i (by omega)
  have BB := pc1_hb.dom (w := M 103 1) (h := M 103 2) (by omega) (by omega) hb0.1 hF.2
  have gc2 : pr_X12_findBox a M1 := by
    show ∃ k, 0 ≤ k ∧ k < 192 ∧ M1 115 k = a
    rw [w115]; exact hF.ex hd ha
  refine ⟨gc2, ?_⟩
  rintro M6 ⟨pc2_hf, pc2_hb⟩ z_M6
  rw [w115] at pc2_hb
  have AA := pc2_hb.dom (w := M 103 1) (h := M 103 2) (by omega) (by omega) ha.1 hF.2
  have z : ∀ c i, ¬ (c = 103 ∧ 32 ≤ i ∧ i ≤ 35) → M6 c i = M c i := fun c i h => by rw [pc2_hf c i h]; exact pc1_hf c i h
  have z1 := z 103 1 (by omega)
  have z2 := z 103 2 (by omega)
  have z115 : M6 115 = M 115 := funext fun i => z 115 i (by omega)
  obtain ⟨a0, ⟨a1, da1, ea1, fa1⟩, ⟨a2, da2, ea2, fa2⟩, ⟨a3, da3, ea3, fa3⟩, ⟨a4, da4, ea4, fa4⟩⟩ := id AA
  obtain ⟨b0, ⟨c1, dc1, ec1, fc1⟩, ⟨c2, dc2, ec2, fc2⟩, ⟨c3, dc3, ec3, fc3⟩, ⟨c4, dc4, ec4, fc4⟩⟩ := id BB
  have a0' := a0 a2 da2 ea2
  have a0'' := a0 a4 da4 ea4
  have b0' := b0 c2 dc2 ec2
  have b0'' := b0 c4 dc4 ec4
  intro K44 h_K44
  have k_K44 : ∀ (v11 : Int), (v11 = if t < 4 then 0 else 1) → K44 v11 := by
    intro v11 hk44
    refine h_K44 _ ?_
    intro z_v11
    have FIN : ∀ r, zB r (gOn (zg (M 103 1) (M 103 2) (M 115)) a b (M6 103 32) (M6 103 33) (M6 103 34) (M6 103 35) (M1 103 32) (M1 103 33) (M1 103 34) (M1 103 35) v11 (t % 2) (t / 2 % 2)) → ∀ la ra ua ba lb rb ub bb, gBox (gD (M 103 1) (M 103 2)) (M 115) a la ra ua ba → gBox (gD (M 103 1) (M 103 2)) (M 115) b lb rb ub bb → zB r (gOn (zg (M 103 1) (M 103 2) (M 115)) a b la ua (ra - la + 1) (ba - ua + 1) lb ub (rb - lb + 1) (bb - ub + 1) (if t < 4 then 0 else 1) (t % 2) (t / 2 % 2)) := by
      intro r h la ra ua ba lb rb ub bb A B
      have e1 := A.uq AA
      have e2 := B.uq BB
      rw [← hk44, show ra - la + 1 = M6 103 34 by omega, show ba - ua + 1 = M6 103 35 by omega, show rb - lb + 1 = M1 103 34 by omega, show bb - ub + 1 = M1 103 35 by omega, e1.1, e1.2.2.1, e2.1, e2.2.2.1]
      exact h
    have v01 : v11 = 0 ∨ v11 = 1 := by rw [hk44]; split <;> simp
    intro K64 h_K64
    have k_K64 : ∀ (v13 : Int), (v13 = if v11 = 0 then M6 103 34 else M6 103 35) → K64 v13 := by
      intro v13 hk64
      refine h_K64 _ ?_
      intro z_v13
      refine ⟨fun b1 => ?_, fun b1 => ?_⟩
      · -- b1.1
        refine hP _ _ ⟨?_, ?_⟩
        · show ∀ c i, ¬ (c = 103 ∧ 32 ≤ i ∧ i ≤ 35) → M6 c i = M c i  -- p1.hf
          exact z
        · show ∀ la ra ua ba lb rb ub bb, gBox (gD (M 103 1) (M 103 2)) (M 115) a la ra ua ba → gBox (gD (M 103 1) (M 103 2)) (M 115) b lb rb ub bb → zB 0 (gOn (zg (M 103 1) (M 103 2) (M 115)) a b la ua (ra - la + 1) (ba - ua + 1) lb ub (rb - lb + 1) (bb - ub + 1) (if t < 4 then 0 else 1) (t % 2) (t / 2 % 2))  -- p1.hr
          refine FIN _ (zB.f (fun h => ?_))
          rcases v01 with e | e <;> (have h1 := h.1; have h2 := h.2.1; simp [e] at h1 h2 hk64; omega)
      · -- b1.2
        intro K85 h_K85
        have k_K85 : ∀ (v16 : Int), (v16 = if v11 = 0 then M6 103 35 else M6 103 34) → K85 v16 := by
          intro v16 hk85
          refine h_K85 _ ?_
          intro z_v16
          refine ⟨fun b2 => ?_, fun b2 => ?_⟩
          · -- b2.1
            have d1 : M6 103 34 = if v11 = 0 then M1 103 34 else M1 103 35 := by rcases v01 with e | e <;> (simp [e] at hk64 hk85 ⊢; omega)
            have d2 : M6 103 35 = if v11 = 0 then M1 103 35 else M1 103 34 := by rcases v01 with e | e <;> (simp [e] at hk64 hk85 ⊢; omega)
            refine ⟨fun v19 v20 M23 n25 => (n25 : Int) = (20 - v20) ∧ (0 ≤ v20 ∧ v20 ≤ 12) ∧ (M23 = M6) ∧ (zB v19 (∀ X Y, 0 ≤ X → X < M1 103 34 → 0 ≤ Y → Y < v20 → Y < M1 103 35 → (zg (M 103 1) (M 103 2) (M 115) (M1 103 32 + X) (M1 103 33 + Y) = b ↔ zg (M 103 1) (M 103 2) (M 115) (M6 103 32 + gIx v11 (t % 2) (t / 2 % 2) (M1 103 34) (M1 103 35) X Y) (M6 103 33 + gIy v11 (t % 2) (t / 2 % 2) (M1 103 34) (M1 103 35) X Y) = a))), ⟨Int.toNat (20 - 0), by omega, ?_, ?_, ?_⟩, ?_⟩
            · show 0 ≤ 0 ∧ 0 ≤ 12  -- I96.0.hv
              first | with_reducible assumption | omega | exact trivial | with_reducible rfl
            · first | with_reducible assumption | omega | exact trivial | with_reducible rfl  -- I96.0.rfl
            · show zB 1 (∀ X Y, 0 ≤ X → X < M1 103 34 → 0 ≤ Y → Y < 0 → Y < M1 103 35 → (zg (M 103 1) (M 103 2) (M 115) (M1 103 32 + X) (M1 103 33 + Y) = b ↔ zg (M 103 1) (M 103 2) (M 115) (M6 103 32 + gIx v11 (t % 2) (t / 2 % 2) (M1 103 34) (M1 103 35) X Y) (M6 103 33 + gIy v11 (t % 2) (t / 2 % 2) (M1 103 34) (M1 103 35) X Y) = a))  -- I96.0.hq
              exact zB.t (fun X Y _ _ y0 y1 => by omega)
            rintro v19 v20 M23 n25 ⟨h_n25, hv, q_rfl, hq⟩ z_v19 z_v20 z_M23
            have q_rfl := q_rfl.symm
            subst q_rfl
            refine ⟨fun b3 => ?_, fun b3 => ?_⟩
            · -- b3.1
              have o1 : (v19 = 0 ∨ v19 = 1) := by
                exact hq.b
              refine ⟨o1, ?_⟩
              refine hP _ _ ⟨?_, ?_⟩
              · show ∀ c i, ¬ (c = 103 ∧ 32 ≤ i ∧ i ≤ 35) → M6 c i = M c i  -- p2.hf
                exact z
              · show ∀ la ra ua ba lb rb ub bb, gBox (gD (M 103 1) (M 103 2)) (M 115) a la ra ua ba → gBox (gD (M 103 1) (M 103 2)) (M 115) b lb rb ub bb → zB v19 (gOn (zg (M 103 1) (M 103 2) (M 115)) a b la ua (ra - la + 1) (ba - ua + 1) lb ub (rb - lb + 1) (bb - ub + 1) (if t < 4 then 0 else 1) (t % 2) (t / 2 % 2))  -- p2.hr
                refine FIN _ (hq.iff ⟨fun h => ⟨d1, d2, fun X Y x0 x1 y0 y1 => h X Y x0 x1 y0 (by omega) y1⟩, fun h X Y x0 x1 y0 _ y1 => h.2.2 X Y x0 x1 y0 y1⟩)
            · -- b3.2
              refine ⟨fun b4 => ?_, fun b4 => ?_⟩
              · -- b4.1
                have o2 : (v19 = 0 ∨ v19 = 1) := by
                  exact hq.b
                refine ⟨o2, ?_⟩
                refine hP _ _ ⟨?_, ?_⟩
                · show ∀ c i, ¬ (c = 103 ∧ 32 ≤ i ∧ i ≤ 35) → M6 c i = M c i  -- p3.hf
                  exact z
                · show ∀ la ra ua ba lb rb ub bb, gBox (gD (M 103 1) (M 103 2)) (M 115) a la ra ua ba → gBox (gD (M 103 1) (M 103 2)) (M 115) b lb rb ub bb → zB v19 (gOn (zg (M 103 1) (M 103 2) (M 115)) a b la ua (ra - la + 1) (ba - ua + 1) lb ub (rb - lb + 1) (bb - ub + 1) (if t < 4 then 0 else 1) (t % 2) (t / 2 % 2))  -- p3.hr
                  rw [b4]; exact FIN _ (zB.f (fun h => hq.z.1 b4 (fun X Y x0 x1 y0 _ y1 => h.2.2 X Y x0 x1 y0 y1)))
              · -- b4.2
                refine ⟨fun v36 v37 M40 n42 => (n42 : Int) = (20 - v37) ∧ (0 ≤ v37 ∧ v37 ≤ 16) ∧ (M40 = M6) ∧ (zB v36 (∀ X, 0 ≤ X → X < v37 → X < M1 103 34 → (zg (M 103 1) (M 103 2) (M 115) (M1 103 32 + X) (M1 103 33 + v20) = b ↔ zg (M 103 1) (M 103 2) (M 115) (M6 103 32 + gIx v11 (t % 2) (t / 2 % 2) (M1 103 34) (M1 103 35) X v20) (M6 103 33 + gIy v11 (t % 2) (t / 2 % 2) (M1 103 34) (M1 103 35) X v20) = a))), ⟨Int.toNat (20 - 0), by omega, ?_, ?_, ?_⟩, ?_⟩
                · show 0 ≤ 0 ∧ 0 ≤ 16  -- I111.0.hv2
                  first | with_reducible assumption | omega | exact trivial | with_reducible rfl
                · first | with_reducible assumption | omega | exact trivial | with_reducible rfl  -- I111.0.rfl
                · show zB v19 (∀ X, 0 ≤ X → X < 0 → X < M1 103 34 → (zg (M 103 1) (M 103 2) (M 115) (M1 103 32 + X) (M1 103 33 + v20) = b ↔ zg (M 103 1) (M 103 2) (M 115) (M6 103 32 + gIx v11 (t % 2) (t / 2 % 2) (M1 103 34) (M1 103 35) X v20) (M6 103 33 + gIy v11 (t % 2) (t / 2 % 2) (M1 103 34) (M1 103 35) X v20) = a))  -- I111.0.hq2
                  rcases hq.b with h | h
                  · exact absurd h b4
                  · rw [h]; exact zB.t (fun X x0 x1 => by omega)
                rintro v36 v37 M40 n42 ⟨h_n42, hv2, q_rfl, hq2⟩ z_v36 z_v37 z_M40
                have q_rfl := q_rfl.symm
                subst q_rfl
                refine ⟨fun b5 => ?_, fun b5 => ?_⟩
                · -- b5.1
                  have o3 : zin (v20 + 1) := by
                    first | with_reducible assumption | omega | exact trivial | with_reducible rfl  -- o3
                  refine ⟨o3, ?_⟩
                  refine ⟨Int.toNat (20 - (v20 + 1)), by omega, by omega, ?_, ?_, ?_⟩
                  · show 0 ≤ (v20 + 1) ∧ (v20 + 1) ≤ 12  -- I96.1.hv
                    first | with_reducible assumption | omega | exact trivial | with_reducible rfl
                  · first | with_reducible assumption | omega | exact trivial | with_reducible rfl  -- I96.1.rfl
                  · show zB v36 (∀ X Y, 0 ≤ X → X < M1 103 34 → 0 ≤ Y → Y < (v20 + 1) → Y < M1 103 35 → (zg (M 103 1) (M 103 2) (M 115) (M1 103 32 + X) (M1 103 33 + Y) = b ↔ zg (M 103 1) (M 103 2) (M 115) (M6 103 32 + gIx v11 (t % 2) (t / 2 % 2) (M1 103 34) (M1 103 35) X Y) (M6 103 33 + gIy v11 (t % 2) (t / 2 % 2) (M1 103 34) (M1 103 35) X Y) = a))  -- I96.1.hq
                    refine hq2.iff ⟨fun h X Y x0 x1 y0 y1 y2 => ?_, fun h X x0 _ x1 => h X v20 x0 x1 hv.1 (by omega) (by omega)⟩
                    by_cases c : Y = v20
                    · subst c; exact h X x0 (by omega) x1
                    · exact hq.ne.1 b4 X Y x0 x1 y0 (by omega) y2
                · -- b5.2
                  refine ⟨fun b6 => ?_, fun b6 => ?_⟩
                  · -- b6.1
                    have o4 : zin (v20 + 1) := by
                      first | with_reducible assumption | omega | exact trivial | with_reducible rfl  -- o4
                    refine ⟨o4, ?_⟩
                    refine ⟨Int.toNat (20 - (v20 + 1)), by omega, by omega, ?_, ?_, ?_⟩
                    · show 0 ≤ (v20 + 1) ∧ (v20 + 1) ≤ 12  -- I96.2.hv
                      first | with_reducible assumption | omega | exact trivial | with_reducible rfl
                    · first | with_reducible assumption | omega | exact trivial | with_reducible rfl  -- I96.2.rfl
                    · show zB v36 (∀ X Y, 0 ≤ X → X < M1 103 34 → 0 ≤ Y → Y < (v20 + 1) → Y < M1 103 35 → (zg (M 103 1) (M 103 2) (M 115) (M1 103 32 + X) (M1 103 33 + Y) = b ↔ zg (M 103 1) (M 103 2) (M 115) (M6 103 32 + gIx v11 (t % 2) (t / 2 % 2) (M1 103 34) (M1 103 35) X Y) (M6 103 33 + gIy v11 (t % 2) (t / 2 % 2) (M1 103 34) (M1 103 35) X Y) = a))  -- I96.2.hq
                      rw [b6]; exact zB.f (fun h => hq2.z.1 b6 (fun X x0 _ x1 => h X v20 x0 x1 hv.1 (by omega) (by omega)))
                  · -- b6.2
                    have o5 : 0 ≤ t := by
                      first | with_reducible assumption | omega | exact trivial | with_reducible rfl  -- o5
                    refine ⟨o5, ?_⟩
                    intro K141 h_K141
                    have k_K141 : ∀ (v60 : Int), (v60 = if t % 2 = 0 then v37 else M1 103 34 - 1 - v37) → K141 v60 := by
                      intro v60 hk141
                      refine h_K141 _ ?_
                      intro z_v60
                      have o6 : 0 ≤ (t / 2) := by
                        first | with_reducible assumption | omega | exact trivial | with_reducible rfl  -- o6
                      refine ⟨o6, ?_⟩
                      intro K163 h_K163
                      have k_K163 : ∀ (v63 : Int), (v63 = if t / 2 % 2 = 0 then v20 else M1 103 35 - 1 - v20) → K163 v63 := by
                        intro v63 hk163
                        refine h_K163 _ ?_
                        intro z_v63
                        have o7 : zin ((M1 103 33) + v20) := by
                          first | with_reducible assumption | omega | exact trivial | with_reducible rfl  -- o7
                        refine ⟨o7, ?_⟩
                        have o8 : zin ((M1 103 32) + v37) := by
                          first | with_reducible assumption | omega | exact trivial | with_reducible rfl  -- o8
                        refine ⟨o8, ?_⟩
                        have gc3 : pr_X12_isOf b ((M1 103 32) + v37) ((M1 103 33) + v20) M6 := by
                          show mDim M6
                          unfold mDim; omega
                        refine ⟨gc3, ?_⟩
                        rintro r67 M68 ⟨q_rfl, e_r67⟩ z_r67 z_M68
                        have q_rfl := q_rfl.symm
                        subst q_rfl
                        have B3 := (zif01 e_r67).iff (mOf_g hb0.1)
                        rw [z1, z2, z115] at B3
                        have ib := gI_b (mx := t % 2) (my := t / 2 % 2) d1 d2 hv2.1 (show v37 < M1 103 34 by omega) hv.1 (show v20 < M1 103 35 by omega)
                        intro K198 h_K198
                        have k_K198 : ∀ (v73 : Int), (v73 = gIx v11 (t % 2) (t / 2 % 2) (M1 103 34) (M1 103 35) v37 v20) → K198 v73 := by
                          intro v73 hk198
                          refine h_K198 _ ?_
                          intro z_v73
                          intro K215 h_K215
                          have k_K215 : ∀ (v75 : Int), (v75 = gIy v11 (t % 2) (t / 2 % 2) (M1 103 34) (M1 103 35) v37 v20) → K215 v75 := by
                            intro v75 hk215
                            refine h_K215 _ ?_
                            intro z_v75
                            have o9 : zin ((M6 103 33) + v75) := by
                              omega
                            refine ⟨o9, ?_⟩
                            have o10 : zin ((M6 103 32) + v73) := by
                              omega
                            refine ⟨o10, ?_⟩
                            have gc4 : pr_X12_isOf a ((M6 103 32) + v73) ((M6 103 33) + v75) M6 := by
                              show mDim M6
                              unfold mDim; omega
                            refine ⟨gc4, ?_⟩
                            rintro r79 M80 ⟨q_rfl, e_r79⟩ z_r79 z_M80
                            have q_rfl := q_rfl.symm
                            subst q_rfl
                            have B4 := (zif01 e_r79).iff (mOf_g ha.1)
                            rw [z1, z2, z115, hk198, hk215] at B4
                            have n3 := B3.ne
                            have n4 := B4.ne
                            have m3 := B3.b
                            have m4 := B4.b
                            refine ⟨fun b7 => ?_, fun b7 => ?_⟩
                            · -- b7.1
                              have o11 : zin (v37 + 1) := by
                                first | with_reducible assumption | omega | exact trivial | with_reducible rfl  -- o11
                              refine ⟨o11, ?_⟩
                              refine ⟨Int.toNat (20 - (v37 + 1)), by omega, by omega, ?_, ?_, ?_⟩
                              · show 0 ≤ (v37 + 1) ∧ (v37 + 1) ≤ 16  -- I111.1.hv2
                                first | with_reducible assumption | omega | exact trivial | with_reducible rfl
                              · first | with_reducible assumption | omega | exact trivial | with_reducible rfl  -- I111.1.rfl
                              · show zB 0 (∀ X, 0 ≤ X → X < (v37 + 1) → X < M1 103 34 → (zg (M 103 1) (M 103 2) (M 115) (M1 103 32 + X) (M1 103 33 + v20) = b ↔ zg (M 103 1) (M 103 2) (M 115) (M6 103 32 + gIx v11 (t % 2) (t / 2 % 2) (M1 103 34) (M1 103 35) X v20) (M6 103 33 + gIy v11 (t % 2) (t / 2 % 2) (M1 103 34) (M1 103 35) X v20) = a))  -- I111.1.hq2
                                refine zB.f (fun h => ?_)
                                have := h v37 hv2.1 (by omega) (by omega)
                                rw [← n3, ← n4] at this
                                omega
                            · -- b7.2
                              have o12 : zin (v37 + 1) := by
                                first | with_reducible assumption | omega | exact trivial | with_reducible rfl  -- o12
                              refine ⟨o12, ?_⟩
                              refine ⟨Int.toNat (20 - (v37 + 1)), by omega, by omega, ?_, ?_, ?_⟩
                              · show 0 ≤ (v37 + 1) ∧ (v37 + 1) ≤ 16  -- I111.2.hv2
                                first | with_reducible assumption | omega | exact trivial | with_reducible rfl
                              · first | with_reducible assumption | omega | exact trivial | with_reducible rfl  -- I111.2.rfl
                              · show zB 1 (∀ X, 0 ≤ X → X < (v37 + 1) → X < M1 103 34 → (zg (M 103 1) (M 103 2) (M 115) (M1 103 32 + X) (M1 103 33 + v20) = b ↔ zg (M 103 1) (M 103 2) (M 115) (M6 103 32 + gIx v11 (t % 2) (t / 2 % 2) (M1 103 34) (M1 103 35) X v20) (M6 103 33 + gIy v11 (t % 2) (t / 2 % 2) (M1 103 34) (M1 103 35) X v20) = a))  -- I111.2.hq2
                                refine zB.t (fun X x0 x1 x2 => ?_)
                                by_cases c : X = v37
                                · subst c
                                  rw [← n3, ← n4, b7]
                                · exact hq2.ne.1 b6 X x0 (by omega) x2
                          refine ⟨fun b8 => ?_, fun b8 => ?_⟩
                          · -- b8.1
                            refine k_K215 _ ?_
                            · show v63 = gIy v11 (t % 2) (t / 2 % 2) (M1 103 34) (M1 103 35) v37 v20  -- K215.1.hk215
                              unfold gIy; rw [if_pos b8]; exact hk163
                          · -- b8.2
                            refine k_K215 _ ?_
                            · show v60 = gIy v11 (t % 2) (t / 2 % 2) (M1 103 34) (M1 103 35) v37 v20  -- K215.2.hk215
                              unfold gIy; rw [if_neg b8]; exact hk141
                        refine ⟨fun b9 => ?_, fun b9 => ?_⟩
                        · -- b9.1
                          refine k_K198 _ ?_
                          · show v60 = gIx v11 (t % 2) (t / 2 % 2) (M1 103 34) (M1 103 35) v37 v20  -- K198.1.hk198
                            unfold gIx; rw [if_pos b9]; exact hk141
                        · -- b9.2
                          refine k_K198 _ ?_
                          · show v63 = gIx v11 (t % 2) (t / 2 % 2) (M1 103 34) (M1 103 35) v37 v20  -- K198.2.hk198
                            unfold gIx; rw [if_neg b9]; exact hk163
                      refine ⟨fun b10 => ?_, fun b10 => ?_⟩
                      · -- b10.1
                        have o13 : zin (((M1 103 35) - 1) - v20) := by
                          first | with_reducible assumption | omega | exact trivial | with_reducible rfl  -- o13
                        refine ⟨o13, ?_⟩
                        refine k_K163 _ ?_
                        · show (((M1 103 35) - 1) - v20) = if t / 2 % 2 = 0 then v20 else M1 103 35 - 1 - v20  -- K163.1.hk163
                          rw [if_neg b10]
                      · -- b10.2
                        refine k_K163 _ ?_
                        · show v20 = if t / 2 % 2 = 0 then v20 else M1 103 35 - 1 - v20  -- K163.2.hk163
                          rw [if_pos b10]
                    refine ⟨fun b11 => ?_, fun b11 => ?_⟩
                    · -- b11.1
                      have o14 : zin (((M1 103 34) - 1) - v37) := by
                        first | with_reducible assumption | omega | exact trivial | with_reducible rfl  -- o14
                      refine ⟨o14, ?_⟩
                      refine k_K141 _ ?_
                      · show (((M1 103 34) - 1) - v37) = if t % 2 = 0 then v37 else M1 103 34 - 1 - v37  -- K141.1.hk141
                        rw [if_neg b11]
                    · -- b11.2
                      refine k_K141 _ ?_
                      · show v37 = if t % 2 = 0 then v37 else M1 103 34 - 1 - v37  -- K141.2.hk141
                        rw [if_pos b11]
          · -- b2.2
            refine hP _ _ ⟨?_, ?_⟩
            · show ∀ c i, ¬ (c = 103 ∧ 32 ≤ i ∧ i ≤ 35) → M6 c i = M c i  -- p4.hf
              exact z
            · show ∀ la ra ua ba lb rb ub bb, gBox (gD (M 103 1) (M 103 2)) (M 115) a la ra ua ba → gBox (gD (M 103 1) (M 103 2)) (M 115) b lb rb ub bb → zB 0 (gOn (zg (M 103 1) (M 103 2) (M 115)) a b la ua (ra - la + 1) (ba - ua + 1) lb ub (rb - lb + 1) (bb - ub + 1) (if t < 4 then 0 else 1) (t % 2) (t / 2 % 2))  -- p4.hr
              refine FIN _ (zB.f (fun h => ?_))
              rcases v01 with e | e <;> (have h1 := h.1; have h2 := h.2.1; simp [e] at h1 h2 hk85; omega)
        refine ⟨fun b12 => ?_, fun b12 => ?_⟩
        · -- b12.1
          refine k_K85 _ ?_
          · show (M6 103 35) = if v11 = 0 then M6 103 35 else M6 103 34  -- K85.1.hk85
            rw [if_pos b12]
        · -- b12.2
          refine k_K85 _ ?_
          · show (M6 103 34) = if v11 = 0 then M6 103 35 else M6 103 34  -- K85.2.hk85
            rw [if_neg b12]
    refine ⟨fun b13 => ?_, fun b13 => ?_⟩
    · -- b13.1
      refine k_K64 _ ?_
      · show (M6 103 34) = if v11 = 0 then M6 103 34 else M6 103 35  -- K64.1.hk64
        rw [if_pos b13]
    · -- b13.2
      refine k_K64 _ ?_
      · show (M6 103 35) = if v11 = 0 then M6 103 34 else M6 103 35  -- K64.2.hk64
        rw [if_neg b13]
  refine ⟨fun b14 => ?_, fun b14 => ?_⟩
  · -- b14.1
    refine k_K44 _ ?_
    · show 0 = if t < 4 then 0 else 1  -- K44.1.hk44
      rw [if_pos b14]
  · -- b14.2
    refine k_K44 _ ?_
    · show 1 = if t < 4 then 0 else 1  -- K44.2.hk44
      rw [if_neg b14]

theorem mFok.bx {M : zM} (h : mFok M) (hd : mDim M) {f : Int} (hf : 0 ≤ f ∧ f < M 103 30) : ∃ l r u b, gBox (gD (M 103 1) (M 103 2)) (M 115) f l r u b := by
  obtain ⟨k, k0, k1, ek⟩ := h.ex hd hf
  have dk := h.D hf.1 k0 k1 ek
  -- the least and the greatest of finitely many
  have least : ∀ g : Int → Int, (∀ i, 0 ≤ i → i < 192 → 0 ≤ g i ∧ g i ≤ 20) → ∃ x, gD (M 103 1) (M 103 2) x ∧ M 115 x = f ∧ ∀ y, gD (M 103 1) (M 103 2) y → M 115 y = f → g x ≤ g y := by
    intro g hg
    have : ∀ n : Nat, ∀ x, gD (M 103 1) (M 103 2) x → M 115 x = f → g x = n → ∃ x, gD (M 103 1) (M 103 2) x ∧ M 115 x = f ∧ ∀ y, gD (M 103 1) (M 103 2) y → M 115 y = f → g x ≤ g y := by
      intro n
      induction n using Nat.strongRecOn with
      | ind n ih =>
        intro x dx ex gx
        by_cases c : ∃ y, gD (M 103 1) (M 103 2) y ∧ M 115 y = f ∧ g y < g x
        · obtain ⟨y, dy, ey, l⟩ := c
          have := hg y dy.1 (by omega)
          exact ih (g y).toNat (by omega) y dy ey (by omega)
        · refine ⟨x, dx, ex, fun y dy ey => ?_⟩
          apply Classical.byContradiction
          intro c2
          exact c ⟨y, dy, ey, by omega⟩
    have hk := hg k k0 k1
    exact this (g k).toNat k dk ek (by omega)
  obtain ⟨x1, d1, e1, m1⟩ := least (fun i => i % 16) (fun i _ _ => by omega)
  obtain ⟨x2, d2, e2, m2⟩ := least (fun i => 15 - i % 16) (fun i _ _ => by omega)
  obtain ⟨x3, d3, e3, m3⟩ := least (fun i => i / 16) (fun i _ _ => by omega)
  obtain ⟨x4, d4, e4, m4⟩ := least (fun i => 15 - i / 16) (fun i _ _ => by omega)
  refine ⟨x1 % 16, x2 % 16, x3 / 16, x4 / 16, ?_, ⟨x1, d1, e1, rfl⟩, ⟨x2, d2, e2, rfl⟩, ⟨x3, d3, e3, rfl⟩, ⟨x4, d4, e4, rfl⟩⟩
  intro y dy ey
  have a := m1 y dy ey
  have b := m2 y dy ey
  have c := m3 y dy ey
  have d := m4 y dy ey
  (try dsimp only at a b c d)
  omega
abbrev pr_X12_areLike (a : Int) (b : Int) (M : zM) : Prop := (mDim M) ∧ (mFok M) ∧ (0 ≤ a ∧ a < M 103 30) ∧ (0 ≤ b ∧ b < M 103 30)
abbrev po_X12_areLike (a : Int) (b : Int) (M : zM) (r : Int) (M' : zM) : Prop := (∀ c i, ¬ (c = 103 ∧ 32 ≤ i ∧ i ≤ 35) → M' c i = M c i) ∧ (zB r (gLk (M 103 1) (M 103 2) (M 115) a b))
set_option maxHeartbeats 1000000 in
theorem ok_X12_areLike : zSnd zS 145 0 0 yX12_areLike cX12_areLike 6 (some .boolean) 2 [2, 0, 0] (F_X12_areLike pr_X12_areLike po_X12_areLike) := by
  refine (sn_X12_areLike ok_X12_sizeOf ok_X12_liesOn).mono ?_
  rintro xs P M hz hR ⟨a, b, rfl, ⟨hd, hF, ha, hb0⟩, hP⟩
  refine ⟨_, _, rfl, ?_⟩
  have z_a := zall_h (zall_t hz) (by decide)
  have z_b := zall_h (zall_t (zall_t hz)) (by decide)
  change vc_X12_areLike pr_X12_sizeOf po_X12_sizeOf pr_X12_liesOn po_X12_liesOn a b P M
  unfold vc_X12_areLike
  obtain ⟨la, ra, ua, ba, A⟩ := hF.bx hd ha
  obtain ⟨lb, rb, ub, bb, B⟩ := hF.bx hd hb0
  have E := gLk_box A B
  have gc1 : pr_X12_sizeOf a M := trivial
  refine ⟨gc1, ?_⟩
  rintro r1 M2 ⟨q_rfl, e_r1⟩ z_r1 z_M2
  have q_rfl := q_rfl.symm
  subst q_rfl
  have gc2 : pr_X12_sizeOf b M := trivial
  refine ⟨gc2, ?_⟩
  rintro r7 M8 ⟨q_rfl, e_r7⟩ z_r7 z_M8
  have q_rfl := q_rfl.symm
  subst q_rfl
  refine ⟨fun b1 => ?_, fun b1 => ?_⟩
  · -- b1.1
    refine ⟨fun v14 v15 M18 n20 => (n20 : Int) = (8 - v15) ∧ (v14 = 0 ∨ v14 = 1) ∧ (0 ≤ v15 ∧ v15 ≤ 8) ∧ (∀ c i, ¬ (c = 103 ∧ 32 ≤ i ∧ i ≤ 35) → M18 c i = M c i) ∧ (zc (fun i => M 115 i = a) 192 ≠ zc (fun i => M 115 i = b) 192 → v14 = 0) ∧ (zB v14 (∃ t, 0 ≤ t ∧ t < v15 ∧ gOn (zg (M 103 1) (M 103 2) (M 115)) a b la ua (ra - la + 1) (ba - ua + 1) lb ub (rb - lb + 1) (bb - ub + 1) (if t < 4 then 0 else 1) (t % 2) (t / 2 % 2))), ⟨Int.toNat (8 - 0), by omega, ?_, ?_, ?_, ?_, ?_⟩, ?_⟩
    · show 0 = 0 ∨ 0 = 1  -- I25.0.h01
      first | with_reducible assumption | omega | exact trivial | with_reducible rfl
    · show 0 ≤ 0 ∧ 0 ≤ 8  -- I25.0.hv
      first | with_reducible assumption | omega | exact trivial | with_reducible rfl
    · show ∀ c i, ¬ (c = 103 ∧ 32 ≤ i ∧ i ≤ 35) → M c i = M c i  -- I25.0.hf
      intro _ _ _; rfl
    · show zc (fun i => M 115 i = a) 192 ≠ zc (fun i => M 115 i = b) 192 → 0 = 0  -- I25.0.hz
      intro _; rfl
    · show zB 0 (∃ t, 0 ≤ t ∧ t < 0 ∧ gOn (zg (M 103 1) (M 103 2) (M 115)) a b la ua (ra - la + 1) (ba - ua + 1) lb ub (rb - lb + 1) (bb - ub + 1) (if t < 4 then 0 else 1) (t % 2) (t / 2 % 2))  -- I25.0.hq
      exact zB.f (by rintro ⟨t, t0, t1, _⟩; omega)
    rintro v14 v15 M18 n20 ⟨h_n20, h01, hv, hf, hz, hq⟩ z_v14 z_v15 z_M18
    refine ⟨fun b2 => ?_, fun b2 => ?_⟩
    · -- b2.1
      have o1 : (v14 = 0 ∨ v14 = 1) := by
        first | with_reducible assumption | omega | exact trivial | with_reducible rfl  -- o1
      refine ⟨o1, ?_⟩
      refine hP _ _ ⟨?_, ?_⟩
      · show ∀ c i, ¬ (c = 103 ∧ 32 ≤ i ∧ i ≤ 35) → M18 c i = M c i  -- p1.hf
        first | with_reducible assumption | omega | exact trivial | with_reducible rfl
      · show zB v14 (gLk (M 103 1) (M 103 2) (M 115) a b)  -- p1.hr
        rw [hz (by omega)]; exact zB.f (fun h => absurd (E.1 h).1 (by omega))
    · -- b2.2
      refine ⟨fun b3 => ?_, fun b3 => ?_⟩
      · -- b3.1
        have o2 : (v14 = 0 ∨ v14 = 1) := by
          first | with_reducible assumption | omega | exact trivial | with_reducible rfl  -- o2
        refine ⟨o2, ?_⟩
        refine hP _ _ ⟨?_, ?_⟩
        · show ∀ c i, ¬ (c = 103 ∧ 32 ≤ i ∧ i ≤ 35) → M18 c i = M c i  -- p2.hf
          first | with_reducible assumption | omega | exact trivial | with_reducible rfl
        · show zB v14 (gLk (M 103 1) (M 103 2) (M 115) a b)  -- p2.hr
          rw [hz (by omega)]; exact zB.f (fun h => absurd (E.1 h).1 (by omega))
      · -- b3.2
        exact absurd rfl b3
  · -- b1.2
    refine ⟨fun v43 v44 M47 n49 => (n49 : Int) = (8 - v44) ∧ (v43 = 0 ∨ v43 = 1) ∧ (0 ≤ v44 ∧ v44 ≤ 8) ∧ (∀ c i, ¬ (c = 103 ∧ 32 ≤ i ∧ i ≤ 35) → M47 c i = M c i) ∧ (zc (fun i => M 115 i = a) 192 ≠ zc (fun i => M 115 i = b) 192 → v43 = 0) ∧ (zB v43 (∃ t, 0 ≤ t ∧ t < v44 ∧ gOn (zg (M 103 1) (M 103 2) (M 115)) a b la ua (ra - la + 1) (ba - ua + 1) lb ub (rb - lb + 1) (bb - ub + 1) (if t < 4 then 0 else 1) (t % 2) (t / 2 % 2))), ⟨Int.toNat (8 - 0), by omega, ?_, ?_, ?_, ?_, ?_⟩, ?_⟩
    · show 0 = 0 ∨ 0 = 1  -- I25.0.h01
      first | with_reducible assumption | omega | exact trivial | with_reducible rfl
    · show 0 ≤ 0 ∧ 0 ≤ 8  -- I25.0.hv
      first | with_reducible assumption | omega | exact trivial | with_reducible rfl
    · show ∀ c i, ¬ (c = 103 ∧ 32 ≤ i ∧ i ≤ 35) → M c i = M c i  -- I25.0.hf
      intro _ _ _; rfl
    · show zc (fun i => M 115 i = a) 192 ≠ zc (fun i => M 115 i = b) 192 → 0 = 0  -- I25.0.hz
      intro _; rfl
    · show zB 0 (∃ t, 0 ≤ t ∧ t < 0 ∧ gOn (zg (M 103 1) (M 103 2) (M 115)) a b la ua (ra - la + 1) (ba - ua + 1) lb ub (rb - lb + 1) (bb - ub + 1) (if t < 4 then 0 else 1) (t % 2) (t / 2 % 2))  -- I25.0.hq
      exact zB.f (by rintro ⟨t, t0, t1, _⟩; omega)
    rintro v43 v44 M47 n49 ⟨h_n49, h01, hv, hf, hz, hq⟩ z_v43 z_v44 z_M47
    refine ⟨fun b5 => ?_, fun b5 => ?_⟩
    · -- b5.1
      have eq : zc (fun i => M 115 i = a) 192 = zc (fun i => M 115 i = b) 192 := by omega
      have o5 : (v43 = 0 ∨ v43 = 1) := by
        first | with_reducible assumption | omega | exact trivial | with_reducible rfl  -- o5
      refine ⟨o5, ?_⟩
      refine hP _ _ ⟨?_, ?_⟩
      · show ∀ c i, ¬ (c = 103 ∧ 32 ≤ i ∧ i ≤ 35) → M47 c i = M c i  -- p4.hf
        first | with_reducible assumption | omega | exact trivial | with_reducible rfl
      · show zB v43 (gLk (M 103 1) (M 103 2) (M 115) a b)  -- p4.hr
        refine hq.iff ⟨fun ⟨t, t0, t1, g⟩ => E.2 ⟨eq, _, _, _, by split <;> simp, by omega, by omega, g⟩, fun h => ?_⟩
        obtain ⟨_, s, mx, my, hs, hx, hy, g⟩ := E.1 h
        refine ⟨4 * s + mx + 2 * my, by omega, by omega, ?_⟩
        rw [show (if 4 * s + mx + 2 * my < 4 then (0 : Int) else 1) = s by split <;> omega, show (4 * s + mx + 2 * my) % 2 = mx by omega, show (4 * s + mx + 2 * my) / 2 % 2 = my by omega]
        exact g
    · -- b5.2
      refine ⟨fun b6 => ?_, fun b6 => ?_⟩
      · -- b6.1
        exact absurd b6 (by decide)
      · -- b6.2
        refine ⟨fun b7 => ?_, fun b7 => ?_⟩
        · -- b7.1
          have o7 : (v43 = 0 ∨ v43 = 1) := by
            first | with_reducible assumption | omega | exact trivial | with_reducible rfl  -- o7
          refine ⟨o7, ?_⟩
          refine hP _ _ ⟨?_, ?_⟩
          · show ∀ c i, ¬ (c = 103 ∧ 32 ≤ i ∧ i ≤ 35) → M47 c i = M c i  -- p6.hf
            first | with_reducible assumption | omega | exact trivial | with_reducible rfl
          · show zB v43 (gLk (M 103 1) (M 103 2) (M 115) a b)  -- p6.hr
            obtain ⟨t, t0, t1, g⟩ := hq.ne.1 b7
            rw [show v43 = 1 by omega]
            exact zB.t (E.2 ⟨by omega, _, _, _, by split <;> simp, by omega, by omega, g⟩)
        · -- b7.2
          have w1 := hf 103 1 (by omega)
          have w2 := hf 103 2 (by omega)
          have w30 := hf 103 30 (by omega)
          have w115 : M47 115 = M 115 := funext fun i => hf 115 i (by omega)
          have gc4 : pr_X12_liesOn a b v44 M47 := by
            refine ⟨?_, ?_, ?_, ?_, ?_⟩
            · show mDim M47  -- c4.hd
              unfold mDim; omega
            · show mFok M47  -- c4.hF
              exact hF.mem w1 w2 (hf 103 5 (by omega)) w30 (funext fun i => hf 104 i (by omega)) w115 (funext fun i => hf 116 i (by omega))
            · show 0 ≤ a ∧ a < M47 103 30  -- c4.ha
              omega
            · show 0 ≤ b ∧ b < M47 103 30  -- c4.hb0
              omega
            · show 0 ≤ v44 ∧ v44 < 8  -- c4.ht
              first | with_reducible assumption | omega | exact trivial | with_reducible rfl
          refine ⟨gc4, ?_⟩
          rintro r62 M63 ⟨pc4_hf, pc4_hr⟩ z_r62 z_M63
          rw [w1, w2, w115] at pc4_hr
          have B4 := pc4_hr _ _ _ _ _ _ _ _ A B
          have o8 : zin (v44 + 1) := by
            first | with_reducible assumption | omega | exact trivial | with_reducible rfl  -- o8
          refine ⟨o8, ?_⟩
          refine ⟨Int.toNat (8 - (v44 + 1)), by omega, by omega, ?_, ?_, ?_, ?_, ?_⟩
          · show r62 = 0 ∨ r62 = 1  -- I25.2.h01
            exact B4.b
          · show 0 ≤ (v44 + 1) ∧ (v44 + 1) ≤ 8  -- I25.2.hv
            first | with_reducible assumption | omega | exact trivial | with_reducible rfl
          · show ∀ c i, ¬ (c = 103 ∧ 32 ≤ i ∧ i ≤ 35) → M63 c i = M c i  -- I25.2.hf
            intro c i h; rw [pc4_hf c i h]; exact hf c i h
          · show zc (fun i => M 115 i = a) 192 ≠ zc (fun i => M 115 i = b) 192 → r62 = 0  -- I25.2.hz
            intro h; omega
          · show zB r62 (∃ t, 0 ≤ t ∧ t < (v44 + 1) ∧ gOn (zg (M 103 1) (M 103 2) (M 115)) a b la ua (ra - la + 1) (ba - ua + 1) lb ub (rb - lb + 1) (bb - ub + 1) (if t < 4 then 0 else 1) (t % 2) (t / 2 % 2))  -- I25.2.hq
            refine B4.iff ⟨fun g => ⟨v44, hv.1, by omega, g⟩, fun ⟨t, t0, t1, g⟩ => ?_⟩
            by_cases c : t = v44
            · subst c; exact g
            · exact absurd ⟨t, t0, by omega, g⟩ (hq.z.1 b7)

abbrev pr_X12_leaderOf (f : Int) (M : zM) : Prop := (mDim M) ∧ (mFok M) ∧ (0 ≤ f ∧ f < M 103 30)
abbrev po_X12_leaderOf (f : Int) (M : zM) (r : Int) (M' : zM) : Prop := (∀ c i, ¬ (c = 103 ∧ 32 ≤ i ∧ i ≤ 35) → M' c i = M c i) ∧ (gLd (M 103 1) (M 103 2) (M 115) f r)
set_option maxHeartbeats 1000000 in
theorem ok_X12_leaderOf : zSnd zS 145 0 0 yX12_leaderOf cX12_leaderOf 3 (some .int) 3 [2, 0] (F_X12_leaderOf pr_X12_leaderOf po_X12_leaderOf) := by
  refine (sn_X12_leaderOf ok_X12_areLike).mono ?_
  rintro xs P M hz hR ⟨f, rfl, ⟨hd, hF, ha⟩, hP⟩
  refine ⟨_, rfl, ?_⟩
  have z_f := zall_h (zall_t hz) (by decide)
  change vc_X12_leaderOf pr_X12_areLike po_X12_areLike f P M
  unfold vc_X12_leaderOf
  have hN := hF.N hd
  refine ⟨fun v1 M3 n5 => (n5 : Int) = (192 - v1) ∧ (0 ≤ v1 ∧ v1 ≤ f) ∧ (∀ c i, ¬ (c = 103 ∧ 32 ≤ i ∧ i ≤ 35) → M3 c i = M c i) ∧ (∀ g, 0 ≤ g → g < v1 → ¬ gLk (M 103 1) (M 103 2) (M 115) g f), ⟨Int.toNat (192 - 0), by omega, ?_, ?_, ?_⟩, ?_⟩
  · show 0 ≤ 0 ∧ 0 ≤ f  -- I2.0.hv
    first | with_reducible assumption | omega | exact trivial | with_reducible rfl
  · show ∀ c i, ¬ (c = 103 ∧ 32 ≤ i ∧ i ≤ 35) → M c i = M c i  -- I2.0.hf
    intro _ _ _; rfl
  · show ∀ g, 0 ≤ g → g < 0 → ¬ gLk (M 103 1) (M 103 2) (M 115) g f  -- I2.0.hq
    intro g g0 g1; omega
  rintro v1 M3 n5 ⟨h_n5, hv, hf, hq⟩ z_v1 z_M3
  have w1 := hf 103 1 (by omega)
  have w2 := hf 103 2 (by omega)
  have w30 := hf 103 30 (by omega)
  have w115 : M3 115 = M 115 := funext fun i => hf 115 i (by omega)
  refine ⟨fun b1 => ?_, fun b1 => ?_⟩
  · -- b1.1
    refine hP _ _ ⟨?_, ?_⟩
    · show ∀ c i, ¬ (c = 103 ∧ 32 ≤ i ∧ i ≤ 35) → M3 c i = M c i  -- p1.hf
      first | with_reducible assumption | omega | exact trivial | with_reducible rfl
    · show gLd (M 103 1) (M 103 2) (M 115) f f  -- p1.hr
      exact ⟨ha.1, by omega, .inl rfl, fun g g0 g1 => hq g g0 (by omega)⟩
  · -- b1.2
    have gc1 : pr_X12_areLike v1 f M3 := by
      refine ⟨?_, ?_, ?_, ?_⟩
      · show mDim M3  -- c1.hd
        unfold mDim; omega
      · show mFok M3  -- c1.hF
        exact hF.mem w1 w2 (hf 103 5 (by omega)) w30 (funext fun i => hf 104 i (by omega)) w115 (funext fun i => hf 116 i (by omega))
      · show 0 ≤ v1 ∧ v1 < M3 103 30  -- c1.ha
        omega
      · show 0 ≤ f ∧ f < M3 103 30  -- c1.hb0
        omega
    refine ⟨gc1, ?_⟩
    rintro r13 M14 ⟨pc1_hf, pc1_hr⟩ z_r13 z_M14
    rw [w1, w2, w115] at pc1_hr
    refine ⟨fun b2 => ?_, fun b2 => ?_⟩
    · -- b2.1
      have o1 : zin (v1 + 1) := by
        first | with_reducible assumption | omega | exact trivial | with_reducible rfl  -- o1
      refine ⟨o1, ?_⟩
      refine ⟨Int.toNat (192 - (v1 + 1)), by omega, by omega, ?_, ?_, ?_⟩
      · show 0 ≤ (v1 + 1) ∧ (v1 + 1) ≤ f  -- I2.1.hv
        first | with_reducible assumption | omega | exact trivial | with_reducible rfl
      · show ∀ c i, ¬ (c = 103 ∧ 32 ≤ i ∧ i ≤ 35) → M14 c i = M c i  -- I2.1.hf
        intro c i h; rw [pc1_hf c i h]; exact hf c i h
      · show ∀ g, 0 ≤ g → g < (v1 + 1) → ¬ gLk (M 103 1) (M 103 2) (M 115) g f  -- I2.1.hq
        intro g g0 g1
        by_cases c : g = v1
        · subst c; exact pc1_hr.z.1 b2
        · exact hq g g0 (by omega)
    · -- b2.2
      refine hP _ _ ⟨?_, ?_⟩
      · show ∀ c i, ¬ (c = 103 ∧ 32 ≤ i ∧ i ≤ 35) → M14 c i = M c i  -- p2.hf
        intro c i h; rw [pc1_hf c i h]; exact hf c i h
      · show gLd (M 103 1) (M 103 2) (M 115) f v1  -- p2.hr
        exact ⟨hv.1, hv.2, .inr (pc1_hr.ne.1 b2), hq⟩

