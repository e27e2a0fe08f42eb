abbrev pr_X12_sizeOf (f : Int) (M : zM) : Prop := True
abbrev po_X12_sizeOf (f : Int) (M : zM) (r : Int) (M' : zM) : Prop := M' = M ∧ r = zc (fun i => M 115 i = f) 192
set_option maxHeartbeats 1000000 in
theorem ok_X12_sizeOf : zSnd zS 145 0 0 yX12_sizeOf cX12_sizeOf 4 (some .int) 0 [2, 0] (F_X12_sizeOf pr_X12_sizeOf po_X12_sizeOf) := by
  refine (sn_X12_sizeOf).mono ?_
  rintro xs P M hz hR ⟨f, rfl, _, hP⟩
  refine ⟨_, rfl, ?_⟩
  have z_f := zall_h (zall_t hz) (by decide)
  change vc_X12_sizeOf f P M
  unfold vc_X12_sizeOf
  refine ⟨fun v1 v2 n5 => (n5 : Int) = (192 - v2) ∧ (0 ≤ v2 ∧ v2 ≤ 192) ∧ (v1 = zc (fun i => M 115 i = f) v2), ⟨Int.toNat (192 - 0), by omega, ?_, ?_⟩, ?_⟩
  · show 0 ≤ 0 ∧ 0 ≤ 192  -- I4.0.hv
    first | with_reducible assumption | omega | exact trivial | with_reducible rfl
  · show 0 = zc (fun i => M 115 i = f) 0  -- I4.0.h1
    rfl
  rintro v1 v2 n5 ⟨h_n5, hv, h1⟩ z_v1 z_v2
  have u := zc_b (fun i => M 115 i = f) v2 hv.1
  refine ⟨fun b1 => ?_, fun b1 => ?_⟩
  · -- b1.1
    refine hP _ _ ⟨rfl, ?_⟩
    · rw [h1, show v2 = 192 by omega]  -- p1
  · -- b1.2
    have o1 : ((0 : Int) ≤ v2 ∧ v2 < 192) := by
      first | with_reducible assumption | omega | exact trivial | with_reducible rfl  -- o1
    refine ⟨o1, ?_⟩
    refine ⟨fun b2 => ?_, fun b2 => ?_⟩
    · -- b2.1
      have o2 : zin (v1 + 0) := by
        first | with_reducible assumption | omega | exact trivial | with_reducible rfl  -- o2
      refine ⟨o2, ?_⟩
      have o3 : zin (v2 + 1) := by
        first | with_reducible assumption | omega | exact trivial | with_reducible rfl  -- o3
      refine ⟨o3, ?_⟩
      refine ⟨Int.toNat (192 - (v2 + 1)), by omega, by omega, ?_, ?_⟩
      · show 0 ≤ (v2 + 1) ∧ (v2 + 1) ≤ 192  -- I4.1.hv
        first | with_reducible assumption | omega | exact trivial | with_reducible rfl
      · show (v1 + 0) = zc (fun i => M 115 i = f) (v2 + 1)  -- I4.1.h1
        rw [zc_n hv.1 b2]; omega
    · -- b2.2
      have o4 : zin (v1 + 1) := by
        first | with_reducible assumption | omega | exact trivial | with_reducible rfl  -- o4
      refine ⟨o4, ?_⟩
      have o5 : zin (v2 + 1) := by
        first | with_reducible assumption | omega | exact trivial | with_reducible rfl  -- o5
      refine ⟨o5, ?_⟩
      refine ⟨Int.toNat (192 - (v2 + 1)), by omega, by omega, ?_, ?_⟩
      · show 0 ≤ (v2 + 1) ∧ (v2 + 1) ≤ 192  -- I4.2.hv
        first | with_reducible assumption | omega | exact trivial | with_reducible rfl
      · show (v1 + 1) = zc (fun i => M 115 i = f) (v2 + 1)  -- I4.2.h1
        rw [zc_p hv.1 b2]; omega

abbrev pr_X12_findBox (f : Int) (M : zM) : Prop := (∃ k, 0 ≤ k ∧ k < 192 ∧ M 115 k = f)
abbrev po_X12_findBox (f : Int) (M : zM) (M' : zM) : Prop := (∀ c i, ¬ (c = 103 ∧ 32 ≤ i ∧ i ≤ 35) → M' c i = M c i) ∧ (gBox (fun k => 0 ≤ k ∧ k < 192) (M 115) f (M' 103 32) (M' 103 32 + M' 103 34 - 1) (M' 103 33) (M' 103 33 + M' 103 35 - 1))
set_option maxHeartbeats 1000000 in
theorem ok_X12_findBox : zSnd zS 145 0 0 yX12_findBox cX12_findBox 5 none 0 [2, 0] (F_X12_findBox pr_X12_findBox po_X12_findBox) := by
  refine (sn_X12_findBox).mono ?_
  rintro xs P M hz hR ⟨f, rfl, hf, hP⟩
  refine ⟨_, rfl, ?_⟩
  have z_f := zall_h (zall_t hz) (by decide)
  change vc_X12_findBox f P M
  unfold vc_X12_findBox
  intro M1 e_M1
  intro M4 e_M4
  have i32 : M4 103 32 = 99 := by rw [e_M4, zset_n _ (by omega), e_M1, zset_s]
  have i33 : M4 103 33 = 99 := by rw [e_M4, zset_s]
  refine ⟨fun v7 v8 v9 M13 n15 => (n15 : Int) = (192 - v9) ∧ (0 ≤ v9 ∧ v9 ≤ 192) ∧ (0 ≤ v7 ∧ v7 ≤ 15 ∧ 0 ≤ v8 ∧ v8 ≤ 11 ∧ 0 ≤ M13 103 32 ∧ M13 103 32 ≤ 99 ∧ 0 ≤ M13 103 33 ∧ M13 103 33 ≤ 99) ∧ (∀ c i, ¬ (c = 103 ∧ 32 ≤ i ∧ i ≤ 33) → M13 c i = M c i) ∧ (∀ k, 0 ≤ k → k < v9 → M 115 k = f → M13 103 32 ≤ k % 16 ∧ k % 16 ≤ v7 ∧ M13 103 33 ≤ k / 16 ∧ k / 16 ≤ v8) ∧ (((∀ k, 0 ≤ k → k < v9 → M 115 k ≠ f) ∧ M13 103 32 = 99 ∧ M13 103 33 = 99 ∧ v7 = 0 ∧ v8 = 0) ∨ ((∃ k, 0 ≤ k ∧ k < v9 ∧ M 115 k = f ∧ k % 16 = M13 103 32) ∧ (∃ k, 0 ≤ k ∧ k < v9 ∧ M 115 k = f ∧ k % 16 = v7) ∧ (∃ k, 0 ≤ k ∧ k < v9 ∧ M 115 k = f ∧ k / 16 = M13 103 33) ∧ (∃ k, 0 ≤ k ∧ k < v9 ∧ M 115 k = f ∧ k / 16 = v8))), ⟨Int.toNat (192 - 0), by omega, ?_, ?_, ?_, ?_, ?_⟩, ?_⟩
  · show 0 ≤ 0 ∧ 0 ≤ 192  -- I19.0.hv
    first | with_reducible assumption | omega | exact trivial | with_reducible rfl
  · show 0 ≤ 0 ∧ 0 ≤ 15 ∧ 0 ≤ 0 ∧ 0 ≤ 11 ∧ 0 ≤ M4 103 32 ∧ M4 103 32 ≤ 99 ∧ 0 ≤ M4 103 33 ∧ M4 103 33 ≤ 99  -- I19.0.hz7
    first | with_reducible assumption | omega | exact trivial | with_reducible rfl
  · show ∀ c i, ¬ (c = 103 ∧ 32 ≤ i ∧ i ≤ 33) → M4 c i = M c i  -- I19.0.hfr
    intro c i h; rw [e_M4, zset_n _ (by omega), e_M1, zset_n _ (by omega)]
  · show ∀ k, 0 ≤ k → k < 0 → M 115 k = f → M4 103 32 ≤ k % 16 ∧ k % 16 ≤ 0 ∧ M4 103 33 ≤ k / 16 ∧ k / 16 ≤ 0  -- I19.0.ha
    intro k k0 k1; omega
  · show ((∀ k, 0 ≤ k → k < 0 → M 115 k ≠ f) ∧ M4 103 32 = 99 ∧ M4 103 33 = 99 ∧ 0 = 0 ∧ 0 = 0) ∨ ((∃ k, 0 ≤ k ∧ k < 0 ∧ M 115 k = f ∧ k % 16 = M4 103 32) ∧ (∃ k, 0 ≤ k ∧ k < 0 ∧ M 115 k = f ∧ k % 16 = 0) ∧ (∃ k, 0 ≤ k ∧ k < 0 ∧ M 115 k = f ∧ k / 16 = M4 103 33) ∧ (∃ k, 0 ≤ k ∧ k < 0 ∧ M 115 k = f ∧ k / 16 = 0))  -- I19.0.he
    exact .inl ⟨fun k k0 k1 => by omega, i32, i33, rfl, rfl⟩
  rintro v7 v8 v9 M13 n15 ⟨h_n15, hv, hz7, hfr, ha, he⟩ z_v7 z_v8 z_v9 z_M13
  have e115 : M13 115 = M 115 := funext fun i => hfr 115 i (by omega)
  refine ⟨fun b1 => ?_, fun b1 => ?_⟩
  · -- b1.1
    have o1 : zin ((v7 - (M13 103 32)) + 1) := by
      omega
    refine ⟨o1, ?_⟩
    intro M24 e_M24
    have o2 : zin ((v8 - (M24 103 33)) + 1) := by
      rw [e_M24, zset_n _ (by omega)]; omega
    refine ⟨o2, ?_⟩
    intro M28 e_M28
    have f32 : M28 103 32 = M13 103 32 := by rw [e_M28, zset_n _ (by omega), e_M24, zset_n _ (by omega)]
    have f33 : M28 103 33 = M13 103 33 := by rw [e_M28, zset_n _ (by omega), e_M24, zset_n _ (by omega)]
    have g33 : M24 103 33 = M13 103 33 := by rw [e_M24, zset_n _ (by omega)]
    have f34 : M28 103 34 = v7 - M13 103 32 + 1 := by rw [e_M28, zset_n _ (by omega), e_M24, zset_s]
    have f35 : M28 103 35 = v8 - M13 103 33 + 1 := by rw [e_M28, zset_s, g33]
    refine hP _ ⟨?_, ?_⟩
    · show ∀ c i, ¬ (c = 103 ∧ 32 ≤ i ∧ i ≤ 35) → M28 c i = M c i  -- p1.hf
      intro c i h; rw [e_M28, zset_n _ (by omega), e_M24, zset_n _ (by omega)]; exact hfr c i (by omega)
    · show gBox (fun k => 0 ≤ k ∧ k < 192) (M 115) f (M28 103 32) (M28 103 32 + M28 103 34 - 1) (M28 103 33) (M28 103 33 + M28 103 35 - 1)  -- p1.hb
      rw [f32, f33, f34, f35, show M13 103 32 + (v7 - M13 103 32 + 1) - 1 = v7 by omega, show M13 103 33 + (v8 - M13 103 33 + 1) - 1 = v8 by omega]
      rcases he with ⟨h, _⟩ | ⟨⟨x1, h1, h1', h1a, h1b⟩, ⟨x2, h2, h2', h2a, h2b⟩, ⟨x3, h3, h3', h3a, h3b⟩, ⟨x4, h4, h4', h4a, h4b⟩⟩
      · obtain ⟨k, k0, k1, k2⟩ := hf
        exact absurd k2 (h k k0 (by omega))
      · exact ⟨fun k d e => ha k d.1 (by have := d.2; omega) e, ⟨x1, ⟨h1, by omega⟩, h1a, h1b⟩, ⟨x2, ⟨h2, by omega⟩, h2a, h2b⟩, ⟨x3, ⟨h3, by omega⟩, h3a, h3b⟩, ⟨x4, ⟨h4, by omega⟩, h4a, h4b⟩⟩
  · -- b1.2
    have o3 : ((0 : Int) ≤ v9 ∧ v9 < 192) := by
      first | with_reducible assumption | omega | exact trivial | with_reducible rfl  -- o3
    refine ⟨o3, ?_⟩
    refine ⟨fun b2 => ?_, fun b2 => ?_⟩
    · -- b2.1
      rw [e115] at b2
      have o4 : zin (v9 + 1) := by
        first | with_reducible assumption | omega | exact trivial | with_reducible rfl  -- o4
      refine ⟨o4, ?_⟩
      refine ⟨Int.toNat (192 - (v9 + 1)), by omega, by omega, ?_, ?_, ?_, ?_, ?_⟩
      · show 0 ≤ (v9 + 1) ∧ (v9 + 1) ≤ 192  -- I19.1.hv
        first | with_reducible assumption | omega | exact trivial | with_reducible rfl
      · show 0 ≤ v7 ∧ v7 ≤ 15 ∧ 0 ≤ v8 ∧ v8 ≤ 11 ∧ 0 ≤ M13 103 32 ∧ M13 103 32 ≤ 99 ∧ 0 ≤ M13 103 33 ∧ M13 103 33 ≤ 99  -- I19.1.hz7
        first | with_reducible assumption | omega | exact trivial | with_reducible rfl
      · show ∀ c i, ¬ (c = 103 ∧ 32 ≤ i ∧ i ≤ 33) → M13 c i = M c i  -- I19.1.hfr
        first | with_reducible assumption | omega | exact trivial | with_reducible rfl
      · show ∀ k, 0 ≤ k → k < (v9 + 1) → M 115 k = f → M13 103 32 ≤ k % 16 ∧ k % 16 ≤ v7 ∧ M13 103 33 ≤ k / 16 ∧ k / 16 ≤ v8  -- I19.1.ha
        intro k k0 k1 e
        by_cases c : k = v9
        · subst c; exact absurd e b2
        · exact ha k k0 (by omega) e
      · show ((∀ k, 0 ≤ k → k < (v9 + 1) → M 115 k ≠ f) ∧ M13 103 32 = 99 ∧ M13 103 33 = 99 ∧ v7 = 0 ∧ v8 = 0) ∨ ((∃ k, 0 ≤ k ∧ k < (v9 + 1) ∧ M 115 k = f ∧ k % 16 = M13 103 32) ∧ (∃ k, 0 ≤ k ∧ k < (v9 + 1) ∧ M 115 k = f ∧ k % 16 = v7) ∧ (∃ k, 0 ≤ k ∧ k < (v9 + 1) ∧ M 115 k = f ∧ k / 16 = M13 103 33) ∧ (∃ k, 0 ≤ k ∧ k < (v9 + 1) ∧ M 115 k = f ∧ k / 16 = v8))  -- I19.1.he
        rcases he with ⟨h, h'⟩ | ⟨⟨x1, h1, h1', h1a⟩, ⟨x2, h2, h2', h2a⟩, ⟨x3, h3, h3', h3a⟩, ⟨x4, h4, h4', h4a⟩⟩
        · refine .inl ⟨fun k k0 k1 => ?_, h'⟩
          by_cases c : k = v9
          · subst c; exact b2
          · exact h k k0 (by omega)
        · exact .inr ⟨⟨x1, h1, by omega, h1a⟩, ⟨x2, h2, by omega, h2a⟩, ⟨x3, h3, by omega, h3a⟩, ⟨x4, h4, by omega, h4a⟩⟩
    · -- b2.2
      rw [e115] at b2
      have n1 : ∀ p q : Int → Int, (∃ k, 0 ≤ k ∧ k < v9 ∧ M 115 k = f ∧ p k = q k) → True := fun _ _ _ => trivial
      have nb : ∀ x y X Y : Int, x = min (M13 103 32) (v9 % 16) → y = min (M13 103 33) (v9 / 16) → X = max v7 (v9 % 16) → Y = max v8 (v9 / 16) → (∀ k, 0 ≤ k → k < v9 + 1 → M 115 k = f → x ≤ k % 16 ∧ k % 16 ≤ X ∧ y ≤ k / 16 ∧ k / 16 ≤ Y) ∧ ((∃ k, 0 ≤ k ∧ k < v9 + 1 ∧ M 115 k = f ∧ k % 16 = x) ∧ (∃ k, 0 ≤ k ∧ k < v9 + 1 ∧ M 115 k = f ∧ k % 16 = X) ∧ (∃ k, 0 ≤ k ∧ k < v9 + 1 ∧ M 115 k = f ∧ k / 16 = y) ∧ (∃ k, 0 ≤ k ∧ k < v9 + 1 ∧ M 115 k = f ∧ k / 16 = Y)) := by
        intro x y X Y ex ey eX eY
        refine ⟨?_, ?_⟩
        · intro k k0 k1 e
          by_cases c : k = v9
          · subst c; omega
          · have := ha k k0 (by omega) e; omega
        · rcases he with ⟨h, h'⟩ | ⟨⟨x1, h1, h1', h1a, h1b⟩, ⟨x2, h2, h2', h2a, h2b⟩, ⟨x3, h3, h3', h3a, h3b⟩, ⟨x4, h4, h4', h4a, h4b⟩⟩
          · exact ⟨⟨v9, hv.1, by omega, b2, by omega⟩, ⟨v9, hv.1, by omega, b2, by omega⟩, ⟨v9, hv.1, by omega, b2, by omega⟩, ⟨v9, hv.1, by omega, b2, by omega⟩⟩
          · refine ⟨?_, ?_, ?_, ?_⟩
            · by_cases c : M13 103 32 ≤ v9 % 16
              · exact ⟨x1, h1, by omega, h1a, by omega⟩
              · exact ⟨v9, hv.1, by omega, b2, by omega⟩
            · by_cases c : v9 % 16 ≤ v7
              · exact ⟨x2, h2, by omega, h2a, by omega⟩
              · exact ⟨v9, hv.1, by omega, b2, by omega⟩
            · by_cases c : M13 103 33 ≤ v9 / 16
              · exact ⟨x3, h3, by omega, h3a, by omega⟩
              · exact ⟨v9, hv.1, by omega, b2, by omega⟩
            · by_cases c : v9 / 16 ≤ v8
              · exact ⟨x4, h4, by omega, h4a, by omega⟩
              · exact ⟨v9, hv.1, by omega, b2, by omega⟩
      have o5 : 0 ≤ v9 := by
        first | with_reducible assumption | omega | exact trivial | with_reducible rfl  -- o5
      refine ⟨o5, ?_⟩
      intro K63 h_K63
      have k_K63 : ∀ (v38 : Int), (v38 = min (M13 103 32) (v9 % 16)) → K63 v38 := by
        intro v38 hk1
        refine h_K63 _ ?_
        intro z_v38
        intro M40 e_M40
        have q33 : M40 103 33 = M13 103 33 := by rw [e_M40, zset_n _ (by omega)]
        intro K91 h_K91
        have k_K91 : ∀ (v43 : Int), (v43 = min (M13 103 33) (v9 / 16)) → K91 v43 := by
          intro v43 hk2
          refine h_K91 _ ?_
          intro z_v43
          intro M45 e_M45
          have r32 : M45 103 32 = v38 := by rw [e_M45, zset_n _ (by omega), e_M40, zset_s]
          have r33 : M45 103 33 = v43 := by rw [e_M45, zset_s]
          intro K112 h_K112
          have k_K112 : ∀ (v48 : Int), (v48 = max v7 (v9 % 16)) → K112 v48 := by
            intro v48 hk3
            refine h_K112 _ ?_
            intro z_v48
            refine ⟨fun b3 => ?_, fun b3 => ?_⟩
            · -- b3.1
              have o6 : zin (v9 + 1) := by
                first | with_reducible assumption | omega | exact trivial | with_reducible rfl  -- o6
              refine ⟨o6, ?_⟩
              refine ⟨Int.toNat (192 - (v9 + 1)), by omega, by omega, ?_, ?_, ?_, ?_, ?_⟩
              · show 0 ≤ (v9 + 1) ∧ (v9 + 1) ≤ 192  -- I19.2.hv
                first | with_reducible assumption | omega | exact trivial | with_reducible rfl
              · show 0 ≤ v48 ∧ v48 ≤ 15 ∧ 0 ≤ v8 ∧ v8 ≤ 11 ∧ 0 ≤ M45 103 32 ∧ M45 103 32 ≤ 99 ∧ 0 ≤ M45 103 33 ∧ M45 103 33 ≤ 99  -- I19.2.hz7
                first | with_reducible assumption | omega | exact trivial | with_reducible rfl
              · show ∀ c i, ¬ (c = 103 ∧ 32 ≤ i ∧ i ≤ 33) → M45 c i = M c i  -- I19.2.hfr
                intro c i h; rw [e_M45, zset_n _ (by omega), e_M40, zset_n _ (by omega)]; exact hfr c i h
              · show ∀ k, 0 ≤ k → k < (v9 + 1) → M 115 k = f → M45 103 32 ≤ k % 16 ∧ k % 16 ≤ v48 ∧ M45 103 33 ≤ k / 16 ∧ k / 16 ≤ v8  -- I19.2.ha
                rw [r32, r33]; exact (nb _ _ _ _ hk1 hk2 hk3 (by omega)).1
              · show ((∀ k, 0 ≤ k → k < (v9 + 1) → M 115 k ≠ f) ∧ M45 103 32 = 99 ∧ M45 103 33 = 99 ∧ v48 = 0 ∧ v8 = 0) ∨ ((∃ k, 0 ≤ k ∧ k < (v9 + 1) ∧ M 115 k = f ∧ k % 16 = M45 103 32) ∧ (∃ k, 0 ≤ k ∧ k < (v9 + 1) ∧ M 115 k = f ∧ k % 16 = v48) ∧ (∃ k, 0 ≤ k ∧ k < (v9 + 1) ∧ M 115 k = f ∧ k / 16 = M45 103 33) ∧ (∃ k, 0 ≤ k ∧ k < (v9 + 1) ∧ M 115 k = f ∧ k / 16 = v8))  -- I19.2.he
                rw [r32, r33]; exact .inr (nb _ _ _ _ hk1 hk2 hk3 (by omega)).2
            · -- b3.2
              have o7 : zin (v9 + 1) := by
                first | with_reducible assumption | omega | exact trivial | with_reducible rfl  -- o7
              refine ⟨o7, ?_⟩
              refine ⟨Int.toNat (192 - (v9 + 1)), by omega, by omega, ?_, ?_, ?_, ?_, ?_⟩
              · show 0 ≤ (v9 + 1) ∧ (v9 + 1) ≤ 192  -- I19.3.hv
                first | with_reducible assumption | omega | exact trivial | with_reducible rfl
              · show 0 ≤ v48 ∧ v48 ≤ 15 ∧ 0 ≤ (v9 / 16) ∧ (v9 / 16) ≤ 11 ∧ 0 ≤ M45 103 32 ∧ M45 103 32 ≤ 99 ∧ 0 ≤ M45 103 33 ∧ M45 103 33 ≤ 99  -- I19.3.hz7
                first | with_reducible assumption | omega | exact trivial | with_reducible rfl
              · show ∀ c i, ¬ (c = 103 ∧ 32 ≤ i ∧ i ≤ 33) → M45 c i = M c i  -- I19.3.hfr
                intro c i h; rw [e_M45, zset_n _ (by omega), e_M40, zset_n _ (by omega)]; exact hfr c i h
              · show ∀ k, 0 ≤ k → k < (v9 + 1) → M 115 k = f → M45 103 32 ≤ k % 16 ∧ k % 16 ≤ v48 ∧ M45 103 33 ≤ k / 16 ∧ k / 16 ≤ (v9 / 16)  -- I19.3.ha
                rw [r32, r33]; exact (nb _ _ _ _ hk1 hk2 hk3 (by omega)).1
              · show ((∀ k, 0 ≤ k → k < (v9 + 1) → M 115 k ≠ f) ∧ M45 103 32 = 99 ∧ M45 103 33 = 99 ∧ v48 = 0 ∧ (v9 / 16) = 0) ∨ ((∃ k, 0 ≤ k ∧ k < (v9 + 1) ∧ M 115 k = f ∧ k % 16 = M45 103 32) ∧ (∃ k, 0 ≤ k ∧ k < (v9 + 1) ∧ M 115 k = f ∧ k % 16 = v48) ∧ (∃ k, 0 ≤ k ∧ k < (v9 + 1) ∧ M 115 k = f ∧ k / 16 = M45 103 33) ∧ (∃ k, 0 ≤ k ∧ k < (v9 + 1) ∧ M 115 k = f ∧ k / 16 = (v9 / 16)))  -- I19.3.he
                rw [r32, r33]; exact .inr (nb _ _ _ _ hk1 hk2 hk3 (by omega)).2
          refine ⟨fun b4 => ?_, fun b4 => ?_⟩
          · -- b4.1
            refine k_K112 _ ?_
            · show v7 = max v7 (v9 % 16)  -- K112.1.hk3
              first | with_reducible assumption | omega | exact trivial | with_reducible rfl
          · -- b4.2
            refine k_K112 _ ?_
            · show (v9 % 16) = max v7 (v9 % 16)  -- K112.2.hk3
              first | with_reducible assumption | omega | exact trivial | with_reducible rfl
        refine ⟨fun b5 => ?_, fun b5 => ?_⟩
        · -- b5.1
          refine k_K91 _ ?_
          · show (M40 103 33) = min (M13 103 33) (v9 / 16)  -- K91.1.hk2
            first | with_reducible assumption | omega | exact trivial | with_reducible rfl
        · -- b5.2
          refine k_K91 _ ?_
          · show (v9 / 16) = min (M13 103 33) (v9 / 16)  -- K91.2.hk2
            first | with_reducible assumption | omega | exact trivial | with_reducible rfl
      refine ⟨fun b6 => ?_, fun b6 => ?_⟩
      · -- b6.1
        refine k_K63 _ ?_
        · show (M13 103 32) = min (M13 103 32) (v9 % 16)  -- K63.1.hk1
          first | with_reducible assumption | omega | exact trivial | with_reducible rfl
      · -- b6.2
        refine k_K63 _ ?_
        · show (v9 % 16) = min (M13 103 32) (v9 % 16)  -- K63.2.hk1
          first | with_reducible assumption | omega | exact trivial | with_reducible rfl

theorem mBes_g {M : zM} {a d : Int} (f : Int → Int) (hd : mDim M) : zg (M 103 1) (M 103 2) f (a % 16 + zdx d) (a / 16 + zdy d) = if 0 ≤ mBes M a d then f (mBes M a d) else -1 := by
  have := zdx_b d
  by_cases c : 0 ≤ a % 16 + zdx d ∧ a % 16 + zdx d < M 103 1 ∧ 0 ≤ a / 16 + zdy d ∧ a / 16 + zdy d < M 103 2
  · rw [zg_i c]
    unfold mBes
    rw [if_pos c, if_pos (by omega)]
  · rw [zg_o c]
    unfold mBes
    rw [if_neg c, if_neg (by decide)]
/-- what the reference knows of the faces is so -/
def mFok (M : zM) : Prop := gLab (gD (M 103 1) (M 103 2)) (gA (M 103 5) (M 104)) (M 115) (M 103 30) (M 116) ∧ ∀ i, 0 ≤ i → i < 192 → ¬ gD (M 103 1) (M 103 2) i → M 115 i = -1
theorem mFok.N {M : zM} (h : mFok M) (hd : mDim M) : 0 ≤ M 103 30 ∧ M 103 30 ≤ 192 := ⟨h.1.nn, h.1.le (a := 192) (fun x d => d.1) (fun x d => by omega) (by decide)⟩
theorem mFok.D {M : zM} (h : mFok M) {k f : Int} (hf : 0 ≤ f) (k0 : 0 ≤ k) (k1 : k < 192) (e : M 115 k = f) : gD (M 103 1) (M 103 2) k := by
  apply Classical.byContradiction
  intro c
  have := h.2 k k0 k1 c
  omega
abbrev pr_X12_areNeighbours (a : Int) (b : Int) (M : zM) : Prop := (mDim M) ∧ (mFok M) ∧ (0 ≤ a) ∧ (0 ≤ b)
abbrev po_X12_areNeighbours (a : Int) (b : Int) (M : zM) (r : Int) (M' : zM) : Prop := (M' = M) ∧ (zB r (gNB (M 103 1) (M 103 2) (M 115) a b))
set_option maxHeartbeats 1000000 in
theorem ok_X12_areNeighbours : zSnd zS 145 0 0 yX12_areNeighbours cX12_areNeighbours 7 (some .boolean) 2 [2, 0, 0] (F_X12_areNeighbours pr_X12_areNeighbours po_X12_areNeighbours) := by
  refine (sn_X12_areNeighbours ok_X12_beside).mono ?_
  rintro xs P M hz hR ⟨a, b, rfl, ⟨hd, hF, ha, hb⟩, hP⟩
  refine ⟨_, _, rfl, ?_⟩
  have z_a := zall_h (zall_t hz) (by decide)
  have z_b := zall_h (zall_t (zall_t hz)) (by decide)
  change vc_X12_areNeighbours pr_X12_beside po_X12_beside a b P M
  unfold vc_X12_areNeighbours
  refine ⟨fun v1 v2 M5 n7 => (n7 : Int) = (192 - v2) ∧ (0 ≤ v2 ∧ v2 ≤ 192) ∧ (M5 = M) ∧ (zB v1 (∃ k, gD (M 103 1) (M 103 2) k ∧ k < v2 ∧ M 115 k = a ∧ gNear (M 103 1) (M 103 2) (M 115) (k % 16) (k / 16) b)), ⟨Int.toNat (192 - 0), by omega, ?_, ?_, ?_⟩, ?_⟩
  · show 0 ≤ 0 ∧ 0 ≤ 192  -- I5.0.hv
    first | with_reducible assumption | omega | exact trivial | with_reducible rfl
  · first | with_reducible assumption | omega | exact trivial | with_reducible rfl  -- I5.0.rfl
  · show zB 0 (∃ k, gD (M 103 1) (M 103 2) k ∧ k < 0 ∧ M 115 k = a ∧ gNear (M 103 1) (M 103 2) (M 115) (k % 16) (k / 16) b)  -- I5.0.hq
    exact zB.f (by rintro ⟨k, dk, l, _⟩; have := dk.1; omega)
  rintro v1 v2 M5 n7 ⟨h_n7, hv, q_rfl, hq⟩ z_v1 z_v2 z_M5
  have q_rfl := q_rfl.symm
  subst q_rfl
  refine ⟨fun b1 => ?_, fun b1 => ?_⟩
  · -- b1.1
    have o1 : (v1 = 0 ∨ v1 = 1) := by
      exact hq.b
    refine ⟨o1, ?_⟩
    refine hP _ _ ⟨?_, ?_⟩
    · show M = M  -- p1.rfl
      first | with_reducible assumption | omega | exact trivial | with_reducible rfl
    · show zB v1 (gNB (M 103 1) (M 103 2) (M 115) a b)  -- p1.pb
      exact hq.iff ⟨fun ⟨k, dk, _, e, n⟩ => ⟨k, dk, e, n⟩, fun ⟨k, dk, e, n⟩ => ⟨k, dk, by omega, e, n⟩⟩
  · -- b1.2
    refine ⟨fun v16 v17 M20 n22 => (n22 : Int) = (4 - v17) ∧ (0 ≤ v17 ∧ v17 ≤ 4) ∧ (M20 = M) ∧ (zB v16 ((∃ k, gD (M 103 1) (M 103 2) k ∧ k < v2 ∧ M 115 k = a ∧ gNear (M 103 1) (M 103 2) (M 115) (k % 16) (k / 16) b) ∨ (M 115 v2 = a ∧ ∃ d, 0 ≤ d ∧ d < v17 ∧ zg (M 103 1) (M 103 2) (M 115) (v2 % 16 + zdx d) (v2 / 16 + zdy d) = b))), ⟨Int.toNat (4 - 0), by omega, ?_, ?_, ?_⟩, ?_⟩
    · show 0 ≤ 0 ∧ 0 ≤ 4  -- I16.0.hv2
      first | with_reducible assumption | omega | exact trivial | with_reducible rfl
    · first | with_reducible assumption | omega | exact trivial | with_reducible rfl  -- I16.0.rfl
    · show zB v1 ((∃ k, gD (M 103 1) (M 103 2) k ∧ k < v2 ∧ M 115 k = a ∧ gNear (M 103 1) (M 103 2) (M 115) (k % 16) (k / 16) b) ∨ (M 115 v2 = a ∧ ∃ d, 0 ≤ d ∧ d < 0 ∧ zg (M 103 1) (M 103 2) (M 115) (v2 % 16 + zdx d) (v2 / 16 + zdy d) = b))  -- I16.0.hq2
      exact hq.iff ⟨.inl, fun h => h.elim id (fun ⟨_, d, d0, d1, _⟩ => by omega)⟩
    rintro v16 v17 M20 n22 ⟨h_n22, hv2, q_rfl, hq2⟩ z_v16 z_v17 z_M20
    have q_rfl := q_rfl.symm
    subst q_rfl
    refine ⟨fun b2 => ?_, fun b2 => ?_⟩
    · -- b2.1
      have o2 : zin (v2 + 1) := by
        first | with_reducible assumption | omega | exact trivial | with_reducible rfl  -- o2
      refine ⟨o2, ?_⟩
      refine ⟨Int.toNat (192 - (v2 + 1)), by omega, by omega, ?_, ?_, ?_⟩
      · show 0 ≤ (v2 + 1) ∧ (v2 + 1) ≤ 192  -- I5.1.hv
        first | with_reducible assumption | omega | exact trivial | with_reducible rfl
      · first | with_reducible assumption | omega | exact trivial | with_reducible rfl  -- I5.1.rfl
      · show zB v16 (∃ k, gD (M 103 1) (M 103 2) k ∧ k < (v2 + 1) ∧ M 115 k = a ∧ gNear (M 103 1) (M 103 2) (M 115) (k % 16) (k / 16) b)  -- I5.1.hq
        refine hq2.iff ⟨?_, ?_⟩
        · rintro (⟨k, dk, l, e, n⟩ | ⟨e, d, d0, d1, g⟩)
          · exact ⟨k, dk, by omega, e, n⟩
          · exact ⟨v2, hF.D ha hv.1 (by omega) e, by omega, e, gNear4.2 ⟨d, d0, by omega, g⟩⟩
        · rintro ⟨k, dk, l, e, n⟩
          by_cases c : k = v2
          · subst c
            obtain ⟨d, d0, d1, g⟩ := gNear4.1 n
            exact .inr ⟨e, d, d0, by omega, g⟩
          · exact .inl ⟨k, dk, by omega, e, n⟩
    · -- b2.2
      have o3 : ((0 : Int) ≤ v2 ∧ v2 < 192) := by
        first | with_reducible assumption | omega | exact trivial | with_reducible rfl  -- o3
      refine ⟨o3, ?_⟩
      refine ⟨fun b3 => ?_, fun b3 => ?_⟩
      · -- b3.1
        have o4 : zin (v2 + 1) := by
          first | with_reducible assumption | omega | exact trivial | with_reducible rfl  -- o4
        refine ⟨o4, ?_⟩
        refine ⟨Int.toNat (192 - (v2 + 1)), by omega, by omega, ?_, ?_, ?_⟩
        · show 0 ≤ (v2 + 1) ∧ (v2 + 1) ≤ 192  -- I5.2.hv
          first | with_reducible assumption | omega | exact trivial | with_reducible rfl
        · first | with_reducible assumption | omega | exact trivial | with_reducible rfl  -- I5.2.rfl
        · show zB v16 (∃ k, gD (M 103 1) (M 103 2) k ∧ k < (v2 + 1) ∧ M 115 k = a ∧ gNear (M 103 1) (M 103 2) (M 115) (k % 16) (k / 16) b)  -- I5.2.hq
          refine hq2.iff ⟨?_, ?_⟩
          · rintro (⟨k, dk, l, e, n⟩ | ⟨e, d, d0, d1, g⟩)
            · exact ⟨k, dk, by omega, e, n⟩
            · exact absurd e b3
          · rintro ⟨k, dk, l, e, n⟩
            by_cases c : k = v2
            · subst c; exact absurd e b3
            · exact .inl ⟨k, dk, by omega, e, n⟩
      · -- b3.2
        have gc1 : pr_X12_beside v2 v17 M := by
          refine ⟨?_, ?_, ?_⟩
          · show mDim M  -- c1.hd
            first | with_reducible assumption | omega | exact trivial | with_reducible rfl
          · show 0 ≤ v2  -- c1.h0
            first | with_reducible assumption | omega | exact trivial | with_reducible rfl
          · show v2 < 192  -- c1.h1
            first | with_reducible assumption | omega | exact trivial | with_reducible rfl
        refine ⟨gc1, ?_⟩
        rintro r40 M41 ⟨q_rfl, e_r40⟩ z_r40 z_M41
        have q_rfl := q_rfl.symm
        subst q_rfl
        have eg := mBes_g (a := v2) (d := v17) (M 115) hd
        rw [← e_r40] at eg
        have ex : (∃ d, 0 ≤ d ∧ d < v17 + 1 ∧ zg (M 103 1) (M 103 2) (M 115) (v2 % 16 + zdx d) (v2 / 16 + zdy d) = b) ↔ (∃ d, 0 ≤ d ∧ d < v17 ∧ zg (M 103 1) (M 103 2) (M 115) (v2 % 16 + zdx d) (v2 / 16 + zdy d) = b) ∨ (if 0 ≤ r40 then M 115 r40 else -1) = b := by
          rw [← eg]
          constructor
          · rintro ⟨d, d0, d1, e⟩
            by_cases c : d = v17
            · subst c; exact .inr e
            · exact .inl ⟨d, d0, by omega, e⟩
          · rintro (⟨d, d0, d1, e⟩ | e)
            · exact ⟨d, d0, by omega, e⟩
            · exact ⟨v17, hv2.1, by omega, e⟩
        refine ⟨fun b4 => ?_, fun b4 => ?_⟩
        · -- b4.1
          have o5 : zin (v17 + 1) := by
            first | with_reducible assumption | omega | exact trivial | with_reducible rfl  -- o5
          refine ⟨o5, ?_⟩
          refine ⟨Int.toNat (4 - (v17 + 1)), by omega, by omega, ?_, ?_, ?_⟩
          · show 0 ≤ (v17 + 1) ∧ (v17 + 1) ≤ 4  -- I16.1.hv2
            first | with_reducible assumption | omega | exact trivial | with_reducible rfl
          · first | with_reducible assumption | omega | exact trivial | with_reducible rfl  -- I16.1.rfl
          · show zB 1 ((∃ k, gD (M 103 1) (M 103 2) k ∧ k < v2 ∧ M 115 k = a ∧ gNear (M 103 1) (M 103 2) (M 115) (k % 16) (k / 16) b) ∨ (M 115 v2 = a ∧ ∃ d, 0 ≤ d ∧ d < (v17 + 1) ∧ zg (M 103 1) (M 103 2) (M 115) (v2 % 16 + zdx d) (v2 / 16 + zdy d) = b))  -- I16.1.hq2
            refine zB.t ?_
            rw [ex]
            rcases hq2.ne.1 b4 with h | ⟨h, h2⟩
            · exact .inl h
            · exact .inr ⟨h, .inl h2⟩
        · -- b4.2
          refine ⟨fun b5 => ?_, fun b5 => ?_⟩
          · -- b5.1
            have o6 : zin (v17 + 1) := by
              first | with_reducible assumption | omega | exact trivial | with_reducible rfl  -- o6
            refine ⟨o6, ?_⟩
            refine ⟨Int.toNat (4 - (v17 + 1)), by omega, by omega, ?_, ?_, ?_⟩
            · show 0 ≤ (v17 + 1) ∧ (v17 + 1) ≤ 4  -- I16.2.hv2
              first | with_reducible assumption | omega | exact trivial | with_reducible rfl
            · first | with_reducible assumption | omega | exact trivial | with_reducible rfl  -- I16.2.rfl
            · show zB 0 ((∃ k, gD (M 103 1) (M 103 2) k ∧ k < v2 ∧ M 115 k = a ∧ gNear (M 103 1) (M 103 2) (M 115) (k % 16) (k / 16) b) ∨ (M 115 v2 = a ∧ ∃ d, 0 ≤ d ∧ d < (v17 + 1) ∧ zg (M 103 1) (M 103 2) (M 115) (v2 % 16 + zdx d) (v2 / 16 + zdy d) = b))  -- I16.2.hq2
              refine zB.f ?_
              rw [ex, if_neg (by omega)]
              rintro (h | ⟨h, h2 | h2⟩)
              · exact hq2.z.1 b4 (.inl h)
              · exact hq2.z.1 b4 (.inr ⟨h, h2⟩)
              · omega
          · -- b5.2
            have o7 : ((0 : Int) ≤ r40 ∧ r40 < 192) := by
              have hB := mBes_D (M := M) (a := v2) (d := v17) hd (by omega); omega
            refine ⟨o7, ?_⟩
            refine ⟨fun b6 => ?_, fun b6 => ?_⟩
            · -- b6.1
              have o8 : zin (v17 + 1) := by
                first | with_reducible assumption | omega | exact trivial | with_reducible rfl  -- o8
              refine ⟨o8, ?_⟩
              refine ⟨Int.toNat (4 - (v17 + 1)), by omega, by omega, ?_, ?_, ?_⟩
              · show 0 ≤ (v17 + 1) ∧ (v17 + 1) ≤ 4  -- I16.3.hv2
                first | with_reducible assumption | omega | exact trivial | with_reducible rfl
              · first | with_reducible assumption | omega | exact trivial | with_reducible rfl  -- I16.3.rfl
              · show zB 0 ((∃ k, gD (M 103 1) (M 103 2) k ∧ k < v2 ∧ M 115 k = a ∧ gNear (M 103 1) (M 103 2) (M 115) (k % 16) (k / 16) b) ∨ (M 115 v2 = a ∧ ∃ d, 0 ≤ d ∧ d < (v17 + 1) ∧ zg (M 103 1) (M 103 2) (M 115) (v2 % 16 + zdx d) (v2 / 16 + zdy d) = b))  -- I16.3.hq2
                refine zB.f ?_
                rw [ex, if_pos (by omega)]
                rintro (h | ⟨h, h2 | h2⟩)
                · exact hq2.z.1 b4 (.inl h)
                · exact hq2.z.1 b4 (.inr ⟨h, h2⟩)
                · exact b6 h2
            · -- b6.2
              have o9 : zin (v17 + 1) := by
                first | with_reducible assumption | omega | exact trivial | with_reducible rfl  -- o9
              refine ⟨o9, ?_⟩
              refine ⟨Int.toNat (4 - (v17 + 1)), by omega, by omega, ?_, ?_, ?_⟩
              · show 0 ≤ (v17 + 1) ∧ (v17 + 1) ≤ 4  -- I16.4.hv2
                first | with_reducible assumption | omega | exact trivial | with_reducible rfl
              · first | with_reducible assumption | omega | exact trivial | with_reducible rfl  -- I16.4.rfl
              · show zB 1 ((∃ k, gD (M 103 1) (M 103 2) k ∧ k < v2 ∧ M 115 k = a ∧ gNear (M 103 1) (M 103 2) (M 115) (k % 16) (k / 16) b) ∨ (M 115 v2 = a ∧ ∃ d, 0 ≤ d ∧ d < (v17 + 1) ∧ zg (M 103 1) (M 103 2) (M 115) (v2 % 16 + zdx d) (v2 / 16 + zdy d) = b))  -- I16.4.hq2
                refine zB.t ?_
                rw [ex, if_pos (by omega)]
                exact .inr ⟨b3, .inr b6⟩

abbrev pr_X12_neighboursOf (f : Int) (M : zM) : Prop := (mDim M) ∧ (mFok M) ∧ (0 ≤ f)
abbrev po_X12_neighboursOf (f : Int) (M : zM) (r : Int) (M' : zM) : Prop := M' = M ∧ r = zc (fun o => o ≠ f ∧ gNB (M 103 1) (M 103 2) (M 115) f o) (M 103 30)
set_option maxHeartbeats 1000000 in
theorem ok_X12_neighboursOf : zSnd zS 145 0 0 yX12_neighboursOf cX12_neighboursOf 4 (some .int) 3 [2, 0] (F_X12_neighboursOf pr_X12_neighboursOf po_X12_neighboursOf) := by
  refine (sn_X12_neighboursOf ok_X12_areNeighbours).mono ?_
  rintro xs P M hz hR ⟨f, rfl, ⟨hd, hF, hf⟩, hP⟩
  refine ⟨_, rfl, ?_⟩
  have z_f := zall_h (zall_t hz) (by decide)
  change vc_X12_neighboursOf pr_X12_areNeighbours po_X12_areNeighbours f P M
  unfold vc_X12_neighboursOf
  have hN := hF.N hd
  refine ⟨fun v1 v2 M5 n7 => (n7 : Int) = (192 - v2) ∧ (0 ≤ v2 ∧ v2 ≤ M 103 30) ∧ (M5 = M) ∧ (v1 = zc (fun o => o ≠ f ∧ gNB (M 103 1) (M 103 2) (M 115) f o) v2), ⟨Int.toNat (192 - 0), by omega, ?_, ?_, ?_⟩, ?_⟩
  · show 0 ≤ 0 ∧ 0 ≤ M 103 30  -- I4.0.hv
    first | with_reducible assumption | omega | exact trivial | with_reducible rfl
  · first | with_reducible assumption | omega | exact trivial | with_reducible rfl  -- I4.0.rfl
  · show 0 = zc (fun o => o ≠ f ∧ gNB (M 103 1) (M 103 2) (M 115) f o) 0  -- I4.0.h1
    rfl
  rintro v1 v2 M5 n7 ⟨h_n7, hv, q_rfl, h1⟩ z_v1 z_v2 z_M5
  have q_rfl := q_rfl.symm
  subst q_rfl
  have u := zc_b (fun o => o ≠ f ∧ gNB (M 103 1) (M 103 2) (M 115) f o) v2 hv.1
  refine ⟨fun b1 => ?_, fun b1 => ?_⟩
  · -- b1.1
    refine hP _ _ ⟨rfl, ?_⟩
    · rw [h1, show v2 = M 103 30 by omega]  -- p1
  · -- b1.2
    refine ⟨fun b2 => ?_, fun b2 => ?_⟩
    · -- b2.1
      have o1 : zin (v1 + 0) := by
        first | with_reducible assumption | omega | exact trivial | with_reducible rfl  -- o1
      refine ⟨o1, ?_⟩
      have o2 : zin (v2 + 1) := by
        first | with_reducible assumption | omega | exact trivial | with_reducible rfl  -- o2
      refine ⟨o2, ?_⟩
      refine ⟨Int.toNat (192 - (v2 + 1)), by omega, by omega, ?_, ?_, ?_⟩
      · show 0 ≤ (v2 + 1) ∧ (v2 + 1) ≤ M 103 30  -- I4.1.hv
        first | with_reducible assumption | omega | exact trivial | with_reducible rfl
      · first | with_reducible assumption | omega | exact trivial | with_reducible rfl  -- I4.1.rfl
      · show (v1 + 0) = zc (fun o => o ≠ f ∧ gNB (M 103 1) (M 103 2) (M 115) f o) (v2 + 1)  -- I4.1.h1
        rw [zc_n hv.1 (fun h => h.1 b2)]; omega
    · -- b2.2
      have gc1 : pr_X12_areNeighbours f v2 M := by
        refine ⟨?_, ?_, ?_, ?_⟩
        · show mDim M  -- c1.hd
          first | with_reducible assumption | omega | exact trivial | with_reducible rfl
        · show mFok M  -- c1.hF
          first | with_reducible assumption | omega | exact trivial | with_reducible rfl
        · show 0 ≤ f  -- c1.ha
          first | with_reducible assumption | omega | exact trivial | with_reducible rfl
        · show 0 ≤ v2  -- c1.hb
          first | with_reducible assumption | omega | exact trivial | with_reducible rfl
      refine ⟨gc1, ?_⟩
      rintro r21 M22 ⟨q_rfl, pc1_pb⟩ z_r21 z_M22
      have q_rfl := q_rfl.symm
      subst q_rfl
      refine ⟨fun b3 => ?_, fun b3 => ?_⟩
      · -- b3.1
        have o3 : zin (v1 + 0) := by
          first | with_reducible assumption | omega | exact trivial | with_reducible rfl  -- o3
        refine ⟨o3, ?_⟩
        have o4 : zin (v2 + 1) := by
          first | with_reducible assumption | omega | exact trivial | with_reducible rfl  -- o4
        refine ⟨o4, ?_⟩
        refine ⟨Int.toNat (192 - (v2 + 1)), by omega, by omega, ?_, ?_, ?_⟩
        · show 0 ≤ (v2 + 1) ∧ (v2 + 1) ≤ M 103 30  -- I4.2.hv
          first | with_reducible assumption | omega | exact trivial | with_reducible rfl
        · first | with_reducible assumption | omega | exact trivial | with_reducible rfl  -- I4.2.rfl
        · show (v1 + 0) = zc (fun o => o ≠ f ∧ gNB (M 103 1) (M 103 2) (M 115) f o) (v2 + 1)  -- I4.2.h1
          rw [zc_n hv.1 (fun h => pc1_pb.z.1 b3 h.2)]; omega
      · -- b3.2
        have o5 : zin (v1 + 1) := by
          first | with_reducible assumption | omega | exact trivial | with_reducible rfl  -- o5
        refine ⟨o5, ?_⟩
        have o6 : zin (v2 + 1) := by
          first | with_reducible assumption | omega | exact trivial | with_reducible rfl  -- o6
        refine ⟨o6, ?_⟩
        refine ⟨Int.toNat (192 - (v2 + 1)), by omega, by omega, ?_, ?_, ?_⟩
        · show 0 ≤ (v2 + 1) ∧ (v2 + 1) ≤ M 103 30  -- I4.3.hv
          first | with_reducible assumption | omega | exact trivial | with_reducible rfl
        · first | with_reducible assumption | omega | exact trivial | with_reducible rfl  -- I4.3.rfl
        · show (v1 + 1) = zc (fun o => o ≠ f ∧ gNB (M 103 1) (M 103 2) (M 115) f o) (v2 + 1)  -- I4.3.h1
          rw [zc_p hv.1 ⟨b2, pc1_pb.ne.1 b3⟩]; omega

/-- the sides (4 times the dot and the side) that face f has in common with dots of colour c beside it -/
def gSd (w h : Int) (L C : Int → Int) (f c k : Int) : Prop := L (k / 4) = f ∧ zg w h C ((k / 4) % 16 + zdx (k % 4)) ((k / 4) / 16 + zdy (k % 4)) = c ∧ zg w h L ((k / 4) % 16 + zdx (k % 4)) ((k / 4) / 16 + zdy (k % 4)) ≠ f
/-- the colour with the most -/
def gMost (n : Int → Int) (r : Int) : Prop := (r = -1 ∧ ∀ c, 0 ≤ c → c < 16 → n c ≤ 0) ∨ (0 ≤ r ∧ r < 16 ∧ 0 < n r ∧ (∀ c, 0 ≤ c → c < 16 → n c ≤ n r) ∧ ∀ c, 0 ≤ c → c < r → n c < n r)
theorem gMost.uq {n : Int → Int} {r q : Int} (h : gMost n r) (g : gMost n q) : r = q := by
  rcases h with ⟨h1, h2⟩ | ⟨h1, h2, h3, h4, h5⟩
  · rcases g with ⟨g1, g2⟩ | ⟨g1, g2, g3, g4, g5⟩
    · omega
    · have := h2 q g1 g2; omega
  · rcases g with ⟨g1, g2⟩ | ⟨g1, g2, g3, g4, g5⟩
    · have := g2 r h1 h2; omega
    · have a1 := h4 q g1 g2
      have a2 := g4 r h1 h2
      apply Classical.byContradiction
      intro ne
      rcases Int.lt_or_gt_of_ne ne with k | k
      · have := g5 r h1 k; omega
      · have := h5 q g1 k; omega
/-- the same, of the colours below v -/
def gMo (n : Int → Int) (v r : Int) : Prop := (r = -1 ∧ ∀ c, 0 ≤ c → c < v → n c ≤ 0) ∨ (0 ≤ r ∧ r < v ∧ 0 < n r ∧ (∀ c, 0 ≤ c → c < v → n c ≤ n r) ∧ ∀ c, 0 ≤ c → c < r → n c < n r)
theorem gMo.no {n : Int → Int} {v r : Int} (h : gMo n v r) (e : n v ≤ 0 ∨ (0 ≤ r ∧ n v ≤ n r)) : gMo n (v + 1) r := by
  rcases h with ⟨h1, h2⟩ | ⟨h1, h2, h3, h4, h5⟩
  · refine .inl ⟨h1, fun c c0 c1 => ?_⟩
    by_cases k : c = v
    · subst k; omega
    · exact h2 c c0 (by omega)
  · refine .inr ⟨h1, by omega, h3, fun c c0 c1 => ?_, h5⟩
    by_cases k : c = v
    · subst k; omega
    · exact h4 c c0 (by omega)
theorem gMo.yes {n : Int → Int} {v r : Int} (hv : 0 ≤ v) (h : gMo n v r) (e0 : 0 < n v) (e : r < 0 ∨ n r < n v) : gMo n (v + 1) v := by
  refine .inr ⟨hv, by omega, e0, ?_, ?_⟩
  · intro c c0 c1
    by_cases k : c = v
    · subst k; omega
    · rcases h with ⟨h1, h2⟩ | ⟨h1, h2, h3, h4, h5⟩
      · have := h2 c c0 (by omega); omega
      · have := h4 c c0 (by omega); omega
  · intro c c0 c1
    rcases h with ⟨h1, h2⟩ | ⟨h1, h2, h3, h4, h5⟩
    · have := h2 c c0 (by omega); omega
    · have := h4 c c0 (by omega); omega
theorem gSd_s {w h f c k d : Int} {L C : Int → Int} (d0 : 0 ≤ d) (d4 : d < 4) : gSd w h L C f c (4 * k + d) ↔ L k = f ∧ zg w h C (k % 16 + zdx d) (k / 16 + zdy d) = c ∧ zg w h L (k % 16 + zdx d) (k / 16 + zdy d) ≠ f := by
  unfold gSd
  rw [show (4 * k + d) / 4 = k by omega, show (4 * k + d) % 4 = d by omega]
abbrev pr_X12_mostBeside (f : Int) (M : zM) : Prop := (mDim M) ∧ (mFok M) ∧ (0 ≤ f)
abbrev po_X12_mostBeside (f : Int) (M : zM) (r : Int) (M' : zM) : Prop := (M' = M) ∧ (gMost (fun c => zc (gSd (M 103 1) (M 103 2) (M 115) (M 104) f c) 768) r)
set_option maxHeartbeats 1000000 in
theorem ok_X12_mostBeside : zSnd zS 145 0 0 yX12_mostBeside cX12_mostBeside 9 (some .int) 2 [2, 0] (F_X12_mostBeside pr_X12_mostBeside po_X12_mostBeside) := by
  refine (sn_X12_mostBeside ok_X12_beside).mono ?_
  rintro xs P M hz hR ⟨f, rfl, ⟨hd, hF, hf⟩, hP⟩
  refine ⟨_, rfl, ?_⟩
  have z_f := zall_h (zall_t hz) (by decide)
  change vc_X12_mostBeside pr_X12_beside po_X12_beside f P M
  unfold vc_X12_mostBeside
  refine ⟨fun v1 v2 v3 M7 n9 => (n9 : Int) = (16 - v3) ∧ (0 ≤ v3 ∧ v3 ≤ 16) ∧ (M7 = M) ∧ (gMo (fun c => zc (gSd (M 103 1) (M 103 2) (M 115) (M 104) f c) 768) v3 v1) ∧ ((v1 = -1 ∧ v2 = 0) ∨ (0 ≤ v1 ∧ v2 = zc (gSd (M 103 1) (M 103 2) (M 115) (M 104) f v1) 768)), ⟨Int.toNat (16 - 0), by omega, ?_, ?_, ?_, ?_⟩, ?_⟩
  · show 0 ≤ 0 ∧ 0 ≤ 16  -- I7.0.hv
    first | with_reducible assumption | omega | exact trivial | with_reducible rfl
  · first | with_reducible assumption | omega | exact trivial | with_reducible rfl  -- I7.0.rfl
  · show gMo (fun c => zc (gSd (M 103 1) (M 103 2) (M 115) (M 104) f c) 768) 0 (-1)  -- I7.0.h1
    exact .inl ⟨rfl, fun c c0 c1 => by omega⟩
  · show ((-1) = -1 ∧ 0 = 0) ∨ (0 ≤ (-1) ∧ 0 = zc (gSd (M 103 1) (M 103 2) (M 115) (M 104) f (-1)) 768)  -- I7.0.h2
    first | with_reducible assumption | omega | exact trivial | with_reducible rfl
  rintro v1 v2 v3 M7 n9 ⟨h_n9, hv, q_rfl, h1, h2⟩ z_v1 z_v2 z_v3 z_M7
  have q_rfl := q_rfl.symm
  subst q_rfl
  refine ⟨fun b1 => ?_, fun b1 => ?_⟩
  · -- b1.1
    refine hP _ _ ⟨?_, ?_⟩
    · show M = M  -- p1.rfl
      first | with_reducible assumption | omega | exact trivial | with_reducible rfl
    · show gMost (fun c => zc (gSd (M 103 1) (M 103 2) (M 115) (M 104) f c) 768) v1  -- p1.hr
      rw [show v3 = 16 by omega] at h1
      exact h1
  · -- b1.2
    refine ⟨fun v17 v18 M21 n23 => (n23 : Int) = (192 - v18) ∧ (0 ≤ v18 ∧ v18 ≤ 192) ∧ (M21 = M) ∧ (v17 = zc (gSd (M 103 1) (M 103 2) (M 115) (M 104) f v3) (4 * v18)), ⟨Int.toNat (192 - 0), by omega, ?_, ?_, ?_⟩, ?_⟩
    · show 0 ≤ 0 ∧ 0 ≤ 192  -- I20.0.hv2
      first | with_reducible assumption | omega | exact trivial | with_reducible rfl
    · first | with_reducible assumption | omega | exact trivial | with_reducible rfl  -- I20.0.rfl
    · show 0 = zc (gSd (M 103 1) (M 103 2) (M 115) (M 104) f v3) (4 * 0)  -- I20.0.h3
      rfl
    rintro v17 v18 M21 n23 ⟨h_n23, hv2, q_rfl, h3⟩ z_v17 z_v18 z_M21
    have q_rfl := q_rfl.symm
    subst q_rfl
    have u := zc_b (gSd (M 103 1) (M 103 2) (M 115) (M 104) f v3) (4 * v18) (by omega)
    refine ⟨fun b2 => ?_, fun b2 => ?_⟩
    · -- b2.1
      rw [show 4 * v18 = 768 by omega] at h3
      intro K120 h_K120
      have k_K120 : ∀ (v31 : Int), (v31 = (if v17 ≤ v2 then v1 else v3)) → K120 v31 := by
        intro v31 hk
        refine h_K120 _ ?_
        intro z_v31
        refine ⟨fun b3 => ?_, fun b3 => ?_⟩
        · -- b3.1
          have o1 : zin (v3 + 1) := by
            first | with_reducible assumption | omega | exact trivial | with_reducible rfl  -- o1
          refine ⟨o1, ?_⟩
          refine ⟨Int.toNat (16 - (v3 + 1)), by omega, by omega, ?_, ?_, ?_, ?_⟩
          · show 0 ≤ (v3 + 1) ∧ (v3 + 1) ≤ 16  -- I7.1.hv
            first | with_reducible assumption | omega | exact trivial | with_reducible rfl
          · first | with_reducible assumption | omega | exact trivial | with_reducible rfl  -- I7.1.rfl
          · show gMo (fun c => zc (gSd (M 103 1) (M 103 2) (M 115) (M 104) f c) 768) (v3 + 1) v31  -- I7.1.h1
            rw [hk, if_pos b3]
            refine h1.no ?_
            rcases h2 with h2 | h2
            · exact .inl (by rw [← h3]; omega)
            · exact .inr ⟨h2.1, by rw [← h3, ← h2.2]; exact b3⟩
          · show (v31 = -1 ∧ v2 = 0) ∨ (0 ≤ v31 ∧ v2 = zc (gSd (M 103 1) (M 103 2) (M 115) (M 104) f v31) 768)  -- I7.1.h2
            rw [hk, if_pos b3]; exact h2
        · -- b3.2
          have o2 : zin (v3 + 1) := by
            first | with_reducible assumption | omega | exact trivial | with_reducible rfl  -- o2
          refine ⟨o2, ?_⟩
          refine ⟨Int.toNat (16 - (v3 + 1)), by omega, by omega, ?_, ?_, ?_, ?_⟩
          · show 0 ≤ (v3 + 1) ∧ (v3 + 1) ≤ 16  -- I7.2.hv
            first | with_reducible assumption | omega | exact trivial | with_reducible rfl
          · first | with_reducible assumption | omega | exact trivial | with_reducible rfl  -- I7.2.rfl
          · show gMo (fun c => zc (gSd (M 103 1) (M 103 2) (M 115) (M 104) f c) 768) (v3 + 1) v31  -- I7.2.h1
            rw [hk, if_neg b3]
            have u0 := zc_b (gSd (M 103 1) (M 103 2) (M 115) (M 104) f v1) 768 (by decide)
            refine h1.yes hv.1 (by rw [← h3]; omega) ?_
            rcases h2 with h2 | h2
            · exact .inl (by omega)
            · exact .inr (by rw [← h3, ← h2.2]; omega)
          · show (v31 = -1 ∧ v17 = 0) ∨ (0 ≤ v31 ∧ v17 = zc (gSd (M 103 1) (M 103 2) (M 115) (M 104) f v31) 768)  -- I7.2.h2
            rw [hk, if_neg b3]; exact .inr ⟨hv.1, h3⟩
      refine ⟨fun b4 => ?_, fun b4 => ?_⟩
      · -- b4.1
        refine k_K120 _ ?_
        · show v1 = (if v17 ≤ v2 then v1 else v3)  -- K120.1.hk
          rw [if_pos b4]
      · -- b4.2
        refine k_K120 _ ?_
        · show v3 = (if v17 ≤ v2 then v1 else v3)  -- K120.2.hk
          rw [if_neg b4]
    · -- b2.2
      refine ⟨fun v43 v44 M47 n49 => (n49 : Int) = (4 - v44) ∧ (0 ≤ v44 ∧ v44 ≤ 4) ∧ (M47 = M) ∧ (v43 = zc (gSd (M 103 1) (M 103 2) (M 115) (M 104) f v3) (4 * v18 + v44)), ⟨Int.toNat (4 - 0), by omega, ?_, ?_, ?_⟩, ?_⟩
      · show 0 ≤ 0 ∧ 0 ≤ 4  -- I31.0.hv3
        first | with_reducible assumption | omega | exact trivial | with_reducible rfl
      · first | with_reducible assumption | omega | exact trivial | with_reducible rfl  -- I31.0.rfl
      · show v17 = zc (gSd (M 103 1) (M 103 2) (M 115) (M 104) f v3) (4 * v18 + 0)  -- I31.0.h4
        rw [show 4 * v18 + 0 = 4 * v18 by omega]; exact h3
      rintro v43 v44 M47 n49 ⟨h_n49, hv3, q_rfl, h4⟩ z_v43 z_v44 z_M47
      have q_rfl := q_rfl.symm
      subst q_rfl
      have u2 := zc_b (gSd (M 103 1) (M 103 2) (M 115) (M 104) f v3) (4 * v18 + v44) (by omega)
      refine ⟨fun b5 => ?_, fun b5 => ?_⟩
      · -- b5.1
        have o3 : zin (v18 + 1) := by
          first | with_reducible assumption | omega | exact trivial | with_reducible rfl  -- o3
        refine ⟨o3, ?_⟩
        refine ⟨Int.toNat (192 - (v18 + 1)), by omega, by omega, ?_, ?_, ?_⟩
        · show 0 ≤ (v18 + 1) ∧ (v18 + 1) ≤ 192  -- I20.1.hv2
          first | with_reducible assumption | omega | exact trivial | with_reducible rfl
        · first | with_reducible assumption | omega | exact trivial | with_reducible rfl  -- I20.1.rfl
        · show v43 = zc (gSd (M 103 1) (M 103 2) (M 115) (M 104) f v3) (4 * (v18 + 1))  -- I20.1.h3
          rw [h4, show 4 * v18 + v44 = 4 * (v18 + 1) by omega]
      · -- b5.2
        have o4 : ((0 : Int) ≤ v18 ∧ v18 < 192) := by
          first | with_reducible assumption | omega | exact trivial | with_reducible rfl  -- o4
        refine ⟨o4, ?_⟩
        refine ⟨fun b6 => ?_, fun b6 => ?_⟩
        · -- b6.1
          have o5 : zin (v18 + 1) := by
            first | with_reducible assumption | omega | exact trivial | with_reducible rfl  -- o5
          refine ⟨o5, ?_⟩
          refine ⟨Int.toNat (192 - (v18 + 1)), by omega, by omega, ?_, ?_, ?_⟩
          · show 0 ≤ (v18 + 1) ∧ (v18 + 1) ≤ 192  -- I20.2.hv2
            first | with_reducible assumption | omega | exact trivial | with_reducible rfl
          · first | with_reducible assumption | omega | exact trivial | with_reducible rfl  -- I20.2.rfl
          · show v43 = zc (gSd (M 103 1) (M 103 2) (M 115) (M 104) f v3) (4 * (v18 + 1))  -- I20.2.h3
            rw [h4]
            refine (zc_skip (by omega) _ (by omega) (fun i i0 i1 => ?_)).symm
            intro g
            have := g.1
            rw [show i / 4 = v18 by omega] at this
            exact b6 this
        · -- b6.2
          have gc1 : pr_X12_beside v18 v44 M := by
            refine ⟨?_, ?_, ?_⟩
            · show mDim M  -- c1.hd
              first | with_reducible assumption | omega | exact trivial | with_reducible rfl
            · show 0 ≤ v18  -- c1.h0
              first | with_reducible assumption | omega | exact trivial | with_reducible rfl
            · show v18 < 192  -- c1.h1
              first | with_reducible assumption | omega | exact trivial | with_reducible rfl
          refine ⟨gc1, ?_⟩
          rintro r67 M68 ⟨q_rfl, e_r67⟩ z_r67 z_M68
          have q_rfl := q_rfl.symm
          subst q_rfl
          have eg := mBes_g (a := v18) (d := v44) (M 115) hd
          rw [← e_r67] at eg
          have eg2 := mBes_g (a := v18) (d := v44) (M 104) hd
          rw [← e_r67] at eg2
          have es := gSd_s (w := M 103 1) (h := M 103 2) (f := f) (c := v3) (k := v18) (L := M 115) (C := M 104) hv3.1 (show v44 < 4 by omega)
          rw [eg, eg2] at es
          refine ⟨fun b7 => ?_, fun b7 => ?_⟩
          · -- b7.1
            have o6 : zin (v43 + 0) := by
              first | with_reducible assumption | omega | exact trivial | with_reducible rfl  -- o6
            refine ⟨o6, ?_⟩
            have o7 : zin (v44 + 1) := by
              first | with_reducible assumption | omega | exact trivial | with_reducible rfl  -- o7
            refine ⟨o7, ?_⟩
            refine ⟨Int.toNat (4 - (v44 + 1)), by omega, by omega, ?_, ?_, ?_⟩
            · show 0 ≤ (v44 + 1) ∧ (v44 + 1) ≤ 4  -- I31.1.hv3
              first | with_reducible assumption | omega | exact trivial | with_reducible rfl
            · first | with_reducible assumption | omega | exact trivial | with_reducible rfl  -- I31.1.rfl
            · show (v43 + 0) = zc (gSd (M 103 1) (M 103 2) (M 115) (M 104) f v3) (4 * v18 + (v44 + 1))  -- I31.1.h4
              rw [show 4 * v18 + (v44 + 1) = 4 * v18 + v44 + 1 by omega, zc_n (by omega)]
              · omega
              · rw [es, if_neg (by omega)]; omega
          · -- b7.2
            have o8 : ((0 : Int) ≤ r67 ∧ r67 < 192) := by
              have hB := mBes_D (M := M) (a := v18) (d := v44) hd (by omega); omega
            refine ⟨o8, ?_⟩
            refine ⟨fun b8 => ?_, fun b8 => ?_⟩
            · -- b8.1
              have o9 : zin (v43 + 0) := by
                first | with_reducible assumption | omega | exact trivial | with_reducible rfl  -- o9
              refine ⟨o9, ?_⟩
              have o10 : zin (v44 + 1) := by
                first | with_reducible assumption | omega | exact trivial | with_reducible rfl  -- o10
              refine ⟨o10, ?_⟩
              refine ⟨Int.toNat (4 - (v44 + 1)), by omega, by omega, ?_, ?_, ?_⟩
              · show 0 ≤ (v44 + 1) ∧ (v44 + 1) ≤ 4  -- I31.2.hv3
                first | with_reducible assumption | omega | exact trivial | with_reducible rfl
              · first | with_reducible assumption | omega | exact trivial | with_reducible rfl  -- I31.2.rfl
              · show (v43 + 0) = zc (gSd (M 103 1) (M 103 2) (M 115) (M 104) f v3) (4 * v18 + (v44 + 1))  -- I31.2.h4
                rw [show 4 * v18 + (v44 + 1) = 4 * v18 + v44 + 1 by omega, zc_n (by omega)]
                · omega
                · rw [es, if_pos (by omega), if_pos (by omega)]; exact fun h => h.2.2 b8
            · -- b8.2
              refine ⟨fun b9 => ?_, fun b9 => ?_⟩
              · -- b9.1
                have o11 : zin (v43 + 0) := by
                  first | with_reducible assumption | omega | exact trivial | with_reducible rfl  -- o11
                refine ⟨o11, ?_⟩
                have o12 : zin (v44 + 1) := by
                  first | with_reducible assumption | omega | exact trivial | with_reducible rfl  -- o12
                refine ⟨o12, ?_⟩
                refine ⟨Int.toNat (4 - (v44 + 1)), by omega, by omega, ?_, ?_, ?_⟩
                · show 0 ≤ (v44 + 1) ∧ (v44 + 1) ≤ 4  -- I31.3.hv3
                  first | with_reducible assumption | omega | exact trivial | with_reducible rfl
                · first | with_reducible assumption | omega | exact trivial | with_reducible rfl  -- I31.3.rfl
                · show (v43 + 0) = zc (gSd (M 103 1) (M 103 2) (M 115) (M 104) f v3) (4 * v18 + (v44 + 1))  -- I31.3.h4
                  rw [show 4 * v18 + (v44 + 1) = 4 * v18 + v44 + 1 by omega, zc_n (by omega)]
                  · omega
                  · rw [es, if_pos (by omega), if_pos (by omega)]; exact fun h => b9 h.2.1
              · -- b9.2
                have o13 : zin (v43 + 1) := by
                  first | with_reducible assumption | omega | exact trivial | with_reducible rfl  -- o13
                refine ⟨o13, ?_⟩
                have o14 : zin (v44 + 1) := by
                  first | with_reducible assumption | omega | exact trivial | with_reducible rfl  -- o14
                refine ⟨o14, ?_⟩
                refine ⟨Int.toNat (4 - (v44 + 1)), by omega, by omega, ?_, ?_, ?_⟩
                · show 0 ≤ (v44 + 1) ∧ (v44 + 1) ≤ 4  -- I31.4.hv3
                  first | with_reducible assumption | omega | exact trivial | with_reducible rfl
                · first | with_reducible assumption | omega | exact trivial | with_reducible rfl  -- I31.4.rfl
                · show (v43 + 1) = zc (gSd (M 103 1) (M 103 2) (M 115) (M 104) f v3) (4 * v18 + (v44 + 1))  -- I31.4.h4
                  rw [show 4 * v18 + (v44 + 1) = 4 * v18 + v44 + 1 by omega, zc_p (by omega)]
                  · omega
                  · rw [es, if_pos (by omega), if_pos (by omega)]; exact ⟨b6, b9, b8⟩

