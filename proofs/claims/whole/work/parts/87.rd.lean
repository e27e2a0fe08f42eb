abbrev rTo (M : zM) (s t : gS3) : Prop := gTo (M (M 74 2)) (M 74 3) (M 75) s t
theorem rC.at {M : zM} (H : rC M) {c : Int} (h : rB M = c) (hc : c ≠ -1) : M 74 4 < M 74 3 ∧ ¬ M 74 3 ≤ M 74 4 := by
  have i := gBy_i (T := M (M 74 2)) (n := M 74 3) (p := M 74 4) (by show rB M ≠ -1; omega)
  omega
theorem rC.end {M : zM} (H : rC M) (h : M 74 3 ≤ M 74 4) : rB M = -1 := if_neg (by omega)
abbrev pr_X7_readTest (k : Int) (d : Int) (M : zM) : Prop := (rC M) ∧ (8 - k ≤ d ∧ d ≤ 8 ∧ 0 ≤ d)
abbrev po_X7_readTest (d : Int) (M : zM) (r : Int) (M' : zM) : Prop := (∀ c i, ¬ (c = 74 ∧ (i = 1 ∨ i = 4)) → M' c i = M c i) ∧ (r = 0 ∨ r = 1) ∧ (0 ≤ M' 74 4 ∧ M' 74 4 ≤ M 74 3) ∧ (M 74 1 ≠ -4 → M' = M) ∧ (M 74 1 = -4 → (M' 74 1 = -4 ∧ M 74 4 < M' 74 4 ∧ ∀ V S : List Int, S.headD 0 ≠ 33 → rTo M (0, 1, d, M 74 4, V, S) (0, 0, d, M' 74 4, r :: V, S)) ∨ (0 ≤ M' 74 1 ∧ ∀ V S : List Int, S.headD 0 ≠ 33 → rTo M (0, 1, d, M 74 4, V, S) (1, 0, 0, M' 74 1, [], [])))

abbrev pr_X7_readAnd (k : Int) (d : Int) (M : zM) : Prop := (rC M) ∧ (8 - k ≤ d ∧ d ≤ 8 ∧ 0 ≤ d)
abbrev po_X7_readAnd (d : Int) (M : zM) (r : Int) (M' : zM) : Prop := (∀ c i, ¬ (c = 74 ∧ (i = 1 ∨ i = 4)) → M' c i = M c i) ∧ (r = 0 ∨ r = 1) ∧ (0 ≤ M' 74 4 ∧ M' 74 4 ≤ M 74 3) ∧ (M 74 1 ≠ -4 → M' = M) ∧ (M 74 1 = -4 → (M' 74 1 = -4 ∧ M 74 4 < M' 74 4 ∧ rB M' ≠ 38 ∧ ∀ V S : List Int, S.headD 0 ≠ 33 → S.headD 0 ≠ 38 → ∃ V' S', rTo M (0, 1, d, M 74 4, V, S) (0, 0, d, M' 74 4, V', S') ∧ gJ 38 V' S' = (r :: V, S)) ∨ (0 ≤ M' 74 1 ∧ ∀ V S : List Int, S.headD 0 ≠ 33 → S.headD 0 ≠ 38 → rTo M (0, 1, d, M 74 4, V, S) (1, 0, 0, M' 74 1, [], [])))

abbrev pr_X7_readOr (k : Int) (d : Int) (M : zM) : Prop := (rC M) ∧ (8 - k ≤ d ∧ d ≤ 8 ∧ 0 ≤ d)
abbrev po_X7_readOr (d : Int) (M : zM) (r : Int) (M' : zM) : Prop := (∀ c i, ¬ (c = 74 ∧ (i = 1 ∨ i = 4)) → M' c i = M c i) ∧ (r = 0 ∨ r = 1) ∧ (0 ≤ M' 74 4 ∧ M' 74 4 ≤ M 74 3) ∧ (M 74 1 ≠ -4 → M' = M) ∧ (M 74 1 = -4 → (M' 74 1 = -4 ∧ M 74 4 < M' 74 4 ∧ (rB M' ≠ 38 ∧ rB M' ≠ 124) ∧ ∀ V S : List Int, S.headD 0 ≠ 33 → S.headD 0 ≠ 38 → S.headD 0 ≠ 124 → ∃ V' S', rTo M (0, 1, d, M 74 4, V, S) (0, 0, d, M' 74 4, V', S') ∧ gJJ V' S' = (r :: V, S)) ∨ (0 ≤ M' 74 1 ∧ ∀ V S : List Int, S.headD 0 ≠ 33 → S.headD 0 ≠ 38 → S.headD 0 ≠ 124 → rTo M (0, 1, d, M 74 4, V, S) (1, 0, 0, M' 74 1, [], [])))

abbrev pr_X7_readBracket (k : Int) (d : Int) (M : zM) : Prop := (rC M) ∧ (M 74 1 = -4) ∧ (rB M = 40) ∧ (8 - k ≤ d ∧ d ≤ 8 ∧ 0 ≤ d)
abbrev po_X7_readBracket (d : Int) (M : zM) (r : Int) (M' : zM) : Prop := (∀ c i, ¬ (c = 74 ∧ (i = 1 ∨ i = 4)) → M' c i = M c i) ∧ (r = 0 ∨ r = 1) ∧ (0 ≤ M' 74 4 ∧ M' 74 4 ≤ M 74 3) ∧ ((M' 74 1 = -4 ∧ M 74 4 < M' 74 4 ∧ ∀ V S : List Int, rTo M (0, 1, d, M 74 4, V, S) (0, 0, d, M' 74 4, (gTe (r :: V) S).1, (gTe (r :: V) S).2)) ∨ (0 ≤ M' 74 1 ∧ ∀ V S : List Int, rTo M (0, 1, d, M 74 4, V, S) (1, 0, 0, M' 74 1, [], [])))

set_option maxHeartbeats 1000000 in
theorem ok_X7_readBracket {k : Int} {d1 : Nat} (h1 : zSnd zS 145 0 0 yX7_readOr cX7_readOr 5 (some .boolean) d1 [2, 0] (F_X7_readOr (pr_X7_readOr (k - 1)) po_X7_readOr)) {d0 : Nat} (hd1 : d1 + 1 ≤ d0) (hd0 : 5 ≤ d0) : zSnd zS 145 0 0 yX7_readBracket cX7_readBracket 3 (some .boolean) d0 [2, 0] (F_X7_readBracket (pr_X7_readBracket k) po_X7_readBracket) := by
  refine (sn_X7_readBracket hd1 (by omega) h1 ok_X7_take ok_X7_stop).mono ?_
  rintro xs P M hz hR ⟨d, rfl, ⟨hC, h1, hb, hd⟩, hP⟩
  refine ⟨_, rfl, ?_⟩
  have z_d := zall_h (zall_t hz) (by decide)
  change vc_X7_readBracket (pr_X7_readOr (k - 1)) po_X7_readOr pr_X7_take po_X7_take pr_X7_stop po_X7_stop d P M
  unfold vc_X7_readBracket
  have rn := hC.2.2.1
  have rp := hC.2.2.2.1
  have at0 := hC.at hb (by decide)
  refine ⟨fun b1 => ?_, fun b1 => ?_⟩
  · -- b1.1
    have o1 : zin ((M 74 4) + 1) := by
      omega
    refine ⟨o1, ?_⟩
    intro M3 e_M3
    have m4 : M3 74 4 = M 74 4 + 1 := by rw [e_M3, zset_s]
    have f3 : ∀ c i, ¬ (c = 74 ∧ i = 4) → M3 c i = M c i := fun c i k => by rw [e_M3, zset_n _ (by omega)]
    have C3 : rC M3 := hC.fr (fun c i k => f3 c i (by omega)) (by omega)
    have T3 := hC.T (M' := M3) (fun c i k => f3 c i (by omega))
    have m31 : M3 74 1 = -4 := by rw [f3 74 1 (by omega)]; exact h1
    have o2 : zin (d + 1) := by
      omega
    refine ⟨o2, ?_⟩
    have gc1 : pr_X7_readOr (k - 1) (d + 1) M3 := by
      refine ⟨?_, ?_⟩
      · show rC M3  -- c1.hC
        exact C3
      · show 8 - (k - 1) ≤ (d + 1) ∧ (d + 1) ≤ 8 ∧ 0 ≤ (d + 1)  -- c1.hd
        omega
    refine ⟨gc1, ?_⟩
    rintro r7 M8 ⟨pc1_hf, pc1_hr, pc1_hp, pc1_hz, pc1_ho⟩ z_r7 z_M8
    have ho1 := pc1_ho m31
    have C8 : rC M8 := C3.fr pc1_hf pc1_hp
    have T8 := C3.T pc1_hf
    have f8 : ∀ c i, ¬ (c = 74 ∧ (i = 1 ∨ i = 4)) → M8 c i = M c i := fun c i k => by rw [pc1_hf c i k]; exact f3 c i (by omega)
    have eB : rB M8 = gBy (M (M 74 2)) (M 74 3) (M8 74 4) := by unfold rB; rw [T8.1, T8.2.1, T3.1, T3.2.1]
    have st : ∀ V S, gStep (M (M 74 2)) (M 74 3) (M 75) (0, 1, d, M 74 4, V, S) = some (0, 1, d + 1, M 74 4 + 1, V, 40 :: S) := fun V S => gStep_open hb (by omega)
    have hp3 : M8 74 4 ≤ M 74 3 := by have := pc1_hp; omega
    have gc2 : pr_X7_take 41 M8 := by
      refine ⟨?_, ?_⟩
      · show rC M8  -- c2.hC
        exact C8
      · show 0 ≤ 41  -- c2.hc
        omega
    refine ⟨gc2, ?_⟩
    rintro M13 ⟨pc2_hy, pc2_hn, pc2_hb⟩ z_M13
    have o3 : (r7 = 0 ∨ r7 = 1) := by
      exact pc1_hr
    refine ⟨o3, ?_⟩
    refine hP _ _ ⟨?_, ?_, ?_, ?_⟩
    · show ∀ c i, ¬ (c = 74 ∧ (i = 1 ∨ i = 4)) → M13 c i = M c i  -- p1.hf
      intro c i q
      by_cases e : M8 74 1 = -4
      · by_cases x : rB M8 = 41
        · rw [(pc2_hy e x).1, zset_n _ (by omega)]; exact f8 c i q
        · rw [pc2_hn e x, zset_n _ (by omega)]; exact f8 c i q
      · rw [pc2_hb e]; exact f8 c i q
    · show r7 = 0 ∨ r7 = 1  -- p1.hr
      exact pc1_hr
    · show 0 ≤ M13 74 4 ∧ M13 74 4 ≤ M 74 3  -- p1.hp
      by_cases e : M8 74 1 = -4
      · by_cases x : rB M8 = 41
        · have y := pc2_hy e x
          have t82 := T8.2.1
          have t32 := T3.2.1
          rw [y.1, zset_s]; omega
        · rw [pc2_hn e x, zset_n _ (by omega)]; omega
      · rw [pc2_hb e]; omega
    · show (M13 74 1 = -4 ∧ M 74 4 < M13 74 4 ∧ ∀ V S : List Int, rTo M (0, 1, d, M 74 4, V, S) (0, 0, d, M13 74 4, (gTe (r7 :: V) S).1, (gTe (r7 :: V) S).2)) ∨ (0 ≤ M13 74 1 ∧ ∀ V S : List Int, rTo M (0, 1, d, M 74 4, V, S) (1, 0, 0, M13 74 1, [], []))  -- p1.ho
      have P : ∀ V S : List Int, (40 :: S).headD 0 ≠ 33 ∧ (40 :: S).headD 0 ≠ 38 ∧ (40 :: S).headD 0 ≠ 124 := fun V S => by show (40 : Int) ≠ 33 ∧ (40 : Int) ≠ 38 ∧ (40 : Int) ≠ 124; decide
      unfold rTo at ho1 ⊢
      rw [T3.1, T3.2.1, T3.2.2, m4] at ho1
      rcases ho1 with ⟨a, b, ⟨c1, c2⟩, c⟩ | ⟨a, c⟩
      · have nb : ∀ V S V' S', gJJ V' S' = (r7 :: V, 40 :: S) → (gJJ V' S').2 ≠ [] := fun V S V' S' e => by rw [e]; exact List.cons_ne_nil _ _
        rw [eB] at c1 c2
        by_cases x : rB M8 = 41
        · have y := pc2_hy a x
          rw [eB] at x
          have t82 := T8.2.1
          have t32 := T3.2.1
          refine .inl ⟨by rw [y.1, zset_n _ (by omega)]; exact a, by rw [y.1, zset_s]; omega, fun V S => ?_⟩
          obtain ⟨V', S', g, e⟩ := c V (40 :: S) (P V S).1 (P V S).2.1 (P V S).2.2
          refine (gTo.hd (st V S) g).one ?_
          rw [gStep_close (by omega) x (by rw [e]; rfl), e, y.1, zset_s, show d + 1 - 1 = d by omega]
          rfl
        · have y := pc2_hn a x
          rw [eB] at x
          refine .inr ⟨by rw [y, zset_s]; omega, fun V S => ?_⟩
          obtain ⟨V', S', g, e⟩ := c V (40 :: S) (P V S).1 (P V S).2.1 (P V S).2.2
          refine (gTo.hd (st V S) g).one ?_
          rw [y, zset_s]
          by_cases le : M 74 3 ≤ M8 74 4
          · exact gStep_endb le (nb V S V' S' e)
          · exact gStep_else le c1 c2 (fun q => x q.1)
      · have e : M8 74 1 ≠ -4 := by omega
        rw [pc2_hb e]
        exact .inr ⟨a, fun V S => gTo.hd (st V S) (c V (40 :: S) (P V S).1 (P V S).2.1 (P V S).2.2)⟩
  · -- b1.2
    have gc3 : pr_X7_stop M := trivial
    refine ⟨gc3, ?_⟩
    rintro M19 pc3_e z_M19
    unfold po_X7_stop at pc3_e
    rw [if_pos h1] at pc3_e
    refine hP _ _ ⟨?_, ?_, ?_, ?_⟩
    · show ∀ c i, ¬ (c = 74 ∧ (i = 1 ∨ i = 4)) → M19 c i = M c i  -- p2.hf
      intro c i q; rw [pc3_e, zset_n _ (by omega)]
    · show 0 = 0 ∨ 0 = 1  -- p2.hr
      exact .inl rfl
    · show 0 ≤ M19 74 4 ∧ M19 74 4 ≤ M 74 3  -- p2.hp
      rw [pc3_e, zset_n _ (by omega)]; exact rp
    · show (M19 74 1 = -4 ∧ M 74 4 < M19 74 4 ∧ ∀ V S : List Int, rTo M (0, 1, d, M 74 4, V, S) (0, 0, d, M19 74 4, (gTe (0 :: V) S).1, (gTe (0 :: V) S).2)) ∨ (0 ≤ M19 74 1 ∧ ∀ V S : List Int, rTo M (0, 1, d, M 74 4, V, S) (1, 0, 0, M19 74 1, [], []))  -- p2.ho
      refine .inr ⟨by rw [pc3_e, zset_s]; omega, fun V S => ?_⟩
      rw [pc3_e, zset_s]
      exact gTo.hd (gStep_deep hb (by omega)) gTo.r

