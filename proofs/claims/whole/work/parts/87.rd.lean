abbrev rTo (M : zM) (s t : gS3) : Prop := gTo (M (M 74 2)) (M 74 3) (M 75) s t
theorem rC.at {M : zM} (H : rC M) {c : Int} (h : rB M = c) (hc : c ≠ -1) : M 74 4 < M 74 3 ∧ ¬ M 74 3 ≤ M 74 4 := by
  have i := gBy_i (T := M (M 74 2)) (n := M 74 3) (p := M 74 4) (by show rB M ≠ -1; omega)
  omega
theorem rC.end {M : zM} (H : rC M) (h : M 74 3 ≤ M 74 4) : rB M = -1 := if_neg (by omega)
abbrev pr_X7_readTest (k : Int) (d : Int) (M : zM) : Prop := (rC M) ∧ (8 - k ≤ d ∧ d ≤ 8 ∧ 0 ≤ d)
abbrev po_X7_readTest (d : Int) (M : zM) (r : Int) (M' : zM) : Prop := (∀ c i, ¬ (c = 74 ∧ (i = 1 ∨ i = 4)) → M' c i = M c i) ∧ (r = 0 ∨ r = 1) ∧ (0 ≤ M' 74 4 ∧ M' 74 4 ≤ M 74 3) ∧ (M 74 1 ≠ -4 → M' = M) ∧ (M 74 1 = -4 → (M' 74 1 = -4 ∧ M 74 4 < M' 74 4 ∧ ∀ V S : List Int, S.headD 0 ≠ 33 → rTo M (0, 1, d, M 74 4, V, S) (0, 0, d, M' 74 4, r :: V, S)) ∨ (0 ≤ M' 74 1 ∧ ∀ V S : List Int, S.headD 0 ≠ 33 → rTo M (0, 1, d, M 74 4, V, S) (1, 0, 0, M' 74 1, [], [])))

abbrev pr_X7_readAnd (k : Int) (d : Int) (M : zM) : Prop := (rC M) ∧ (8 - k ≤ d ∧ d ≤ 8 ∧ 0 ≤ d)
abbrev po_X7_readAnd (d : Int) (M : zM) (r : Int) (M' : zM) : Prop := (∀ c i, ¬ (c = 74 ∧ (i = 1 ∨ i = 4)) → M' c i = M c i) ∧ (r = 0 ∨ r = 1) ∧ (0 ≤ M' 74 4 ∧ M' 74 4 ≤ M 74 3) ∧ (M 74 1 ≠ -4 → M' = M) ∧ (M 74 1 = -4 → (M' 74 1 = -4 ∧ M 74 4 < M' 74 4 ∧ rB M' ≠ 38 ∧ ∀ V S : List Int, S.headD 0 ≠ 33 → S.headD 0 ≠ 38 → ∃ V' S', rTo M (0, 1, d, M 74 4, V, S) (0, 0, d, M' 74 4, V', S') ∧ gJ 38 V' S' = (r :: V, S)) ∨ (0 ≤ M' 74 1 ∧ ∀ V S : List Int, S.headD 0 ≠ 33 → S.headD 0 ≠ 38 → rTo M (0, 1, d, M 74 4, V, S) (1, 0, 0, M' 74 1, [], [])))

abbrev pr_X7_readOr (k : Int) (d : Int) (M : zM) : Prop := (rC M) ∧ (8 - k ≤ d ∧ d ≤ 8 ∧ 0 ≤ d)
abbrev po_X7_readOr (d : Int) (M : zM) (r : Int) (M' : zM) : Prop := (∀ c i, ¬ (c = 74 ∧ (i = 1 ∨ i = 4)) → M' c i = M c i) ∧ (r = 0 ∨ r = 1) ∧ (0 ≤ M' 74 4 ∧ M' 74 4 ≤ M 74 3) ∧ (M 74 1 ≠ -4 → M' = M) ∧ (M 74 1 = -4 → (M' 74 1 = -4 ∧ M 74 4 < M' 74 4 ∧ (rB M' ≠ 38 ∧ rB M' ≠ 124) ∧ ∀ V S : List Int, S.headD 0 ≠ 33 → S.headD 0 ≠ 38 → S.headD 0 ≠ 124 → ∃ V' S', rTo M (0, 1, d, M 74 4, V, S) (0, 0, d, M' 74 4, V', S') ∧ gJJ V' S' = (r :: V, S)) ∨ (0 ≤ M' 74 1 ∧ ∀ V S : List Int, S.headD 0 ≠ 33 → S.headD 0 ≠ 38 → S.headD 0 ≠ 124 → rTo M (0, 1, d, M 74 4, V, S) (1, 0, 0, M' 74 1, [], [])))

abbrev pr_X7_readBracket (k : Int) (d : Int) (M : zM) : Prop := (rC M) ∧ (M 74 1 = -4) ∧ (rB M = 40) ∧ (8 - k ≤ d ∧ d ≤ 8 ∧ 0 ≤ d)
abbrev po_X7_readBracket (d : Int) (M : zM) (r : Int) (M' : zM) : Prop := (∀ c i, ¬ (c = 74 ∧ (i = 1 ∨ i = 4)) → M' c i = M c i) ∧ (r = 0 ∨ r = 1) ∧ (0 ≤ M' 74 4 ∧ M' 74 4 ≤ M 74 3) ∧ ((M' 74 1 = -4 ∧ M 74 4 < M' 74 4 ∧ ∀ V S : List Int, rTo M (0, 1, d, M 74 4, V, S) (0, 0, d, M' 74 4, (gTe (r :: V) S).1, (gTe (r :: V) S).2)) ∨ (0 ≤ M' 74 1 ∧ ∀ V S : List Int, rTo M (0, 1, d, M 74 4, V, S) (1, 0, 0, M' 74 1, [], [])))

set_option maxHeartbeats 1000000 in
theorem ok_X7_readBracket {k : Int} {d1 : Nat} (h1 : zSnd zS 145 0 0 yX7_readOr cX7_readOr 5 (some .boolean) d1 [2, 0] (F_X7_readOr (pr_X7_readOr (k - 1)) po_X7_readOr)) {d0 : Nat} (hd1 : d1 + 1 ≤ d0) (hd0 : 5 ≤ d0) : zSnd zS 145 0 0 yX7_readBracket cX7_readBracket 3 (some .boolean) d0 [2, 0] (F_X7_readBracket (pr_X7_readBracket k) po_X7_readBracket) := by
  refine (sn_X7_readBracket hd1 (by omega) h1 ok_X7_take ok_X7_stop).mono ?_
  rintro xs P M hz hR ⟨d, rfl, ⟨hC, h1, hb, hd⟩, hP⟩
  refine ⟨_, rfl, ?_⟩
  have z_d := zall_h (zall_t hz) (by decide)
  change vc_X7_readBracket (pr_X7_readOr (k - 1)) po_X7_readOr pr_X7_take po_X7_take pr_X7_stop po_X7_stop d P M
  unfold vc_X7_readBracket
  have rn := hC.2.2.1
  have rp := hC.2.2.2.1
  have at0 := hC.at hb (by decide)
  refine ⟨fun b1 => ?_, fun b1 => ?_⟩
  · -- b1.1
    have o1 : zin ((M 74 4) + 1) := by
      omega
    refine ⟨o1, ?_⟩
    intro M3 e_M3
    have m4 : M3 74 4 = M 74 4 + 1 := by rw [e_M3, zset_s]
    have f3 : ∀ c i, ¬ (c = 74 ∧ i = 4) → M3 c i = M c i := fun c i k => by rw [e_M3, zset_n _ (by omega)]
    have C3 : rC M3 := hC.fr (fun c i k => f3 c i (by omega)) (by omega)
    have T3 := hC.T (M' := M3) (fun c i k => f3 c i (by omega))
    have m31 : M3 74 1 = -4 := by rw [f3 74 1 (by omega)]; exact h1
    have o2 : zin (d + 1) := by
      omega
    refine ⟨o2, ?_⟩
    have gc1 : pr_X7_readOr (k - 1) (d + 1) M3 := by
      refine ⟨?_, ?_⟩
      · show rC M3  -- c1.hC
        exact C3
      · show 8 - (k - 1) ≤ (d + 1) ∧ (d + 1) ≤ 8 ∧ 0 ≤ (d + 1)  -- c1.hd
        omega
    refine ⟨gc1, ?_⟩
    rintro r7 M8 ⟨pc1_hf, pc1_hr, pc1_hp, pc1_hz, pc1_ho⟩ z_r7 z_M8
    have ho1 := pc1_ho m31
    have C8 : rC M8 := C3.fr pc1_hf pc1_hp
    have T8 := C3.T pc1_hf
    have f8 : ∀ c i, ¬ (c = 74 ∧ (i = 1 ∨ i = 4)) → M8 c i = M c i := fun c i k => by rw [pc1_hf c i k]; exact f3 c i (by omega)
    have eB : rB M8 = gBy (M (M 74 2)) (M 74 3) (M8 74 4) := by unfold rB; rw [T8.1, T8.2.1, T3.1, T3.2.1]
    have st : ∀ V S, gStep (M (M 74 2)) (M 74 3) (M 75) (0, 1, d, M 74 4, V, S) = some (0, 1, d + 1, M 74 4 + 1, V, 40 :: S) := fun V S => gStep_open hb (by omega)
    have hp3 : M8 74 4 ≤ M 74 3 := by have := pc1_hp; omega
    have gc2 : pr_X7_take 41 M8 := by
      refine ⟨?_, ?_⟩
      · show rC M8  -- c2.hC
        exact C8
      · show 0 ≤ 41  -- c2.hc
        omega
    refine ⟨gc2, ?_⟩
    rintro M13 ⟨pc2_hy, pc2_hn, pc2_hb⟩ z_M13
    have o3 : (r7 = 0 ∨ r7 = 1) := by
      exact pc1_hr
    refine ⟨o3, ?_⟩
    refine hP _ _ ⟨?_, ?_, ?_, ?_⟩
    · show ∀ c i, ¬ (c = 74 ∧ (i = 1 ∨ i = 4)) → M13 c i = M c i  -- p1.hf
      intro c i q
      by_cases e : M8 74 1 = -4
      · by_cases x : rB M8 = 41
        · rw [(pc2_hy e x).1, zset_n _ (by omega)]; exact f8 c i q
        · rw [pc2_hn e x, zset_n _ (by omega)]; exact f8 c i q
      · rw [pc2_hb e]; exact f8 c i q
    · show r7 = 0 ∨ r7 = 1  -- p1.hr
      exact pc1_hr
    · show 0 ≤ M13 74 4 ∧ M13 74 4 ≤ M 74 3  -- p1.hp
      by_cases e : M8 74 1 = -4
      · by_cases x : rB M8 = 41
        · have y := pc2_hy e x
          have t82 := T8.2.1
          have t32 := T3.2.1
          rw [y.1, zset_s]; omega
        · rw [pc2_hn e x, zset_n _ (by omega)]; omega
      · rw [pc2_hb e]; omega
    · show (M13 74 1 = -4 ∧ M 74 4 < M13 74 4 ∧ ∀ V S : List Int, rTo M (0, 1, d, M 74 4, V, S) (0, 0, d, M13 74 4, (gTe (r7 :: V) S).1, (gTe (r7 :: V) S).2)) ∨ (0 ≤ M13 74 1 ∧ ∀ V S : List Int, rTo M (0, 1, d, M 74 4, V, S) (1, 0, 0, M13 74 1, [], []))  -- p1.ho
      have P : ∀ V S : List Int, (40 :: S).headD 0 ≠ 33 ∧ (40 :: S).headD 0 ≠ 38 ∧ (40 :: S).headD 0 ≠ 124 := fun V S => by show (40 : Int) ≠ 33 ∧ (40 : Int) ≠ 38 ∧ (40 : Int) ≠ 124; decide
      unfold rTo at ho1 ⊢
      rw [T3.1, T3.2.1, T3.2.2, m4] at ho1
      rcases ho1 with ⟨a, b, ⟨c1, c2⟩, c⟩ | ⟨a, c⟩
      · have nb : ∀ V S V' S', gJJ V' S' = (r7 :: V, 40 :: S) → (gJJ V' S').2 ≠ [] := fun V S V' S' e => by rw [e]; exact List.cons_ne_nil _ _
        rw [eB] at c1 c2
        by_cases x : rB M8 = 41
        · have y := pc2_hy a x
          rw [eB] at x
          have t82 := T8.2.1
          have t32 := T3.2.1
          refine .inl ⟨by rw [y.1, zset_n _ (by omega)]; exact a, by rw [y.1, zset_s]; omega, fun V S => ?_⟩
          obtain ⟨V', S', g, e⟩ := c V (40 :: S) (P V S).1 (P V S).2.1 (P V S).2.2
          refine (gTo.hd (st V S) g).one ?_
          rw [gStep_close (by omega) x (by rw [e]; rfl), e, y.1, zset_s, show d + 1 - 1 = d by omega]
          rfl
        · have y := pc2_hn a x
          rw [eB] at x
          refine .inr ⟨by rw [y, zset_s]; omega, fun V S => ?_⟩
          obtain ⟨V', S', g, e⟩ := c V (40 :: S) (P V S).1 (P V S).2.1 (P V S).2.2
          refine (gTo.hd (st V S) g).one ?_
          rw [y, zset_s]
          by_cases le : M 74 3 ≤ M8 74 4
          · exact gStep_endb le (nb V S V' S' e)
          · exact gStep_else le c1 c2 (fun q => x q.1)
      · have e : M8 74 1 ≠ -4 := by omega
        rw [pc2_hb e]
        exact .inr ⟨a, fun V S => gTo.hd (st V S) (c V (40 :: S) (P V S).1 (P V S).2.1 (P V S).2.2)⟩
  · -- b1.2
    have gc3 : pr_X7_stop M := trivial
    refine ⟨gc3, ?_⟩
    rintro M19 pc3_e z_M19
    unfold po_X7_stop at pc3_e
    rw [if_pos h1] at pc3_e
    refine hP _ _ ⟨?_, ?_, ?_, ?_⟩
    · show ∀ c i, ¬ (c = 74 ∧ (i = 1 ∨ i = 4)) → M19 c i = M c i  -- p2.hf
      intro c i q; rw [pc3_e, zset_n _ (by omega)]
    · show 0 = 0 ∨ 0 = 1  -- p2.hr
      exact .inl rfl
    · show 0 ≤ M19 74 4 ∧ M19 74 4 ≤ M 74 3  -- p2.hp
      rw [pc3_e, zset_n _ (by omega)]; exact rp
    · show (M19 74 1 = -4 ∧ M 74 4 < M19 74 4 ∧ ∀ V S : List Int, rTo M (0, 1, d, M 74 4, V, S) (0, 0, d, M19 74 4, (gTe (0 :: V) S).1, (gTe (0 :: V) S).2)) ∨ (0 ≤ M19 74 1 ∧ ∀ V S : List Int, rTo M (0, 1, d, M 74 4, V, S) (1, 0, 0, M19 74 1, [], []))  -- p2.ho
      refine .inr ⟨by rw [pc3_e, zset_s]; omega, fun V S => ?_⟩
      rw [pc3_e, zset_s]
      exact gTo.hd (gStep_deep hb (by omega)) gTo.r

def gRp : Nat → List Int → List Int
  | 0, S => S
  | i + 1, S => 33 :: gRp i S
set_option maxHeartbeats 1000000 in
theorem ok_X7_readTest {k : Int} {d1 : Nat} (h1 : zSnd zS 145 0 0 yX7_readBracket cX7_readBracket 3 (some .boolean) d1 [2, 0] (F_X7_readBracket (pr_X7_readBracket k) po_X7_readBracket)) {d0 : Nat} (hd1 : d1 + 1 ≤ d0) (hd0 : 5 ≤ d0) : zSnd zS 145 0 0 yX7_readTest cX7_readTest 4 (some .boolean) d0 [2, 0] (F_X7_readTest (pr_X7_readTest k) po_X7_readTest) := by
  refine (sn_X7_readTest hd1 (by omega) ok_X7_byteAhead ok_X7_readComparison h1).mono ?_
  rintro xs P M hz hR ⟨d, rfl, ⟨hC, hd⟩, hP⟩
  refine ⟨_, rfl, ?_⟩
  have z_d := zall_h (zall_t hz) (by decide)
  change vc_X7_readTest pr_X7_byteAhead po_X7_byteAhead pr_X7_readComparison po_X7_readComparison (pr_X7_readBracket k) po_X7_readBracket d P M
  unfold vc_X7_readTest
  have rn := hC.2.2.1
  have rp := hC.2.2.2.1
  refine ⟨fun v1 v2 M5 n7 => (n7 : Int) = (200 - v2) ∧ (0 ≤ v2 ∧ v2 ≤ M 74 3) ∧ (v1 = 0 ∨ v1 = 1) ∧ (∀ c i, ¬ (c = 74 ∧ i = 4) → M5 c i = M c i) ∧ (M 74 1 ≠ -4 → M5 = M) ∧ (M 74 4 ≤ M5 74 4 ∧ M5 74 4 ≤ M 74 3) ∧ (M 74 1 = -4 → v2 ≤ M5 74 4 ∧ ∀ V S : List Int, rTo M (0, 1, d, M 74 4, V, S) (0, 1, d, M5 74 4, V, gRp (Int.toNat v2) S) ∧ ∀ (x : Int) (W : List Int), S.headD 0 ≠ 33 → gTe (x :: W) (gRp (Int.toNat v2) S) = ((if v1 = 0 then x else 1 - x) :: W, S)), ⟨Int.toNat (200 - 0), by omega, ?_, ?_, ?_, ?_, ?_, ?_⟩, ?_⟩
  · show 0 ≤ 0 ∧ 0 ≤ M 74 3  -- I4.0.hv
    first | with_reducible assumption | omega | exact trivial | with_reducible rfl
  · show 0 = 0 ∨ 0 = 1  -- I4.0.h01
    exact .inl rfl
  · show ∀ c i, ¬ (c = 74 ∧ i = 4) → M c i = M c i  -- I4.0.kf
    intro c i _; rfl
  · show M 74 1 ≠ -4 → M = M  -- I4.0.kz
    intro _; rfl
  · show M 74 4 ≤ M 74 4 ∧ M 74 4 ≤ M 74 3  -- I4.0.kp
    omega
  · show M 74 1 = -4 → 0 ≤ M 74 4 ∧ ∀ V S : List Int, rTo M (0, 1, d, M 74 4, V, S) (0, 1, d, M 74 4, V, gRp (Int.toNat 0) S) ∧ ∀ (x : Int) (W : List Int), S.headD 0 ≠ 33 → gTe (x :: W) (gRp (Int.toNat 0) S) = ((if 0 = 0 then x else 1 - x) :: W, S)  -- I4.0.ko
    intro _; exact ⟨rp.1, fun V S => ⟨gTo.r, fun x W h => by rw [if_pos rfl]; exact gTe_hd h⟩⟩
  rintro v1 v2 M5 n7 ⟨h_n7, hv, h01, kf, kz, kp, ko⟩ z_v1 z_v2 z_M5
  have C5 := hC.fr (M' := M5) (fun c i k => kf c i (by omega)) (by omega)
  have T5 := hC.T (M' := M5) (fun c i k => kf c i (by omega))
  have eB : rB M5 = gBy (M (M 74 2)) (M 74 3) (M5 74 4) := by unfold rB; rw [T5.1, T5.2.1]
  have e51 : M5 74 1 = M 74 1 := kf 74 1 (by omega)
  intro K47 h_K47
  have k_K47 : ∀ (M14 : zM), (M14 = M5) → (M 74 1 = -4 → rB M5 ≠ 33) → K47 M14 := by
    intro M14 rfl2 kq
    refine h_K47 _ ?_
    intro z_M14
    have rfl3 := rfl2.symm
    have gc1 : pr_X7_byteAhead M14 := by
      show rC M14
      rw [rfl2]; exact C5
    refine ⟨gc1, ?_⟩
    rintro r16 M17 ⟨q_rfl, e_r16⟩ z_r16 z_M17
    have q_rfl := q_rfl.symm
    subst q_rfl
    rw [rfl2, e51] at e_r16
    intro K68 h_K68
    have k_K68 : ∀ (v22 : Int) (M24 : zM), (v22 = 0 ∨ v22 = 1) → (∀ c i, ¬ (c = 74 ∧ (i = 1 ∨ i = 4)) → M24 c i = M c i) → (0 ≤ M24 74 4 ∧ M24 74 4 ≤ M 74 3) → (M 74 1 ≠ -4 → M24 = M) → (M 74 1 = -4 → (M24 74 1 = -4 ∧ M 74 4 < M24 74 4 ∧ ∀ V S : List Int, S.headD 0 ≠ 33 → rTo M (0, 1, d, M 74 4, V, S) (0, 0, d, M24 74 4, (if v1 = 0 then v22 else 1 - v22) :: V, S)) ∨ (0 ≤ M24 74 1 ∧ ∀ V S : List Int, S.headD 0 ≠ 33 → rTo M (0, 1, d, M 74 4, V, S) (1, 0, 0, M24 74 1, [], []))) → K68 v22 M24 := by
      intro v22 M24 k22 qf qp qz qo
      refine h_K68 _ _ ?_
      intro z_v22 z_M24
      refine ⟨fun b1 => ?_, fun b1 => ?_⟩
      · -- b1.1
        refine hP _ _ ⟨?_, ?_, ?_, ?_, ?_⟩
        · show ∀ c i, ¬ (c = 74 ∧ (i = 1 ∨ i = 4)) → M24 c i = M c i  -- p1.hf
          exact qf
        · show 0 = 0 ∨ 0 = 1  -- p1.hr
          exact .inl rfl
        · show 0 ≤ M24 74 4 ∧ M24 74 4 ≤ M 74 3  -- p1.hp
          exact qp
        · show M 74 1 ≠ -4 → M24 = M  -- p1.hz
          exact qz
        · show M 74 1 = -4 → (M24 74 1 = -4 ∧ M 74 4 < M24 74 4 ∧ ∀ V S : List Int, S.headD 0 ≠ 33 → rTo M (0, 1, d, M 74 4, V, S) (0, 0, d, M24 74 4, 0 :: V, S)) ∨ (0 ≤ M24 74 1 ∧ ∀ V S : List Int, S.headD 0 ≠ 33 → rTo M (0, 1, d, M 74 4, V, S) (1, 0, 0, M24 74 1, [], []))  -- p1.ho
          intro q; have := qo q; rw [show (if v1 = 0 then v22 else 1 - v22) = 0 by split <;> omega] at this; exact this
      · -- b1.2
        refine hP _ _ ⟨?_, ?_, ?_, ?_, ?_⟩
        · show ∀ c i, ¬ (c = 74 ∧ (i = 1 ∨ i = 4)) → M24 c i = M c i  -- p2.hf
          exact qf
        · show 1 = 0 ∨ 1 = 1  -- p2.hr
          exact .inr rfl
        · show 0 ≤ M24 74 4 ∧ M24 74 4 ≤ M 74 3  -- p2.hp
          exact qp
        · show M 74 1 ≠ -4 → M24 = M  -- p2.hz
          exact qz
        · show M 74 1 = -4 → (M24 74 1 = -4 ∧ M 74 4 < M24 74 4 ∧ ∀ V S : List Int, S.headD 0 ≠ 33 → rTo M (0, 1, d, M 74 4, V, S) (0, 0, d, M24 74 4, 1 :: V, S)) ∨ (0 ≤ M24 74 1 ∧ ∀ V S : List Int, S.headD 0 ≠ 33 → rTo M (0, 1, d, M 74 4, V, S) (1, 0, 0, M24 74 1, [], []))  -- p2.ho
          intro q; have := qo q; rw [show (if v1 = 0 then v22 else 1 - v22) = 1 by split <;> omega] at this; exact this
    refine ⟨fun b2 => ?_, fun b2 => ?_⟩
    · -- b2.1
      have gc2 : pr_X7_readComparison M14 := by
        show rC M14
        rw [rfl2]; exact C5
      refine ⟨gc2, ?_⟩
      rintro r28 M29 ⟨pc2_hf, pc2_hb, pc2_hz, pc2_ho⟩ z_r28 z_M29
      have ho2 := pc2_ho
      unfold rT at ho2
      rw [rfl2, T5.1, T5.2.1, T5.2.2, e51] at ho2
      have tb := gTs_b (T := M (M 74 2)) (n := M 74 3) (φ := M 75) (p := M5 74 4) (by omega) kp.2
      refine k_K68 _ _ ?_ ?_ ?_ ?_ ?_
      · show r28 = 0 ∨ r28 = 1  -- K68.1.k22
        exact pc2_hb
      · show ∀ c i, ¬ (c = 74 ∧ (i = 1 ∨ i = 4)) → M29 c i = M c i  -- K68.1.qf
        intro c i q; rw [pc2_hf c i q, rfl2]; exact kf c i (by omega)
      · show 0 ≤ M29 74 4 ∧ M29 74 4 ≤ M 74 3  -- K68.1.qp
        by_cases q : M 74 1 = -4
        · rcases ho2 q with a | a <;> omega
        · rw [pc2_hz (by rw [rfl2, e51]; exact q), rfl2]; omega
      · show M 74 1 ≠ -4 → M29 = M  -- K68.1.qz
        intro q; rw [pc2_hz (by rw [rfl2, e51]; exact q), rfl2]; exact kz q
      · show M 74 1 = -4 → (M29 74 1 = -4 ∧ M 74 4 < M29 74 4 ∧ ∀ V S : List Int, S.headD 0 ≠ 33 → rTo M (0, 1, d, M 74 4, V, S) (0, 0, d, M29 74 4, (if v1 = 0 then r28 else 1 - r28) :: V, S)) ∨ (0 ≤ M29 74 1 ∧ ∀ V S : List Int, S.headD 0 ≠ 33 → rTo M (0, 1, d, M 74 4, V, S) (1, 0, 0, M29 74 1, [], []))  -- K68.1.qo
        intro q
        rw [if_pos q, eB] at e_r16
        have kq' := kq q
        rw [eB] at kq'
        have ⟨_, ko'⟩ := ko q
        rcases ho2 q with ⟨a, b, c, e⟩ | ⟨a, b, c⟩
        · refine .inl ⟨b, by omega, fun V S h => ?_⟩
          have g := (ko' V S).1.one (gStep_test kq' (by omega) a)
          rw [(ko' V S).2 _ V h, ← e, ← c] at g
          exact g
        · refine .inr ⟨by omega, fun V S h => ?_⟩
          have g := (ko' V S).1.one (gStep_testb kq' (by omega) (by omega))
          rw [← b] at g
          exact g
    · -- b2.2
      have m1 : M 74 1 = -4 := by
        apply Classical.byContradiction
        intro q; rw [if_neg q] at e_r16; omega
      rw [if_pos m1] at e_r16
      have gc3 : pr_X7_readBracket k d M14 := by
        refine ⟨?_, ?_, ?_, ?_⟩
        · show rC M14  -- c3.hC
          rw [rfl2]; exact C5
        · show M14 74 1 = -4  -- c3.h1
          rw [rfl2, e51]; exact m1
        · show rB M14 = 40  -- c3.hb
          rw [rfl2]; omega
        · show 8 - k ≤ d ∧ d ≤ 8 ∧ 0 ≤ d  -- c3.hd
          exact hd
      refine ⟨gc3, ?_⟩
      rintro r34 M35 ⟨pc3_hf, pc3_hr, pc3_hp, pc3_ho⟩ z_r34 z_M35
      rw [rfl2] at pc3_hf pc3_hp pc3_ho
      unfold rTo at pc3_ho
      rw [T5.1, T5.2.1, T5.2.2] at pc3_ho
      have ⟨_, ko'⟩ := ko m1
      refine k_K68 _ _ ?_ ?_ ?_ ?_ ?_
      · show r34 = 0 ∨ r34 = 1  -- K68.2.k22
        exact pc3_hr
      · show ∀ c i, ¬ (c = 74 ∧ (i = 1 ∨ i = 4)) → M35 c i = M c i  -- K68.2.qf
        intro c i q; rw [pc3_hf c i q]; exact kf c i (by omega)
      · show 0 ≤ M35 74 4 ∧ M35 74 4 ≤ M 74 3  -- K68.2.qp
        rw [← T5.2.1]; exact pc3_hp
      · show M 74 1 ≠ -4 → M35 = M  -- K68.2.qz
        intro q; exact absurd m1 q
      · show M 74 1 = -4 → (M35 74 1 = -4 ∧ M 74 4 < M35 74 4 ∧ ∀ V S : List Int, S.headD 0 ≠ 33 → rTo M (0, 1, d, M 74 4, V, S) (0, 0, d, M35 74 4, (if v1 = 0 then r34 else 1 - r34) :: V, S)) ∨ (0 ≤ M35 74 1 ∧ ∀ V S : List Int, S.headD 0 ≠ 33 → rTo M (0, 1, d, M 74 4, V, S) (1, 0, 0, M35 74 1, [], []))  -- K68.2.qo
        intro _
        rcases pc3_ho with ⟨b, c, g⟩ | ⟨b, g⟩
        · refine .inl ⟨b, by omega, fun V S h => ?_⟩
          have x := (ko' V S).1.tr (g V _)
          rw [(ko' V S).2 _ V h] at x
          exact x
        · exact .inr ⟨b, fun V S h => (ko' V S).1.tr (g V _)⟩
  refine ⟨fun b3 => ?_, fun b3 => ?_⟩
  · -- b3.1
    refine k_K47 _ ?_ ?_
    · show M5 = M5  -- K47.1.rfl2
      rfl
    · show M 74 1 = -4 → rB M5 ≠ 33  -- K47.1.kq
      intro q; have := (ko q).1; rw [C5.end (by rw [T5.2.1]; omega)]; decide
  · -- b3.2
    have gc4 : pr_X7_byteAhead M5 := by
      show rC M5
      exact C5
    refine ⟨gc4, ?_⟩
    rintro r41 M42 ⟨q_rfl, e_r41⟩ z_r41 z_M42
    have q_rfl := q_rfl.symm
    subst q_rfl
    rw [e51] at e_r41
    refine ⟨fun b4 => ?_, fun b4 => ?_⟩
    · -- b4.1
      refine k_K47 _ ?_ ?_
      · show M5 = M5  -- K47.2.rfl2
        rfl
      · show M 74 1 = -4 → rB M5 ≠ 33  -- K47.2.kq
        intro q; rw [if_pos q] at e_r41; omega
    · -- b4.2
      have m1 : M 74 1 = -4 := by
        apply Classical.byContradiction
        intro q; rw [if_neg q] at e_r41; omega
      rw [if_pos m1] at e_r41
      have atl := C5.at (c := 33) (by omega) (by decide)
      have st : ∀ V S : List Int, gStep (M (M 74 2)) (M 74 3) (M 75) (0, 1, d, M5 74 4, V, S) = some (0, 1, d, M5 74 4 + 1, V, 33 :: S) := fun V S => gStep_not (by rw [← eB]; omega)
      have ⟨kl, ko'⟩ := ko m1
      have tn : Int.toNat (v2 + 1) = Int.toNat v2 + 1 := by omega
      have o1 : zin ((M5 74 4) + 1) := by
        omega
      refine ⟨o1, ?_⟩
      intro M49 e_M49
      have m4 : M49 74 4 = M5 74 4 + 1 := by rw [e_M49, zset_s]
      refine ⟨fun b5 => ?_, fun b5 => ?_⟩
      · -- b5.1
        have o2 : zin (v2 + 1) := by
          first | with_reducible assumption | omega | exact trivial | with_reducible rfl  -- o2
        refine ⟨o2, ?_⟩
        refine ⟨Int.toNat (200 - (v2 + 1)), by omega, by omega, ?_, ?_, ?_, ?_, ?_, ?_⟩
        · show 0 ≤ (v2 + 1) ∧ (v2 + 1) ≤ M 74 3  -- I4.1.hv
          first | with_reducible assumption | omega | exact trivial | with_reducible rfl
        · show 0 = 0 ∨ 0 = 1  -- I4.1.h01
          exact .inl rfl
        · show ∀ c i, ¬ (c = 74 ∧ i = 4) → M49 c i = M c i  -- I4.1.kf
          intro c i q; rw [e_M49, zset_n _ (by omega)]; exact kf c i q
        · show M 74 1 ≠ -4 → M49 = M  -- I4.1.kz
          intro q; exact absurd m1 q
        · show M 74 4 ≤ M49 74 4 ∧ M49 74 4 ≤ M 74 3  -- I4.1.kp
          rw [m4]; have := T5.2.1; omega
        · show M 74 1 = -4 → (v2 + 1) ≤ M49 74 4 ∧ ∀ V S : List Int, rTo M (0, 1, d, M 74 4, V, S) (0, 1, d, M49 74 4, V, gRp (Int.toNat (v2 + 1)) S) ∧ ∀ (x : Int) (W : List Int), S.headD 0 ≠ 33 → gTe (x :: W) (gRp (Int.toNat (v2 + 1)) S) = ((if 0 = 0 then x else 1 - x) :: W, S)  -- I4.1.ko
          intro _; rw [m4]; refine ⟨by omega, fun V S => ?_⟩
          rw [tn]
          refine ⟨(ko' V S).1.one (st V _), fun x W h => ?_⟩
          show gTe (x :: W) (33 :: gRp (Int.toNat v2) S) = _
          rw [gTe_y, (ko' V S).2 _ W h, if_neg b5, if_pos rfl, show 1 - (1 - x) = x by omega]
      · -- b5.2
        have o3 : zin (v2 + 1) := by
          first | with_reducible assumption | omega | exact trivial | with_reducible rfl  -- o3
        refine ⟨o3, ?_⟩
        refine ⟨Int.toNat (200 - (v2 + 1)), by omega, by omega, ?_, ?_, ?_, ?_, ?_, ?_⟩
        · show 0 ≤ (v2 + 1) ∧ (v2 + 1) ≤ M 74 3  -- I4.2.hv
          first | with_reducible assumption | omega | exact trivial | with_reducible rfl
        · show 1 = 0 ∨ 1 = 1  -- I4.2.h01
          exact .inr rfl
        · show ∀ c i, ¬ (c = 74 ∧ i = 4) → M49 c i = M c i  -- I4.2.kf
          intro c i q; rw [e_M49, zset_n _ (by omega)]; exact kf c i q
        · show M 74 1 ≠ -4 → M49 = M  -- I4.2.kz
          intro q; exact absurd m1 q
        · show M 74 4 ≤ M49 74 4 ∧ M49 74 4 ≤ M 74 3  -- I4.2.kp
          rw [m4]; have := T5.2.1; omega
        · show M 74 1 = -4 → (v2 + 1) ≤ M49 74 4 ∧ ∀ V S : List Int, rTo M (0, 1, d, M 74 4, V, S) (0, 1, d, M49 74 4, V, gRp (Int.toNat (v2 + 1)) S) ∧ ∀ (x : Int) (W : List Int), S.headD 0 ≠ 33 → gTe (x :: W) (gRp (Int.toNat (v2 + 1)) S) = ((if 1 = 0 then x else 1 - x) :: W, S)  -- I4.2.ko
          intro _; rw [m4]; refine ⟨by omega, fun V S => ?_⟩
          rw [tn]
          refine ⟨(ko' V S).1.one (st V _), fun x W h => ?_⟩
          show gTe (x :: W) (33 :: gRp (Int.toNat v2) S) = _
          rw [gTe_y, (ko' V S).2 _ W h, if_pos b5, if_neg (by decide)]

set_option maxHeartbeats 1000000 in
theorem ok_X7_readAnd {k : Int} {d1 : Nat} (h1 : zSnd zS 145 0 0 yX7_readTest cX7_readTest 4 (some .boolean) d1 [2, 0] (F_X7_readTest (pr_X7_readTest k) po_X7_readTest)) {d0 : Nat} (hd1 : d1 + 1 ≤ d0) (hd0 : 5 ≤ d0) : zSnd zS 145 0 0 yX7_readAnd cX7_readAnd 5 (some .boolean) d0 [2, 0] (F_X7_readAnd (pr_X7_readAnd k) po_X7_readAnd) := by
  refine (sn_X7_readAnd hd1 (by omega) h1 ok_X7_byteAhead).mono ?_
  rintro xs P M hz hR ⟨d, rfl, ⟨hC, hd⟩, hP⟩
  refine ⟨_, rfl, ?_⟩
  have z_d := zall_h (zall_t hz) (by decide)
  change vc_X7_readAnd (pr_X7_readTest k) po_X7_readTest pr_X7_byteAhead po_X7_byteAhead d P M
  unfold vc_X7_readAnd
  have rn := hC.2.2.1
  have rp := hC.2.2.2.1
  have gc1 : pr_X7_readTest k d M := by
    refine ⟨?_, ?_⟩
    · show rC M  -- c1.hC
      exact hC
    · show 8 - k ≤ d ∧ d ≤ 8 ∧ 0 ≤ d  -- c1.hd
      exact hd
  refine ⟨gc1, ?_⟩
  rintro r1 M2 ⟨pc1_hf, pc1_hr, pc1_hp, pc1_hz, pc1_ho⟩ z_r1 z_M2
  refine ⟨fun v7 v8 M11 n13 => (n13 : Int) = (200 - v8) ∧ (0 ≤ v8 ∧ v8 ≤ M 74 3) ∧ (v7 = 0 ∨ v7 = 1) ∧ (∀ c i, ¬ (c = 74 ∧ (i = 1 ∨ i = 4)) → M11 c i = M c i) ∧ (M 74 1 ≠ -4 → M11 = M) ∧ (0 ≤ M11 74 4 ∧ M11 74 4 ≤ M 74 3) ∧ (M 74 1 = -4 → (M11 74 1 = -4 ∧ M 74 4 < M11 74 4 ∧ v8 < M11 74 4 ∧ ∀ V S : List Int, S.headD 0 ≠ 33 → S.headD 0 ≠ 38 → ∃ V' S', rTo M (0, 1, d, M 74 4, V, S) (0, 0, d, M11 74 4, V', S') ∧ gJ 38 V' S' = (v7 :: V, S)) ∨ (0 ≤ M11 74 1 ∧ ∀ V S : List Int, S.headD 0 ≠ 33 → S.headD 0 ≠ 38 → rTo M (0, 1, d, M 74 4, V, S) (1, 0, 0, M11 74 1, [], []))), ⟨Int.toNat (200 - 0), by omega, ?_, ?_, ?_, ?_, ?_, ?_⟩, ?_⟩
  · show 0 ≤ 0 ∧ 0 ≤ M 74 3  -- I8.0.hv
    first | with_reducible assumption | omega | exact trivial | with_reducible rfl
  · show r1 = 0 ∨ r1 = 1  -- I8.0.h01
    exact pc1_hr
  · show ∀ c i, ¬ (c = 74 ∧ (i = 1 ∨ i = 4)) → M2 c i = M c i  -- I8.0.kf
    exact pc1_hf
  · show M 74 1 ≠ -4 → M2 = M  -- I8.0.kz
    exact pc1_hz
  · show 0 ≤ M2 74 4 ∧ M2 74 4 ≤ M 74 3  -- I8.0.kp
    exact pc1_hp
  · show M 74 1 = -4 → (M2 74 1 = -4 ∧ M 74 4 < M2 74 4 ∧ 0 < M2 74 4 ∧ ∀ V S : List Int, S.headD 0 ≠ 33 → S.headD 0 ≠ 38 → ∃ V' S', rTo M (0, 1, d, M 74 4, V, S) (0, 0, d, M2 74 4, V', S') ∧ gJ 38 V' S' = (r1 :: V, S)) ∨ (0 ≤ M2 74 1 ∧ ∀ V S : List Int, S.headD 0 ≠ 33 → S.headD 0 ≠ 38 → rTo M (0, 1, d, M 74 4, V, S) (1, 0, 0, M2 74 1, [], []))  -- I8.0.ko
    intro q
    rcases pc1_ho q with ⟨a, b, c⟩ | ⟨a, c⟩
    · exact .inl ⟨a, b, by omega, fun V S h h2 => ⟨_, _, c V S h, gJ_hd (by decide) h2⟩⟩
    · exact .inr ⟨a, fun V S h _ => c V S h⟩
  rintro v7 v8 M11 n13 ⟨h_n13, hv, h01, kf, kz, kp, ko⟩ z_v7 z_v8 z_M11
  have C5 := hC.fr (M' := M11) kf kp
  have T5 := hC.T (M' := M11) kf
  have eB : rB M11 = gBy (M (M 74 2)) (M 74 3) (M11 74 4) := by unfold rB; rw [T5.1, T5.2.1]
  refine ⟨fun b1 => ?_, fun b1 => ?_⟩
  · -- b1.1
    have o1 : (v7 = 0 ∨ v7 = 1) := by
      first | with_reducible assumption | omega | exact trivial | with_reducible rfl  -- o1
    refine ⟨o1, ?_⟩
    refine hP _ _ ⟨?_, ?_, ?_, ?_, ?_⟩
    · show ∀ c i, ¬ (c = 74 ∧ (i = 1 ∨ i = 4)) → M11 c i = M c i  -- p1.hf
      exact kf
    · show v7 = 0 ∨ v7 = 1  -- p1.hr
      exact h01
    · show 0 ≤ M11 74 4 ∧ M11 74 4 ≤ M 74 3  -- p1.hp
      exact kp
    · show M 74 1 ≠ -4 → M11 = M  -- p1.hz
      exact kz
    · show M 74 1 = -4 → (M11 74 1 = -4 ∧ M 74 4 < M11 74 4 ∧ rB M11 ≠ 38 ∧ ∀ V S : List Int, S.headD 0 ≠ 33 → S.headD 0 ≠ 38 → ∃ V' S', rTo M (0, 1, d, M 74 4, V, S) (0, 0, d, M11 74 4, V', S') ∧ gJ 38 V' S' = (v7 :: V, S)) ∨ (0 ≤ M11 74 1 ∧ ∀ V S : List Int, S.headD 0 ≠ 33 → S.headD 0 ≠ 38 → rTo M (0, 1, d, M 74 4, V, S) (1, 0, 0, M11 74 1, [], []))  -- p1.ho
      intro q
      rcases ko q with ⟨a, b, c, e⟩ | a
      · exact .inl ⟨a, b, by rw [C5.end (by rw [T5.2.1]; omega)]; decide, e⟩
      · exact .inr a
  · -- b1.2
    have gc2 : pr_X7_byteAhead M11 := by
      show rC M11
      exact C5
    refine ⟨gc2, ?_⟩
    rintro r22 M23 ⟨q_rfl, e_r22⟩ z_r22 z_M23
    have q_rfl := q_rfl.symm
    subst q_rfl
    refine ⟨fun b2 => ?_, fun b2 => ?_⟩
    · -- b2.1
      have o2 : (v7 = 0 ∨ v7 = 1) := by
        first | with_reducible assumption | omega | exact trivial | with_reducible rfl  -- o2
      refine ⟨o2, ?_⟩
      refine hP _ _ ⟨?_, ?_, ?_, ?_, ?_⟩
      · show ∀ c i, ¬ (c = 74 ∧ (i = 1 ∨ i = 4)) → M11 c i = M c i  -- p2.hf
        exact kf
      · show v7 = 0 ∨ v7 = 1  -- p2.hr
        exact h01
      · show 0 ≤ M11 74 4 ∧ M11 74 4 ≤ M 74 3  -- p2.hp
        exact kp
      · show M 74 1 ≠ -4 → M11 = M  -- p2.hz
        exact kz
      · show M 74 1 = -4 → (M11 74 1 = -4 ∧ M 74 4 < M11 74 4 ∧ rB M11 ≠ 38 ∧ ∀ V S : List Int, S.headD 0 ≠ 33 → S.headD 0 ≠ 38 → ∃ V' S', rTo M (0, 1, d, M 74 4, V, S) (0, 0, d, M11 74 4, V', S') ∧ gJ 38 V' S' = (v7 :: V, S)) ∨ (0 ≤ M11 74 1 ∧ ∀ V S : List Int, S.headD 0 ≠ 33 → S.headD 0 ≠ 38 → rTo M (0, 1, d, M 74 4, V, S) (1, 0, 0, M11 74 1, [], []))  -- p2.ho
        intro q
        rcases ko q with ⟨a, b, c, e⟩ | a
        · exact .inl ⟨a, b, by rw [if_pos a] at e_r22; omega, e⟩
        · exact .inr a
    · -- b2.2
      have m1 : M11 74 1 = -4 := by
        apply Classical.byContradiction
        intro q; rw [if_neg q] at e_r22; omega
      rw [if_pos m1] at e_r22
      have k1 : M 74 1 = -4 := by
        apply Classical.byContradiction
        intro q; rw [kz q] at m1; exact q m1
      have atl := C5.at (c := 38) (by omega) (by decide)
      have ⟨kl, kk, ko'⟩ : M 74 4 < M11 74 4 ∧ v8 < M11 74 4 ∧ ∀ V S : List Int, S.headD 0 ≠ 33 → S.headD 0 ≠ 38 → ∃ V' S', rTo M (0, 1, d, M 74 4, V, S) (0, 0, d, M11 74 4, V', S') ∧ gJ 38 V' S' = (v7 :: V, S) := by
        rcases ko k1 with a | a
        · exact a.2
        · omega
      have b38 : gBy (M (M 74 2)) (M 74 3) (M11 74 4) = 38 := by rw [← eB]; omega
      have t52 := T5.2.1
      have o3 : zin ((M11 74 4) + 1) := by
        omega
      refine ⟨o3, ?_⟩
      intro M31 e_M31
      have m4 : M31 74 4 = M11 74 4 + 1 := by rw [e_M31, zset_s]
      have f31 : ∀ c i, ¬ (c = 74 ∧ i = 4) → M31 c i = M11 c i := fun c i k => by rw [e_M31, zset_n _ (by omega)]
      have C6 : rC M31 := C5.fr (fun c i k => f31 c i (by omega)) (by omega)
      have T6 := C5.T (M' := M31) (fun c i k => f31 c i (by omega))
      have m31 : M31 74 1 = -4 := by rw [f31 74 1 (by omega)]; exact m1
      have gc3 : pr_X7_readTest k d M31 := by
        refine ⟨?_, ?_⟩
        · show rC M31  -- c3.hC
          exact C6
        · show 8 - k ≤ d ∧ d ≤ 8 ∧ 0 ≤ d  -- c3.hd
          exact hd
      refine ⟨gc3, ?_⟩
      rintro r34 M35 ⟨pc3_hf, pc3_hr, pc3_hp, pc3_hz, pc3_ho⟩ z_r34 z_M35
      have ho3 := pc3_ho m31
      unfold rTo at ho3
      rw [T6.1, T6.2.1, T6.2.2, T5.1, T5.2.1, T5.2.2, m4] at ho3
      have nf : ∀ c i, ¬ (c = 74 ∧ (i = 1 ∨ i = 4)) → M35 c i = M c i := fun c i k => by rw [pc3_hf c i k, f31 c i (by omega)]; exact kf c i k
      have np : 0 ≤ M35 74 4 ∧ M35 74 4 ≤ M 74 3 := by have := pc3_hp; have := T6.2.1; omega
      have R : ∀ x, x = gCb 38 v7 r34 → (M35 74 1 = -4 ∧ M 74 4 < M35 74 4 ∧ v8 + 1 < M35 74 4 ∧ ∀ V S : List Int, S.headD 0 ≠ 33 → S.headD 0 ≠ 38 → ∃ V' S', rTo M (0, 1, d, M 74 4, V, S) (0, 0, d, M35 74 4, V', S') ∧ gJ 38 V' S' = (x :: V, S)) ∨ (0 ≤ M35 74 1 ∧ ∀ V S : List Int, S.headD 0 ≠ 33 → S.headD 0 ≠ 38 → rTo M (0, 1, d, M 74 4, V, S) (1, 0, 0, M35 74 1, [], [])) := by
        intro x hx
        have st : ∀ V S : List Int, S.headD 0 ≠ 33 → S.headD 0 ≠ 38 → rTo M (0, 1, d, M 74 4, V, S) (0, 1, d, M11 74 4 + 1, v7 :: V, 38 :: S) := fun V S h h2 => by
          obtain ⟨V', S', g, e⟩ := ko' V S h h2
          refine g.one ?_
          rw [gStep_and (by omega) b38, e]
        have q33 : ∀ S : List Int, (38 :: S).headD 0 ≠ 33 := fun S => by show (38 : Int) ≠ 33; decide
        rcases ho3 with ⟨a, b, c⟩ | ⟨a, c⟩
        · refine .inl ⟨a, by omega, by omega, fun V S h h2 => ⟨_, _, (st V S h h2).tr (c (v7 :: V) (38 :: S) (q33 S)), ?_⟩⟩
          rw [gJ_y, gJ_hd (by decide) h2, hx]
        · exact .inr ⟨a, fun V S h h2 => (st V S h h2).tr (c (v7 :: V) (38 :: S) (q33 S))⟩
      refine ⟨fun b3 => ?_, fun b3 => ?_⟩
      · -- b3.1
        have o4 : zin (v8 + 1) := by
          first | with_reducible assumption | omega | exact trivial | with_reducible rfl  -- o4
        refine ⟨o4, ?_⟩
        refine ⟨Int.toNat (200 - (v8 + 1)), by omega, by omega, ?_, ?_, ?_, ?_, ?_, ?_⟩
        · show 0 ≤ (v8 + 1) ∧ (v8 + 1) ≤ M 74 3  -- I8.1.hv
          first | with_reducible assumption | omega | exact trivial | with_reducible rfl
        · show 0 = 0 ∨ 0 = 1  -- I8.1.h01
          exact .inl rfl
        · show ∀ c i, ¬ (c = 74 ∧ (i = 1 ∨ i = 4)) → M35 c i = M c i  -- I8.1.kf
          exact nf
        · show M 74 1 ≠ -4 → M35 = M  -- I8.1.kz
          intro q; exact absurd k1 q
        · show 0 ≤ M35 74 4 ∧ M35 74 4 ≤ M 74 3  -- I8.1.kp
          exact np
        · show M 74 1 = -4 → (M35 74 1 = -4 ∧ M 74 4 < M35 74 4 ∧ (v8 + 1) < M35 74 4 ∧ ∀ V S : List Int, S.headD 0 ≠ 33 → S.headD 0 ≠ 38 → ∃ V' S', rTo M (0, 1, d, M 74 4, V, S) (0, 0, d, M35 74 4, V', S') ∧ gJ 38 V' S' = (0 :: V, S)) ∨ (0 ≤ M35 74 1 ∧ ∀ V S : List Int, S.headD 0 ≠ 33 → S.headD 0 ≠ 38 → rTo M (0, 1, d, M 74 4, V, S) (1, 0, 0, M35 74 1, [], []))  -- I8.1.ko
          intro _; exact R _ (by unfold gCb; rw [if_pos rfl, if_neg (fun z => z.1 b3)])
      · -- b3.2
        refine ⟨fun b4 => ?_, fun b4 => ?_⟩
        · -- b4.1
          have o5 : zin (v8 + 1) := by
            first | with_reducible assumption | omega | exact trivial | with_reducible rfl  -- o5
          refine ⟨o5, ?_⟩
          refine ⟨Int.toNat (200 - (v8 + 1)), by omega, by omega, ?_, ?_, ?_, ?_, ?_, ?_⟩
          · show 0 ≤ (v8 + 1) ∧ (v8 + 1) ≤ M 74 3  -- I8.2.hv
            first | with_reducible assumption | omega | exact trivial | with_reducible rfl
          · show 0 = 0 ∨ 0 = 1  -- I8.2.h01
            exact .inl rfl
          · show ∀ c i, ¬ (c = 74 ∧ (i = 1 ∨ i = 4)) → M35 c i = M c i  -- I8.2.kf
            exact nf
          · show M 74 1 ≠ -4 → M35 = M  -- I8.2.kz
            intro q; exact absurd k1 q
          · show 0 ≤ M35 74 4 ∧ M35 74 4 ≤ M 74 3  -- I8.2.kp
            exact np
          · show M 74 1 = -4 → (M35 74 1 = -4 ∧ M 74 4 < M35 74 4 ∧ (v8 + 1) < M35 74 4 ∧ ∀ V S : List Int, S.headD 0 ≠ 33 → S.headD 0 ≠ 38 → ∃ V' S', rTo M (0, 1, d, M 74 4, V, S) (0, 0, d, M35 74 4, V', S') ∧ gJ 38 V' S' = (0 :: V, S)) ∨ (0 ≤ M35 74 1 ∧ ∀ V S : List Int, S.headD 0 ≠ 33 → S.headD 0 ≠ 38 → rTo M (0, 1, d, M 74 4, V, S) (1, 0, 0, M35 74 1, [], []))  -- I8.2.ko
            intro _; exact R _ (by unfold gCb; rw [if_pos rfl, if_neg (fun z => z.2 b4)])
        · -- b4.2
          have o6 : zin (v8 + 1) := by
            first | with_reducible assumption | omega | exact trivial | with_reducible rfl  -- o6
          refine ⟨o6, ?_⟩
          refine ⟨Int.toNat (200 - (v8 + 1)), by omega, by omega, ?_, ?_, ?_, ?_, ?_, ?_⟩
          · show 0 ≤ (v8 + 1) ∧ (v8 + 1) ≤ M 74 3  -- I8.3.hv
            first | with_reducible assumption | omega | exact trivial | with_reducible rfl
          · show 1 = 0 ∨ 1 = 1  -- I8.3.h01
            exact .inr rfl
          · show ∀ c i, ¬ (c = 74 ∧ (i = 1 ∨ i = 4)) → M35 c i = M c i  -- I8.3.kf
            exact nf
          · show M 74 1 ≠ -4 → M35 = M  -- I8.3.kz
            intro q; exact absurd k1 q
          · show 0 ≤ M35 74 4 ∧ M35 74 4 ≤ M 74 3  -- I8.3.kp
            exact np
          · show M 74 1 = -4 → (M35 74 1 = -4 ∧ M 74 4 < M35 74 4 ∧ (v8 + 1) < M35 74 4 ∧ ∀ V S : List Int, S.headD 0 ≠ 33 → S.headD 0 ≠ 38 → ∃ V' S', rTo M (0, 1, d, M 74 4, V, S) (0, 0, d, M35 74 4, V', S') ∧ gJ 38 V' S' = (1 :: V, S)) ∨ (0 ≤ M35 74 1 ∧ ∀ V S : List Int, S.headD 0 ≠ 33 → S.headD 0 ≠ 38 → rTo M (0, 1, d, M 74 4, V, S) (1, 0, 0, M35 74 1, [], []))  -- I8.3.ko
            intro _; exact R _ (by unfold gCb; rw [if_pos rfl, if_pos ⟨b3, b4⟩])

set_option maxHeartbeats 1000000 in
theorem ok_X7_readOr {k : Int} {d1 : Nat} (h1 : zSnd zS 145 0 0 yX7_readAnd cX7_readAnd 5 (some .boolean) d1 [2, 0] (F_X7_readAnd (pr_X7_readAnd k) po_X7_readAnd)) {d0 : Nat} (hd1 : d1 + 1 ≤ d0) (hd0 : 5 ≤ d0) : zSnd zS 145 0 0 yX7_readOr cX7_readOr 5 (some .boolean) d0 [2, 0] (F_X7_readOr (pr_X7_readOr k) po_X7_readOr) := by
  refine (sn_X7_readOr hd1 (by omega) h1 ok_X7_byteAhead).mono ?_
  rintro xs P M hz hR ⟨d, rfl, ⟨hC, hd⟩, hP⟩
  refine ⟨_, rfl, ?_⟩
  have z_d := zall_h (zall_t hz) (by decide)
  change vc_X7_readOr (pr_X7_readAnd k) po_X7_readAnd pr_X7_byteAhead po_X7_byteAhead d P M
  unfold vc_X7_readOr
  have rn := hC.2.2.1
  have rp := hC.2.2.2.1
  have gc1 : pr_X7_readAnd k d M := by
    refine ⟨?_, ?_⟩
    · show rC M  -- c1.hC
      exact hC
    · show 8 - k ≤ d ∧ d ≤ 8 ∧ 0 ≤ d  -- c1.hd
      exact hd
  refine ⟨gc1, ?_⟩
  rintro r1 M2 ⟨pc1_hf, pc1_hr, pc1_hp, pc1_hz, pc1_ho⟩ z_r1 z_M2
  refine ⟨fun v7 v8 M11 n13 => (n13 : Int) = (200 - v8) ∧ (0 ≤ v8 ∧ v8 ≤ M 74 3) ∧ (v7 = 0 ∨ v7 = 1) ∧ (∀ c i, ¬ (c = 74 ∧ (i = 1 ∨ i = 4)) → M11 c i = M c i) ∧ (M 74 1 ≠ -4 → M11 = M) ∧ (0 ≤ M11 74 4 ∧ M11 74 4 ≤ M 74 3) ∧ (M 74 1 = -4 → (M11 74 1 = -4 ∧ M 74 4 < M11 74 4 ∧ v8 < M11 74 4 ∧ rB M11 ≠ 38 ∧ ∀ V S : List Int, S.headD 0 ≠ 33 → S.headD 0 ≠ 38 → S.headD 0 ≠ 124 → ∃ V' S', rTo M (0, 1, d, M 74 4, V, S) (0, 0, d, M11 74 4, V', S') ∧ gJJ V' S' = (v7 :: V, S)) ∨ (0 ≤ M11 74 1 ∧ ∀ V S : List Int, S.headD 0 ≠ 33 → S.headD 0 ≠ 38 → S.headD 0 ≠ 124 → rTo M (0, 1, d, M 74 4, V, S) (1, 0, 0, M11 74 1, [], []))), ⟨Int.toNat (200 - 0), by omega, ?_, ?_, ?_, ?_, ?_, ?_⟩, ?_⟩
  · show 0 ≤ 0 ∧ 0 ≤ M 74 3  -- I8.0.hv
    first | with_reducible assumption | omega | exact trivial | with_reducible rfl
  · show r1 = 0 ∨ r1 = 1  -- I8.0.h01
    exact pc1_hr
  · show ∀ c i, ¬ (c = 74 ∧ (i = 1 ∨ i = 4)) → M2 c i = M c i  -- I8.0.kf
    exact pc1_hf
  · show M 74 1 ≠ -4 → M2 = M  -- I8.0.kz
    exact pc1_hz
  · show 0 ≤ M2 74 4 ∧ M2 74 4 ≤ M 74 3  -- I8.0.kp
    exact pc1_hp
  · show M 74 1 = -4 → (M2 74 1 = -4 ∧ M 74 4 < M2 74 4 ∧ 0 < M2 74 4 ∧ rB M2 ≠ 38 ∧ ∀ V S : List Int, S.headD 0 ≠ 33 → S.headD 0 ≠ 38 → S.headD 0 ≠ 124 → ∃ V' S', rTo M (0, 1, d, M 74 4, V, S) (0, 0, d, M2 74 4, V', S') ∧ gJJ V' S' = (r1 :: V, S)) ∨ (0 ≤ M2 74 1 ∧ ∀ V S : List Int, S.headD 0 ≠ 33 → S.headD 0 ≠ 38 → S.headD 0 ≠ 124 → rTo M (0, 1, d, M 74 4, V, S) (1, 0, 0, M2 74 1, [], []))  -- I8.0.ko
    intro q
    rcases pc1_ho q with ⟨a, b, e, c⟩ | ⟨a, c⟩
    · refine .inl ⟨a, b, by omega, e, fun V S h h2 h3 => ?_⟩
      obtain ⟨V', S', g, e⟩ := c V S h h2
      exact ⟨V', S', g, by unfold gJJ; rw [e]; exact gJ_hd (by decide) h3⟩
    · exact .inr ⟨a, fun V S h h2 _ => c V S h h2⟩
  rintro v7 v8 M11 n13 ⟨h_n13, hv, h01, kf, kz, kp, ko⟩ z_v7 z_v8 z_M11
  have C5 := hC.fr (M' := M11) kf kp
  have T5 := hC.T (M' := M11) kf
  have eB : rB M11 = gBy (M (M 74 2)) (M 74 3) (M11 74 4) := by unfold rB; rw [T5.1, T5.2.1]
  refine ⟨fun b1 => ?_, fun b1 => ?_⟩
  · -- b1.1
    have o1 : (v7 = 0 ∨ v7 = 1) := by
      first | with_reducible assumption | omega | exact trivial | with_reducible rfl  -- o1
    refine ⟨o1, ?_⟩
    refine hP _ _ ⟨?_, ?_, ?_, ?_, ?_⟩
    · show ∀ c i, ¬ (c = 74 ∧ (i = 1 ∨ i = 4)) → M11 c i = M c i  -- p1.hf
      exact kf
    · show v7 = 0 ∨ v7 = 1  -- p1.hr
      exact h01
    · show 0 ≤ M11 74 4 ∧ M11 74 4 ≤ M 74 3  -- p1.hp
      exact kp
    · show M 74 1 ≠ -4 → M11 = M  -- p1.hz
      exact kz
    · show M 74 1 = -4 → (M11 74 1 = -4 ∧ M 74 4 < M11 74 4 ∧ (rB M11 ≠ 38 ∧ rB M11 ≠ 124) ∧ ∀ V S : List Int, S.headD 0 ≠ 33 → S.headD 0 ≠ 38 → S.headD 0 ≠ 124 → ∃ V' S', rTo M (0, 1, d, M 74 4, V, S) (0, 0, d, M11 74 4, V', S') ∧ gJJ V' S' = (v7 :: V, S)) ∨ (0 ≤ M11 74 1 ∧ ∀ V S : List Int, S.headD 0 ≠ 33 → S.headD 0 ≠ 38 → S.headD 0 ≠ 124 → rTo M (0, 1, d, M 74 4, V, S) (1, 0, 0, M11 74 1, [], []))  -- p1.ho
      intro q
      rcases ko q with ⟨a, b, c, f, e⟩ | a
      · exact .inl ⟨a, b, ⟨f, by rw [C5.end (by rw [T5.2.1]; omega)]; decide⟩, e⟩
      · exact .inr a
  · -- b1.2
    have gc2 : pr_X7_byteAhead M11 := by
      show rC M11
      exact C5
    refine ⟨gc2, ?_⟩
    rintro r22 M23 ⟨q_rfl, e_r22⟩ z_r22 z_M23
    have q_rfl := q_rfl.symm
    subst q_rfl
    refine ⟨fun b2 => ?_, fun b2 => ?_⟩
    · -- b2.1
      have o2 : (v7 = 0 ∨ v7 = 1) := by
        first | with_reducible assumption | omega | exact trivial | with_reducible rfl  -- o2
      refine ⟨o2, ?_⟩
      refine hP _ _ ⟨?_, ?_, ?_, ?_, ?_⟩
      · show ∀ c i, ¬ (c = 74 ∧ (i = 1 ∨ i = 4)) → M11 c i = M c i  -- p2.hf
        exact kf
      · show v7 = 0 ∨ v7 = 1  -- p2.hr
        exact h01
      · show 0 ≤ M11 74 4 ∧ M11 74 4 ≤ M 74 3  -- p2.hp
        exact kp
      · show M 74 1 ≠ -4 → M11 = M  -- p2.hz
        exact kz
      · show M 74 1 = -4 → (M11 74 1 = -4 ∧ M 74 4 < M11 74 4 ∧ (rB M11 ≠ 38 ∧ rB M11 ≠ 124) ∧ ∀ V S : List Int, S.headD 0 ≠ 33 → S.headD 0 ≠ 38 → S.headD 0 ≠ 124 → ∃ V' S', rTo M (0, 1, d, M 74 4, V, S) (0, 0, d, M11 74 4, V', S') ∧ gJJ V' S' = (v7 :: V, S)) ∨ (0 ≤ M11 74 1 ∧ ∀ V S : List Int, S.headD 0 ≠ 33 → S.headD 0 ≠ 38 → S.headD 0 ≠ 124 → rTo M (0, 1, d, M 74 4, V, S) (1, 0, 0, M11 74 1, [], []))  -- p2.ho
        intro q
        rcases ko q with ⟨a, b, c, f, e⟩ | a
        · exact .inl ⟨a, b, ⟨f, by rw [if_pos a] at e_r22; omega⟩, e⟩
        · exact .inr a
    · -- b2.2
      have m1 : M11 74 1 = -4 := by
        apply Classical.byContradiction
        intro q; rw [if_neg q] at e_r22; omega
      rw [if_pos m1] at e_r22
      have k1 : M 74 1 = -4 := by
        apply Classical.byContradiction
        intro q; rw [kz q] at m1; exact q m1
      have atl := C5.at (c := 124) (by omega) (by decide)
      have ⟨kl, kk, _, ko'⟩ : M 74 4 < M11 74 4 ∧ v8 < M11 74 4 ∧ rB M11 ≠ 38 ∧ ∀ V S : List Int, S.headD 0 ≠ 33 → S.headD 0 ≠ 38 → S.headD 0 ≠ 124 → ∃ V' S', rTo M (0, 1, d, M 74 4, V, S) (0, 0, d, M11 74 4, V', S') ∧ gJJ V' S' = (v7 :: V, S) := by
        rcases ko k1 with a | a
        · exact a.2
        · omega
      have b124 : gBy (M (M 74 2)) (M 74 3) (M11 74 4) = 124 := by rw [← eB]; omega
      have t52 := T5.2.1
      have o3 : zin ((M11 74 4) + 1) := by
        omega
      refine ⟨o3, ?_⟩
      intro M31 e_M31
      have m4 : M31 74 4 = M11 74 4 + 1 := by rw [e_M31, zset_s]
      have f31 : ∀ c i, ¬ (c = 74 ∧ i = 4) → M31 c i = M11 c i := fun c i k => by rw [e_M31, zset_n _ (by omega)]
      have C6 : rC M31 := C5.fr (fun c i k => f31 c i (by omega)) (by omega)
      have T6 := C5.T (M' := M31) (fun c i k => f31 c i (by omega))
      have m31 : M31 74 1 = -4 := by rw [f31 74 1 (by omega)]; exact m1
      have gc3 : pr_X7_readAnd k d M31 := by
        refine ⟨?_, ?_⟩
        · show rC M31  -- c3.hC
          exact C6
        · show 8 - k ≤ d ∧ d ≤ 8 ∧ 0 ≤ d  -- c3.hd
          exact hd
      refine ⟨gc3, ?_⟩
      rintro r34 M35 ⟨pc3_hf, pc3_hr, pc3_hp, pc3_hz, pc3_ho⟩ z_r34 z_M35
      have ho3 := pc3_ho m31
      unfold rTo at ho3
      rw [T6.1, T6.2.1, T6.2.2, T5.1, T5.2.1, T5.2.2, m4] at ho3
      have nf : ∀ c i, ¬ (c = 74 ∧ (i = 1 ∨ i = 4)) → M35 c i = M c i := fun c i k => by rw [pc3_hf c i k, f31 c i (by omega)]; exact kf c i k
      have np : 0 ≤ M35 74 4 ∧ M35 74 4 ≤ M 74 3 := by have := pc3_hp; have := T6.2.1; omega
      have R : ∀ x, x = gCb 124 v7 r34 → (M35 74 1 = -4 ∧ M 74 4 < M35 74 4 ∧ v8 + 1 < M35 74 4 ∧ rB M35 ≠ 38 ∧ ∀ V S : List Int, S.headD 0 ≠ 33 → S.headD 0 ≠ 38 → S.headD 0 ≠ 124 → ∃ V' S', rTo M (0, 1, d, M 74 4, V, S) (0, 0, d, M35 74 4, V', S') ∧ gJJ V' S' = (x :: V, S)) ∨ (0 ≤ M35 74 1 ∧ ∀ V S : List Int, S.headD 0 ≠ 33 → S.headD 0 ≠ 38 → S.headD 0 ≠ 124 → rTo M (0, 1, d, M 74 4, V, S) (1, 0, 0, M35 74 1, [], [])) := by
        intro x hx
        have st : ∀ V S : List Int, S.headD 0 ≠ 33 → S.headD 0 ≠ 38 → S.headD 0 ≠ 124 → rTo M (0, 1, d, M 74 4, V, S) (0, 1, d, M11 74 4 + 1, v7 :: V, 124 :: S) := fun V S h h2 h3 => by
          obtain ⟨V', S', g, e⟩ := ko' V S h h2 h3
          refine g.one ?_
          rw [gStep_or (by omega) b124, e]
        have q33 : ∀ S : List Int, (124 :: S).headD 0 ≠ 33 := fun S => by show (124 : Int) ≠ 33; decide
        have q38 : ∀ S : List Int, (124 :: S).headD 0 ≠ 38 := fun S => by show (124 : Int) ≠ 38; decide
        rcases ho3 with ⟨a, b, f, c⟩ | ⟨a, c⟩
        · refine .inl ⟨a, by omega, by omega, f, fun V S h h2 h3 => ?_⟩
          obtain ⟨V', S', g, e⟩ := c (v7 :: V) (124 :: S) (q33 S) (q38 S)
          refine ⟨V', S', (st V S h h2 h3).tr g, ?_⟩
          unfold gJJ
          rw [e, hx]
          exact gJ_y.trans (gJ_hd (by decide) h3)
        · exact .inr ⟨a, fun V S h h2 h3 => (st V S h h2 h3).tr (c (v7 :: V) (124 :: S) (q33 S) (q38 S))⟩
      refine ⟨fun b3 => ?_, fun b3 => ?_⟩
      · -- b3.1
        have o4 : zin (v8 + 1) := by
          first | with_reducible assumption | omega | exact trivial | with_reducible rfl  -- o4
        refine ⟨o4, ?_⟩
        refine ⟨Int.toNat (200 - (v8 + 1)), by omega, by omega, ?_, ?_, ?_, ?_, ?_, ?_⟩
        · show 0 ≤ (v8 + 1) ∧ (v8 + 1) ≤ M 74 3  -- I8.1.hv
          first | with_reducible assumption | omega | exact trivial | with_reducible rfl
        · show 1 = 0 ∨ 1 = 1  -- I8.1.h01
          exact .inr rfl
        · show ∀ c i, ¬ (c = 74 ∧ (i = 1 ∨ i = 4)) → M35 c i = M c i  -- I8.1.kf
          exact nf
        · show M 74 1 ≠ -4 → M35 = M  -- I8.1.kz
          intro q; exact absurd k1 q
        · show 0 ≤ M35 74 4 ∧ M35 74 4 ≤ M 74 3  -- I8.1.kp
          exact np
        · show M 74 1 = -4 → (M35 74 1 = -4 ∧ M 74 4 < M35 74 4 ∧ (v8 + 1) < M35 74 4 ∧ rB M35 ≠ 38 ∧ ∀ V S : List Int, S.headD 0 ≠ 33 → S.headD 0 ≠ 38 → S.headD 0 ≠ 124 → ∃ V' S', rTo M (0, 1, d, M 74 4, V, S) (0, 0, d, M35 74 4, V', S') ∧ gJJ V' S' = (1 :: V, S)) ∨ (0 ≤ M35 74 1 ∧ ∀ V S : List Int, S.headD 0 ≠ 33 → S.headD 0 ≠ 38 → S.headD 0 ≠ 124 → rTo M (0, 1, d, M 74 4, V, S) (1, 0, 0, M35 74 1, [], []))  -- I8.1.ko
          intro _; exact R _ (by unfold gCb; rw [if_neg (by decide), if_pos (.inl b3)])
      · -- b3.2
        refine ⟨fun b4 => ?_, fun b4 => ?_⟩
        · -- b4.1
          have o5 : zin (v8 + 1) := by
            first | with_reducible assumption | omega | exact trivial | with_reducible rfl  -- o5
          refine ⟨o5, ?_⟩
          refine ⟨Int.toNat (200 - (v8 + 1)), by omega, by omega, ?_, ?_, ?_, ?_, ?_, ?_⟩
          · show 0 ≤ (v8 + 1) ∧ (v8 + 1) ≤ M 74 3  -- I8.2.hv
            first | with_reducible assumption | omega | exact trivial | with_reducible rfl
          · show 0 = 0 ∨ 0 = 1  -- I8.2.h01
            exact .inl rfl
          · show ∀ c i, ¬ (c = 74 ∧ (i = 1 ∨ i = 4)) → M35 c i = M c i  -- I8.2.kf
            exact nf
          · show M 74 1 ≠ -4 → M35 = M  -- I8.2.kz
            intro q; exact absurd k1 q
          · show 0 ≤ M35 74 4 ∧ M35 74 4 ≤ M 74 3  -- I8.2.kp
            exact np
          · show M 74 1 = -4 → (M35 74 1 = -4 ∧ M 74 4 < M35 74 4 ∧ (v8 + 1) < M35 74 4 ∧ rB M35 ≠ 38 ∧ ∀ V S : List Int, S.headD 0 ≠ 33 → S.headD 0 ≠ 38 → S.headD 0 ≠ 124 → ∃ V' S', rTo M (0, 1, d, M 74 4, V, S) (0, 0, d, M35 74 4, V', S') ∧ gJJ V' S' = (0 :: V, S)) ∨ (0 ≤ M35 74 1 ∧ ∀ V S : List Int, S.headD 0 ≠ 33 → S.headD 0 ≠ 38 → S.headD 0 ≠ 124 → rTo M (0, 1, d, M 74 4, V, S) (1, 0, 0, M35 74 1, [], []))  -- I8.2.ko
            intro _; exact R _ (by unfold gCb; rw [if_neg (by decide), if_neg (by omega)])
        · -- b4.2
          have o6 : zin (v8 + 1) := by
            first | with_reducible assumption | omega | exact trivial | with_reducible rfl  -- o6
          refine ⟨o6, ?_⟩
          refine ⟨Int.toNat (200 - (v8 + 1)), by omega, by omega, ?_, ?_, ?_, ?_, ?_, ?_⟩
          · show 0 ≤ (v8 + 1) ∧ (v8 + 1) ≤ M 74 3  -- I8.3.hv
            first | with_reducible assumption | omega | exact trivial | with_reducible rfl
          · show 1 = 0 ∨ 1 = 1  -- I8.3.h01
            exact .inr rfl
          · show ∀ c i, ¬ (c = 74 ∧ (i = 1 ∨ i = 4)) → M35 c i = M c i  -- I8.3.kf
            exact nf
          · show M 74 1 ≠ -4 → M35 = M  -- I8.3.kz
            intro q; exact absurd k1 q
          · show 0 ≤ M35 74 4 ∧ M35 74 4 ≤ M 74 3  -- I8.3.kp
            exact np
          · show M 74 1 = -4 → (M35 74 1 = -4 ∧ M 74 4 < M35 74 4 ∧ (v8 + 1) < M35 74 4 ∧ rB M35 ≠ 38 ∧ ∀ V S : List Int, S.headD 0 ≠ 33 → S.headD 0 ≠ 38 → S.headD 0 ≠ 124 → ∃ V' S', rTo M (0, 1, d, M 74 4, V, S) (0, 0, d, M35 74 4, V', S') ∧ gJJ V' S' = (1 :: V, S)) ∨ (0 ≤ M35 74 1 ∧ ∀ V S : List Int, S.headD 0 ≠ 33 → S.headD 0 ≠ 38 → S.headD 0 ≠ 124 → rTo M (0, 1, d, M 74 4, V, S) (1, 0, 0, M35 74 1, [], []))  -- I8.3.ko
            intro _; exact R _ (by unfold gCb; rw [if_neg (by decide), if_pos (.inr b4)])

theorem ok_X7_readOr_lev : ∀ m : Nat, zSnd zS 145 0 0 yX7_readOr cX7_readOr 5 (some .boolean) (8 + 4 * m) [2, 0] (F_X7_readOr (pr_X7_readOr (m : Int)) po_X7_readOr)
  | 0 => by
    have h : zSnd zS 145 0 0 yX7_readOr cX7_readOr 5 (some .boolean) 3 [2, 0] (F_X7_readOr (pr_X7_readOr (((0 : Nat) : Int) - 1)) po_X7_readOr) := by
      intro l D cA ad t1 t2 xs P M sz hx hF
      obtain ⟨d, _, ⟨_, h⟩, _⟩ := hF
      omega
    have hb := ok_X7_readBracket (d1 := 3) (d0 := 5) h (by decide) (by decide)
    have ht := ok_X7_readTest (d0 := 6) hb (by decide) (by decide)
    have ha := ok_X7_readAnd (d0 := 7) ht (by decide) (by decide)
    have ho := ok_X7_readOr (d0 := 8) ha (by decide) (by decide)
    exact ho
  | m + 1 => by
    have h := ok_X7_readOr_lev m
    have e : (m : Int) = ((m + 1 : Nat) : Int) - 1 := by omega
    rw [e] at h
    have hb := ok_X7_readBracket (d0 := 9 + 4 * m) h (by omega) (by omega)
    have ht := ok_X7_readTest (d0 := 10 + 4 * m) hb (by omega) (by omega)
    have ha := ok_X7_readAnd (d0 := 11 + 4 * m) ht (by omega) (by omega)
    have ho := ok_X7_readOr (d0 := 8 + 4 * (m + 1)) ha (by omega) (by omega)
    exact ho
theorem ok_X7_readOr8 : zSnd zS 145 0 0 yX7_readOr cX7_readOr 5 (some .boolean) 40 [2, 0] (F_X7_readOr (pr_X7_readOr 8) po_X7_readOr) := ok_X7_readOr_lev 8
