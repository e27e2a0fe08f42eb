theorem gND_0 {G : Int → Int → Int} {f t x y d : Int} (hd : 0 ≤ d ∧ d < 4) (h1 : gIn G f x y ((d + 1) % 4)) (h2 : ¬ gIn G f x y ((d + 2) % 4)) (ht : t = 0) :
    gND G f t x y d = if gIn G f x y ((d + 1) % 4) ∧ ¬ gIn G f x y (((d + 1) % 4 + 3) % 4) then (d + 1) % 4 else if gIn G f x y d ∧ ¬ gIn G f x y ((d + 3) % 4) then d else (d + 3) % 4 := by
  unfold gND
  rw [show ((d + 1) % 4 + 3) % 4 = d by omega]
  by_cases c1 : gIn G f x y d
  · rw [if_neg (show ¬ (gIn G f x y ((d + 1) % 4) ∧ ¬ gIn G f x y d) from fun h => h.2 c1)]
    by_cases c2 : gIn G f x y ((d + 3) % 4)
    · rw [if_pos ⟨c2, .inl c1⟩, if_neg (fun h => h.2 c2)]
    · rw [if_neg (fun h => c2 h.1), if_pos c1, if_pos ⟨c1, c2⟩]
  · rw [if_pos (show gIn G f x y ((d + 1) % 4) ∧ ¬ gIn G f x y d from ⟨h1, c1⟩), if_neg (fun h => h.2.elim c1 (by omega)), if_neg c1]
theorem gND_1 {G : Int → Int → Int} {f t x y d : Int} (hd : 0 ≤ d ∧ d < 4) (h1 : gIn G f x y ((d + 1) % 4)) (h2 : ¬ gIn G f x y ((d + 2) % 4)) (ht : t = 1) :
    gND G f t x y d = if gIn G f x y ((d + 3) % 4) ∧ ¬ gIn G f x y (((d + 3) % 4 + 3) % 4) then (d + 3) % 4 else if gIn G f x y d ∧ ¬ gIn G f x y ((d + 3) % 4) then d else (d + 1) % 4 := by
  unfold gND
  rw [show ((d + 3) % 4 + 3) % 4 = (d + 2) % 4 by omega]
  by_cases c2 : gIn G f x y ((d + 3) % 4)
  · rw [if_pos ⟨c2, .inr ht⟩, if_pos ⟨c2, h2⟩]
  · rw [if_neg (fun h => c2 h.1), if_neg (show ¬ (gIn G f x y ((d + 3) % 4) ∧ ¬ gIn G f x y ((d + 2) % 4)) from fun h => c2 h.1)]
    by_cases c1 : gIn G f x y d
    · rw [if_pos c1, if_pos ⟨c1, c2⟩]
    · rw [if_neg c1, if_neg (fun h => c1 h.1)]
theorem mOf_g {M : zM} {f x y : Int} (hf : 0 ≤ f) : mOf M f x y ↔ zg (M 103 1) (M 103 2) (M 115) x y = f := by
  constructor
  · rintro ⟨a1, a2, a3, a4, a5⟩; rw [zg_i ⟨a1, a2, a3, a4⟩]; exact a5
  · intro e; exact zg_ge e hf
abbrev pr_X12_isEdge (f : Int) (x : Int) (y : Int) (d : Int) (M : zM) : Prop := (mDim M) ∧ (0 ≤ f) ∧ (0 ≤ d ∧ d < 4) ∧ (-5 ≤ x ∧ x ≤ 20) ∧ (-5 ≤ y ∧ y ≤ 20)
abbrev po_X12_isEdge (f : Int) (x : Int) (y : Int) (d : Int) (M : zM) (r : Int) (M' : zM) : Prop := (M' = M) ∧ (zB r (gIn (zg (M 103 1) (M 103 2) (M 115)) f x y d ∧ ¬ gIn (zg (M 103 1) (M 103 2) (M 115)) f x y ((d + 3) % 4)))
set_option maxHeartbeats 1000000 in
theorem ok_X12_isEdge : zSnd zS 145 0 0 yX12_isEdge cX12_isEdge 9 (some .boolean) 1 [2, 0, 0, 0, 0] (F_X12_isEdge pr_X12_isEdge po_X12_isEdge) := by
  refine (sn_X12_isEdge ok_X12_isOf).mono ?_
  rintro xs P M hz hR ⟨f, x, y, d, rfl, ⟨hd, hf, hdd, hx, hy⟩, hP⟩
  refine ⟨_, _, _, _, rfl, ?_⟩
  have z_f := zall_h (zall_t hz) (by decide)
  have z_x := zall_h (zall_t (zall_t hz)) (by decide)
  have z_y := zall_h (zall_t (zall_t (zall_t hz))) (by decide)
  have z_d := zall_h (zall_t (zall_t (zall_t (zall_t hz)))) (by decide)
  change vc_X12_isEdge pr_X12_isOf po_X12_isOf f x y d P M
  unfold vc_X12_isEdge
  intro K18 h_K18
  have k_K18 : ∀ (v1 : Int), (v1 = x + qX d) → K18 v1 := by
    intro v1 hk1
    refine h_K18 _ ?_
    intro z_v1
    intro K38 h_K38
    have k_K38 : ∀ (v3 : Int), (v3 = y + qY d) → K38 v3 := by
      intro v3 hk2
      refine h_K38 _ ?_
      intro z_v3
      intro K58 h_K58
      have k_K58 : ∀ (v5 : Int), (v5 = x + qX ((d + 3) % 4)) → K58 v5 := by
        intro v5 hk3
        refine h_K58 _ ?_
        intro z_v5
        intro K79 h_K79
        have k_K79 : ∀ (v7 : Int), (v7 = y + qY ((d + 3) % 4)) → K79 v7 := by
          intro v7 hk4
          refine h_K79 _ ?_
          intro z_v7
          have gc1 : pr_X12_isOf f v1 v3 M := by
            show mDim M
            first | with_reducible assumption | omega | exact trivial | with_reducible rfl  -- c1.hd
          refine ⟨gc1, ?_⟩
          rintro r9 M10 ⟨q_rfl, e_r9⟩ z_r9 z_M10
          have q_rfl := q_rfl.symm
          subst q_rfl
          have B1 := (zif01 e_r9).iff (mOf_g hf)
          rw [hk1, hk2] at B1
          refine ⟨fun b1 => ?_, fun b1 => ?_⟩
          · -- b1.1
            refine hP _ _ ⟨?_, ?_⟩
            · show M = M  -- p1.rfl
              first | with_reducible assumption | omega | exact trivial | with_reducible rfl
            · show zB 0 (gIn (zg (M 103 1) (M 103 2) (M 115)) f x y d ∧ ¬ gIn (zg (M 103 1) (M 103 2) (M 115)) f x y ((d + 3) % 4))  -- p1.pb
              exact zB.f (fun h => B1.z.1 b1 h.1)
          · -- b1.2
            have gc2 : pr_X12_isOf f v5 v7 M := by
              show mDim M
              first | with_reducible assumption | omega | exact trivial | with_reducible rfl  -- c2.hd
            refine ⟨gc2, ?_⟩
            rintro r16 M17 ⟨q_rfl, e_r16⟩ z_r16 z_M17
            have q_rfl := q_rfl.symm
            subst q_rfl
            have B2 := (zif01 e_r16).iff (mOf_g hf)
            rw [hk3, hk4] at B2
            refine ⟨fun b2 => ?_, fun b2 => ?_⟩
            · -- b2.1
              refine hP _ _ ⟨?_, ?_⟩
              · show M = M  -- p2.rfl
                first | with_reducible assumption | omega | exact trivial | with_reducible rfl
              · show zB 0 (gIn (zg (M 103 1) (M 103 2) (M 115)) f x y d ∧ ¬ gIn (zg (M 103 1) (M 103 2) (M 115)) f x y ((d + 3) % 4))  -- p2.pb
                exact zB.f (fun h => h.2 (B2.ne.1 b2))
            · -- b2.2
              refine hP _ _ ⟨?_, ?_⟩
              · show M = M  -- p3.rfl
                first | with_reducible assumption | omega | exact trivial | with_reducible rfl
              · show zB 1 (gIn (zg (M 103 1) (M 103 2) (M 115)) f x y d ∧ ¬ gIn (zg (M 103 1) (M 103 2) (M 115)) f x y ((d + 3) % 4))  -- p3.pb
                exact zB.t ⟨B1.ne.1 b1, B2.z.1 b2⟩
        intro K72 h_K72
        have k_K72 : (d = 1 ∨ d = 2) → K72  := by
          intro  hq4
          refine h_K72 ?_
          refine k_K79 _ ?_
          · show y = y + qY ((d + 3) % 4)  -- K79.1.hk4
            unfold qY; rw [if_neg (by omega)]; omega
        refine ⟨fun b3 => ?_, fun b3 => ?_⟩
        · -- b3.1
          refine k_K72 ?_
          · show d = 1 ∨ d = 2  -- K72.1.hq4
            first | with_reducible assumption | omega | exact trivial | with_reducible rfl
        · -- b3.2
          refine ⟨fun b4 => ?_, fun b4 => ?_⟩
          · -- b4.1
            have o1 : zin (y - 1) := by
              first | with_reducible assumption | omega | exact trivial | with_reducible rfl  -- o1
            refine ⟨o1, ?_⟩
            refine k_K79 _ ?_
            · show (y - 1) = y + qY ((d + 3) % 4)  -- K79.2.hk4
              unfold qY; rw [if_pos (by omega)]; omega
          · -- b4.2
            refine k_K72 ?_
            · show d = 1 ∨ d = 2  -- K72.2.hq4
              first | with_reducible assumption | omega | exact trivial | with_reducible rfl
      intro K51 h_K51
      have k_K51 : (d = 0 ∨ d = 1) → K51  := by
        intro  hq3
        refine h_K51 ?_
        refine k_K58 _ ?_
        · show x = x + qX ((d + 3) % 4)  -- K58.1.hk3
          unfold qX; rw [if_neg (by omega)]; omega
      refine ⟨fun b5 => ?_, fun b5 => ?_⟩
      · -- b5.1
        refine k_K51 ?_
        · show d = 0 ∨ d = 1  -- K51.1.hq3
          first | with_reducible assumption | omega | exact trivial | with_reducible rfl
      · -- b5.2
        refine ⟨fun b6 => ?_, fun b6 => ?_⟩
        · -- b6.1
          have o2 : zin (x - 1) := by
            first | with_reducible assumption | omega | exact trivial | with_reducible rfl  -- o2
          refine ⟨o2, ?_⟩
          refine k_K58 _ ?_
          · show (x - 1) = x + qX ((d + 3) % 4)  -- K58.2.hk3
            unfold qX; rw [if_pos (by omega)]; omega
        · -- b6.2
          refine k_K51 ?_
          · show d = 0 ∨ d = 1  -- K51.2.hq3
            first | with_reducible assumption | omega | exact trivial | with_reducible rfl
    intro K31 h_K31
    have k_K31 : (d = 0 ∨ d = 1) → K31  := by
      intro  hq2
      refine h_K31 ?_
      refine k_K38 _ ?_
      · show y = y + qY d  -- K38.1.hk2
        unfold qY; rw [if_neg (by omega)]; omega
    refine ⟨fun b7 => ?_, fun b7 => ?_⟩
    · -- b7.1
      refine k_K31 ?_
      · show d = 0 ∨ d = 1  -- K31.1.hq2
        first | with_reducible assumption | omega | exact trivial | with_reducible rfl
    · -- b7.2
      refine ⟨fun b8 => ?_, fun b8 => ?_⟩
      · -- b8.1
        have o3 : zin (y - 1) := by
          first | with_reducible assumption | omega | exact trivial | with_reducible rfl  -- o3
        refine ⟨o3, ?_⟩
        refine k_K38 _ ?_
        · show (y - 1) = y + qY d  -- K38.2.hk2
          unfold qY; rw [if_pos (by omega)]; omega
      · -- b8.2
        refine k_K31 ?_
        · show d = 0 ∨ d = 1  -- K31.2.hq2
          first | with_reducible assumption | omega | exact trivial | with_reducible rfl
  intro K11 h_K11
  have k_K11 : (d = 0 ∨ d = 3) → K11  := by
    intro  hq1
    refine h_K11 ?_
    refine k_K18 _ ?_
    · show x = x + qX d  -- K18.1.hk1
      unfold qX; rw [if_neg (by omega)]; omega
  refine ⟨fun b9 => ?_, fun b9 => ?_⟩
  · -- b9.1
    refine k_K11 ?_
    · show d = 0 ∨ d = 3  -- K11.1.hq1
      first | with_reducible assumption | omega | exact trivial | with_reducible rfl
  · -- b9.2
    refine ⟨fun b10 => ?_, fun b10 => ?_⟩
    · -- b10.1
      have o4 : zin (x - 1) := by
        first | with_reducible assumption | omega | exact trivial | with_reducible rfl  -- o4
      refine ⟨o4, ?_⟩
      refine k_K18 _ ?_
      · show (x - 1) = x + qX d  -- K18.2.hk1
        unfold qX; rw [if_pos (by omega)]; omega
    · -- b10.2
      refine k_K11 ?_
      · show d = 0 ∨ d = 3  -- K11.2.hq1
        first | with_reducible assumption | omega | exact trivial | with_reducible rfl

/-- what the reference has of the border of face f -/
def mBk (M : zM) (f : Int) : Prop :=
  gPer (zg (M 103 1) (M 103 2) (M 115)) f (M 103 5) (gS0 (M 116 f)) (M 103 38) ∧ (∀ k, 0 ≤ k → k < M 103 38 → M 118 k = (gE (zg (M 103 1) (M 103 2) (M 115)) f (M 103 5) (gS0 (M 116 f)) k).2.2) ∧
  (∀ k, 0 ≤ k → k ≤ M 103 38 → M 119 k = (gE (zg (M 103 1) (M 103 2) (M 115)) f (M 103 5) (gS0 (M 116 f)) k).1 ∧ M 120 k = (gE (zg (M 103 1) (M 103 2) (M 115)) f (M 103 5) (gS0 (M 116 f)) k).2.1)
abbrev pr_X12_findBorder (f : Int) (M : zM) : Prop := (mDim M) ∧ (M 103 5 = 0 ∨ M 103 5 = 1) ∧ (mFok M) ∧ (0 ≤ f ∧ f < M 103 30)
abbrev po_X12_findBorder (f : Int) (M : zM) (M' : zM) : Prop := (∀ c i, c ≠ 118 → c ≠ 119 → c ≠ 120 → ¬ (c = 103 ∧ i = 38) → M' c i = M c i) ∧ (mBk M' f)
set_option maxHeartbeats 4000000 in
theorem ok_X12_findBorder : zSnd zS 145 0 0 yX12_findBorder cX12_findBorder 8 none 2 [2, 0] (F_X12_findBorder pr_X12_findBorder po_X12_findBorder) := by
  refine (sn_X12_findBorder ok_X12_isEdge).mono ?_
  rintro xs P M hz hR ⟨f, rfl, ⟨hd, ht, hF, ha⟩, hP⟩
  refine ⟨_, rfl, ?_⟩
  have z_f := zall_h (zall_t hz) (by decide)
  change vc_X12_findBorder pr_X12_isEdge po_X12_isEdge f P M
  unfold vc_X12_findBorder
  have hN := hF.N hd
  have hff := hF.1.fst f ha.1 ha.2
  have V0 : gV (zg (M 103 1) (M 103 2) (M 115)) f (gS0 (M 116 f)) := gS0_V (by omega) hF.1 rfl ha.1 ha.2 rfl
  obtain ⟨p, hp⟩ := gPer.ex (t := M 103 5) (show M 103 1 ≤ 16 by omega) (show M 103 2 ≤ 12 by omega) ha.1 V0
  have o1 : ((0 : Int) ≤ f ∧ f < 192) := by
    first | with_reducible assumption | omega | exact trivial | with_reducible rfl  -- o1
  refine ⟨o1, ?_⟩
  have o2 : 0 ≤ (M 116 f) := by
    exact hff.1.1
  refine ⟨o2, ?_⟩
  intro M3 e_M3
  have s38 : M3 103 38 = 0 := by rw [e_M3, zset_s]
  refine ⟨fun v6 v7 v8 v9 M14 n16 => (n16 : Int) = (413 - M14 103 38) ∧ (v9 = 0 ∨ v9 = 1) ∧ (0 ≤ M14 103 38 ∧ M14 103 38 ≤ 412) ∧ (∀ c i, c ≠ 118 → c ≠ 119 → c ≠ 120 → ¬ (c = 103 ∧ i = 38) → M14 c i = M c i) ∧ ((v6, v7, v8) = gE (zg (M 103 1) (M 103 2) (M 115)) f (M 103 5) (gS0 (M 116 f)) (M14 103 38)) ∧ (v9 = 0 → 1 ≤ M14 103 38 ∧ gE (zg (M 103 1) (M 103 2) (M 115)) f (M 103 5) (gS0 (M 116 f)) (M14 103 38) = gS0 (M 116 f)) ∧ (∀ q, 1 ≤ q → q < M14 103 38 + v9 → gE (zg (M 103 1) (M 103 2) (M 115)) f (M 103 5) (gS0 (M 116 f)) q ≠ gS0 (M 116 f)) ∧ (∀ k, 0 ≤ k → k < M14 103 38 → M14 118 k = (gE (zg (M 103 1) (M 103 2) (M 115)) f (M 103 5) (gS0 (M 116 f)) k).2.2) ∧ (∀ k, 0 ≤ k → k < M14 103 38 → M14 119 k = (gE (zg (M 103 1) (M 103 2) (M 115)) f (M 103 5) (gS0 (M 116 f)) k).1 ∧ M14 120 k = (gE (zg (M 103 1) (M 103 2) (M 115)) f (M 103 5) (gS0 (M 116 f)) k).2.1), ⟨Int.toNat (413 - M3 103 38), by omega, ?_, ?_, ?_, ?_, ?_, ?_, ?_, ?_⟩, ?_⟩
  · show 1 = 0 ∨ 1 = 1  -- I31.0.h01
    first | with_reducible assumption | omega | exact trivial | with_reducible rfl
  · show 0 ≤ M3 103 38 ∧ M3 103 38 ≤ 412  -- I31.0.hv
    first | with_reducible assumption | omega | exact trivial | with_reducible rfl
  · show ∀ c i, c ≠ 118 → c ≠ 119 → c ≠ 120 → ¬ (c = 103 ∧ i = 38) → M3 c i = M c i  -- I31.0.hf
    intro c i _ _ _ h; rw [e_M3, zset_n _ (by omega)]
  · show (((M 116 f) % 16), ((M 116 f) / 16), 0) = gE (zg (M 103 1) (M 103 2) (M 115)) f (M 103 5) (gS0 (M 116 f)) (M3 103 38)  -- I31.0.hE
    rw [s38]; rfl
  · show 1 = 0 → 1 ≤ M3 103 38 ∧ gE (zg (M 103 1) (M 103 2) (M 115)) f (M 103 5) (gS0 (M 116 f)) (M3 103 38) = gS0 (M 116 f)  -- I31.0.h0
    first | with_reducible assumption | omega | exact trivial | with_reducible rfl
  · show ∀ q, 1 ≤ q → q < M3 103 38 + 1 → gE (zg (M 103 1) (M 103 2) (M 115)) f (M 103 5) (gS0 (M 116 f)) q ≠ gS0 (M 116 f)  -- I31.0.hne
    intro q q1 q2; omega
  · show ∀ k, 0 ≤ k → k < M3 103 38 → M3 118 k = (gE (zg (M 103 1) (M 103 2) (M 115)) f (M 103 5) (gS0 (M 116 f)) k).2.2  -- I31.0.hw
    intro k k0 k1; omega
  · show ∀ k, 0 ≤ k → k < M3 103 38 → M3 119 k = (gE (zg (M 103 1) (M 103 2) (M 115)) f (M 103 5) (gS0 (M 116 f)) k).1 ∧ M3 120 k = (gE (zg (M 103 1) (M 103 2) (M 115)) f (M 103 5) (gS0 (M 116 f)) k).2.1  -- I31.0.hxy
    intro k k0 k1; omega
  rintro v6 v7 v8 v9 M14 n16 ⟨h_n16, h01, hv, hf, hE, h0, hne, hw, hxy⟩ z_v6 z_v7 z_v8 z_v9 z_M14
  have LT : v9 = 1 → M14 103 38 < 412 := by
    intro e
    apply Classical.byContradiction
    intro c
    exact hne p hp.1 (by have := hp.2.1; omega) hp.2.2.1
  refine ⟨fun b1 => ?_, fun b1 => ?_⟩
  · -- b1.1
    have h0' := h0 b1
    have X0 := hxy 0 (by omega) (by omega)
    have s00 : gE (zg (M 103 1) (M 103 2) (M 115)) f (M 103 5) (gS0 (M 116 f)) 0 = gS0 (M 116 f) := rfl
    rw [s00] at X0
    have o3 : ((0 : Int) ≤ (M14 103 38) ∧ (M14 103 38) < 901) := by
      first | with_reducible assumption | omega | exact trivial | with_reducible rfl  -- o3
    refine ⟨o3, ?_⟩
    intro M25 e_M25
    have o4 : ((0 : Int) ≤ (M25 103 38) ∧ (M25 103 38) < 901) := by
      rw [e_M25, zset_n _ (by omega)]; omega
    refine ⟨o4, ?_⟩
    intro M29 e_M29
    have z38 : M29 103 38 = M14 103 38 := by rw [e_M29, zset_n _ (by omega), e_M25, zset_n _ (by omega)]
    have c38 : M25 103 38 = M14 103 38 := by rw [e_M25, zset_n _ (by omega)]
    have c120 : M25 120 0 = M14 120 0 := by rw [e_M25, zset_n _ (by omega)]
    have zo : ∀ c i, c ≠ 119 → c ≠ 120 → M29 c i = M14 c i := fun c i c1 c2 => by rw [e_M29, zset_n _ (by omega), e_M25, zset_n _ (by omega)]
    refine hP _ ⟨?_, ?_⟩
    · show ∀ c i, c ≠ 118 → c ≠ 119 → c ≠ 120 → ¬ (c = 103 ∧ i = 38) → M29 c i = M c i  -- p1.hf
      intro c i c1 c2 c3 c4; rw [zo c i c2 c3]; exact hf c i c1 c2 c3 c4
    · show mBk M29 f  -- p1.hB
      have a1 : M29 103 1 = M 103 1 := by rw [zo 103 1 (by decide) (by decide)]; exact hf 103 1 (by decide) (by decide) (by decide) (by decide)
      have a2 : M29 103 2 = M 103 2 := by rw [zo 103 2 (by decide) (by decide)]; exact hf 103 2 (by decide) (by decide) (by decide) (by decide)
      have a5 : M29 103 5 = M 103 5 := by rw [zo 103 5 (by decide) (by decide)]; exact hf 103 5 (by decide) (by decide) (by decide) (by decide)
      have a7 : M29 116 f = M 116 f := by rw [zo 116 f (by decide) (by decide)]; exact hf 116 f (by decide) (by decide) (by decide) (by omega)
      have a12 : M29 115 = M 115 := funext fun i => by rw [zo 115 i (by decide) (by decide)]; exact hf 115 i (by decide) (by decide) (by decide) (by omega)
      unfold mBk
      rw [a1, a2, a5, a7, a12, z38]
      refine ⟨⟨h0'.1, by omega, h0'.2, fun q q1 q2 => hne q q1 (by omega)⟩, ?_, ?_⟩
      · intro k k0 k1; rw [zo 118 k (by decide) (by decide)]; exact hw k k0 k1
      · intro k k0 k1
        by_cases c : k = M14 103 38
        · rw [c, h0'.2, e_M29, c38, zset_s, zset_n _ (by omega), e_M25, zset_s, zset_n _ (by omega), X0.1, X0.2]; exact ⟨rfl, rfl⟩
        · rw [e_M29, c38, zset_n _ (by omega), zset_n _ (by omega), e_M25, zset_n _ (by omega), zset_n _ (by omega)]; exact hxy k k0 (by omega)
  · -- b1.2
    have LT' := LT (by omega)
    have VE := gE_V (t := M 103 5) V0 (M14 103 38)
    rw [← hE] at VE
    have VB := VE.bx ha.1
    have VD := VE.1
    have VI := VE.2
    dsimp only at VB VD VI
    have GB := @gIn_b (zg (M 103 1) (M 103 2) (M 115)) f v6 v7 v8 VD
    have H1 := GB.1.2 VI.1
    have H2 : ¬ gIn (zg (M 103 1) (M 103 2) (M 115)) f (v6 + zdx v8) (v7 + zdy v8) ((v8 + 2) % 4) := fun k => VI.2 (GB.2.1 k)
    have zb := zdx_b v8
    have o5 : ((0 : Int) ≤ (M14 103 38) ∧ (M14 103 38) < 900) := by
      first | with_reducible assumption | omega | exact trivial | with_reducible rfl  -- o5
    refine ⟨o5, ?_⟩
    intro M33 e_M33
    have o6 : ((0 : Int) ≤ (M33 103 38) ∧ (M33 103 38) < 901) := by
      rw [e_M33, zset_n _ (by omega)]; omega
    refine ⟨o6, ?_⟩
    intro M37 e_M37
    have d38 : M33 103 38 = M14 103 38 := by rw [e_M33, zset_n _ (by omega)]
    have d38' : M37 103 38 = M14 103 38 := by rw [e_M37, zset_n _ (by omega)]; exact d38
    have o7 : ((0 : Int) ≤ (M37 103 38) ∧ (M37 103 38) < 901) := by
      omega
    refine ⟨o7, ?_⟩
    intro M41 e_M41
    have d38'' : M41 103 38 = M14 103 38 := by rw [e_M41, zset_n _ (by omega)]; exact d38'
    have o8 : zin ((M41 103 38) + 1) := by
      first | with_reducible assumption | omega | exact trivial | with_reducible rfl  -- o8
    refine ⟨o8, ?_⟩
    intro M45 e_M45
    have g : ∀ c i, c ≠ 118 → c ≠ 119 → c ≠ 120 → ¬ (c = 103 ∧ i = 38) → M45 c i = M c i := fun c i c1 c2 c3 c4 => by rw [e_M45, zset_n _ (by omega), e_M41, zset_n _ (by omega), e_M37, zset_n _ (by omega), e_M33, zset_n _ (by omega)]; exact hf c i c1 c2 c3 c4
    have g38 : M45 103 38 = M14 103 38 + 1 := by rw [e_M45, zset_s, d38'']
    have gw : ∀ k, 0 ≤ k → k < M14 103 38 + 1 → M45 118 k = (gE (zg (M 103 1) (M 103 2) (M 115)) f (M 103 5) (gS0 (M 116 f)) k).2.2 := fun k k0 k1 => by
      rw [e_M45, zset_n _ (by omega), e_M41, zset_n _ (by omega), e_M37, zset_n _ (by omega), e_M33]
      by_cases c : k = M14 103 38
      · rw [c, zset_s, ← hE]
      · rw [zset_n _ (by omega)]; exact hw k k0 (by omega)
    have gxy : ∀ k, 0 ≤ k → k < M14 103 38 + 1 → M45 119 k = (gE (zg (M 103 1) (M 103 2) (M 115)) f (M 103 5) (gS0 (M 116 f)) k).1 ∧ M45 120 k = (gE (zg (M 103 1) (M 103 2) (M 115)) f (M 103 5) (gS0 (M 116 f)) k).2.1 := fun k k0 k1 => by
      by_cases c : k = M14 103 38
      · refine ⟨?_, ?_⟩
        · rw [e_M45, zset_n _ (by omega), e_M41, zset_n _ (by omega), e_M37, d38, c, zset_s, ← hE]
        · rw [e_M45, zset_n _ (by omega), e_M41, d38', c, zset_s, ← hE]
      · refine ⟨?_, ?_⟩
        · rw [e_M45, zset_n _ (by omega), e_M41, zset_n _ (by omega), e_M37, zset_n _ (by omega), e_M33, zset_n _ (by omega)]; exact (hxy k k0 (by omega)).1
        · rw [e_M45, zset_n _ (by omega), e_M41, zset_n _ (by omega), e_M37, zset_n _ (by omega), e_M33, zset_n _ (by omega)]; exact (hxy k k0 (by omega)).2
    have g1 := g 103 1 (by decide) (by decide) (by decide) (by decide)
    have g2 := g 103 2 (by decide) (by decide) (by decide) (by decide)
    have g5 := g 103 5 (by decide) (by decide) (by decide) (by decide)
    have g115 : M45 115 = M 115 := funext fun i => g 115 i (by decide) (by decide) (by decide) (by omega)
    have E1 : (v6 + zdx v8, v7 + zdy v8, gND (zg (M 103 1) (M 103 2) (M 115)) f (M 103 5) (v6 + zdx v8) (v7 + zdy v8) v8) = gE (zg (M 103 1) (M 103 2) (M 115)) f (M 103 5) (gS0 (M 116 f)) (M14 103 38 + 1) := by
      rw [gE_s hv.1, ← hE]
      rfl
    have gx0 := gxy 0 (by omega) (by omega)
    have s00 : gE (zg (M 103 1) (M 103 2) (M 115)) f (M 103 5) (gS0 (M 116 f)) 0 = gS0 (M 116 f) := rfl
    rw [s00] at gx0
    have all : gE (zg (M 103 1) (M 103 2) (M 115)) f (M 103 5) (gS0 (M 116 f)) (M14 103 38 + 1) ≠ gS0 (M 116 f) → ∀ q, 1 ≤ q → q < M14 103 38 + 1 + 1 → gE (zg (M 103 1) (M 103 2) (M 115)) f (M 103 5) (gS0 (M 116 f)) q ≠ gS0 (M 116 f) := fun ne q q1 q2 => by
      by_cases c : q = M14 103 38 + 1
      · rw [c]; exact ne
      · exact hne q q1 (by omega)
    intro K98 h_K98
    have k_K98 : ∀ (v48 : Int), (v48 = zdx v8) → K98 v48 := by
      intro v48 hk1
      refine h_K98 _ ?_
      intro z_v48
      intro K122 h_K122
      have k_K122 : ∀ (v50 : Int), (v50 = zdy v8) → K122 v50 := by
        intro v50 hk2
        refine h_K122 _ ?_
        intro z_v50
        intro K146 h_K146
        have k_K146 : ∀ (v52 : Int), (v52 = (if M 103 5 = 0 then (v8 + 1) % 4 else (v8 + 3) % 4)) → K146 v52 := by
          intro v52 hk3
          refine h_K146 _ ?_
          intro z_v52
          intro K170 h_K170
          have k_K170 : ∀ (v54 : Int), (v54 = (if M 103 5 = 0 then (v8 + 3) % 4 else (v8 + 1) % 4)) → K170 v54 := by
            intro v54 hk4
            refine h_K170 _ ?_
            intro z_v54
            have o9 : zin (v7 + v50) := by
              first | with_reducible assumption | omega | exact trivial | with_reducible rfl  -- o9
            refine ⟨o9, ?_⟩
            have o10 : zin (v6 + v48) := by
              first | with_reducible assumption | omega | exact trivial | with_reducible rfl  -- o10
            refine ⟨o10, ?_⟩
            have gc1 : pr_X12_isEdge f (v6 + v48) (v7 + v50) v52 M45 := by
              refine ⟨?_, ?_, ?_, ?_, ?_⟩
              · show mDim M45  -- c1.hd
                unfold mDim; omega
              · show 0 ≤ f  -- c1.hf
                first | with_reducible assumption | omega | exact trivial | with_reducible rfl
              · show 0 ≤ v52 ∧ v52 < 4  -- c1.hdd
                split at hk3 <;> omega
              · show -5 ≤ (v6 + v48) ∧ (v6 + v48) ≤ 20  -- c1.hx
                first | with_reducible assumption | omega | exact trivial | with_reducible rfl
              · show -5 ≤ (v7 + v50) ∧ (v7 + v50) ≤ 20  -- c1.hy
                first | with_reducible assumption | omega | exact trivial | with_reducible rfl
            refine ⟨gc1, ?_⟩
            rintro r58 M59 ⟨q_rfl, pc1_pb⟩ z_r58 z_M59
            have q_rfl := q_rfl.symm
            subst q_rfl
            rw [g1, g2, g115, hk1, hk2] at pc1_pb
            intro K208 h_K208
            have k_K208 : ∀ (v64 : Int) (M66 : zM), (M66 = M45) → (v64 = gND (zg (M 103 1) (M 103 2) (M 115)) f (M 103 5) (v6 + zdx v8) (v7 + zdy v8) v8) → K208 v64 M66 := by
              intro v64 M66 hkM hk5
              refine h_K208 _ _ ?_
              intro z_v64 z_M66
              rw [hkM, hk1, hk2]
              have E2 := E1
              rw [← hk5] at E2
              refine ⟨fun b2 => ?_, fun b2 => ?_⟩
              · -- b2.1
                have NE : gE (zg (M 103 1) (M 103 2) (M 115)) f (M 103 5) (gS0 (M 116 f)) (M14 103 38 + 1) ≠ gS0 (M 116 f) := fun h => by rw [← E2] at h; exact b2 ((Prod.mk.inj h).1.trans gx0.1.symm)
                refine ⟨Int.toNat (413 - M45 103 38), by omega, by omega, ?_, ?_, ?_, ?_, ?_, ?_, ?_, ?_⟩
                · show 1 = 0 ∨ 1 = 1  -- I31.1.h01
                  first | with_reducible assumption | omega | exact trivial | with_reducible rfl
                · show 0 ≤ M45 103 38 ∧ M45 103 38 ≤ 412  -- I31.1.hv
                  first | with_reducible assumption | omega | exact trivial | with_reducible rfl
                · show ∀ c i, c ≠ 118 → c ≠ 119 → c ≠ 120 → ¬ (c = 103 ∧ i = 38) → M45 c i = M c i  -- I31.1.hf
                  first | with_reducible assumption | omega | exact trivial | with_reducible rfl
                · show ((v6 + (zdx v8)), (v7 + (zdy v8)), v64) = gE (zg (M 103 1) (M 103 2) (M 115)) f (M 103 5) (gS0 (M 116 f)) (M45 103 38)  -- I31.1.hE
                  rw [g38]; exact E2
                · show 1 = 0 → 1 ≤ M45 103 38 ∧ gE (zg (M 103 1) (M 103 2) (M 115)) f (M 103 5) (gS0 (M 116 f)) (M45 103 38) = gS0 (M 116 f)  -- I31.1.h0
                  intro h; omega
                · show ∀ q, 1 ≤ q → q < M45 103 38 + 1 → gE (zg (M 103 1) (M 103 2) (M 115)) f (M 103 5) (gS0 (M 116 f)) q ≠ gS0 (M 116 f)  -- I31.1.hne
                  rw [g38]; exact all NE
                · show ∀ k, 0 ≤ k → k < M45 103 38 → M45 118 k = (gE (zg (M 103 1) (M 103 2) (M 115)) f (M 103 5) (gS0 (M 116 f)) k).2.2  -- I31.1.hw
                  rw [g38]; exact gw
                · show ∀ k, 0 ≤ k → k < M45 103 38 → M45 119 k = (gE (zg (M 103 1) (M 103 2) (M 115)) f (M 103 5) (gS0 (M 116 f)) k).1 ∧ M45 120 k = (gE (zg (M 103 1) (M 103 2) (M 115)) f (M 103 5) (gS0 (M 116 f)) k).2.1  -- I31.1.hxy
                  rw [g38]; exact gxy
              · -- b2.2
                refine ⟨fun b3 => ?_, fun b3 => ?_⟩
                · -- b3.1
                  have NE : gE (zg (M 103 1) (M 103 2) (M 115)) f (M 103 5) (gS0 (M 116 f)) (M14 103 38 + 1) ≠ gS0 (M 116 f) := fun h => by rw [← E2] at h; exact b3 ((Prod.mk.inj (Prod.mk.inj h).2).1.trans gx0.2.symm)
                  refine ⟨Int.toNat (413 - M45 103 38), by omega, by omega, ?_, ?_, ?_, ?_, ?_, ?_, ?_, ?_⟩
                  · show 1 = 0 ∨ 1 = 1  -- I31.2.h01
                    first | with_reducible assumption | omega | exact trivial | with_reducible rfl
                  · show 0 ≤ M45 103 38 ∧ M45 103 38 ≤ 412  -- I31.2.hv
                    first | with_reducible assumption | omega | exact trivial | with_reducible rfl
                  · show ∀ c i, c ≠ 118 → c ≠ 119 → c ≠ 120 → ¬ (c = 103 ∧ i = 38) → M45 c i = M c i  -- I31.2.hf
                    first | with_reducible assumption | omega | exact trivial | with_reducible rfl
                  · show ((v6 + (zdx v8)), (v7 + (zdy v8)), v64) = gE (zg (M 103 1) (M 103 2) (M 115)) f (M 103 5) (gS0 (M 116 f)) (M45 103 38)  -- I31.2.hE
                    rw [g38]; exact E2
                  · show 1 = 0 → 1 ≤ M45 103 38 ∧ gE (zg (M 103 1) (M 103 2) (M 115)) f (M 103 5) (gS0 (M 116 f)) (M45 103 38) = gS0 (M 116 f)  -- I31.2.h0
                    intro h; omega
                  · show ∀ q, 1 ≤ q → q < M45 103 38 + 1 → gE (zg (M 103 1) (M 103 2) (M 115)) f (M 103 5) (gS0 (M 116 f)) q ≠ gS0 (M 116 f)  -- I31.2.hne
                    rw [g38]; exact all NE
                  · show ∀ k, 0 ≤ k → k < M45 103 38 → M45 118 k = (gE (zg (M 103 1) (M 103 2) (M 115)) f (M 103 5) (gS0 (M 116 f)) k).2.2  -- I31.2.hw
                    rw [g38]; exact gw
                  · show ∀ k, 0 ≤ k → k < M45 103 38 → M45 119 k = (gE (zg (M 103 1) (M 103 2) (M 115)) f (M 103 5) (gS0 (M 116 f)) k).1 ∧ M45 120 k = (gE (zg (M 103 1) (M 103 2) (M 115)) f (M 103 5) (gS0 (M 116 f)) k).2.1  -- I31.2.hxy
                    rw [g38]; exact gxy
                · -- b3.2
                  refine ⟨fun b4 => ?_, fun b4 => ?_⟩
                  · -- b4.1
                    have EQ : gE (zg (M 103 1) (M 103 2) (M 115)) f (M 103 5) (gS0 (M 116 f)) (M14 103 38 + 1) = gS0 (M 116 f) := by rw [← E2, b2, b3, b4, gx0.1, gx0.2]; rfl
                    refine ⟨Int.toNat (413 - M45 103 38), by omega, by omega, ?_, ?_, ?_, ?_, ?_, ?_, ?_, ?_⟩
                    · show 0 = 0 ∨ 0 = 1  -- I31.3.h01
                      first | with_reducible assumption | omega | exact trivial | with_reducible rfl
                    · show 0 ≤ M45 103 38 ∧ M45 103 38 ≤ 412  -- I31.3.hv
                      first | with_reducible assumption | omega | exact trivial | with_reducible rfl
                    · show ∀ c i, c ≠ 118 → c ≠ 119 → c ≠ 120 → ¬ (c = 103 ∧ i = 38) → M45 c i = M c i  -- I31.3.hf
                      first | with_reducible assumption | omega | exact trivial | with_reducible rfl
                    · show ((v6 + (zdx v8)), (v7 + (zdy v8)), v64) = gE (zg (M 103 1) (M 103 2) (M 115)) f (M 103 5) (gS0 (M 116 f)) (M45 103 38)  -- I31.3.hE
                      rw [g38]; exact E2
                    · show 0 = 0 → 1 ≤ M45 103 38 ∧ gE (zg (M 103 1) (M 103 2) (M 115)) f (M 103 5) (gS0 (M 116 f)) (M45 103 38) = gS0 (M 116 f)  -- I31.3.h0
                      intro _; rw [g38]; exact ⟨by omega, EQ⟩
                    · show ∀ q, 1 ≤ q → q < M45 103 38 + 0 → gE (zg (M 103 1) (M 103 2) (M 115)) f (M 103 5) (gS0 (M 116 f)) q ≠ gS0 (M 116 f)  -- I31.3.hne
                      rw [g38]; intro q q1 q2; exact hne q q1 (by omega)
                    · show ∀ k, 0 ≤ k → k < M45 103 38 → M45 118 k = (gE (zg (M 103 1) (M 103 2) (M 115)) f (M 103 5) (gS0 (M 116 f)) k).2.2  -- I31.3.hw
                      rw [g38]; exact gw
                    · show ∀ k, 0 ≤ k → k < M45 103 38 → M45 119 k = (gE (zg (M 103 1) (M 103 2) (M 115)) f (M 103 5) (gS0 (M 116 f)) k).1 ∧ M45 120 k = (gE (zg (M 103 1) (M 103 2) (M 115)) f (M 103 5) (gS0 (M 116 f)) k).2.1  -- I31.3.hxy
                      rw [g38]; exact gxy
                  · -- b4.2
                    have NE : gE (zg (M 103 1) (M 103 2) (M 115)) f (M 103 5) (gS0 (M 116 f)) (M14 103 38 + 1) ≠ gS0 (M 116 f) := fun h => by rw [← E2] at h; exact b4 (Prod.mk.inj (Prod.mk.inj h).2).2
                    refine ⟨Int.toNat (413 - M45 103 38), by omega, by omega, ?_, ?_, ?_, ?_, ?_, ?_, ?_, ?_⟩
                    · show 1 = 0 ∨ 1 = 1  -- I31.4.h01
                      first | with_reducible assumption | omega | exact trivial | with_reducible rfl
                    · show 0 ≤ M45 103 38 ∧ M45 103 38 ≤ 412  -- I31.4.hv
                      first | with_reducible assumption | omega | exact trivial | with_reducible rfl
                    · show ∀ c i, c ≠ 118 → c ≠ 119 → c ≠ 120 → ¬ (c = 103 ∧ i = 38) → M45 c i = M c i  -- I31.4.hf
                      first | with_reducible assumption | omega | exact trivial | with_reducible rfl
                    · show ((v6 + (zdx v8)), (v7 + (zdy v8)), v64) = gE (zg (M 103 1) (M 103 2) (M 115)) f (M 103 5) (gS0 (M 116 f)) (M45 103 38)  -- I31.4.hE
                      rw [g38]; exact E2
                    · show 1 = 0 → 1 ≤ M45 103 38 ∧ gE (zg (M 103 1) (M 103 2) (M 115)) f (M 103 5) (gS0 (M 116 f)) (M45 103 38) = gS0 (M 116 f)  -- I31.4.h0
                      intro h; omega
                    · show ∀ q, 1 ≤ q → q < M45 103 38 + 1 → gE (zg (M 103 1) (M 103 2) (M 115)) f (M 103 5) (gS0 (M 116 f)) q ≠ gS0 (M 116 f)  -- I31.4.hne
                      rw [g38]; exact all NE
                    · show ∀ k, 0 ≤ k → k < M45 103 38 → M45 118 k = (gE (zg (M 103 1) (M 103 2) (M 115)) f (M 103 5) (gS0 (M 116 f)) k).2.2  -- I31.4.hw
                      rw [g38]; exact gw
                    · show ∀ k, 0 ≤ k → k < M45 103 38 → M45 119 k = (gE (zg (M 103 1) (M 103 2) (M 115)) f (M 103 5) (gS0 (M 116 f)) k).1 ∧ M45 120 k = (gE (zg (M 103 1) (M 103 2) (M 115)) f (M 103 5) (gS0 (M 116 f)) k).2.1  -- I31.4.hxy
                      rw [g38]; exact gxy
            refine ⟨fun b5 => ?_, fun b5 => ?_⟩
            · -- b5.1
              have gc2 : pr_X12_isEdge f (v6 + v48) (v7 + v50) v8 M45 := by
                refine ⟨?_, ?_, ?_, ?_, ?_⟩
                · show mDim M45  -- c2.hd
                  unfold mDim; omega
                · show 0 ≤ f  -- c2.hf
                  first | with_reducible assumption | omega | exact trivial | with_reducible rfl
                · show 0 ≤ v8 ∧ v8 < 4  -- c2.hdd
                  first | with_reducible assumption | omega | exact trivial | with_reducible rfl
                · show -5 ≤ (v6 + v48) ∧ (v6 + v48) ≤ 20  -- c2.hx
                  first | with_reducible assumption | omega | exact trivial | with_reducible rfl
                · show -5 ≤ (v7 + v50) ∧ (v7 + v50) ≤ 20  -- c2.hy
                  first | with_reducible assumption | omega | exact trivial | with_reducible rfl
              refine ⟨gc2, ?_⟩
              rintro r84 M85 ⟨q_rfl, pc2_pb⟩ z_r84 z_M85
              have q_rfl := q_rfl.symm
              subst q_rfl
              rw [g1, g2, g115, hk1, hk2] at pc2_pb
              refine ⟨fun b6 => ?_, fun b6 => ?_⟩
              · -- b6.1
                refine k_K208 _ _ ?_ ?_
                · show M45 = M45  -- K208.1.hkM
                  first | with_reducible assumption | omega | exact trivial | with_reducible rfl
                · show v54 = gND (zg (M 103 1) (M 103 2) (M 115)) f (M 103 5) (v6 + zdx v8) (v7 + zdy v8) v8  -- K208.1.hk5
                  rw [hk4]
                  by_cases t0 : M 103 5 = 0
                  · rw [if_pos t0, gND_0 VD H1 H2 t0]
                    rw [if_pos t0] at hk3
                    rw [← hk3, if_neg (pc1_pb.z.1 b5), if_neg (pc2_pb.z.1 b6)]
                  · rw [if_neg t0, gND_1 VD H1 H2 (by omega)]
                    rw [if_neg t0] at hk3
                    rw [← hk3, if_neg (pc1_pb.z.1 b5), if_neg]
                    rw [hk3]; exact pc2_pb.z.1 b6
              · -- b6.2
                refine k_K208 _ _ ?_ ?_
                · show M45 = M45  -- K208.2.hkM
                  first | with_reducible assumption | omega | exact trivial | with_reducible rfl
                · show v8 = gND (zg (M 103 1) (M 103 2) (M 115)) f (M 103 5) (v6 + zdx v8) (v7 + zdy v8) v8  -- K208.2.hk5
                  by_cases t0 : M 103 5 = 0
                  · rw [gND_0 VD H1 H2 t0]
                    rw [if_pos t0] at hk3
                    rw [← hk3, if_neg (pc1_pb.z.1 b5), if_pos (pc2_pb.ne.1 b6)]
                  · rw [gND_1 VD H1 H2 (by omega)]
                    rw [if_neg t0] at hk3
                    rw [← hk3, if_neg (pc1_pb.z.1 b5), if_pos]
                    rw [hk3]; exact pc2_pb.ne.1 b6
            · -- b5.2
              refine k_K208 _ _ ?_ ?_
              · show M45 = M45  -- K208.3.hkM
                first | with_reducible assumption | omega | exact trivial | with_reducible rfl
              · show v52 = gND (zg (M 103 1) (M 103 2) (M 115)) f (M 103 5) (v6 + zdx v8) (v7 + zdy v8) v8  -- K208.3.hk5
                by_cases t0 : M 103 5 = 0
                · rw [gND_0 VD H1 H2 t0]
                  rw [if_pos t0] at hk3
                  rw [← hk3, if_pos (pc1_pb.ne.1 b5)]
                · rw [gND_1 VD H1 H2 (by omega)]
                  rw [if_neg t0] at hk3
                  rw [← hk3, if_pos (pc1_pb.ne.1 b5)]
          refine ⟨fun b7 => ?_, fun b7 => ?_⟩
          · -- b7.1
            have o11 : zin (v8 + 1) := by
              first | with_reducible assumption | omega | exact trivial | with_reducible rfl  -- o11
            refine ⟨o11, ?_⟩
            have o12 : 0 ≤ (v8 + 1) := by
              first | with_reducible assumption | omega | exact trivial | with_reducible rfl  -- o12
            refine ⟨o12, ?_⟩
            refine k_K170 _ ?_
            · show ((v8 + 1) % 4) = (if M 103 5 = 0 then (v8 + 3) % 4 else (v8 + 1) % 4)  -- K170.1.hk4
              rw [if_neg (by omega)]
          · -- b7.2
            have o13 : zin (v8 + 3) := by
              first | with_reducible assumption | omega | exact trivial | with_reducible rfl  -- o13
            refine ⟨o13, ?_⟩
            have o14 : 0 ≤ (v8 + 3) := by
              first | with_reducible assumption | omega | exact trivial | with_reducible rfl  -- o14
            refine ⟨o14, ?_⟩
            refine k_K170 _ ?_
            · show ((v8 + 3) % 4) = (if M 103 5 = 0 then (v8 + 3) % 4 else (v8 + 1) % 4)  -- K170.2.hk4
              rw [if_pos (by omega)]
        refine ⟨fun b8 => ?_, fun b8 => ?_⟩
        · -- b8.1
          have o15 : zin (v8 + 3) := by
            first | with_reducible assumption | omega | exact trivial | with_reducible rfl  -- o15
          refine ⟨o15, ?_⟩
          have o16 : 0 ≤ (v8 + 3) := by
            first | with_reducible assumption | omega | exact trivial | with_reducible rfl  -- o16
          refine ⟨o16, ?_⟩
          refine k_K146 _ ?_
          · show ((v8 + 3) % 4) = (if M 103 5 = 0 then (v8 + 1) % 4 else (v8 + 3) % 4)  -- K146.1.hk3
            rw [if_neg (by omega)]
        · -- b8.2
          have o17 : zin (v8 + 1) := by
            first | with_reducible assumption | omega | exact trivial | with_reducible rfl  -- o17
          refine ⟨o17, ?_⟩
          have o18 : 0 ≤ (v8 + 1) := by
            first | with_reducible assumption | omega | exact trivial | with_reducible rfl  -- o18
          refine ⟨o18, ?_⟩
          refine k_K146 _ ?_
          · show ((v8 + 1) % 4) = (if M 103 5 = 0 then (v8 + 1) % 4 else (v8 + 3) % 4)  -- K146.2.hk3
            rw [if_pos (by omega)]
      refine ⟨fun b9 => ?_, fun b9 => ?_⟩
      · -- b9.1
        refine ⟨fun b10 => ?_, fun b10 => ?_⟩
        · -- b10.1
          refine k_K122 _ ?_
          · show 0 = zdy v8  -- K122.1.hk2
            unfold zdy; rw [if_neg (by omega), if_neg (by omega)]
        · -- b10.2
          refine k_K122 _ ?_
          · show (-1) = zdy v8  -- K122.2.hk2
            rw [b10]; decide
      · -- b9.2
        refine k_K122 _ ?_
        · show 1 = zdy v8  -- K122.3.hk2
          rw [b9]; decide
    refine ⟨fun b11 => ?_, fun b11 => ?_⟩
    · -- b11.1
      refine ⟨fun b12 => ?_, fun b12 => ?_⟩
      · -- b12.1
        refine k_K98 _ ?_
        · show 0 = zdx v8  -- K98.1.hk1
          unfold zdx; rw [if_neg (by omega), if_neg (by omega)]
      · -- b12.2
        refine k_K98 _ ?_
        · show (-1) = zdx v8  -- K98.2.hk1
          rw [b12]; decide
    · -- b11.2
      refine k_K98 _ ?_
      · show 1 = zdx v8  -- K98.3.hk1
        rw [b11]; decide

abbrev pr_X12_turnAt (i : Int) (M : zM) : Prop := (1 ≤ M 103 38 ∧ M 103 38 ≤ 412) ∧ (0 ≤ i ∧ i < M 103 38) ∧ (∀ k, 0 ≤ k → k < M 103 38 → 0 ≤ M 118 k ∧ M 118 k < 4) ∧ (∀ k, 0 ≤ k → k < M 103 38 → (M 118 k - M 118 (if k = 0 then M 103 38 - 1 else k - 1)) % 4 ≠ 2)
abbrev po_X12_turnAt (i : Int) (M : zM) (r : Int) (M' : zM) : Prop := M' = M ∧ r = zTurn (M 118) (M 103 38) i
set_option maxHeartbeats 1000000 in
theorem ok_X12_turnAt : zSnd zS 145 0 0 yX12_turnAt cX12_turnAt 3 (some .int) 0 [2, 0] (F_X12_turnAt pr_X12_turnAt po_X12_turnAt) := by
  refine (sn_X12_turnAt).mono ?_
  rintro xs P M hz hR ⟨i, rfl, ⟨hn, hi, hw, h2⟩, hP⟩
  refine ⟨_, rfl, ?_⟩
  have z_i := zall_h (zall_t hz) (by decide)
  change vc_X12_turnAt i P M
  unfold vc_X12_turnAt
  have h1 := hw i hi.1 hi.2
  have h2i := h2 i hi.1 hi.2
  have o1 : ((0 : Int) ≤ i ∧ i < 900) := by
    first | with_reducible assumption | omega | exact trivial | with_reducible rfl  -- o1
  refine ⟨o1, ?_⟩
  intro K26 h_K26
  have k_K26 : ∀ (v2 : Int), (0 ≤ v2 ∧ v2 < M 103 38) → (v2 = (if i = 0 then M 103 38 - 1 else i - 1)) → K26 v2 := by
    intro v2 hkr hk
    refine h_K26 _ ?_
    intro z_v2
    have h3 := hw v2 hkr.1 hkr.2
    rw [← hk] at h2i
    have o2 : ((0 : Int) ≤ v2 ∧ v2 < 900) := by
      first | with_reducible assumption | omega | exact trivial | with_reducible rfl  -- o2
    refine ⟨o2, ?_⟩
    have o3 : zin (((M 118 i) - (M 118 v2)) + 4) := by
      first | with_reducible assumption | omega | exact trivial | with_reducible rfl  -- o3
    refine ⟨o3, ?_⟩
    have o4 : 0 ≤ (((M 118 i) - (M 118 v2)) + 4) := by
      first | with_reducible assumption | omega | exact trivial | with_reducible rfl  -- o4
    refine ⟨o4, ?_⟩
    refine ⟨fun b1 => ?_, fun b1 => ?_⟩
    · -- b1.1
      refine ⟨fun b2 => ?_, fun b2 => ?_⟩
      · -- b2.1
        refine hP _ _ ⟨rfl, ?_⟩
        · unfold zTurn; rw [← hk, if_pos (by omega)]  -- p1
      · -- b2.2
        refine hP _ _ ⟨rfl, ?_⟩
        · unfold zTurn; rw [← hk, if_neg (by omega), if_neg (by omega)]  -- p2
    · -- b1.2
      refine hP _ _ ⟨rfl, ?_⟩
      · unfold zTurn; rw [← hk, if_neg (by omega), if_pos (by omega)]  -- p3
  refine ⟨fun b3 => ?_, fun b3 => ?_⟩
  · -- b3.1
    have o5 : zin (i - 1) := by
      first | with_reducible assumption | omega | exact trivial | with_reducible rfl  -- o5
    refine ⟨o5, ?_⟩
    refine k_K26 _ ?_ ?_
    · show 0 ≤ (i - 1) ∧ (i - 1) < M 103 38  -- K26.1.hkr
      first | with_reducible assumption | omega | exact trivial | with_reducible rfl
    · show (i - 1) = (if i = 0 then M 103 38 - 1 else i - 1)  -- K26.1.hk
      rw [if_neg b3]
  · -- b3.2
    have o6 : zin ((M 103 38) - 1) := by
      first | with_reducible assumption | omega | exact trivial | with_reducible rfl  -- o6
    refine ⟨o6, ?_⟩
    refine k_K26 _ ?_ ?_
    · show 0 ≤ ((M 103 38) - 1) ∧ ((M 103 38) - 1) < M 103 38  -- K26.2.hkr
      first | with_reducible assumption | omega | exact trivial | with_reducible rfl
    · show ((M 103 38) - 1) = (if i = 0 then M 103 38 - 1 else i - 1)  -- K26.2.hk
      rw [if_pos b3]

abbrev pr_X12_findTurns (M : zM) : Prop := (1 ≤ M 103 38 ∧ M 103 38 ≤ 412) ∧ (∀ k, 0 ≤ k → k < M 103 38 → 0 ≤ M 118 k ∧ M 118 k < 4) ∧ (∀ k, 0 ≤ k → k < M 103 38 → (M 118 k - M 118 (if k = 0 then M 103 38 - 1 else k - 1)) % 4 ≠ 2)
abbrev po_X12_findTurns (M : zM) (M' : zM) : Prop := (∀ c i, c ≠ 121 → c ≠ 122 → ¬ (c = 103 ∧ i = 42) → M' c i = M c i) ∧ (gTP (M 118) (M 103 38) (M' 103 42) (M' 121)) ∧ (∀ t, 0 ≤ t → t < M' 103 42 → M' 122 t = zTurn (M 118) (M 103 38) (M' 121 t))
set_option maxHeartbeats 1000000 in
theorem ok_X12_findTurns : zSnd zS 145 0 0 yX12_findTurns cX12_findTurns 2 none 1 [2] (F_X12_findTurns pr_X12_findTurns po_X12_findTurns) := by
  refine (sn_X12_findTurns ok_X12_turnAt).mono ?_
  rintro xs P M hz hR ⟨rfl, ⟨hn, hw, h2⟩, hP⟩
  refine ⟨rfl, ?_⟩
  change vc_X12_findTurns pr_X12_turnAt po_X12_turnAt P M
  unfold vc_X12_findTurns
  intro M1 e_M1
  refine ⟨fun v4 M6 n8 => (n8 : Int) = (412 - v4) ∧ (0 ≤ v4 ∧ v4 ≤ M 103 38) ∧ (∀ c i, c ≠ 121 → c ≠ 122 → ¬ (c = 103 ∧ i = 42) → M6 c i = M c i) ∧ (M6 103 42 = zc (fun i => zTurn (M 118) (M 103 38) i ≠ 0) v4) ∧ (∀ i, 0 ≤ i → i < v4 → zTurn (M 118) (M 103 38) i ≠ 0 → M6 121 (zc (fun i => zTurn (M 118) (M 103 38) i ≠ 0) i) = i) ∧ (∀ t, 0 ≤ t → t < M6 103 42 → M6 122 t = zTurn (M 118) (M 103 38) (M6 121 t)), ⟨Int.toNat (412 - 0), by omega, ?_, ?_, ?_, ?_, ?_⟩, ?_⟩
  · show 0 ≤ 0 ∧ 0 ≤ M 103 38  -- I7.0.hv
    first | with_reducible assumption | omega | exact trivial | with_reducible rfl
  · show ∀ c i, c ≠ 121 → c ≠ 122 → ¬ (c = 103 ∧ i = 42) → M1 c i = M c i  -- I7.0.hf
    intro c i c1 _ c2; rw [e_M1, zset_n _ (by omega)]
  · show M1 103 42 = zc (fun i => zTurn (M 118) (M 103 38) i ≠ 0) 0  -- I7.0.h8
    rw [e_M1, zset_s, zc_z]
  · show ∀ i, 0 ≤ i → i < 0 → zTurn (M 118) (M 103 38) i ≠ 0 → M1 121 (zc (fun i => zTurn (M 118) (M 103 38) i ≠ 0) i) = i  -- I7.0.ht
    intro i i0 i1; omega
  · show ∀ t, 0 ≤ t → t < M1 103 42 → M1 122 t = zTurn (M 118) (M 103 38) (M1 121 t)  -- I7.0.hu
    rw [e_M1, zset_s]; intro i i0 i1; omega
  rintro v4 M6 n8 ⟨h_n8, hv, hf, h8, ht, hu⟩ z_v4 z_M6
  have w1 := hf 103 38 (by decide) (by decide) (by decide)
  have w18 : M6 118 = M 118 := funext fun i => hf 118 i (by decide) (by decide) (by omega)
  have u := zc_b (fun i => zTurn (M 118) (M 103 38) i ≠ 0) v4 hv.1
  refine ⟨fun b1 => ?_, fun b1 => ?_⟩
  · -- b1.1
    refine hP _ ⟨?_, ?_, ?_⟩
    · show ∀ c i, c ≠ 121 → c ≠ 122 → ¬ (c = 103 ∧ i = 42) → M6 c i = M c i  -- p1.hf
      first | with_reducible assumption | omega | exact trivial | with_reducible rfl
    · show gTP (M 118) (M 103 38) (M6 103 42) (M6 121)  -- p1.ht
      have e : v4 = M 103 38 := by omega
      refine ⟨by rw [h8, e], fun i i0 i1 i2 => ht i i0 (by omega) i2⟩
    · show ∀ t, 0 ≤ t → t < M6 103 42 → M6 122 t = zTurn (M 118) (M 103 38) (M6 121 t)  -- p1.hu
      first | with_reducible assumption | omega | exact trivial | with_reducible rfl
  · -- b1.2
    have gc1 : pr_X12_turnAt v4 M6 := by
      refine ⟨?_, ?_, ?_, ?_⟩
      · show 1 ≤ M6 103 38 ∧ M6 103 38 ≤ 412  -- c1.hn
        first | with_reducible assumption | omega | exact trivial | with_reducible rfl
      · show 0 ≤ v4 ∧ v4 < M6 103 38  -- c1.hi
        first | with_reducible assumption | omega | exact trivial | with_reducible rfl
      · show ∀ k, 0 ≤ k → k < M6 103 38 → 0 ≤ M6 118 k ∧ M6 118 k < 4  -- c1.hw
        rw [w1, w18]; exact hw
      · show ∀ k, 0 ≤ k → k < M6 103 38 → (M6 118 k - M6 118 (if k = 0 then M6 103 38 - 1 else k - 1)) % 4 ≠ 2  -- c1.h2
        rw [w1, w18]; exact h2
    refine ⟨gc1, ?_⟩
    rintro r16 M17 ⟨q_rfl, e_r16⟩ z_r16 z_M17
    have q_rfl := q_rfl.symm
    subst q_rfl
    rw [w1, w18] at e_r16
    refine ⟨fun b2 => ?_, fun b2 => ?_⟩
    · -- b2.1
      have o1 : zin (v4 + 1) := by
        first | with_reducible assumption | omega | exact trivial | with_reducible rfl  -- o1
      refine ⟨o1, ?_⟩
      refine ⟨Int.toNat (412 - (v4 + 1)), by omega, by omega, ?_, ?_, ?_, ?_, ?_⟩
      · show 0 ≤ (v4 + 1) ∧ (v4 + 1) ≤ M 103 38  -- I7.1.hv
        first | with_reducible assumption | omega | exact trivial | with_reducible rfl
      · show ∀ c i, c ≠ 121 → c ≠ 122 → ¬ (c = 103 ∧ i = 42) → M6 c i = M c i  -- I7.1.hf
        first | with_reducible assumption | omega | exact trivial | with_reducible rfl
      · show M6 103 42 = zc (fun i => zTurn (M 118) (M 103 38) i ≠ 0) (v4 + 1)  -- I7.1.h8
        rw [zc_n hv.1 (by rw [← e_r16]; omega)]; exact h8
      · show ∀ i, 0 ≤ i → i < (v4 + 1) → zTurn (M 118) (M 103 38) i ≠ 0 → M6 121 (zc (fun i => zTurn (M 118) (M 103 38) i ≠ 0) i) = i  -- I7.1.ht
        intro i i0 i1 i2
        by_cases c : i = v4
        · subst c; exact absurd b2 (by rw [e_r16]; exact i2)
        · exact ht i i0 (by omega) i2
      · show ∀ t, 0 ≤ t → t < M6 103 42 → M6 122 t = zTurn (M 118) (M 103 38) (M6 121 t)  -- I7.1.hu
        first | with_reducible assumption | omega | exact trivial | with_reducible rfl
    · -- b2.2
      have u2 := zc_lt2 hv.1 (show v4 < M 103 38 by omega) (p := fun i => zTurn (M 118) (M 103 38) i ≠ 0) (by rw [← e_r16]; exact b2)
      have u3 := zc_b (fun i => zTurn (M 118) (M 103 38) i ≠ 0) (M 103 38) (by omega)
      have o2 : ((0 : Int) ≤ (M6 103 42) ∧ (M6 103 42) < 900) := by
        first | with_reducible assumption | omega | exact trivial | with_reducible rfl  -- o2
      refine ⟨o2, ?_⟩
      intro M28 e_M28
      have y1 : M28 103 38 = M 103 38 := by rw [e_M28, zset_n _ (by omega)]; exact w1
      have y18 : M28 118 = M 118 := by rw [← w18]; exact funext fun i => by rw [e_M28, zset_n _ (by omega)]
      have y42 : M28 103 42 = M6 103 42 := by rw [e_M28, zset_n _ (by omega)]
      have gc2 : pr_X12_turnAt v4 M28 := by
        refine ⟨?_, ?_, ?_, ?_⟩
        · show 1 ≤ M28 103 38 ∧ M28 103 38 ≤ 412  -- c2.hn
          omega
        · show 0 ≤ v4 ∧ v4 < M28 103 38  -- c2.hi
          first | with_reducible assumption | omega | exact trivial | with_reducible rfl
        · show ∀ k, 0 ≤ k → k < M28 103 38 → 0 ≤ M28 118 k ∧ M28 118 k < 4  -- c2.hw
          rw [y1, y18]; exact hw
        · show ∀ k, 0 ≤ k → k < M28 103 38 → (M28 118 k - M28 118 (if k = 0 then M28 103 38 - 1 else k - 1)) % 4 ≠ 2  -- c2.h2
          rw [y1, y18]; exact h2
      refine ⟨gc2, ?_⟩
      rintro r31 M32 ⟨q_rfl, e_r31⟩ z_r31 z_M32
      have q_rfl := q_rfl.symm
      subst q_rfl
      rw [y1, y18] at e_r31
      have o3 : ((0 : Int) ≤ (M28 103 42) ∧ (M28 103 42) < 900) := by
        first | with_reducible assumption | omega | exact trivial | with_reducible rfl  -- o3
      refine ⟨o3, ?_⟩
      intro M38 e_M38
      have y42' : M38 103 42 = M6 103 42 := by rw [e_M38, zset_n _ (by omega)]; exact y42
      have o4 : zin ((M38 103 42) + 1) := by
        first | with_reducible assumption | omega | exact trivial | with_reducible rfl  -- o4
      refine ⟨o4, ?_⟩
      intro M42 e_M42
      have q : ∀ c i, ¬ (c = 103 ∧ i = 42) → ¬ (c = 121 ∧ i = M6 103 42) → ¬ (c = 122 ∧ i = M6 103 42) → M42 c i = M6 c i := fun c i c1 c2 c3 => by rw [e_M42, zset_n _ (by omega), e_M38, zset_n _ (by omega), e_M28, zset_n _ (by omega)]
      have q8 : M42 103 42 = M6 103 42 + 1 := by rw [e_M42, zset_s, y42']
      have q22 : M42 121 (M6 103 42) = v4 := by rw [e_M42, zset_n _ (by omega), e_M38, zset_n _ (by omega), e_M28, zset_s]
      have q23 : M42 122 (M6 103 42) = r31 := by rw [e_M42, zset_n _ (by omega), e_M38, y42, zset_s]
      have o5 : zin (v4 + 1) := by
        first | with_reducible assumption | omega | exact trivial | with_reducible rfl  -- o5
      refine ⟨o5, ?_⟩
      refine ⟨Int.toNat (412 - (v4 + 1)), by omega, by omega, ?_, ?_, ?_, ?_, ?_⟩
      · show 0 ≤ (v4 + 1) ∧ (v4 + 1) ≤ M 103 38  -- I7.2.hv
        first | with_reducible assumption | omega | exact trivial | with_reducible rfl
      · show ∀ c i, c ≠ 121 → c ≠ 122 → ¬ (c = 103 ∧ i = 42) → M42 c i = M c i  -- I7.2.hf
        intro c i c1 c2 c3; rw [q c i c3 (by omega) (by omega)]; exact hf c i c1 c2 c3
      · show M42 103 42 = zc (fun i => zTurn (M 118) (M 103 38) i ≠ 0) (v4 + 1)  -- I7.2.h8
        rw [q8, h8, zc_p hv.1 (by rw [← e_r16]; exact b2)]
      · show ∀ i, 0 ≤ i → i < (v4 + 1) → zTurn (M 118) (M 103 38) i ≠ 0 → M42 121 (zc (fun i => zTurn (M 118) (M 103 38) i ≠ 0) i) = i  -- I7.2.ht
        intro i i0 i1 i2
        by_cases c : i = v4
        · subst c; rw [← h8]; exact q22
        · have := zc_lt2 i0 (show i < v4 by omega) (p := fun i => zTurn (M 118) (M 103 38) i ≠ 0) i2
          rw [q 121 _ (by omega) (by omega) (by omega)]
          exact ht i i0 (by omega) i2
      · show ∀ t, 0 ≤ t → t < M42 103 42 → M42 122 t = zTurn (M 118) (M 103 38) (M42 121 t)  -- I7.2.hu
        rw [q8]; intro t t0 t1
        by_cases c : t = M6 103 42
        · rw [c, q23, q22, e_r31]
        · rw [q 122 t (by omega) (by omega) (by omega), q 121 t (by omega) (by omega) (by omega)]; exact hu t t0 (by omega)

