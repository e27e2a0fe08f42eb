/-- what a turn without a corner costs if the next has none, too -/
def gPr (w : Int → Int) (n T : Int) (tp : Int → Int) (t : Int) : Int := if zTurn w n (tp t) = zTurn w n (tp (if t + 1 < T then t + 1 else 0)) then 25 else 10
/-- the least from the turns behind, without and with a corner, if the first turn of all is s -/
def gAB (p : Int → Int) (cost T s : Int) : Nat → Int × Int
  | 0 => (if s = 0 then 0 else 1000000, if s = 1 then 0 else 1000000)
  | k + 1 => (min (p (T - 1 - k) + (gAB p cost T s k).1) (10 + (gAB p cost T s k).2), cost + (gAB p cost T s k).1)
def gA0 (p : Int → Int) (cost T s t : Int) : Int := (gAB p cost T s (T - t).toNat).1
def gA1 (p : Int → Int) (cost T s t : Int) : Int := (gAB p cost T s (T - t).toNat).2
theorem gA_T {p : Int → Int} {cost T s : Int} : gA0 p cost T s T = (if s = 0 then 0 else 1000000) ∧ gA1 p cost T s T = (if s = 1 then 0 else 1000000) := by
  unfold gA0 gA1
  rw [show (T - T).toNat = 0 by omega]
  exact ⟨rfl, rfl⟩
theorem gA_s {p : Int → Int} {cost T s t : Int} (h : t < T) : gA0 p cost T s t = min (p t + gA0 p cost T s (t + 1)) (10 + gA1 p cost T s (t + 1)) ∧ gA1 p cost T s t = cost + gA0 p cost T s (t + 1) := by
  unfold gA0 gA1
  rw [show (T - t).toNat = (T - (t + 1)).toNat + 1 by omega, gAB, show T - 1 - ((T - (t + 1)).toNat : Int) = t by omega]
  exact ⟨rfl, rfl⟩
theorem gAB.cong {p p' : Int → Int} {cost T s : Int} (h : ∀ t, 0 ≤ t → t < T → p t = p' t) : ∀ k : Nat, (k : Int) ≤ T → gAB p cost T s k = gAB p' cost T s k
  | 0, _ => rfl
  | k + 1, hk => by
    unfold gAB
    rw [gAB.cong h k (by omega), h (T - 1 - k) (by omega) (by omega)]
theorem gA.cong {p p' : Int → Int} {cost T s : Int} (h : ∀ t, 0 ≤ t → t < T → p t = p' t) {t : Int} (h0 : 0 ≤ t) (h1 : t ≤ T) : gA0 p cost T s t = gA0 p' cost T s t ∧ gA1 p cost T s t = gA1 p' cost T s t := by
  unfold gA0 gA1
  rw [gAB.cong h _ (by omega)]
  exact ⟨rfl, rfl⟩
theorem gAB_b {p : Int → Int} {cost T s : Int} (hp : ∀ t, 0 ≤ t → t < T → 10 ≤ p t ∧ p t ≤ 25) (hc : 0 ≤ cost ∧ cost ≤ 99) : ∀ k : Nat, (k : Int) ≤ T → 0 ≤ (gAB p cost T s k).1 ∧ (gAB p cost T s k).1 ≤ 1000000 + 25 * k ∧ 0 ≤ (gAB p cost T s k).2 ∧ (gAB p cost T s k).2 ≤ 1000099 + 25 * k
  | 0, _ => by unfold gAB; dsimp only; split <;> split <;> omega
  | k + 1, hk => by
    have i := gAB_b (s := s) hp hc k (by omega)
    have q := hp (T - 1 - k) (by omega) (by omega)
    unfold gAB
    dsimp only
    omega
theorem gA_b {p : Int → Int} {cost T s : Int} (hp : ∀ t, 0 ≤ t → t < T → 10 ≤ p t ∧ p t ≤ 25) (hc : 0 ≤ cost ∧ cost ≤ 99) (hT : T ≤ 412) {t : Int} (h0 : 0 ≤ t) (h1 : t ≤ T) : 0 ≤ gA0 p cost T s t ∧ gA0 p cost T s t ≤ 1020000 ∧ 0 ≤ gA1 p cost T s t ∧ gA1 p cost T s t ≤ 1020000 := by
  have := gAB_b (s := s) hp hc (T - t).toNat (by omega)
  unfold gA0 gA1
  omega
/-- none at all costs no more than that -/
theorem gAB_n {p : Int → Int} {cost T : Int} (hp : ∀ t, 0 ≤ t → t < T → 10 ≤ p t ∧ p t ≤ 25) : ∀ k : Nat, (k : Int) ≤ T → (gAB p cost T 0 k).1 ≤ 25 * k
  | 0, _ => by unfold gAB; simp
  | k + 1, hk => by
    have i := gAB_n (cost := cost) hp k (by omega)
    have q := hp (T - 1 - k) (by omega) (by omega)
    unfold gAB
    dsimp only
    omega
theorem gA_n {p : Int → Int} {cost T : Int} (hp : ∀ t, 0 ≤ t → t < T → 10 ≤ p t ∧ p t ≤ 25) (h0 : 0 ≤ T) (hT : T ≤ 412) : gA0 p cost T 0 0 < 1000000 := by
  have := gAB_n (cost := cost) hp (T - 0).toNat (by omega)
  unfold gA0
  omega
/-- whether the first turn has a corner -/
def gSt (p : Int → Int) (cost T : Int) : Int := if gA0 p cost T 0 0 ≤ gA1 p cost T 1 0 then 0 else 1
def gLs (p : Int → Int) (cost T : Int) : Int := if gA0 p cost T 0 0 ≤ gA1 p cost T 1 0 then gA0 p cost T 0 0 else gA1 p cost T 1 0
/-- whether turn t has a corner -/
def gCsN (p : Int → Int) (cost T s : Int) : Nat → Int
  | 0 => s
  | k + 1 => if gCsN p cost T s k = 1 then 0 else if gA0 p cost T s k = p k + gA0 p cost T s (k + 1) then 0 else 1
def gCs (p : Int → Int) (cost T s t : Int) : Int := gCsN p cost T s t.toNat
theorem gCs_0 {p : Int → Int} {cost T s : Int} : gCs p cost T s 0 = s := rfl
theorem gCs_s {p : Int → Int} {cost T s t : Int} (h : 0 ≤ t) : gCs p cost T s (t + 1) = if gCs p cost T s t = 1 then 0 else if gA0 p cost T s t = p t + gA0 p cost T s (t + 1) then 0 else 1 := by
  unfold gCs
  rw [show (t + 1).toNat = t.toNat + 1 by omega, gCsN, Int.toNat_of_nonneg h]
theorem gCs_01 {p : Int → Int} {cost T s : Int} (hs : s = 0 ∨ s = 1) : ∀ t, 0 ≤ t → gCs p cost T s t = 0 ∨ gCs p cost T s t = 1 := by
  apply zind
  · exact hs
  · intro v hv ih
    rw [gCs_s hv]
    split
    · exact .inl rfl
    · split
      · exact .inl rfl
      · exact .inr rfl
theorem gCs.cong {p p' : Int → Int} {cost T s : Int} (h : ∀ t, 0 ≤ t → t < T → p t = p' t) : ∀ t, 0 ≤ t → t ≤ T → gCs p cost T s t = gCs p' cost T s t := by
  apply zind (P := fun t => t ≤ T → gCs p cost T s t = gCs p' cost T s t)
  · intro _; rfl
  · intro v hv ih c
    rw [gCs_s hv, gCs_s hv, ih (by omega), (gA.cong h hv (by omega)).1, (gA.cong h (show 0 ≤ v + 1 by omega) c).1, h v hv (by omega)]
/-- whether point i has a corner -/
noncomputable def gCa (w : Int → Int) (n T : Int) (tp : Int → Int) (cost s i : Int) : Int := if zTurn w n i = 0 then 0 else gCs (gPr w n T tp) cost T s (zc (fun i => zTurn w n i ≠ 0) i)
theorem gPr_b {w : Int → Int} {n T : Int} {tp : Int → Int} (t : Int) : 10 ≤ gPr w n T tp t ∧ gPr w n T tp t ≤ 25 := by unfold gPr; split <;> omega
abbrev pr_X1_priceWithout (t : Int) (M : zM) : Prop := (1 ≤ M 17 1 ∧ M 17 1 ≤ 412) ∧ (∀ k, 0 ≤ k → k < M 17 1 → 0 ≤ M 18 k ∧ M 18 k < 4) ∧ (gTP (M 18) (M 17 1) (M 17 8) (M 22)) ∧ (0 ≤ t ∧ t < M 17 8)
abbrev po_X1_priceWithout (t : Int) (M : zM) (r : Int) (M' : zM) : Prop := M' = M ∧ r = gPr (M 18) (M 17 1) (M 17 8) (M 22) t
set_option maxHeartbeats 1000000 in
theorem ok_X1_priceWithout : zSnd zS 145 0 0 yX1_priceWithout cX1_priceWithout 3 (some .int) 1 [2, 0] (F_X1_priceWithout pr_X1_priceWithout po_X1_priceWithout) := by
  refine (sn_X1_priceWithout ok_X1_turnAt).mono ?_
  rintro xs P M hz hR ⟨t, rfl, ⟨hn, hw, hT, ht⟩, hP⟩
  refine ⟨_, rfl, ?_⟩
  have z_t := zall_h (zall_t hz) (by decide)
  change vc_X1_priceWithout pr_X1_turnAt po_X1_turnAt t P M
  unfold vc_X1_priceWithout
  have u := zc_b (fun i => zTurn (M 18) (M 17 1) i ≠ 0) (M 17 1) (by omega)
  have hT1 := hT.1
  have a1 := hT.at (by omega) ht.1 ht.2
  intro K17 h_K17
  have k_K17 : ∀ (v1 : Int), (0 ≤ v1 ∧ v1 < M 17 8) → (v1 = if t + 1 < M 17 8 then t + 1 else 0) → K17 v1 := by
    intro v1 hkr hk
    refine h_K17 _ ?_
    intro z_v1
    have a2 := hT.at (by omega) hkr.1 hkr.2
    have o1 : ((0 : Int) ≤ t ∧ t < 413) := by
      first | with_reducible assumption | omega | exact trivial | with_reducible rfl  -- o1
    refine ⟨o1, ?_⟩
    have gc1 : pr_X1_turnAt (M 22 t) M := by
      refine ⟨?_, ?_, ?_⟩
      · show 1 ≤ M 17 1 ∧ M 17 1 ≤ 412  -- c1.hn
        first | with_reducible assumption | omega | exact trivial | with_reducible rfl
      · show 0 ≤ (M 22 t) ∧ (M 22 t) < M 17 1  -- c1.hi
        omega
      · show ∀ k, 0 ≤ k → k < M 17 1 → 0 ≤ M 18 k ∧ M 18 k < 4  -- c1.hw
        first | with_reducible assumption | omega | exact trivial | with_reducible rfl
    refine ⟨gc1, ?_⟩
    rintro r4 M5 ⟨q_rfl, e_r4⟩ z_r4 z_M5
    have q_rfl := q_rfl.symm
    subst q_rfl
    have o2 : ((0 : Int) ≤ v1 ∧ v1 < 413) := by
      first | with_reducible assumption | omega | exact trivial | with_reducible rfl  -- o2
    refine ⟨o2, ?_⟩
    have gc2 : pr_X1_turnAt (M 22 v1) M := by
      refine ⟨?_, ?_, ?_⟩
      · show 1 ≤ M 17 1 ∧ M 17 1 ≤ 412  -- c2.hn
        first | with_reducible assumption | omega | exact trivial | with_reducible rfl
      · show 0 ≤ (M 22 v1) ∧ (M 22 v1) < M 17 1  -- c2.hi
        omega
      · show ∀ k, 0 ≤ k → k < M 17 1 → 0 ≤ M 18 k ∧ M 18 k < 4  -- c2.hw
        first | with_reducible assumption | omega | exact trivial | with_reducible rfl
    refine ⟨gc2, ?_⟩
    rintro r11 M12 ⟨q_rfl, e_r11⟩ z_r11 z_M12
    have q_rfl := q_rfl.symm
    subst q_rfl
    refine ⟨fun b1 => ?_, fun b1 => ?_⟩
    · -- b1.1
      refine hP _ _ ⟨rfl, ?_⟩
      · unfold gPr; rw [← hk, ← e_r4, ← e_r11, if_neg b1]  -- p1
    · -- b1.2
      refine hP _ _ ⟨rfl, ?_⟩
      · unfold gPr; rw [← hk, ← e_r4, ← e_r11, if_pos b1]  -- p2
  have o3 : zin (t + 1) := by
    first | with_reducible assumption | omega | exact trivial | with_reducible rfl  -- o3
  refine ⟨o3, ?_⟩
  refine ⟨fun b2 => ?_, fun b2 => ?_⟩
  · -- b2.1
    refine k_K17 _ ?_ ?_
    · show 0 ≤ 0 ∧ 0 < M 17 8  -- K17.1.hkr
      first | with_reducible assumption | omega | exact trivial | with_reducible rfl
    · show 0 = if t + 1 < M 17 8 then t + 1 else 0  -- K17.1.hk
      rw [if_neg (by omega)]
  · -- b2.2
    refine k_K17 _ ?_ ?_
    · show 0 ≤ (t + 1) ∧ (t + 1) < M 17 8  -- K17.2.hkr
      first | with_reducible assumption | omega | exact trivial | with_reducible rfl
    · show (t + 1) = if t + 1 < M 17 8 then t + 1 else 0  -- K17.2.hk
      rw [if_pos (by omega)]

abbrev pr_X1_sumCorners (cost : Int) (s : Int) (M : zM) : Prop := (1 ≤ M 17 1 ∧ M 17 1 ≤ 412) ∧ (∀ k, 0 ≤ k → k < M 17 1 → 0 ≤ M 18 k ∧ M 18 k < 4) ∧ (gTP (M 18) (M 17 1) (M 17 8) (M 22)) ∧ (0 ≤ cost ∧ cost ≤ 99) ∧ (s = 0 ∨ s = 1)
abbrev po_X1_sumCorners (cost : Int) (s : Int) (M : zM) (r : Int) (M' : zM) : Prop := (∀ c i, c ≠ 23 → c ≠ 24 → M' c i = M c i) ∧ (∀ t, 0 ≤ t → t ≤ M 17 8 → M' 23 t = gA0 (gPr (M 18) (M 17 1) (M 17 8) (M 22)) cost (M 17 8) s t ∧ M' 24 t = gA1 (gPr (M 18) (M 17 1) (M 17 8) (M 22)) cost (M 17 8) s t) ∧ (r = if s = 1 then gA1 (gPr (M 18) (M 17 1) (M 17 8) (M 22)) cost (M 17 8) s 0 else gA0 (gPr (M 18) (M 17 1) (M 17 8) (M 22)) cost (M 17 8) s 0)
set_option maxHeartbeats 1000000 in
theorem ok_X1_sumCorners : zSnd zS 145 0 0 yX1_sumCorners cX1_sumCorners 4 (some .int) 2 [2, 0, 0] (F_X1_sumCorners pr_X1_sumCorners po_X1_sumCorners) := by
  refine (sn_X1_sumCorners ok_X1_priceWithout).mono ?_
  rintro xs P M hz hR ⟨cost, s, rfl, ⟨hn, hw, hT, hc, hs⟩, hP⟩
  refine ⟨_, _, rfl, ?_⟩
  have z_cost := zall_h (zall_t hz) (by decide)
  have z_s := zall_h (zall_t (zall_t hz)) (by decide)
  change vc_X1_sumCorners pr_X1_priceWithout po_X1_priceWithout cost s P M
  unfold vc_X1_sumCorners
  have u := zc_b (fun i => zTurn (M 18) (M 17 1) i ≠ 0) (M 17 1) (by omega)
  have hT1 := hT.1
  have bb : ∀ t, 0 ≤ t → t ≤ M 17 8 → _ := fun t t0 t1 => gA_b (p := gPr (M 18) (M 17 1) (M 17 8) (M 22)) (cost := cost) (T := M 17 8) (s := s) (fun t _ _ => gPr_b t) hc (by omega) t0 t1
  have aT := @gA_T (gPr (M 18) (M 17 1) (M 17 8) (M 22)) cost (M 17 8) s
  intro K18 h_K18
  have k_K18 : ∀ (v1 : Int), (v1 = if s = 0 then 0 else 1000000) → K18 v1 := by
    intro v1 hk
    refine h_K18 _ ?_
    intro z_v1
    have o1 : ((0 : Int) ≤ (M 17 8) ∧ (M 17 8) < 413) := by
      first | with_reducible assumption | omega | exact trivial | with_reducible rfl  -- o1
    refine ⟨o1, ?_⟩
    intro M4 e_M4
    have f4 : M4 17 8 = M 17 8 := by rw [e_M4, zset_n _ (by omega)]
    refine ⟨fun b1 => ?_, fun b1 => ?_⟩
    · -- b1.1
      have o2 : ((0 : Int) ≤ (M4 17 8) ∧ (M4 17 8) < 413) := by
        rw [f4]; exact o1
      refine ⟨o2, ?_⟩
      intro M9 e_M9
      have g : ∀ c i, c ≠ 23 → c ≠ 24 → M9 c i = M c i := fun c i c1 c2 => by rw [e_M9, zset_n _ (by omega), e_M4, zset_n _ (by omega)]
      have g8 := g 17 8 (by decide) (by decide)
      have g23 : M9 23 (M 17 8) = gA0 (gPr (M 18) (M 17 1) (M 17 8) (M 22)) cost (M 17 8) s (M 17 8) := by rw [e_M9, zset_n _ (by omega), e_M4, zset_s, aT.1]; exact hk
      have g24 : M9 24 (M 17 8) = gA1 (gPr (M 18) (M 17 1) (M 17 8) (M 22)) cost (M 17 8) s (M 17 8) := by rw [e_M9, f4, zset_s, aT.2, if_neg b1]
      have o3 : zin ((M9 17 8) - 1) := by
        first | with_reducible assumption | omega | exact trivial | with_reducible rfl  -- o3
      refine ⟨o3, ?_⟩
      refine ⟨fun v12 M15 n17 => (n17 : Int) = (v12 + 1) ∧ (-1 ≤ v12 ∧ v12 < M 17 8) ∧ (∀ c i, c ≠ 23 → c ≠ 24 → M15 c i = M c i) ∧ (∀ t, v12 < t → t ≤ M 17 8 → M15 23 t = gA0 (gPr (M 18) (M 17 1) (M 17 8) (M 22)) cost (M 17 8) s t ∧ M15 24 t = gA1 (gPr (M 18) (M 17 1) (M 17 8) (M 22)) cost (M 17 8) s t), ⟨Int.toNat (((M9 17 8) - 1) + 1), by omega, ?_, ?_, ?_⟩, ?_⟩
      · show -1 ≤ ((M9 17 8) - 1) ∧ ((M9 17 8) - 1) < M 17 8  -- I46.0.hv
        first | with_reducible assumption | omega | exact trivial | with_reducible rfl
      · show ∀ c i, c ≠ 23 → c ≠ 24 → M9 c i = M c i  -- I46.0.hf
        first | with_reducible assumption | omega | exact trivial | with_reducible rfl
      · show ∀ t, ((M9 17 8) - 1) < t → t ≤ M 17 8 → M9 23 t = gA0 (gPr (M 18) (M 17 1) (M 17 8) (M 22)) cost (M 17 8) s t ∧ M9 24 t = gA1 (gPr (M 18) (M 17 1) (M 17 8) (M 22)) cost (M 17 8) s t  -- I46.0.hA
        intro t t0 t1; rw [show t = M 17 8 by omega]; exact ⟨g23, g24⟩
      rintro v12 M15 n17 ⟨h_n17, hv, hf, hA⟩ z_v12 z_M15
      refine ⟨fun b2 => ?_, fun b2 => ?_⟩
      · -- b2.1
        have h0 := hA 0 (by omega) (by omega)
        refine ⟨fun b3 => ?_, fun b3 => ?_⟩
        · -- b3.1
          refine hP _ _ ⟨?_, ?_, ?_⟩
          · show ∀ c i, c ≠ 23 → c ≠ 24 → M15 c i = M c i  -- p1.hf
            first | with_reducible assumption | omega | exact trivial | with_reducible rfl
          · show ∀ t, 0 ≤ t → t ≤ M 17 8 → M15 23 t = gA0 (gPr (M 18) (M 17 1) (M 17 8) (M 22)) cost (M 17 8) s t ∧ M15 24 t = gA1 (gPr (M 18) (M 17 1) (M 17 8) (M 22)) cost (M 17 8) s t  -- p1.hA
            intro t t0 t1; exact hA t (by omega) t1
          · show (M15 23 0) = if s = 1 then gA1 (gPr (M 18) (M 17 1) (M 17 8) (M 22)) cost (M 17 8) s 0 else gA0 (gPr (M 18) (M 17 1) (M 17 8) (M 22)) cost (M 17 8) s 0  -- p1.hr
            rw [if_neg b3]; exact h0.1
        · -- b3.2
          refine hP _ _ ⟨?_, ?_, ?_⟩
          · show ∀ c i, c ≠ 23 → c ≠ 24 → M15 c i = M c i  -- p2.hf
            first | with_reducible assumption | omega | exact trivial | with_reducible rfl
          · show ∀ t, 0 ≤ t → t ≤ M 17 8 → M15 23 t = gA0 (gPr (M 18) (M 17 1) (M 17 8) (M 22)) cost (M 17 8) s t ∧ M15 24 t = gA1 (gPr (M 18) (M 17 1) (M 17 8) (M 22)) cost (M 17 8) s t  -- p2.hA
            intro t t0 t1; exact hA t (by omega) t1
          · show (M15 24 0) = if s = 1 then gA1 (gPr (M 18) (M 17 1) (M 17 8) (M 22)) cost (M 17 8) s 0 else gA0 (gPr (M 18) (M 17 1) (M 17 8) (M 22)) cost (M 17 8) s 0  -- p2.hr
            rw [if_pos b3]; exact h0.2
      · -- b2.2
        have w1 := hf 17 1 (by decide) (by decide)
        have w8 := hf 17 8 (by decide) (by decide)
        have w18 : M15 18 = M 18 := funext fun i => hf 18 i (by decide) (by decide)
        have w22 : M15 22 = M 22 := funext fun i => hf 22 i (by decide) (by decide)
        have hN := hA (v12 + 1) (by omega) (by omega)
        have bN := bb (v12 + 1) (by omega) (by omega)
        have pb := @gPr_b (M 18) (M 17 1) (M 17 8) (M 22) v12
        have sA := @gA_s (gPr (M 18) (M 17 1) (M 17 8) (M 22)) cost (M 17 8) s v12 hv.2
        have gc1 : pr_X1_priceWithout v12 M15 := by
          refine ⟨?_, ?_, ?_, ?_⟩
          · show 1 ≤ M15 17 1 ∧ M15 17 1 ≤ 412  -- c1.hn
            first | with_reducible assumption | omega | exact trivial | with_reducible rfl
          · show ∀ k, 0 ≤ k → k < M15 17 1 → 0 ≤ M15 18 k ∧ M15 18 k < 4  -- c1.hw
            rw [w1, w18]; exact hw
          · show gTP (M15 18) (M15 17 1) (M15 17 8) (M15 22)  -- c1.hT
            rw [w1, w8, w18, w22]; exact hT
          · show 0 ≤ v12 ∧ v12 < M15 17 8  -- c1.ht
            first | with_reducible assumption | omega | exact trivial | with_reducible rfl
        refine ⟨gc1, ?_⟩
        rintro r26 M27 ⟨q_rfl, e_r26⟩ z_r26 z_M27
        have q_rfl := q_rfl.symm
        subst q_rfl
        rw [w1, w8, w18, w22] at e_r26
        have o4 : ((0 : Int) ≤ (v12 + 1) ∧ (v12 + 1) < 413) := by
          first | with_reducible assumption | omega | exact trivial | with_reducible rfl  -- o4
        refine ⟨o4, ?_⟩
        have o5 : zin (r26 + (M15 23 (v12 + 1))) := by
          first | with_reducible assumption | omega | exact trivial | with_reducible rfl  -- o5
        refine ⟨o5, ?_⟩
        have o6 : zin (10 + (M15 24 (v12 + 1))) := by
          first | with_reducible assumption | omega | exact trivial | with_reducible rfl  -- o6
        refine ⟨o6, ?_⟩
        have o7 : ((0 : Int) ≤ v12 ∧ v12 < 413) := by
          first | with_reducible assumption | omega | exact trivial | with_reducible rfl  -- o7
        refine ⟨o7, ?_⟩
        intro M37 e_M37
        have k23 : M37 23 v12 = gA0 (gPr (M 18) (M 17 1) (M 17 8) (M 22)) cost (M 17 8) s v12 := by rw [e_M37, zset_s, sA.1, e_r26, hN.1, hN.2]
        have k23n : M37 23 (v12 + 1) = gA0 (gPr (M 18) (M 17 1) (M 17 8) (M 22)) cost (M 17 8) s (v12 + 1) := by rw [e_M37, zset_n _ (by omega)]; exact hN.1
        have o8 : zin (cost + (M37 23 (v12 + 1))) := by
          first | with_reducible assumption | omega | exact trivial | with_reducible rfl  -- o8
        refine ⟨o8, ?_⟩
        intro M41 e_M41
        have o9 : zin (v12 + (-1)) := by
          first | with_reducible assumption | omega | exact trivial | with_reducible rfl  -- o9
        refine ⟨o9, ?_⟩
        refine ⟨Int.toNat ((v12 + (-1)) + 1), by omega, by omega, ?_, ?_, ?_⟩
        · show -1 ≤ (v12 + (-1)) ∧ (v12 + (-1)) < M 17 8  -- I46.1.hv
          first | with_reducible assumption | omega | exact trivial | with_reducible rfl
        · show ∀ c i, c ≠ 23 → c ≠ 24 → M41 c i = M c i  -- I46.1.hf
          intro c i c1 c2; rw [e_M41, zset_n _ (by omega), e_M37, zset_n _ (by omega)]; exact hf c i c1 c2
        · show ∀ t, (v12 + (-1)) < t → t ≤ M 17 8 → M41 23 t = gA0 (gPr (M 18) (M 17 1) (M 17 8) (M 22)) cost (M 17 8) s t ∧ M41 24 t = gA1 (gPr (M 18) (M 17 1) (M 17 8) (M 22)) cost (M 17 8) s t  -- I46.1.hA
          intro t t0 t1
          by_cases c : t = v12
          · rw [c, e_M41, zset_n _ (by omega), zset_s, k23n, sA.2]; exact ⟨k23, rfl⟩
          · rw [e_M41, zset_n _ (by omega), zset_n _ (by omega), e_M37, zset_n _ (by omega), zset_n _ (by omega)]; exact hA t (by omega) t1
    · -- b1.2
      have o10 : ((0 : Int) ≤ (M4 17 8) ∧ (M4 17 8) < 413) := by
        rw [f4]; exact o1
      refine ⟨o10, ?_⟩
      intro M49 e_M49
      have g : ∀ c i, c ≠ 23 → c ≠ 24 → M49 c i = M c i := fun c i c1 c2 => by rw [e_M49, zset_n _ (by omega), e_M4, zset_n _ (by omega)]
      have g8 := g 17 8 (by decide) (by decide)
      have g23 : M49 23 (M 17 8) = gA0 (gPr (M 18) (M 17 1) (M 17 8) (M 22)) cost (M 17 8) s (M 17 8) := by rw [e_M49, zset_n _ (by omega), e_M4, zset_s, aT.1]; exact hk
      have g24 : M49 24 (M 17 8) = gA1 (gPr (M 18) (M 17 1) (M 17 8) (M 22)) cost (M 17 8) s (M 17 8) := by rw [e_M49, f4, zset_s, aT.2, if_pos b1]
      have o11 : zin ((M49 17 8) - 1) := by
        first | with_reducible assumption | omega | exact trivial | with_reducible rfl  -- o11
      refine ⟨o11, ?_⟩
      refine ⟨fun v52 M55 n57 => (n57 : Int) = (v52 + 1) ∧ (-1 ≤ v52 ∧ v52 < M 17 8) ∧ (∀ c i, c ≠ 23 → c ≠ 24 → M55 c i = M c i) ∧ (∀ t, v52 < t → t ≤ M 17 8 → M55 23 t = gA0 (gPr (M 18) (M 17 1) (M 17 8) (M 22)) cost (M 17 8) s t ∧ M55 24 t = gA1 (gPr (M 18) (M 17 1) (M 17 8) (M 22)) cost (M 17 8) s t), ⟨Int.toNat (((M49 17 8) - 1) + 1), by omega, ?_, ?_, ?_⟩, ?_⟩
      · show -1 ≤ ((M49 17 8) - 1) ∧ ((M49 17 8) - 1) < M 17 8  -- I46.0.hv
        first | with_reducible assumption | omega | exact trivial | with_reducible rfl
      · show ∀ c i, c ≠ 23 → c ≠ 24 → M49 c i = M c i  -- I46.0.hf
        first | with_reducible assumption | omega | exact trivial | with_reducible rfl
      · show ∀ t, ((M49 17 8) - 1) < t → t ≤ M 17 8 → M49 23 t = gA0 (gPr (M 18) (M 17 1) (M 17 8) (M 22)) cost (M 17 8) s t ∧ M49 24 t = gA1 (gPr (M 18) (M 17 1) (M 17 8) (M 22)) cost (M 17 8) s t  -- I46.0.hA
        intro t t0 t1; rw [show t = M 17 8 by omega]; exact ⟨g23, g24⟩
      rintro v52 M55 n57 ⟨h_n57, hv, hf, hA⟩ z_v52 z_M55
      refine ⟨fun b4 => ?_, fun b4 => ?_⟩
      · -- b4.1
        have h0 := hA 0 (by omega) (by omega)
        refine ⟨fun b5 => ?_, fun b5 => ?_⟩
        · -- b5.1
          refine hP _ _ ⟨?_, ?_, ?_⟩
          · show ∀ c i, c ≠ 23 → c ≠ 24 → M55 c i = M c i  -- p3.hf
            first | with_reducible assumption | omega | exact trivial | with_reducible rfl
          · show ∀ t, 0 ≤ t → t ≤ M 17 8 → M55 23 t = gA0 (gPr (M 18) (M 17 1) (M 17 8) (M 22)) cost (M 17 8) s t ∧ M55 24 t = gA1 (gPr (M 18) (M 17 1) (M 17 8) (M 22)) cost (M 17 8) s t  -- p3.hA
            intro t t0 t1; exact hA t (by omega) t1
          · show (M55 23 0) = if s = 1 then gA1 (gPr (M 18) (M 17 1) (M 17 8) (M 22)) cost (M 17 8) s 0 else gA0 (gPr (M 18) (M 17 1) (M 17 8) (M 22)) cost (M 17 8) s 0  -- p3.hr
            rw [if_neg b5]; exact h0.1
        · -- b5.2
          refine hP _ _ ⟨?_, ?_, ?_⟩
          · show ∀ c i, c ≠ 23 → c ≠ 24 → M55 c i = M c i  -- p4.hf
            first | with_reducible assumption | omega | exact trivial | with_reducible rfl
          · show ∀ t, 0 ≤ t → t ≤ M 17 8 → M55 23 t = gA0 (gPr (M 18) (M 17 1) (M 17 8) (M 22)) cost (M 17 8) s t ∧ M55 24 t = gA1 (gPr (M 18) (M 17 1) (M 17 8) (M 22)) cost (M 17 8) s t  -- p4.hA
            intro t t0 t1; exact hA t (by omega) t1
          · show (M55 24 0) = if s = 1 then gA1 (gPr (M 18) (M 17 1) (M 17 8) (M 22)) cost (M 17 8) s 0 else gA0 (gPr (M 18) (M 17 1) (M 17 8) (M 22)) cost (M 17 8) s 0  -- p4.hr
            rw [if_pos b5]; exact h0.2
      · -- b4.2
        have w1 := hf 17 1 (by decide) (by decide)
        have w8 := hf 17 8 (by decide) (by decide)
        have w18 : M55 18 = M 18 := funext fun i => hf 18 i (by decide) (by decide)
        have w22 : M55 22 = M 22 := funext fun i => hf 22 i (by decide) (by decide)
        have hN := hA (v52 + 1) (by omega) (by omega)
        have bN := bb (v52 + 1) (by omega) (by omega)
        have pb := @gPr_b (M 18) (M 17 1) (M 17 8) (M 22) v52
        have sA := @gA_s (gPr (M 18) (M 17 1) (M 17 8) (M 22)) cost (M 17 8) s v52 hv.2
        have gc2 : pr_X1_priceWithout v52 M55 := by
          refine ⟨?_, ?_, ?_, ?_⟩
          · show 1 ≤ M55 17 1 ∧ M55 17 1 ≤ 412  -- c2.hn
            first | with_reducible assumption | omega | exact trivial | with_reducible rfl
          · show ∀ k, 0 ≤ k → k < M55 17 1 → 0 ≤ M55 18 k ∧ M55 18 k < 4  -- c2.hw
            rw [w1, w18]; exact hw
          · show gTP (M55 18) (M55 17 1) (M55 17 8) (M55 22)  -- c2.hT
            rw [w1, w8, w18, w22]; exact hT
          · show 0 ≤ v52 ∧ v52 < M55 17 8  -- c2.ht
            first | with_reducible assumption | omega | exact trivial | with_reducible rfl
        refine ⟨gc2, ?_⟩
        rintro r66 M67 ⟨q_rfl, e_r66⟩ z_r66 z_M67
        have q_rfl := q_rfl.symm
        subst q_rfl
        rw [w1, w8, w18, w22] at e_r66
        have o12 : ((0 : Int) ≤ (v52 + 1) ∧ (v52 + 1) < 413) := by
          first | with_reducible assumption | omega | exact trivial | with_reducible rfl  -- o12
        refine ⟨o12, ?_⟩
        have o13 : zin (r66 + (M55 23 (v52 + 1))) := by
          first | with_reducible assumption | omega | exact trivial | with_reducible rfl  -- o13
        refine ⟨o13, ?_⟩
        have o14 : zin (10 + (M55 24 (v52 + 1))) := by
          first | with_reducible assumption | omega | exact trivial | with_reducible rfl  -- o14
        refine ⟨o14, ?_⟩
        have o15 : ((0 : Int) ≤ v52 ∧ v52 < 413) := by
          first | with_reducible assumption | omega | exact trivial | with_reducible rfl  -- o15
        refine ⟨o15, ?_⟩
        intro M77 e_M77
        have k23 : M77 23 v52 = gA0 (gPr (M 18) (M 17 1) (M 17 8) (M 22)) cost (M 17 8) s v52 := by rw [e_M77, zset_s, sA.1, e_r66, hN.1, hN.2]
        have k23n : M77 23 (v52 + 1) = gA0 (gPr (M 18) (M 17 1) (M 17 8) (M 22)) cost (M 17 8) s (v52 + 1) := by rw [e_M77, zset_n _ (by omega)]; exact hN.1
        have o16 : zin (cost + (M77 23 (v52 + 1))) := by
          first | with_reducible assumption | omega | exact trivial | with_reducible rfl  -- o16
        refine ⟨o16, ?_⟩
        intro M81 e_M81
        have o17 : zin (v52 + (-1)) := by
          first | with_reducible assumption | omega | exact trivial | with_reducible rfl  -- o17
        refine ⟨o17, ?_⟩
        refine ⟨Int.toNat ((v52 + (-1)) + 1), by omega, by omega, ?_, ?_, ?_⟩
        · show -1 ≤ (v52 + (-1)) ∧ (v52 + (-1)) < M 17 8  -- I46.2.hv
          first | with_reducible assumption | omega | exact trivial | with_reducible rfl
        · show ∀ c i, c ≠ 23 → c ≠ 24 → M81 c i = M c i  -- I46.2.hf
          intro c i c1 c2; rw [e_M81, zset_n _ (by omega), e_M77, zset_n _ (by omega)]; exact hf c i c1 c2
        · show ∀ t, (v52 + (-1)) < t → t ≤ M 17 8 → M81 23 t = gA0 (gPr (M 18) (M 17 1) (M 17 8) (M 22)) cost (M 17 8) s t ∧ M81 24 t = gA1 (gPr (M 18) (M 17 1) (M 17 8) (M 22)) cost (M 17 8) s t  -- I46.2.hA
          intro t t0 t1
          by_cases c : t = v52
          · rw [c, e_M81, zset_n _ (by omega), zset_s, k23n, sA.2]; exact ⟨k23, rfl⟩
          · rw [e_M81, zset_n _ (by omega), zset_n _ (by omega), e_M77, zset_n _ (by omega), zset_n _ (by omega)]; exact hA t (by omega) t1
  refine ⟨fun b6 => ?_, fun b6 => ?_⟩
  · -- b6.1
    refine k_K18 _ ?_
    · show 1000000 = if s = 0 then 0 else 1000000  -- K18.1.hk
      rw [if_neg b6]
  · -- b6.2
    refine k_K18 _ ?_
    · show 0 = if s = 0 then 0 else 1000000  -- K18.2.hk
      rw [if_pos b6]

abbrev pr_X1_followCorners (cost : Int) (s : Int) (M : zM) : Prop := (1 ≤ M 17 1 ∧ M 17 1 ≤ 412) ∧ (∀ k, 0 ≤ k → k < M 17 1 → 0 ≤ M 18 k ∧ M 18 k < 4) ∧ (gTP (M 18) (M 17 1) (M 17 8) (M 22)) ∧ (0 ≤ cost ∧ cost ≤ 99) ∧ (s = 0 ∨ s = 1) ∧ (∀ t, 0 ≤ t → t ≤ M 17 8 → M 23 t = gA0 (gPr (M 18) (M 17 1) (M 17 8) (M 22)) cost (M 17 8) s t)
abbrev po_X1_followCorners (cost : Int) (s : Int) (M : zM) (M' : zM) : Prop := (∀ c i, c ≠ 21 → M' c i = M c i) ∧ (∀ i, 0 ≤ i → i < M 17 1 → M' 21 i = gCa (M 18) (M 17 1) (M 17 8) (M 22) cost s i)
set_option maxHeartbeats 1000000 in
theorem ok_X1_followCorners : zSnd zS 145 0 0 yX1_followCorners cX1_followCorners 5 none 2 [2, 0, 0] (F_X1_followCorners pr_X1_followCorners po_X1_followCorners) := by
  refine (sn_X1_followCorners ok_J7_fill_53178 ok_X1_priceWithout).mono ?_
  rintro xs P M hz hR ⟨cost, s, rfl, ⟨hn, hw, hT, hc, hs, hA⟩, hP⟩
  refine ⟨_, _, rfl, ?_⟩
  have z_cost := zall_h (zall_t hz) (by decide)
  have z_s := zall_h (zall_t (zall_t hz)) (by decide)
  change vc_X1_followCorners pr_J7_fill_53178 po_J7_fill_53178 pr_X1_priceWithout po_X1_priceWithout cost s P M
  unfold vc_X1_followCorners
  have u := zc_b (fun i => zTurn (M 18) (M 17 1) i ≠ 0) (M 17 1) (by omega)
  have hT1 := hT.1
  have bb : ∀ t, 0 ≤ t → t ≤ M 17 8 → _ := fun t t0 t1 => gA_b (p := gPr (M 18) (M 17 1) (M 17 8) (M 22)) (cost := cost) (T := M 17 8) (s := s) (fun t _ _ => gPr_b t) hc (by omega) t0 t1
  have gc1 : pr_J7_fill_53178 21 0 M := by
    refine ⟨?_, ?_⟩
    · show zia 21  -- c1.ha
      exact zia_k (c := 21) (by decide +kernel)
    · show zin 0  -- c1.hv
      decide
  refine ⟨gc1, ?_⟩
  rintro M1 ⟨pc1_hi, pc1_hf⟩ z_M1
  have e21 : zlni 21 = 413 := rfl
  rw [e21] at pc1_hi pc1_hf
  refine ⟨fun v6 v7 M10 n12 => (n12 : Int) = (413 - v7) ∧ (0 ≤ v7 ∧ v7 ≤ M 17 8) ∧ (v6 = gCs (gPr (M 18) (M 17 1) (M 17 8) (M 22)) cost (M 17 8) s v7) ∧ (∀ c i, c ≠ 21 → M10 c i = M c i) ∧ (∀ t, 0 ≤ t → t < v7 → M10 21 (M 22 t) = gCs (gPr (M 18) (M 17 1) (M 17 8) (M 22)) cost (M 17 8) s t) ∧ (∀ i, 0 ≤ i → i < M 17 1 → (zTurn (M 18) (M 17 1) i = 0 ∨ v7 ≤ zc (fun i => zTurn (M 18) (M 17 1) i ≠ 0) i) → M10 21 i = 0), ⟨Int.toNat (413 - 0), by omega, ?_, ?_, ?_, ?_, ?_⟩, ?_⟩
  · show 0 ≤ 0 ∧ 0 ≤ M 17 8  -- I13.0.hv
    first | with_reducible assumption | omega | exact trivial | with_reducible rfl
  · show s = gCs (gPr (M 18) (M 17 1) (M 17 8) (M 22)) cost (M 17 8) s 0  -- I13.0.h6
    rfl
  · show ∀ c i, c ≠ 21 → M1 c i = M c i  -- I13.0.hf
    intro c i h; exact pc1_hf c i (.inl h)
  · show ∀ t, 0 ≤ t → t < 0 → M1 21 (M 22 t) = gCs (gPr (M 18) (M 17 1) (M 17 8) (M 22)) cost (M 17 8) s t  -- I13.0.h1
    intro t t0 t1; omega
  · show ∀ i, 0 ≤ i → i < M 17 1 → (zTurn (M 18) (M 17 1) i = 0 ∨ 0 ≤ zc (fun i => zTurn (M 18) (M 17 1) i ≠ 0) i) → M1 21 i = 0  -- I13.0.h2
    intro i i0 i1 _; exact pc1_hi i i0 (by omega)
  rintro v6 v7 M10 n12 ⟨h_n12, hv, h6, hf, h1, h2⟩ z_v6 z_v7 z_M10
  have w1 := hf 17 1 (by decide)
  have w8 := hf 17 8 (by decide)
  have w18 : M10 18 = M 18 := funext fun i => hf 18 i (by decide)
  have w22 : M10 22 = M 22 := funext fun i => hf 22 i (by decide)
  have w23 : M10 23 = M 23 := funext fun i => hf 23 i (by decide)
  have c01 := gCs_01 (p := gPr (M 18) (M 17 1) (M 17 8) (M 22)) (cost := cost) (T := M 17 8) hs v7 hv.1
  refine ⟨fun b1 => ?_, fun b1 => ?_⟩
  · -- b1.1
    refine hP _ ⟨?_, ?_⟩
    · show ∀ c i, c ≠ 21 → M10 c i = M c i  -- p1.hf
      first | with_reducible assumption | omega | exact trivial | with_reducible rfl
    · show ∀ i, 0 ≤ i → i < M 17 1 → M10 21 i = gCa (M 18) (M 17 1) (M 17 8) (M 22) cost s i  -- p1.hC
      intro i i0 i1
      unfold gCa
      split
      · rename_i c; exact h2 i i0 i1 (.inl c)
      · rename_i c
        have l := zc_lt2 i0 i1 (p := fun i => zTurn (M 18) (M 17 1) i ≠ 0) c
        have z := (zc_b (fun i => zTurn (M 18) (M 17 1) i ≠ 0) i i0).1
        have e := h1 _ z (by omega)
        rw [hT.2 i i0 i1 c] at e
        exact e
  · -- b1.2
    have aT := hT.at (by omega) hv.1 (show v7 < M 17 8 by omega)
    have o1 : ((0 : Int) ≤ v7 ∧ v7 < 413) := by
      first | with_reducible assumption | omega | exact trivial | with_reducible rfl  -- o1
    refine ⟨o1, ?_⟩
    have o2 : ((0 : Int) ≤ (M10 22 v7) ∧ (M10 22 v7) < 413) := by
      rw [w22]; omega
    refine ⟨o2, ?_⟩
    intro M22 e_M22
    have z : ∀ c i, c ≠ 21 → M22 c i = M c i := fun c i h => by rw [e_M22, zset_n _ (.inl h)]; exact hf c i h
    have z1 : ∀ t, 0 ≤ t → t < v7 + 1 → M22 21 (M 22 t) = gCs (gPr (M 18) (M 17 1) (M 17 8) (M 22)) cost (M 17 8) s t := fun t t0 t1 => by
      rw [e_M22, w22]
      by_cases c : t = v7
      · rw [c, zset_s]; exact h6
      · have a2 := hT.at (by omega) t0 (show t < M 17 8 by omega)
        rw [zset_n _ (.inr (fun e => c (by rw [← a2.2.2.2, e, aT.2.2.2])))]
        exact h1 t t0 (by omega)
    have z2 : ∀ i, 0 ≤ i → i < M 17 1 → (zTurn (M 18) (M 17 1) i = 0 ∨ v7 + 1 ≤ zc (fun i => zTurn (M 18) (M 17 1) i ≠ 0) i) → M22 21 i = 0 := fun i i0 i1 h => by
      rw [e_M22, w22, zset_n _ (.inr (fun e => by
        rw [e] at h
        rcases h with h | h
        · exact aT.2.2.1 h
        · rw [aT.2.2.2] at h; omega))]
      refine h2 i i0 i1 ?_
      rcases h with h | h
      · exact .inl h
      · exact .inr (by omega)
    have y1 := z 17 1 (by decide)
    have y8 := z 17 8 (by decide)
    have y18 : M22 18 = M 18 := funext fun i => z 18 i (by decide)
    have y22 : M22 22 = M 22 := funext fun i => z 22 i (by decide)
    have y23 : M22 23 = M 23 := funext fun i => z 23 i (by decide)
    have cs := @gCs_s (gPr (M 18) (M 17 1) (M 17 8) (M 22)) cost (M 17 8) s v7 hv.1
    rw [← h6] at cs
    refine ⟨fun b2 => ?_, fun b2 => ?_⟩
    · -- b2.1
      have gc2 : pr_X1_priceWithout v7 M22 := by
        refine ⟨?_, ?_, ?_, ?_⟩
        · show 1 ≤ M22 17 1 ∧ M22 17 1 ≤ 412  -- c2.hn
          first | with_reducible assumption | omega | exact trivial | with_reducible rfl
        · show ∀ k, 0 ≤ k → k < M22 17 1 → 0 ≤ M22 18 k ∧ M22 18 k < 4  -- c2.hw
          rw [y1, y18]; exact hw
        · show gTP (M22 18) (M22 17 1) (M22 17 8) (M22 22)  -- c2.hT
          rw [y1, y8, y18, y22]; exact hT
        · show 0 ≤ v7 ∧ v7 < M22 17 8  -- c2.ht
          first | with_reducible assumption | omega | exact trivial | with_reducible rfl
      refine ⟨gc2, ?_⟩
      rintro r26 M27 ⟨q_rfl, e_r26⟩ z_r26 z_M27
      have q_rfl := q_rfl.symm
      subst q_rfl
      rw [y1, y8, y18, y22] at e_r26
      have pb := @gPr_b (M 18) (M 17 1) (M 17 8) (M 22) v7
      have bN := bb (v7 + 1) (by omega) (by omega)
      have A0 := hA v7 hv.1 (by omega)
      have A1 := hA (v7 + 1) (by omega) (by omega)
      rw [y23, e_r26, A0, A1]
      rw [if_neg b2] at cs
      have o3 : ((0 : Int) ≤ (v7 + 1) ∧ (v7 + 1) < 413) := by
        first | with_reducible assumption | omega | exact trivial | with_reducible rfl  -- o3
      refine ⟨o3, ?_⟩
      have o4 : zin ((gPr (M 18) (M 17 1) (M 17 8) (M 22) v7) + (gA0 (gPr (M 18) (M 17 1) (M 17 8) (M 22)) cost (M 17 8) s (v7 + 1))) := by
        omega
      refine ⟨o4, ?_⟩
      refine ⟨fun b3 => ?_, fun b3 => ?_⟩
      · -- b3.1
        have o5 : zin (v7 + 1) := by
          first | with_reducible assumption | omega | exact trivial | with_reducible rfl  -- o5
        refine ⟨o5, ?_⟩
        refine ⟨Int.toNat (413 - (v7 + 1)), by omega, by omega, ?_, ?_, ?_, ?_, ?_⟩
        · show 0 ≤ (v7 + 1) ∧ (v7 + 1) ≤ M 17 8  -- I13.1.hv
          first | with_reducible assumption | omega | exact trivial | with_reducible rfl
        · show 1 = gCs (gPr (M 18) (M 17 1) (M 17 8) (M 22)) cost (M 17 8) s (v7 + 1)  -- I13.1.h6
          rw [cs, if_neg b3]
        · show ∀ c i, c ≠ 21 → M22 c i = M c i  -- I13.1.hf
          first | with_reducible assumption | omega | exact trivial | with_reducible rfl
        · show ∀ t, 0 ≤ t → t < (v7 + 1) → M22 21 (M 22 t) = gCs (gPr (M 18) (M 17 1) (M 17 8) (M 22)) cost (M 17 8) s t  -- I13.1.h1
          first | with_reducible assumption | omega | exact trivial | with_reducible rfl
        · show ∀ i, 0 ≤ i → i < M 17 1 → (zTurn (M 18) (M 17 1) i = 0 ∨ (v7 + 1) ≤ zc (fun i => zTurn (M 18) (M 17 1) i ≠ 0) i) → M22 21 i = 0  -- I13.1.h2
          first | with_reducible assumption | omega | exact trivial | with_reducible rfl
      · -- b3.2
        have o6 : zin (v7 + 1) := by
          first | with_reducible assumption | omega | exact trivial | with_reducible rfl  -- o6
        refine ⟨o6, ?_⟩
        refine ⟨Int.toNat (413 - (v7 + 1)), by omega, by omega, ?_, ?_, ?_, ?_, ?_⟩
        · show 0 ≤ (v7 + 1) ∧ (v7 + 1) ≤ M 17 8  -- I13.2.hv
          first | with_reducible assumption | omega | exact trivial | with_reducible rfl
        · show 0 = gCs (gPr (M 18) (M 17 1) (M 17 8) (M 22)) cost (M 17 8) s (v7 + 1)  -- I13.2.h6
          rw [cs, if_pos b3]
        · show ∀ c i, c ≠ 21 → M22 c i = M c i  -- I13.2.hf
          first | with_reducible assumption | omega | exact trivial | with_reducible rfl
        · show ∀ t, 0 ≤ t → t < (v7 + 1) → M22 21 (M 22 t) = gCs (gPr (M 18) (M 17 1) (M 17 8) (M 22)) cost (M 17 8) s t  -- I13.2.h1
          first | with_reducible assumption | omega | exact trivial | with_reducible rfl
        · show ∀ i, 0 ≤ i → i < M 17 1 → (zTurn (M 18) (M 17 1) i = 0 ∨ (v7 + 1) ≤ zc (fun i => zTurn (M 18) (M 17 1) i ≠ 0) i) → M22 21 i = 0  -- I13.2.h2
          first | with_reducible assumption | omega | exact trivial | with_reducible rfl
    · -- b2.2
      have o7 : zin (v7 + 1) := by
        first | with_reducible assumption | omega | exact trivial | with_reducible rfl  -- o7
      refine ⟨o7, ?_⟩
      refine ⟨Int.toNat (413 - (v7 + 1)), by omega, by omega, ?_, ?_, ?_, ?_, ?_⟩
      · show 0 ≤ (v7 + 1) ∧ (v7 + 1) ≤ M 17 8  -- I13.3.hv
        first | with_reducible assumption | omega | exact trivial | with_reducible rfl
      · show 0 = gCs (gPr (M 18) (M 17 1) (M 17 8) (M 22)) cost (M 17 8) s (v7 + 1)  -- I13.3.h6
        rw [cs, if_pos b2]
      · show ∀ c i, c ≠ 21 → M22 c i = M c i  -- I13.3.hf
        first | with_reducible assumption | omega | exact trivial | with_reducible rfl
      · show ∀ t, 0 ≤ t → t < (v7 + 1) → M22 21 (M 22 t) = gCs (gPr (M 18) (M 17 1) (M 17 8) (M 22)) cost (M 17 8) s t  -- I13.3.h1
        first | with_reducible assumption | omega | exact trivial | with_reducible rfl
      · show ∀ i, 0 ≤ i → i < M 17 1 → (zTurn (M 18) (M 17 1) i = 0 ∨ (v7 + 1) ≤ zc (fun i => zTurn (M 18) (M 17 1) i ≠ 0) i) → M22 21 i = 0  -- I13.3.h2
        first | with_reducible assumption | omega | exact trivial | with_reducible rfl

abbrev pr_X1_decideCorners (cost : Int) (M : zM) : Prop := (1 ≤ M 17 1 ∧ M 17 1 ≤ 412) ∧ (∀ k, 0 ≤ k → k < M 17 1 → 0 ≤ M 18 k ∧ M 18 k < 4) ∧ (gTP (M 18) (M 17 1) (M 17 8) (M 22)) ∧ (0 ≤ cost ∧ cost ≤ 99)
abbrev po_X1_decideCorners (cost : Int) (M : zM) (r : Int) (M' : zM) : Prop := (∀ c i, c ≠ 21 → c ≠ 23 → c ≠ 24 → M' c i = M c i) ∧ (r = gLs (gPr (M 18) (M 17 1) (M 17 8) (M 22)) cost (M 17 8)) ∧ (∀ i, 0 ≤ i → i < M 17 1 → M' 21 i = gCa (M 18) (M 17 1) (M 17 8) (M 22) cost (gSt (gPr (M 18) (M 17 1) (M 17 8) (M 22)) cost (M 17 8)) i)
set_option maxHeartbeats 1000000 in
theorem ok_X1_decideCorners : zSnd zS 145 0 0 yX1_decideCorners cX1_decideCorners 4 (some .int) 3 [2, 0] (F_X1_decideCorners pr_X1_decideCorners po_X1_decideCorners) := by
  refine (sn_X1_decideCorners ok_X1_sumCorners ok_X1_followCorners).mono ?_
  rintro xs P M hz hR ⟨cost, rfl, ⟨hn, hw, hT, hc⟩, hP⟩
  refine ⟨_, rfl, ?_⟩
  have z_cost := zall_h (zall_t hz) (by decide)
  change vc_X1_decideCorners pr_X1_sumCorners po_X1_sumCorners pr_X1_followCorners po_X1_followCorners cost P M
  unfold vc_X1_decideCorners
  have gc1 : pr_X1_sumCorners cost 1 M := by
    refine ⟨?_, ?_, ?_, ?_, ?_⟩
    · show 1 ≤ M 17 1 ∧ M 17 1 ≤ 412  -- c1.hn
      first | with_reducible assumption | omega | exact trivial | with_reducible rfl
    · show ∀ k, 0 ≤ k → k < M 17 1 → 0 ≤ M 18 k ∧ M 18 k < 4  -- c1.hw
      first | with_reducible assumption | omega | exact trivial | with_reducible rfl
    · show gTP (M 18) (M 17 1) (M 17 8) (M 22)  -- c1.hT
      first | with_reducible assumption | omega | exact trivial | with_reducible rfl
    · show 0 ≤ cost ∧ cost ≤ 99  -- c1.hc
      first | with_reducible assumption | omega | exact trivial | with_reducible rfl
    · show 1 = 0 ∨ 1 = 1  -- c1.hs
      exact .inr rfl
  refine ⟨gc1, ?_⟩
  rintro r1 M2 ⟨pc1_hf, pc1_hA, pc1_hr⟩ z_r1 z_M2
  have q1 := pc1_hf 17 1 (by decide) (by decide)
  have q8 := pc1_hf 17 8 (by decide) (by decide)
  have q18 : M2 18 = M 18 := funext fun i => pc1_hf 18 i (by decide) (by decide)
  have q22 : M2 22 = M 22 := funext fun i => pc1_hf 22 i (by decide) (by decide)
  rw [if_pos rfl] at pc1_hr
  have gc2 : pr_X1_sumCorners cost 0 M2 := by
    refine ⟨?_, ?_, ?_, ?_, ?_⟩
    · show 1 ≤ M2 17 1 ∧ M2 17 1 ≤ 412  -- c2.hn
      first | with_reducible assumption | omega | exact trivial | with_reducible rfl
    · show ∀ k, 0 ≤ k → k < M2 17 1 → 0 ≤ M2 18 k ∧ M2 18 k < 4  -- c2.hw
      rw [q1, q18]; exact hw
    · show gTP (M2 18) (M2 17 1) (M2 17 8) (M2 22)  -- c2.hT
      rw [q1, q8, q18, q22]; exact hT
    · show 0 ≤ cost ∧ cost ≤ 99  -- c2.hc
      first | with_reducible assumption | omega | exact trivial | with_reducible rfl
    · show 0 = 0 ∨ 0 = 1  -- c2.hs
      exact .inl rfl
  refine ⟨gc2, ?_⟩
  rintro r7 M8 ⟨pc2_hf, pc2_hA, pc2_hr⟩ z_r7 z_M8
  rw [q1, q8, q18, q22] at pc2_hA pc2_hr
  rw [if_neg (by decide)] at pc2_hr
  have w : ∀ c i, c ≠ 23 → c ≠ 24 → M8 c i = M c i := fun c i c1 c2 => by rw [pc2_hf c i c1 c2]; exact pc1_hf c i c1 c2
  have w1 := w 17 1 (by decide) (by decide)
  have w8 := w 17 8 (by decide) (by decide)
  have w18 : M8 18 = M 18 := funext fun i => w 18 i (by decide) (by decide)
  have w22 : M8 22 = M 22 := funext fun i => w 22 i (by decide) (by decide)
  refine ⟨fun b1 => ?_, fun b1 => ?_⟩
  · -- b1.1
    have gc3 : pr_X1_sumCorners cost 1 M8 := by
      refine ⟨?_, ?_, ?_, ?_, ?_⟩
      · show 1 ≤ M8 17 1 ∧ M8 17 1 ≤ 412  -- c3.hn
        first | with_reducible assumption | omega | exact trivial | with_reducible rfl
      · show ∀ k, 0 ≤ k → k < M8 17 1 → 0 ≤ M8 18 k ∧ M8 18 k < 4  -- c3.hw
        rw [w1, w18]; exact hw
      · show gTP (M8 18) (M8 17 1) (M8 17 8) (M8 22)  -- c3.hT
        rw [w1, w8, w18, w22]; exact hT
      · show 0 ≤ cost ∧ cost ≤ 99  -- c3.hc
        first | with_reducible assumption | omega | exact trivial | with_reducible rfl
      · show 1 = 0 ∨ 1 = 1  -- c3.hs
        exact .inr rfl
    refine ⟨gc3, ?_⟩
    rintro r14 M15 ⟨pc3_hf, pc3_hA, pc3_hr⟩ z_r14 z_M15
    rw [w1, w8, w18, w22] at pc3_hA
    have y : ∀ c i, c ≠ 23 → c ≠ 24 → M15 c i = M c i := fun c i c1 c2 => by rw [pc3_hf c i c1 c2]; exact w c i c1 c2
    have y1 := y 17 1 (by decide) (by decide)
    have y8 := y 17 8 (by decide) (by decide)
    have y18 : M15 18 = M 18 := funext fun i => y 18 i (by decide) (by decide)
    have y22 : M15 22 = M 22 := funext fun i => y 22 i (by decide) (by decide)
    have gc4 : pr_X1_followCorners cost 1 M15 := by
      refine ⟨?_, ?_, ?_, ?_, ?_, ?_⟩
      · show 1 ≤ M15 17 1 ∧ M15 17 1 ≤ 412  -- c4.hn
        first | with_reducible assumption | omega | exact trivial | with_reducible rfl
      · show ∀ k, 0 ≤ k → k < M15 17 1 → 0 ≤ M15 18 k ∧ M15 18 k < 4  -- c4.hw
        rw [y1, y18]; exact hw
      · show gTP (M15 18) (M15 17 1) (M15 17 8) (M15 22)  -- c4.hT
        rw [y1, y8, y18, y22]; exact hT
      · show 0 ≤ cost ∧ cost ≤ 99  -- c4.hc
        first | with_reducible assumption | omega | exact trivial | with_reducible rfl
      · show 1 = 0 ∨ 1 = 1  -- c4.hs
        exact .inr rfl
      · show ∀ t, 0 ≤ t → t ≤ M15 17 8 → M15 23 t = gA0 (gPr (M15 18) (M15 17 1) (M15 17 8) (M15 22)) cost (M15 17 8) 1 t  -- c4.hA
        rw [y1, y8, y18, y22]; intro t t0 t1; exact (pc3_hA t t0 t1).1
    refine ⟨gc4, ?_⟩
    rintro M20 ⟨pc4_hf, pc4_hC⟩ z_M20
    rw [y1, y8, y18, y22] at pc4_hC
    refine hP _ _ ⟨?_, ?_, ?_⟩
    · show ∀ c i, c ≠ 21 → c ≠ 23 → c ≠ 24 → M20 c i = M c i  -- p1.hf
      intro c i c1 c2 c3; rw [pc4_hf c i c1]; exact y c i c2 c3
    · show r1 = gLs (gPr (M 18) (M 17 1) (M 17 8) (M 22)) cost (M 17 8)  -- p1.hr
      unfold gLs; rw [if_neg (by rw [← pc1_hr, ← pc2_hr]; omega)]; exact pc1_hr
    · show ∀ i, 0 ≤ i → i < M 17 1 → M20 21 i = gCa (M 18) (M 17 1) (M 17 8) (M 22) cost (gSt (gPr (M 18) (M 17 1) (M 17 8) (M 22)) cost (M 17 8)) i  -- p1.hC
      unfold gSt; rw [if_neg (by rw [← pc1_hr, ← pc2_hr]; omega)]; exact pc4_hC
  · -- b1.2
    have gc5 : pr_X1_followCorners cost 0 M8 := by
      refine ⟨?_, ?_, ?_, ?_, ?_, ?_⟩
      · show 1 ≤ M8 17 1 ∧ M8 17 1 ≤ 412  -- c5.hn
        first | with_reducible assumption | omega | exact trivial | with_reducible rfl
      · show ∀ k, 0 ≤ k → k < M8 17 1 → 0 ≤ M8 18 k ∧ M8 18 k < 4  -- c5.hw
        rw [w1, w18]; exact hw
      · show gTP (M8 18) (M8 17 1) (M8 17 8) (M8 22)  -- c5.hT
        rw [w1, w8, w18, w22]; exact hT
      · show 0 ≤ cost ∧ cost ≤ 99  -- c5.hc
        first | with_reducible assumption | omega | exact trivial | with_reducible rfl
      · show 0 = 0 ∨ 0 = 1  -- c5.hs
        exact .inl rfl
      · show ∀ t, 0 ≤ t → t ≤ M8 17 8 → M8 23 t = gA0 (gPr (M8 18) (M8 17 1) (M8 17 8) (M8 22)) cost (M8 17 8) 0 t  -- c5.hA
        rw [w1, w8, w18, w22]; intro t t0 t1; exact (pc2_hA t t0 t1).1
    refine ⟨gc5, ?_⟩
    rintro M25 ⟨pc5_hf, pc5_hC⟩ z_M25
    rw [w1, w8, w18, w22] at pc5_hC
    refine hP _ _ ⟨?_, ?_, ?_⟩
    · show ∀ c i, c ≠ 21 → c ≠ 23 → c ≠ 24 → M25 c i = M c i  -- p2.hf
      intro c i c1 c2 c3; rw [pc5_hf c i c1]; exact w c i c2 c3
    · show r7 = gLs (gPr (M 18) (M 17 1) (M 17 8) (M 22)) cost (M 17 8)  -- p2.hr
      unfold gLs; rw [if_pos (by rw [← pc1_hr, ← pc2_hr]; omega)]; exact pc2_hr
    · show ∀ i, 0 ≤ i → i < M 17 1 → M25 21 i = gCa (M 18) (M 17 1) (M 17 8) (M 22) cost (gSt (gPr (M 18) (M 17 1) (M 17 8) (M 22)) cost (M 17 8)) i  -- p2.hC
      unfold gSt; rw [if_pos (by rw [← pc1_hr, ← pc2_hr]; omega)]; exact pc5_hC

