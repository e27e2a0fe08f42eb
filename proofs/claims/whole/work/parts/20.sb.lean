abbrev mDim (M : zM) : Prop := 1 ≤ M 103 1 ∧ M 103 1 ≤ 16 ∧ 1 ≤ M 103 2 ∧ M 103 2 ≤ 12
abbrev mDot (M : zM) (a : Int) : Prop := 0 ≤ a ∧ a % 16 < M 103 1 ∧ a / 16 < M 103 2
def zdx (d : Int) : Int := if d = 0 ∨ d = 4 ∨ d = 5 then 1 else if d = 2 ∨ d = 6 ∨ d = 7 then -1 else 0
def zdy (d : Int) : Int := if d = 1 ∨ d = 4 ∨ d = 6 then 1 else if d = 3 ∨ d = 5 ∨ d = 7 then -1 else 0
abbrev pr_X12_in (a : Int) (b : Int) (c : Int) (M : zM) : Prop := True
abbrev po_X12_in (a : Int) (b : Int) (c : Int) (M : zM) (r : Int) (M' : zM) : Prop := M' = M ∧ r = if b ≤ a ∧ a ≤ c then 1 else 0
set_option maxHeartbeats 1000000 in
theorem ok_X12_in : zSnd zS 145 0 0 yX12_in cX12_in 6 (some .boolean) 0 [1, 1, 1] (F_X12_in pr_X12_in po_X12_in) := by
  refine (sn_X12_in).mono ?_
  rintro xs P M hz hR ⟨a, b, c, rfl, h, hP⟩
  refine ⟨a, b, c, rfl, ?_⟩
  have z_a := zall_h hz (by decide)
  have z_b := zall_h (zall_t hz) (by decide)
  have z_c := zall_h (zall_t (zall_t hz)) (by decide)
  change vc_X12_in a b c P M
  unfold vc_X12_in
  have hP := hP _ _ ⟨rfl, rfl⟩
  grind

abbrev pr_X12_isDot (a : Int) (M : zM) : Prop := True
abbrev po_X12_isDot (a : Int) (M : zM) (r : Int) (M' : zM) : Prop := M' = M ∧ r = if mDot M a then 1 else 0
set_option maxHeartbeats 1000000 in
theorem ok_X12_isDot : zSnd zS 145 0 0 yX12_isDot cX12_isDot 2 (some .boolean) 0 [2, 0] (F_X12_isDot pr_X12_isDot po_X12_isDot) := by
  refine (sn_X12_isDot).mono ?_
  rintro xs P M hz hR ⟨a, rfl, h, hP⟩
  refine ⟨a, rfl, ?_⟩
  have z_a := zall_h (zall_t hz) (by decide)
  change vc_X12_isDot a P M
  unfold vc_X12_isDot
  have hP := hP _ _ ⟨rfl, rfl⟩
  grind

abbrev pr_X12_dx (d : Int) (M : zM) : Prop := True
abbrev po_X12_dx (d : Int) (M : zM) (r : Int) (M' : zM) : Prop := M' = M ∧ r = zdx d
set_option maxHeartbeats 1000000 in
theorem ok_X12_dx : zSnd zS 145 0 0 yX12_dx cX12_dx 1 (some .int) 0 [0] (F_X12_dx pr_X12_dx po_X12_dx) := by
  refine (sn_X12_dx).mono ?_
  rintro xs P M hz hR ⟨d, rfl, h, hP⟩
  refine ⟨d, rfl, ?_⟩
  have z_d := zall_h hz (by decide)
  change vc_X12_dx d P M
  unfold vc_X12_dx
  have hP := hP _ _ ⟨rfl, rfl⟩
  unfold zdx at hP
  grind

abbrev pr_X12_dy (d : Int) (M : zM) : Prop := True
abbrev po_X12_dy (d : Int) (M : zM) (r : Int) (M' : zM) : Prop := M' = M ∧ r = zdy d
set_option maxHeartbeats 1000000 in
theorem ok_X12_dy : zSnd zS 145 0 0 yX12_dy cX12_dy 1 (some .int) 0 [0] (F_X12_dy pr_X12_dy po_X12_dy) := by
  refine (sn_X12_dy).mono ?_
  rintro xs P M hz hR ⟨d, rfl, h, hP⟩
  refine ⟨d, rfl, ?_⟩
  have z_d := zall_h hz (by decide)
  change vc_X12_dy d P M
  unfold vc_X12_dy
  have hP := hP _ _ ⟨rfl, rfl⟩
  unfold zdy at hP
  grind

def mBes (M : zM) (a d : Int) : Int := if 0 ≤ a % 16 + zdx d ∧ a % 16 + zdx d < M 103 1 ∧ 0 ≤ a / 16 + zdy d ∧ a / 16 + zdy d < M 103 2 then 16 * (a / 16 + zdy d) + (a % 16 + zdx d) else -1
abbrev pr_X12_beside (a : Int) (d : Int) (M : zM) : Prop := mDim M ∧ 0 ≤ a ∧ a < 192
abbrev po_X12_beside (a : Int) (d : Int) (M : zM) (r : Int) (M' : zM) : Prop := M' = M ∧ r = mBes M a d
set_option maxHeartbeats 1000000 in
theorem ok_X12_beside : zSnd zS 145 0 0 yX12_beside cX12_beside 5 (some .int) 1 [2, 0, 0] (F_X12_beside pr_X12_beside po_X12_beside) := by
  refine (sn_X12_beside ok_X12_dx ok_X12_dy).mono ?_
  rintro xs P M hz hR ⟨a, d, rfl, h, hP⟩
  refine ⟨a, d, rfl, ?_⟩
  have z_a := zall_h (zall_t hz) (by decide)
  have z_d := zall_h (zall_t (zall_t hz)) (by decide)
  change vc_X12_beside pr_X12_dx po_X12_dx pr_X12_dy po_X12_dy a d P M
  unfold vc_X12_beside
  have hP := hP _ _ ⟨rfl, rfl⟩
  unfold mBes at hP
  have h1 : -1 ≤ zdx d ∧ zdx d ≤ 1 := by unfold zdx; split <;> (try split) <;> omega
  have h2 : -1 ≤ zdy d ∧ zdy d ≤ 1 := by unfold zdy; split <;> (try split) <;> omega
  refine ⟨by omega, trivial, ?_⟩
  rintro r2 M3 ⟨rfl, rfl⟩ q1 q2
  refine ⟨trivial, ?_⟩
  rintro r8 M9 ⟨rfl, rfl⟩ q3 q4
  refine ⟨by omega, fun g => ?_, fun g => ⟨fun g2 => ?_, fun g2 => ⟨by omega, fun g3 => ?_, fun g3 => ⟨fun g4 => ⟨by omega, ?_⟩, fun g4 => ?_⟩⟩⟩⟩
  · rw [if_neg (by omega)] at hP; exact hP
  · rw [if_neg (by omega)] at hP; exact hP
  · rw [if_neg (by omega)] at hP; exact hP
  · rw [if_pos (by omega)] at hP; exact hP
  · rw [if_neg (by omega)] at hP; exact hP

abbrev mOf (M : zM) (f x y : Int) : Prop := 0 ≤ x ∧ x < M 103 1 ∧ 0 ≤ y ∧ y < M 103 2 ∧ M 115 (16 * y + x) = f
abbrev pr_X12_isOf (f : Int) (x : Int) (y : Int) (M : zM) : Prop := mDim M
abbrev po_X12_isOf (f : Int) (x : Int) (y : Int) (M : zM) (r : Int) (M' : zM) : Prop := M' = M ∧ r = if mOf M f x y then 1 else 0
set_option maxHeartbeats 1000000 in
theorem ok_X12_isOf : zSnd zS 145 0 0 yX12_isOf cX12_isOf 4 (some .boolean) 0 [2, 0, 0, 0] (F_X12_isOf pr_X12_isOf po_X12_isOf) := by
  refine (sn_X12_isOf).mono ?_
  rintro xs P M hz hR ⟨f, x, y, rfl, h, hP⟩
  refine ⟨f, x, y, rfl, ?_⟩
  have z_f := zall_h (zall_t hz) (by decide)
  have z_x := zall_h (zall_t (zall_t hz)) (by decide)
  have z_y := zall_h (zall_t (zall_t (zall_t hz))) (by decide)
  change vc_X12_isOf f x y P M
  unfold vc_X12_isOf
  have hP := hP _ _ ⟨rfl, rfl⟩
  grind

abbrev pr_X2_faceAt (x : Int) (y : Int) (M : zM) : Prop := bDim M
abbrev po_X2_faceAt (x : Int) (y : Int) (M : zM) (r : Int) (M' : zM) : Prop := M' = M ∧ r = if 0 ≤ x ∧ x < M 1 0 ∧ 0 ≤ y ∧ y < M 1 1 then M 12 (16 * y + x) else -1
set_option maxHeartbeats 1000000 in
theorem ok_X2_faceAt : zSnd zS 145 0 0 yX2_faceAt cX2_faceAt 3 (some .int) 0 [2, 0, 0] (F_X2_faceAt pr_X2_faceAt po_X2_faceAt) := by
  refine (sn_X2_faceAt).mono ?_
  rintro xs P M hz hR ⟨x, y, rfl, h, hP⟩
  refine ⟨x, y, rfl, ?_⟩
  have z_x := zall_h (zall_t hz) (by decide)
  have z_y := zall_h (zall_t (zall_t hz)) (by decide)
  change vc_X2_faceAt x y P M
  unfold vc_X2_faceAt
  have hP := hP _ _ ⟨rfl, rfl⟩
  grind

abbrev pr_X2_has (f : Int) (M : zM) : Prop := True
abbrev po_X2_has (f : Int) (M : zM) (r : Int) (M' : zM) : Prop := M' = M ∧ r = if 0 ≤ f ∧ f < M 5 2 then 1 else 0
set_option maxHeartbeats 1000000 in
theorem ok_X2_has : zSnd zS 145 0 0 yX2_has cX2_has 2 (some .boolean) 0 [2, 0] (F_X2_has pr_X2_has po_X2_has) := by
  refine (sn_X2_has).mono ?_
  rintro xs P M hz hR ⟨f, rfl, h, hP⟩
  refine ⟨f, rfl, ?_⟩
  have z_f := zall_h (zall_t hz) (by decide)
  change vc_X2_has f P M
  unfold vc_X2_has
  have hP := hP _ _ ⟨rfl, rfl⟩
  grind

