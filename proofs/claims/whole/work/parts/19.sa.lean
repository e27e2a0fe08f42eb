abbrev bDim (M : zM) : Prop := 1 ≤ M 1 0 ∧ M 1 0 ≤ 16 ∧ 1 ≤ M 1 1 ∧ M 1 1 ≤ 12
def bCol (M : zM) (x y : Int) : Int := if 0 ≤ x ∧ x < M 1 0 ∧ 0 ≤ y ∧ y < M 1 1 then M 2 (16 * y + x) else -1
abbrev bDot (M : zM) (a : Int) : Prop := 0 ≤ a ∧ a % 16 < M 1 0 ∧ a / 16 < M 1 1
abbrev pr_X0_colourAt (x y : Int) (M : zM) : Prop := bDim M
abbrev po_X0_colourAt (x y : Int) (M : zM) (r : Int) (M' : zM) : Prop := M' = M ∧ r = bCol M x y
theorem ok_X0_colourAt : zSnd zS 145 0 0 yX0_colourAt cX0_colourAt 3 (some .int) 0 [2, 0, 0] (F_X0_colourAt pr_X0_colourAt po_X0_colourAt) := by
  refine sn_X0_colourAt.mono ?_
  rintro xs P M hz hR ⟨x, y, rfl, h, hP⟩
  refine ⟨x, y, rfl, ?_⟩
  unfold vc_X0_colourAt
  have hP := hP _ _ ⟨rfl, rfl⟩
  unfold bCol at hP
  grind
abbrev pr_X0_isDot (a : Int) (M : zM) : Prop := bDim M
abbrev po_X0_isDot (a : Int) (M : zM) (r : Int) (M' : zM) : Prop := M' = M ∧ r = if bDot M a then 1 else 0
theorem ok_X0_isDot : zSnd zS 145 0 0 yX0_isDot cX0_isDot 2 (some .boolean) 0 [2, 0] (F_X0_isDot pr_X0_isDot po_X0_isDot) := by
  refine sn_X0_isDot.mono ?_
  rintro xs P M hz hR ⟨x, rfl, h, hP⟩
  refine ⟨x, rfl, ?_⟩
  unfold vc_X0_isDot
  have hP := hP _ _ ⟨rfl, rfl⟩
  grind
abbrev pr_X0_dots (M : zM) : Prop := bDim M
abbrev po_X0_dots (M : zM) (r : Int) (M' : zM) : Prop := M' = M ∧ r = M 1 0 * M 1 1
theorem ok_X0_dots : zSnd zS 145 0 0 yX0_dots cX0_dots 1 (some .int) 0 [2] (F_X0_dots pr_X0_dots po_X0_dots) := by
  refine sn_X0_dots.mono ?_
  rintro xs P M hz hR ⟨rfl, h, hP⟩
  refine ⟨rfl, ?_⟩
  unfold vc_X0_dots
  have hP := hP _ _ ⟨rfl, rfl⟩
  refine ⟨?_, hP⟩
  have h1 : M 1 0 * M 1 1 ≤ 16 * 12 := Int.mul_le_mul (by omega) (by omega) (by omega) (by omega)
  have h2 : 0 ≤ M 1 0 * M 1 1 := Int.mul_nonneg (by omega) (by omega)
  omega
abbrev pr_X0_startDraft (M : zM) : Prop := ∀ i, 0 ≤ i → i < 192 → 0 ≤ M 2 i ∧ M 2 i ≤ 15
abbrev po_X0_startDraft (M : zM) (M' : zM) : Prop := M' = zcpy M 2 0 4 0 192
theorem ok_X0_startDraft : zSnd zS 145 0 0 yX0_startDraft cX0_startDraft 1 none 1 [2] (F_X0_startDraft pr_X0_startDraft po_X0_startDraft) := by
  refine sn_X0_startDraft.mono ?_
  rintro xs P M hz hR ⟨rfl, h, hP⟩
  refine ⟨rfl, ?_⟩
  unfold vc_X0_startDraft
  refine ⟨fun j h1 h2 => by have := h j h1 (by omega); omega, fun M3 e => hP _ e⟩
/-- how many of the first n places p holds at -/
def zcnt (p : Int → Prop) [DecidablePred p] : Nat → Int
  | 0 => 0
  | n + 1 => zcnt p n + if p n then 1 else 0
theorem zcnt_b (p : Int → Prop) [DecidablePred p] (n : Nat) : 0 ≤ zcnt p n ∧ zcnt p n ≤ n := by
  induction n with
  | zero => simp [zcnt]
  | succ n ih => unfold zcnt; split <;> omega
abbrev pr_X0_countDraftChanges (M : zM) : Prop := True
abbrev po_X0_countDraftChanges (M : zM) (r : Int) (M' : zM) : Prop := M' = M ∧ r = zcnt (fun i => M 4 i ≠ M 2 i) 192
theorem ok_X0_countDraftChanges : zSnd zS 145 0 0 yX0_countDraftChanges cX0_countDraftChanges 3 (some .int) 0 [2] (F_X0_countDraftChanges pr_X0_countDraftChanges po_X0_countDraftChanges) := by
  refine sn_X0_countDraftChanges.mono ?_
  rintro xs P M hz hR ⟨rfl, h, hP⟩
  refine ⟨rfl, ?_⟩
  unfold vc_X0_countDraftChanges
  have hP := hP _ _ ⟨rfl, rfl⟩
  refine ⟨fun v1 v2 n => ∃ k : Nat, k ≤ 192 ∧ v2 = k ∧ n = 192 - k ∧ v1 = zcnt (fun i => M 4 i ≠ M 2 i) k, ⟨192, 0, by omega, by omega, by omega, rfl⟩, ?_⟩
  rintro v1 v2 n ⟨k, hk, rfl, rfl, rfl⟩ z1 z2
  have hb := zcnt_b (fun i => M 4 i ≠ M 2 i) k
  refine ⟨fun g => ?_, fun g => ⟨by omega, fun g2 => ⟨by omega, 192 - (k + 1), by omega, k + 1, by omega, by omega, rfl, ?_⟩, fun g2 => ⟨by omega, by omega, 192 - (k + 1), by omega, k + 1, by omega, by omega, rfl, ?_⟩⟩⟩
  · have : k = 192 := by omega
    subst this
    exact hP
  · simp [zcnt, g2]
  · simp [zcnt, g2]
