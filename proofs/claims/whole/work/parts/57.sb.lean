/-- a byte, and the same byte without its sign -/
def gSb (b b' : Int) : Prop := b = b' ∨ (b < 0 ∧ 128 ≤ b')
def gSx (T T' : Int → Int) (n : Int) : Prop := ∀ i, 0 ≤ i → i < n → gSb (T i) (T' i)
section
variable {T T' : Int → Int} {n : Int}
theorem gBy_e (h : gSx T T' n) (p : Int) : gSb (gBy T n p) (gBy T' n p) := by
  unfold gBy
  split
  · rename_i k; exact h p k.1 k.2
  · exact .inl rfl
theorem gCl_e (h : gSx T T' n) (p : Int) : gCl (gBy T n p) = gCl (gBy T' n p) := by
  rcases gBy_e h p with e | e
  · rw [e]
  · unfold gCl
    rw [if_neg (by omega), if_neg (by omega), if_neg (by omega), if_neg (by omega)]
theorem gBq_e (h : gSx T T' n) (p c : Int) (hc : 0 ≤ c ∧ c < 128) : gBy T n p = c ↔ gBy T' n p = c := by
  rcases gBy_e h p with e | e
  · rw [e]
  · omega
theorem gBd_e (h : gSx T T' n) (p : Int) : (48 ≤ gBy T n p ∧ gBy T n p ≤ 57) ↔ (48 ≤ gBy T' n p ∧ gBy T' n p ≤ 57) := by
  rcases gBy_e h p with e | e
  · rw [e]
  · omega
theorem gDn_e (h : gSx T T' n) (p : Int) : gDn T n p = gDn T' n p := by
  have a := gBd_e h p
  have b := gBd_e h (p + 1)
  have c := gBq_e h p 48 (by omega)
  have d := @gDn_b T n p
  unfold gDn
  by_cases x : 48 ≤ gBy T n p ∧ gBy T n p ≤ 57
  · rw [if_neg (show ¬ ¬ (48 ≤ gBy T n p ∧ gBy T n p ≤ 57) from fun k => k x), if_neg (show ¬ ¬ (48 ≤ gBy T' n p ∧ gBy T' n p ≤ 57) from fun k => k (a.1 x))]
    by_cases y : gBy T n p ≠ 48 ∧ 48 ≤ gBy T n (p + 1) ∧ gBy T n (p + 1) ≤ 57
    · rw [if_pos y, if_pos ⟨fun k => y.1 (c.2 k), b.1 y.2⟩]
    · rw [if_neg y, if_neg (fun k => y ⟨fun z => k.1 (c.1 z), b.2 k.2⟩)]
  · rw [if_pos x, if_pos (fun k => x (a.2 k))]
theorem gNm_e (h : gSx T T' n) (p : Int) : gNm T n p = gNm T' n p := by
  have d := @gDn_b T n p
  have e := gDn_e h p
  have s := gBy_e h p
  have t := gBy_e h (p + 1)
  unfold gNm
  rw [← e]
  split
  · rfl
  · split
    · rcases s with s | s
      · rw [s]
      · have := d.2.2.2.1 (by omega); omega
    · have q := d.2.2.2.1 (by omega)
      have q2 := d.2.2.2.2 (by omega)
      rcases s with s | s
      · rcases t with t | t
        · rw [s, t]
        · omega
      · omega
theorem gRu_e (h : gSx T T' n) (p : Int) : gRu T n p = gRu T' n p ∧ gBh T n p = gBh T' n p := by
  have a := gBq_e h (p + 1) 42 (by omega)
  unfold gRu gBh
  rw [gNm_e h, gDn_e h]
  by_cases x : gBy T n (p + 1) = 42
  · rw [if_pos x, if_pos (a.1 x), if_pos x, if_pos (a.1 x)]; exact ⟨rfl, rfl⟩
  · rw [if_neg x, if_neg (fun k => x (a.2 k)), if_neg x, if_neg (fun k => x (a.2 k))]; exact ⟨rfl, rfl⟩
theorem gEx_cg (h : gSx T T' n) : ∀ (f : Nat) (l p x y : Int) (D : Int → Int), gEx T n f l p x y D = gEx T' n f l p x y D
  | 0, _, _, _, _, _ => rfl
  | f + 1, l, p, x, y, D => by
    have a := gCl_e h p
    have b := (gRu_e h p).1
    have c := (gRu_e h p).2
    have d := gBq_e h (gBh T' n p) 47 (by omega)
    conv => lhs; unfold gEx
    conv => rhs; unfold gEx
    rw [a, b, c, gEx_cg h f, gEx_cg h f]
    simp only [d]
end
abbrev pr_X0_takeDraft (M : zM) : Prop := (0 ≤ M 1 3 ∧ M 1 3 < 1000000000) ∧ (∀ i, 0 ≤ i → i < 192 → 0 ≤ M 4 i ∧ M 4 i ≤ 15)
abbrev po_X0_takeDraft (M : zM) (M' : zM) : Prop := (∀ c i, c ≠ 2 → ¬ (c = 1 ∧ i = 3) → M' c i = M c i) ∧ (∀ i, 0 ≤ i → i < 192 → M' 2 i = M 4 i) ∧ (M' 1 3 = M 1 3 + 1)
set_option maxHeartbeats 1000000 in
theorem ok_X0_takeDraft : zSnd zS 145 0 0 yX0_takeDraft cX0_takeDraft 1 none 1 [2] (F_X0_takeDraft pr_X0_takeDraft po_X0_takeDraft) := by
  refine (sn_X0_takeDraft).mono ?_
  rintro xs P M hz hR ⟨rfl, ⟨hv, hq⟩, hP⟩
  refine ⟨rfl, ?_⟩
  change vc_X0_takeDraft P M
  unfold vc_X0_takeDraft
  have o1 : (∀ j1, 0 ≤ j1 → j1 < 0 + 192 → -128 ≤ M 4 j1 ∧ M 4 j1 ≤ 127) := by
    intro j j0 j1; have := hq j j0 (by omega); omega
  refine ⟨o1, ?_⟩
  intro M3 e_M3
  have q : M3 1 3 = M 1 3 := by rw [e_M3, zcpy_n _ (by omega)]
  have o2 : zin ((M3 1 3) + 1) := by
    first | with_reducible assumption | omega | exact trivial | with_reducible rfl  -- o2
  refine ⟨o2, ?_⟩
  intro M7 e_M7
  refine hP _ ⟨?_, ?_, ?_⟩
  · show ∀ c i, c ≠ 2 → ¬ (c = 1 ∧ i = 3) → M7 c i = M c i  -- p1.hf
    intro c i c1 c2; rw [e_M7, zset_n _ (by omega), e_M3, zcpy_n _ (by omega)]
  · show ∀ i, 0 ≤ i → i < 192 → M7 2 i = M 4 i  -- p1.h2
    intro i i0 i1; rw [e_M7, zset_n _ (by omega), e_M3, zcpy_s _ (by omega), show 0 + (i - 0) = i by omega]
  · show M7 1 3 = M 1 3 + 1  -- p1.h3
    rw [e_M7, zset_s, q]

abbrev pr_X0_takeText (M : zM) : Prop := (0 ≤ M 1 3 ∧ M 1 3 < 1000000000) ∧ (∀ i, 0 ≤ i → i < 192 → 0 ≤ M 4 i ∧ M 4 i ≤ 15)
abbrev po_X0_takeText (M : zM) (M' : zM) : Prop := (∀ c i, c ≠ 2 → ¬ (c = 1 ∧ (i = 0 ∨ i = 1 ∨ i = 3)) → M' c i = M c i) ∧ (∀ i, 0 ≤ i → i < 192 → M' 2 i = M 4 i) ∧ (M' 1 0 = M 1 7 ∧ M' 1 1 = M 1 8 ∧ M' 1 3 = M 1 3 + 1)
set_option maxHeartbeats 1000000 in
theorem ok_X0_takeText : zSnd zS 145 0 0 yX0_takeText cX0_takeText 1 none 2 [2] (F_X0_takeText pr_X0_takeText po_X0_takeText) := by
  refine (sn_X0_takeText ok_X0_takeDraft).mono ?_
  rintro xs P M hz hR ⟨rfl, ⟨hv, hq⟩, hP⟩
  refine ⟨rfl, ?_⟩
  change vc_X0_takeText pr_X0_takeDraft po_X0_takeDraft P M
  unfold vc_X0_takeText
  intro M1 e_M1
  intro M4 e_M4
  have q : ∀ c i, ¬ (c = 1 ∧ (i = 0 ∨ i = 1)) → M4 c i = M c i := fun c i k => by rw [e_M4, zset_n _ (by omega), e_M1, zset_n _ (by omega)]
  have q0 : M4 1 0 = M 1 7 := by rw [e_M4, zset_n _ (by omega), e_M1, zset_s]
  have q1 : M4 1 1 = M 1 8 := by rw [e_M4, zset_s, e_M1, zset_n _ (by omega)]
  have gc1 : pr_X0_takeDraft M4 := by
    refine ⟨?_, ?_⟩
    · show 0 ≤ M4 1 3 ∧ M4 1 3 < 1000000000  -- c1.hv
      rw [q 1 3 (by omega)]; exact hv
    · show ∀ i, 0 ≤ i → i < 192 → 0 ≤ M4 4 i ∧ M4 4 i ≤ 15  -- c1.hq
      intro i i0 i1; rw [q 4 i (by omega)]; exact hq i i0 i1
  refine ⟨gc1, ?_⟩
  rintro M7 ⟨pc1_hf, pc1_h2, pc1_h3⟩ z_M7
  refine hP _ ⟨?_, ?_, ?_⟩
  · show ∀ c i, c ≠ 2 → ¬ (c = 1 ∧ (i = 0 ∨ i = 1 ∨ i = 3)) → M7 c i = M c i  -- p1.hf
    intro c i c1 c2; rw [pc1_hf c i c1 (by omega)]; exact q c i (by omega)
  · show ∀ i, 0 ≤ i → i < 192 → M7 2 i = M 4 i  -- p1.h2
    intro i i0 i1; rw [pc1_h2 i i0 i1, q 4 i (by omega)]
  · show M7 1 0 = M 1 7 ∧ M7 1 1 = M 1 8 ∧ M7 1 3 = M 1 3 + 1  -- p1.h3
    rw [pc1_hf 1 0 (by decide) (by omega), pc1_hf 1 1 (by decide) (by omega), pc1_h3, q0, q1, q 1 3 (by omega)]; exact ⟨rfl, rfl, rfl⟩

abbrev pr_X3_forget (M : zM) : Prop := True
abbrev po_X3_forget (M : zM) (M' : zM) : Prop := (∀ c i, ¬ (c = 77 ∧ (i = 0 ∨ i = 1)) → M' c i = M c i) ∧ (M' 77 0 = 0 ∧ M' 77 1 = 0)
set_option maxHeartbeats 1000000 in
theorem ok_X3_forget : zSnd zS 145 0 0 yX3_forget cX3_forget 1 none 0 [2] (F_X3_forget pr_X3_forget po_X3_forget) := by
  refine (sn_X3_forget).mono ?_
  rintro xs P M hz hR ⟨rfl, _, hP⟩
  refine ⟨rfl, ?_⟩
  change vc_X3_forget P M
  unfold vc_X3_forget
  intro M1 e_M1
  intro M4 e_M4
  refine hP _ ⟨?_, ?_⟩
  · show ∀ c i, ¬ (c = 77 ∧ (i = 0 ∨ i = 1)) → M4 c i = M c i  -- p1.hf
    intro c i k; rw [e_M4, zset_n _ (by omega), e_M1, zset_n _ (by omega)]
  · show M4 77 0 = 0 ∧ M4 77 1 = 0  -- p1.h0
    refine ⟨?_, ?_⟩
    · rw [e_M4, zset_n _ (by omega), e_M1, zset_s]
    · rw [e_M4, zset_s]

abbrev pr_X3_canUndo (M : zM) : Prop := True
abbrev po_X3_canUndo (M : zM) (r : Int) (M' : zM) : Prop := (M' = M) ∧ (zB r (0 < M 77 0))
set_option maxHeartbeats 1000000 in
theorem ok_X3_canUndo : zSnd zS 145 0 0 yX3_canUndo cX3_canUndo 1 (some .boolean) 0 [2] (F_X3_canUndo pr_X3_canUndo po_X3_canUndo) := by
  refine (sn_X3_canUndo).mono ?_
  rintro xs P M hz hR ⟨rfl, _, hP⟩
  refine ⟨rfl, ?_⟩
  change vc_X3_canUndo P M
  unfold vc_X3_canUndo
  refine ⟨fun b1 => ?_, fun b1 => ?_⟩
  · -- b1.1
    refine hP _ _ ⟨?_, ?_⟩
    · show M = M  -- p1.rfl
      first | with_reducible assumption | omega | exact trivial | with_reducible rfl
    · show zB 0 (0 < M 77 0)  -- p1.pb
      exact zB.f (by omega)
  · -- b1.2
    refine hP _ _ ⟨?_, ?_⟩
    · show M = M  -- p2.rfl
      first | with_reducible assumption | omega | exact trivial | with_reducible rfl
    · show zB 1 (0 < M 77 0)  -- p2.pb
      exact zB.t (by omega)

abbrev pr_X3_canRedo (M : zM) : Prop := True
abbrev po_X3_canRedo (M : zM) (r : Int) (M' : zM) : Prop := (M' = M) ∧ (zB r (0 < M 77 1))
set_option maxHeartbeats 1000000 in
theorem ok_X3_canRedo : zSnd zS 145 0 0 yX3_canRedo cX3_canRedo 1 (some .boolean) 0 [2] (F_X3_canRedo pr_X3_canRedo po_X3_canRedo) := by
  refine (sn_X3_canRedo).mono ?_
  rintro xs P M hz hR ⟨rfl, _, hP⟩
  refine ⟨rfl, ?_⟩
  change vc_X3_canRedo P M
  unfold vc_X3_canRedo
  refine ⟨fun b1 => ?_, fun b1 => ?_⟩
  · -- b1.1
    refine hP _ _ ⟨?_, ?_⟩
    · show M = M  -- p1.rfl
      first | with_reducible assumption | omega | exact trivial | with_reducible rfl
    · show zB 0 (0 < M 77 1)  -- p1.pb
      exact zB.f (by omega)
  · -- b1.2
    refine hP _ _ ⟨?_, ?_⟩
    · show M = M  -- p2.rfl
      first | with_reducible assumption | omega | exact trivial | with_reducible rfl
    · show zB 1 (0 < M 77 1)  -- p2.pb
      exact zB.t (by omega)

