abbrev gD (w h a : Int) : Prop := 0 ≤ a ∧ a % 16 < w ∧ a / 16 < h
/-- by a side, or (t not 0) by a corner too -/
def gOff (t dx dy : Int) : Prop := -1 ≤ dx ∧ dx ≤ 1 ∧ -1 ≤ dy ∧ dy ≤ 1 ∧ ¬ (dx = 0 ∧ dy = 0) ∧ (t = 0 → dx = 0 ∨ dy = 0)
theorem gOff.sym {t dx dy : Int} (h : gOff t dx dy) : gOff t (-dx) (-dy) := by unfold gOff at h ⊢; omega
theorem zd8 {d : Int} (h0 : 0 ≤ d) (h : d < 8) : d = 0 ∨ d = 1 ∨ d = 2 ∨ d = 3 ∨ d = 4 ∨ d = 5 ∨ d = 6 ∨ d = 7 := by omega
theorem gOff_m {t d : Int} (h0 : 0 ≤ d) (h : d < (if t = 0 then 4 else 8)) : gOff t (zdx d) (zdy d) := by
  have h8 : d < 8 := by split at h <;> omega
  have h4 : t = 0 → d < 4 := fun c => by rw [if_pos c] at h; exact h
  unfold gOff
  rcases zd8 h0 h8 with rfl | rfl | rfl | rfl | rfl | rfl | rfl | rfl <;> simp [zdx, zdy] <;> omega
theorem gOff_m' {t dx dy : Int} (h : gOff t dx dy) : ∃ d, 0 ≤ d ∧ d < (if t = 0 then 4 else 8) ∧ zdx d = dx ∧ zdy d = dy := by
  obtain ⟨a, b, c, d, e, f⟩ := h
  have hx : dx = -1 ∨ dx = 0 ∨ dx = 1 := by omega
  have hy : dy = -1 ∨ dy = 0 ∨ dy = 1 := by omega
  have h4 : ∀ k : Int, k < 4 → k < (if t = 0 then (4 : Int) else 8) := fun k hk => by split <;> omega
  have h8 : t ≠ 0 → ∀ k : Int, k < 8 → k < (if t = 0 then (4 : Int) else 8) := fun g k hk => by rw [if_neg g]; exact hk
  rcases hx with rfl | rfl | rfl <;> rcases hy with rfl | rfl | rfl
  · exact ⟨7, by decide, h8 (fun g => by have := f g; omega) 7 (by decide), by decide, by decide⟩
  · exact ⟨2, by decide, h4 2 (by decide), by decide, by decide⟩
  · exact ⟨6, by decide, h8 (fun g => by have := f g; omega) 6 (by decide), by decide, by decide⟩
  · exact ⟨3, by decide, h4 3 (by decide), by decide, by decide⟩
  · omega
  · exact ⟨1, by decide, h4 1 (by decide), by decide, by decide⟩
  · exact ⟨5, by decide, h8 (fun g => by have := f g; omega) 5 (by decide), by decide, by decide⟩
  · exact ⟨0, by decide, h4 0 (by decide), by decide, by decide⟩
  · exact ⟨4, by decide, h8 (fun g => by have := f g; omega) 4 (by decide), by decide, by decide⟩
theorem gOff_b {t d : Int} (h0 : 0 ≤ d) (h : d < (if t = 0 then 4 else 8)) : gOff t (zac d.toNat) (zdn d.toNat) := by
  have h8 : d < 8 := by split at h <;> omega
  have h4 : t = 0 → d < 4 := fun c => by rw [if_pos c] at h; exact h
  unfold gOff
  rcases zd8 h0 h8 with rfl | rfl | rfl | rfl | rfl | rfl | rfl | rfl <;> simp [zac, zdn] <;> omega
theorem gOff_b' {t dx dy : Int} (h : gOff t dx dy) : ∃ d : Int, 0 ≤ d ∧ d < (if t = 0 then 4 else 8) ∧ zac d.toNat = dx ∧ zdn d.toNat = dy := by
  obtain ⟨a, b, c, d, e, f⟩ := h
  have hx : dx = -1 ∨ dx = 0 ∨ dx = 1 := by omega
  have hy : dy = -1 ∨ dy = 0 ∨ dy = 1 := by omega
  have h4 : ∀ k : Int, k < 4 → k < (if t = 0 then (4 : Int) else 8) := fun k hk => by split <;> omega
  have h8 : t ≠ 0 → ∀ k : Int, k < 8 → k < (if t = 0 then (4 : Int) else 8) := fun g k hk => by rw [if_neg g]; exact hk
  rcases hx with rfl | rfl | rfl <;> rcases hy with rfl | rfl | rfl
  · exact ⟨6, by decide, h8 (fun g => by have := f g; omega) 6 (by decide), by decide, by decide⟩
  · exact ⟨2, by decide, h4 2 (by decide), by decide, by decide⟩
  · exact ⟨5, by decide, h8 (fun g => by have := f g; omega) 5 (by decide), by decide, by decide⟩
  · exact ⟨3, by decide, h4 3 (by decide), by decide, by decide⟩
  · omega
  · exact ⟨1, by decide, h4 1 (by decide), by decide, by decide⟩
  · exact ⟨7, by decide, h8 (fun g => by have := f g; omega) 7 (by decide), by decide, by decide⟩
  · exact ⟨0, by decide, h4 0 (by decide), by decide, by decide⟩
  · exact ⟨4, by decide, h8 (fun g => by have := f g; omega) 4 (by decide), by decide, by decide⟩
theorem zac_b {d : Int} (h0 : 0 ≤ d) (h : d < 8) : -1 ≤ zac d.toNat ∧ zac d.toNat ≤ 1 ∧ -1 ≤ zdn d.toNat ∧ zdn d.toNat ≤ 1 := by
  rcases zd8 h0 h with rfl | rfl | rfl | rfl | rfl | rfl | rfl | rfl <;> simp [zac, zdn]
theorem zdx_b (d : Int) : -1 ≤ zdx d ∧ zdx d ≤ 1 ∧ -1 ≤ zdy d ∧ zdy d ≤ 1 := by unfold zdx zdy; grind
def gA (t : Int) (c : Int → Int) (a b : Int) : Prop := gOff t (b % 16 - a % 16) (b / 16 - a / 16) ∧ c a = c b
theorem gA.sym {t : Int} {c : Int → Int} (a b : Int) (h : gA t c a b) : gA t c b a := by
  refine ⟨?_, h.2.symm⟩
  have := h.1.sym
  rw [show a % 16 - b % 16 = -(b % 16 - a % 16) by omega, show a / 16 - b / 16 = -(b / 16 - a / 16) by omega]
  exact this
theorem gPar.le {D : Int → Prop} {A : Int → Int → Prop} {L : Int → Int} {N : Int} {F : Int → Int} {a : Int} (h0 : ∀ a, D a → 0 ≤ a) (ha : 0 ≤ a) (h : gPar D A L N F a) : N ≤ a := by
  have k : ∀ k : Int, 0 ≤ k → k < N → k ≤ F k := by
    apply zind
    · intro c; exact h0 _ (h.fst 0 (by omega) c).1
    · intro v hv ih c
      have := ih (by omega)
      have := h.inc v (v + 1) hv (by omega) c
      omega
  apply Classical.byContradiction
  intro c
  have := k (N - 1) (by omega) (by omega)
  have := (h.fst (N - 1) (by omega) (by omega)).2.2
  omega
theorem gLab.le {D : Int → Prop} {A : Int → Int → Prop} {L : Int → Int} {N : Int} {F : Int → Int} {a : Int} (h0 : ∀ a, D a → 0 ≤ a) (h1 : ∀ x, D x → x < a) (ha : 0 ≤ a) (h : gLab D A L N F) : N ≤ a := by
  have k : ∀ k : Int, 0 ≤ k → k < N → k ≤ F k := by
    apply zind
    · intro c; exact h0 _ (h.fst 0 (by omega) c).1
    · intro v hv ih c
      have := ih (by omega)
      have := h.inc v (v + 1) hv (by omega) c
      omega
  apply Classical.byContradiction
  intro c
  have := k (N - 1) (by omega) (by omega)
  have := h1 _ (h.fst (N - 1) (by omega) (by omega)).1
  omega
/-- the reference's search for one face, under way -/
def mFF (M M0 : zM) (a : Int) (M' : zM) : Prop :=
  (∀ c i, c ≠ 115 → c ≠ 116 → ¬ (c = 103 ∧ i = 30) → M' c i = M c i) ∧ M' 103 30 = M0 103 30 ∧ M' 116 (M0 103 30) = a ∧ (∀ k, k ≠ M0 103 30 → M' 116 k = M0 116 k) ∧
  gGro (gD (M 103 1) (M 103 2)) (gA (M 103 5) (M 104)) (M0 115) (M0 103 30) (M0 116) a (M' 115) ∧ (∀ i, 0 ≤ i → i < 192 → ¬ gD (M 103 1) (M 103 2) i → M' 115 i = -1)
theorem mFF.set {M M0 : zM} {a : Int} {M' : zM} (h : mFF M M0 a M') {x y : Int} (dx : gD (M 103 1) (M 103 2) x) (dy : gD (M 103 1) (M 103 2) y) (p : gA (M 103 5) (M 104) x y) (lx : M' 115 x = M0 103 30) (ly : M' 115 y < 0) : mFF M M0 a (zset M' 115 y (M0 103 30)) := by
  obtain ⟨h1, h2, h3, h4, h5, h6⟩ := h
  refine ⟨?_, ?_, ?_, ?_, ?_, ?_⟩
  · intro c i a1 a2 a3
    rw [zset_n _ (.inl a1)]
    exact h1 c i a1 a2 a3
  · rw [zset_n _ (.inl (by decide))]; exact h2
  · rw [zset_n _ (.inl (by decide))]; exact h3
  · intro k hk; rw [zset_n _ (.inl (by decide))]; exact h4 k hk
  · exact h5.more dx dy p lx ly (fun z _ hz => zset_n _ (.inr hz)) (zset_s _ _ _ _)
  · intro i i0 i1 hi
    rw [zset_n _ (.inr (fun e => hi (by rw [e]; exact dy)))]
    exact h6 i i0 i1 hi
theorem zif01 {p : Prop} [Decidable p] {r : Int} (h : r = if p then 1 else 0) : zB r p := by
  split at h
  · rename_i c; exact .inl ⟨h, c⟩
  · rename_i c; exact .inr ⟨h, c⟩
theorem mBes_D {M : zM} {a d : Int} (hm : mDim M) (h : 0 ≤ mBes M a d) : gD (M 103 1) (M 103 2) (mBes M a d) ∧ mBes M a d % 16 = a % 16 + zdx d ∧ mBes M a d / 16 = a / 16 + zdy d := by
  have := zdx_b d
  unfold mBes at h ⊢
  split at h
  · rename_i c; rw [if_pos c]; omega
  · omega
theorem mBes_E {M : zM} {a d y : Int} (hd : mDim M) (dy : gD (M 103 1) (M 103 2) y) (e1 : y % 16 = a % 16 + zdx d) (e2 : y / 16 = a / 16 + zdy d) : mBes M a d = y := by
  unfold mBes
  rw [if_pos (by omega)]
  omega
abbrev pr_X12_findFaces (M : zM) : Prop := (mDim M) ∧ (M 103 5 = 0 ∨ M 103 5 = 1)
abbrev po_X12_findFaces (M : zM) (M' : zM) : Prop := (∀ c i, c ≠ 115 → c ≠ 116 → ¬ (c = 103 ∧ i = 30) → M' c i = M c i) ∧ (gLab (gD (M 103 1) (M 103 2)) (gA (M 103 5) (M 104)) (M' 115) (M' 103 30) (M' 116)) ∧ (∀ i, 0 ≤ i → i < 192 → ¬ gD (M 103 1) (M 103 2) i → M' 115 i = -1)
set_option maxHeartbeats 1000000 in
theorem ok_X12_findFaces : zSnd zS 145 0 0 yX12_findFaces cX12_findFaces 6 none 2 [2] (F_X12_findFaces pr_X12_findFaces po_X12_findFaces) := by
  refine (sn_X12_findFaces ok_X12_isDot ok_X12_beside).mono ?_
  rintro xs P M hz hR ⟨rfl, ⟨hd, ht⟩, hP⟩
  refine ⟨rfl, ?_⟩
  change vc_X12_findFaces pr_X12_isDot po_X12_isDot pr_X12_beside po_X12_beside P M
  unfold vc_X12_findFaces
  intro M1 e_M1
  refine ⟨fun v4 M6 n8 => (n8 : Int) = (192 - v4) ∧ (0 ≤ v4 ∧ v4 ≤ 192) ∧ (∀ c i, c ≠ 115 → ¬ (c = 103 ∧ i = 30) → M6 c i = M c i) ∧ (M6 103 30 = 0) ∧ (∀ i, 0 ≤ i → i < v4 → M6 115 i = -1), ⟨Int.toNat (192 - 0), by omega, ?_, ?_, ?_, ?_⟩, ?_⟩
  · show 0 ≤ 0 ∧ 0 ≤ 192  -- I7.0.hv4
    first | with_reducible assumption | omega | exact trivial | with_reducible rfl
  · show ∀ c i, c ≠ 115 → ¬ (c = 103 ∧ i = 30) → M1 c i = M c i  -- I7.0.hf
    intro c i q1 q2; rw [e_M1, zset_n _ (by omega)]
  · show M1 103 30 = 0  -- I7.0.h30
    rw [e_M1, zset_s]
  · show ∀ i, 0 ≤ i → i < 0 → M1 115 i = -1  -- I7.0.h5
    first | with_reducible assumption | omega | exact trivial | with_reducible rfl
  rintro v4 M6 n8 ⟨h_n8, hv4, hf, h30, h5⟩ z_v4 z_M6
  refine ⟨fun b1 => ?_, fun b1 => ?_⟩
  · -- b1.1
    refine ⟨fun v16 M18 n20 => (n20 : Int) = (16 * M 103 2 - v16) ∧ (0 ≤ v16 ∧ v16 ≤ 16 * M 103 2) ∧ (∀ c i, c ≠ 115 → c ≠ 116 → ¬ (c = 103 ∧ i = 30) → M18 c i = M c i) ∧ (gPar (gD (M 103 1) (M 103 2)) (gA (M 103 5) (M 104)) (M18 115) (M18 103 30) (M18 116) v16) ∧ (∀ i, 0 ≤ i → i < 192 → ¬ gD (M 103 1) (M 103 2) i → M18 115 i = -1), ⟨Int.toNat (16 * M 103 2 - 0), by omega, ?_, ?_, ?_, ?_⟩, ?_⟩
    · show 0 ≤ 0 ∧ 0 ≤ 16 * M 103 2  -- I29.0.hv16
      first | with_reducible assumption | omega | exact trivial | with_reducible rfl
    · show ∀ c i, c ≠ 115 → c ≠ 116 → ¬ (c = 103 ∧ i = 30) → M6 c i = M c i  -- I29.0.hf2
      intro c i q1 _ q2; exact hf c i q1 q2
    · show gPar (gD (M 103 1) (M 103 2)) (gA (M 103 5) (M 104)) (M6 115) (M6 103 30) (M6 116) 0  -- I29.0.hp
      rw [h30]; exact gPar.nil (fun x d => h5 x d.1 (by omega)) (fun x d => d.1)
    · show ∀ i, 0 ≤ i → i < 192 → ¬ gD (M 103 1) (M 103 2) i → M6 115 i = -1  -- I29.0.hn
      intro i q1 q2 _; exact h5 i q1 (by omega)
    rintro v16 M18 n20 ⟨h_n20, hv16, hf2, hp, hn⟩ z_v16 z_M18
    have w1 := hf2 103 1 (by decide) (by decide) (by decide)
    have w2 := hf2 103 2 (by decide) (by decide) (by decide)
    have w5 := hf2 103 5 (by decide) (by decide) (by decide)
    have nle := hp.le (fun x d => d.1) hv16.1
    have nn := hp.nn
    have o1 : zin (16 * (M18 103 2)) := by
      first | with_reducible assumption | omega | exact trivial | with_reducible rfl  -- o1
    refine ⟨o1, ?_⟩
    refine ⟨fun b2 => ?_, fun b2 => ?_⟩
    · -- b2.1
      refine hP _ ⟨?_, ?_, ?_⟩
      · show ∀ c i, c ≠ 115 → c ≠ 116 → ¬ (c = 103 ∧ i = 30) → M18 c i = M c i  -- p1.hf
        first | with_reducible assumption | omega | exact trivial | with_reducible rfl
      · show gLab (gD (M 103 1) (M 103 2)) (gA (M 103 5) (M 104)) (M18 115) (M18 103 30) (M18 116)  -- p1.hL
        exact hp.lab (fun x d => by omega)
      · show ∀ i, 0 ≤ i → i < 192 → ¬ gD (M 103 1) (M 103 2) i → M18 115 i = -1  -- p1.hn
        first | with_reducible assumption | omega | exact trivial | with_reducible rfl
    · -- b2.2
      have gc1 : pr_X12_isDot v16 M18 := trivial
      refine ⟨gc1, ?_⟩
      rintro r29 M30 ⟨q_rfl, e_r29⟩ z_r29 z_M30
      have q_rfl := q_rfl.symm
      subst q_rfl
      have B29 : zB r29 (gD (M 103 1) (M 103 2) v16) := (zif01 e_r29).iff (by omega)
      refine ⟨fun b3 => ?_, fun b3 => ?_⟩
      · -- b3.1
        have o2 : zin (v16 + 1) := by
          first | with_reducible assumption | omega | exact trivial | with_reducible rfl  -- o2
        refine ⟨o2, ?_⟩
        refine ⟨Int.toNat (16 * M 103 2 - (v16 + 1)), by omega, by omega, ?_, ?_, ?_, ?_⟩
        · show 0 ≤ (v16 + 1) ∧ (v16 + 1) ≤ 16 * M 103 2  -- I29.1.hv16
          first | with_reducible assumption | omega | exact trivial | with_reducible rfl
        · show ∀ c i, c ≠ 115 → c ≠ 116 → ¬ (c = 103 ∧ i = 30) → M18 c i = M c i  -- I29.1.hf2
          first | with_reducible assumption | omega | exact trivial | with_reducible rfl
        · show gPar (gD (M 103 1) (M 103 2)) (gA (M 103 5) (M 104)) (M18 115) (M18 103 30) (M18 116) (v16 + 1)  -- I29.1.hp
          exact hp.skip (fun d => absurd d (B29.z.1 b3))
        · show ∀ i, 0 ≤ i → i < 192 → ¬ gD (M 103 1) (M 103 2) i → M18 115 i = -1  -- I29.1.hn
          first | with_reducible assumption | omega | exact trivial | with_reducible rfl
      · -- b3.2
        have o3 : ((0 : Int) ≤ v16 ∧ v16 < 192) := by
          first | with_reducible assumption | omega | exact trivial | with_reducible rfl  -- o3
        refine ⟨o3, ?_⟩
        refine ⟨fun b4 => ?_, fun b4 => ?_⟩
        · -- b4.1
          have o4 : zin (v16 + 1) := by
            first | with_reducible assumption | omega | exact trivial | with_reducible rfl  -- o4
          refine ⟨o4, ?_⟩
          refine ⟨Int.toNat (16 * M 103 2 - (v16 + 1)), by omega, by omega, ?_, ?_, ?_, ?_⟩
          · show 0 ≤ (v16 + 1) ∧ (v16 + 1) ≤ 16 * M 103 2  -- I29.2.hv16
            first | with_reducible assumption | omega | exact trivial | with_reducible rfl
          · show ∀ c i, c ≠ 115 → c ≠ 116 → ¬ (c = 103 ∧ i = 30) → M18 c i = M c i  -- I29.2.hf2
            first | with_reducible assumption | omega | exact trivial | with_reducible rfl
          · show gPar (gD (M 103 1) (M 103 2)) (gA (M 103 5) (M 104)) (M18 115) (M18 103 30) (M18 116) (v16 + 1)  -- I29.2.hp
            exact hp.skip (fun _ => b4)
          · show ∀ i, 0 ≤ i → i < 192 → ¬ gD (M 103 1) (M 103 2) i → M18 115 i = -1  -- I29.2.hn
            first | with_reducible assumption | omega | exact trivial | with_reducible rfl
        · -- b4.2
          have dv : gD (M 103 1) (M 103 2) v16 := B29.ne.1 b3
          have lv : M18 115 v16 = -1 := by have := hp.rng v16 dv; omega
          have o5 : ((0 : Int) ≤ (M18 103 30) ∧ (M18 103 30) < 192) := by
            first | with_reducible assumption | omega | exact trivial | with_reducible rfl  -- o5
          refine ⟨o5, ?_⟩
          intro M47 e_M47
          intro M50 e_M50
          have hU0 := zc_b (fun i => M50 115 i < 0) 192 (by decide)
          refine ⟨fun v53 M55 n57 => (n57 : Int) = (2 * zc (fun i => M55 115 i < 0) 192 + v53) ∧ (v53 = 0 ∨ v53 = 1) ∧ (mFF M M18 v16 M55) ∧ (v53 = 0 → ∀ x y, gD (M 103 1) (M 103 2) x → gD (M 103 1) (M 103 2) y → gA (M 103 5) (M 104) x y → M55 115 x = M18 103 30 → 0 ≤ M55 115 y), ⟨Int.toNat (2 * zc (fun i => M50 115 i < 0) 192 + 1), by omega, ?_, ?_, ?_⟩, ?_⟩
          · show 1 = 0 ∨ 1 = 1  -- I79.0.h01
            first | with_reducible assumption | omega | exact trivial | with_reducible rfl
          · show mFF M M18 v16 M50  -- I79.0.hg
            refine ⟨?_, ?_, ?_, ?_, ?_, ?_⟩
            · intro c i q1 q2 q3
              rw [e_M50, zset_n _ (.inl q1), e_M47, zset_n _ (.inl q2)]; exact hf2 c i q1 q2 q3
            · rw [e_M50, zset_n _ (.inl (by decide)), e_M47, zset_n _ (.inl (by decide))]
            · rw [e_M50, zset_n _ (.inl (by decide)), e_M47, zset_s]
            · intro k hk; rw [e_M50, zset_n _ (.inl (by decide)), e_M47, zset_n _ (.inr hk)]
            · refine hp.start dv lv ?_ ?_
              · intro x dx nx; rw [e_M50, zset_n _ (.inr nx), e_M47, zset_n _ (.inl (by decide))]
              · rw [e_M50, zset_s, e_M47, zset_n _ (.inl (by decide))]
            · intro i q1 q2 q3
              rw [e_M50, zset_n _ (.inr (fun e => q3 (by rw [e]; exact dv))), e_M47, zset_n _ (.inl (by decide))]
              exact hn i q1 q2 q3
          · show 1 = 0 → ∀ x y, gD (M 103 1) (M 103 2) x → gD (M 103 1) (M 103 2) y → gA (M 103 5) (M 104) x y → M50 115 x = M18 103 30 → 0 ≤ M50 115 y  -- I79.0.hcl
            first | with_reducible assumption | omega | exact trivial | with_reducible rfl
          rintro v53 M55 n57 ⟨h_n57, h01, hg, hcl⟩ z_v53 z_M55
          have hU := zc_b (fun i => M55 115 i < 0) 192 (by decide)
          obtain ⟨f1, f2, f3, f4, f5, f6⟩ := id hg
          refine ⟨fun b5 => ?_, fun b5 => ?_⟩
          · -- b5.1
            have o6 : zin ((M55 103 30) + 1) := by
              omega
            refine ⟨o6, ?_⟩
            intro M66 e_M66
            have o7 : zin (v16 + 1) := by
              first | with_reducible assumption | omega | exact trivial | with_reducible rfl  -- o7
            refine ⟨o7, ?_⟩
            refine ⟨Int.toNat (16 * M 103 2 - (v16 + 1)), by omega, by omega, ?_, ?_, ?_, ?_⟩
            · show 0 ≤ (v16 + 1) ∧ (v16 + 1) ≤ 16 * M 103 2  -- I29.3.hv16
              first | with_reducible assumption | omega | exact trivial | with_reducible rfl
            · show ∀ c i, c ≠ 115 → c ≠ 116 → ¬ (c = 103 ∧ i = 30) → M66 c i = M c i  -- I29.3.hf2
              intro c i q1 q2 q3; rw [e_M66, zset_n _ (by omega)]; exact f1 c i q1 q2 q3
            · show gPar (gD (M 103 1) (M 103 2)) (gA (M 103 5) (M 104)) (M66 115) (M66 103 30) (M66 116) (v16 + 1)  -- I29.3.hp
              rw [e_M66, zset_s, f2]
              refine gPar.cong (f5.done (F' := M55 116) gA.sym (hcl b5) (fun k _ k2 => f4 k (by omega)) f3) (fun x _ => ?_) (fun k _ _ => ?_)
              · exact zset_n _ (.inl (by decide))
              · exact zset_n _ (.inl (by decide))
            · show ∀ i, 0 ≤ i → i < 192 → ¬ gD (M 103 1) (M 103 2) i → M66 115 i = -1  -- I29.3.hn
              intro i q1 q2 q3; rw [e_M66, zset_n _ (.inl (by decide))]; exact f6 i q1 q2 q3
          · -- b5.2
            refine ⟨fun v73 v74 M77 n79 => (n79 : Int) = (16 * M 103 2 - v74) ∧ (v73 = 0 ∨ v73 = 1) ∧ (0 ≤ v74 ∧ v74 ≤ 16 * M 103 2) ∧ (mFF M M18 v16 M77) ∧ ((v73 = 0 ∧ M77 = M55) ∨ (v73 = 1 ∧ zc (fun i => M77 115 i < 0) 192 < zc (fun i => M55 115 i < 0) 192)) ∧ (v73 = 0 → ∀ x y, gD (M 103 1) (M 103 2) x → x < v74 → gD (M 103 1) (M 103 2) y → gA (M 103 5) (M 104) x y → M77 115 x = M18 103 30 → 0 ≤ M77 115 y), ⟨Int.toNat (16 * M 103 2 - 0), by omega, ?_, ?_, ?_, ?_, ?_⟩, ?_⟩
            · show 0 = 0 ∨ 0 = 1  -- I87.0.h01
              first | with_reducible assumption | omega | exact trivial | with_reducible rfl
            · show 0 ≤ 0 ∧ 0 ≤ 16 * M 103 2  -- I87.0.hv74
              first | with_reducible assumption | omega | exact trivial | with_reducible rfl
            · show mFF M M18 v16 M55  -- I87.0.hg2
              first | with_reducible assumption | omega | exact trivial | with_reducible rfl
            · show (0 = 0 ∧ M55 = M55) ∨ (0 = 1 ∧ zc (fun i => M55 115 i < 0) 192 < zc (fun i => M55 115 i < 0) 192)  -- I87.0.hs
              exact .inl ⟨rfl, rfl⟩
            · show 0 = 0 → ∀ x y, gD (M 103 1) (M 103 2) x → x < 0 → gD (M 103 1) (M 103 2) y → gA (M 103 5) (M 104) x y → M55 115 x = M18 103 30 → 0 ≤ M55 115 y  -- I87.0.hcl2
              intro _ x y d l; have := d.1; omega
            rintro v73 v74 M77 n79 ⟨h_n79, h01, hv74, hg2, hs, hcl2⟩ z_v73 z_v74 z_M77
            obtain ⟨j1, j2, j3, j4, j5, j6⟩ := id hg2
            have y1 := j1 103 1 (by decide) (by decide) (by decide)
            have y2 := j1 103 2 (by decide) (by decide) (by decide)
            have y5 := j1 103 5 (by decide) (by decide) (by decide)
            have hU2 := zc_b (fun i => M77 115 i < 0) 192 (by decide)
            have o8 : zin (16 * (M77 103 2)) := by
              first | with_reducible assumption | omega | exact trivial | with_reducible rfl  -- o8
            refine ⟨o8, ?_⟩
            refine ⟨fun b6 => ?_, fun b6 => ?_⟩
            · -- b6.1
              have hs' : (v73 = 0 ∧ zc (fun i => M77 115 i < 0) 192 = zc (fun i => M55 115 i < 0) 192) ∨ (v73 = 1 ∧ zc (fun i => M77 115 i < 0) 192 < zc (fun i => M55 115 i < 0) 192) := by
                rcases hs with ⟨a, b⟩ | h
                · exact .inl ⟨a, by rw [b]⟩
                · exact .inr h
              refine ⟨Int.toNat (2 * zc (fun i => M77 115 i < 0) 192 + v73), by omega, by omega, ?_, ?_, ?_⟩
              · show v73 = 0 ∨ v73 = 1  -- I79.1.h01
                first | with_reducible assumption | omega | exact trivial | with_reducible rfl
              · show mFF M M18 v16 M77  -- I79.1.hg
                first | with_reducible assumption | omega | exact trivial | with_reducible rfl
              · show v73 = 0 → ∀ x y, gD (M 103 1) (M 103 2) x → gD (M 103 1) (M 103 2) y → gA (M 103 5) (M 104) x y → M77 115 x = M18 103 30 → 0 ≤ M77 115 y  -- I79.1.hcl
                intro q x y dx dy p l; exact hcl2 q x y dx (by have := dx.2.2; omega) dy p l
            · -- b6.2
              have gc2 : pr_X12_isDot v74 M77 := trivial
              refine ⟨gc2, ?_⟩
              rintro r91 M92 ⟨q_rfl, e_r91⟩ z_r91 z_M92
              have q_rfl := q_rfl.symm
              subst q_rfl
              have B91 : zB r91 (gD (M 103 1) (M 103 2) v74) := (zif01 e_r91).iff (by omega)
              refine ⟨fun b7 => ?_, fun b7 => ?_⟩
              · -- b7.1
                have o9 : zin (v74 + 1) := by
                  first | with_reducible assumption | omega | exact trivial | with_reducible rfl  -- o9
                refine ⟨o9, ?_⟩
                refine ⟨Int.toNat (16 * M 103 2 - (v74 + 1)), by omega, by omega, ?_, ?_, ?_, ?_, ?_⟩
                · show v73 = 0 ∨ v73 = 1  -- I87.1.h01
                  first | with_reducible assumption | omega | exact trivial | with_reducible rfl
                · show 0 ≤ (v74 + 1) ∧ (v74 + 1) ≤ 16 * M 103 2  -- I87.1.hv74
                  first | with_reducible assumption | omega | exact trivial | with_reducible rfl
                · show mFF M M18 v16 M77  -- I87.1.hg2
                  first | with_reducible assumption | omega | exact trivial | with_reducible rfl
                · show (v73 = 0 ∧ M77 = M55) ∨ (v73 = 1 ∧ zc (fun i => M77 115 i < 0) 192 < zc (fun i => M55 115 i < 0) 192)  -- I87.1.hs
                  first | with_reducible assumption | omega | exact trivial | with_reducible rfl
                · show v73 = 0 → ∀ x y, gD (M 103 1) (M 103 2) x → x < (v74 + 1) → gD (M 103 1) (M 103 2) y → gA (M 103 5) (M 104) x y → M77 115 x = M18 103 30 → 0 ≤ M77 115 y  -- I87.1.hcl2
                  intro q x y dx lx dy p l
                  by_cases c : x = v74
                  · subst c; exact absurd dx (B91.z.1 b7)
                  · exact hcl2 q x y dx (by omega) dy p l
              · -- b7.2
                have o10 : ((0 : Int) ≤ v74 ∧ v74 < 192) := by
                  first | with_reducible assumption | omega | exact trivial | with_reducible rfl  -- o10
                refine ⟨o10, ?_⟩
                refine ⟨fun b8 => ?_, fun b8 => ?_⟩
                · -- b8.1
                  have o11 : zin (v74 + 1) := by
                    first | with_reducible assumption | omega | exact trivial | with_reducible rfl  -- o11
                  refine ⟨o11, ?_⟩
                  refine ⟨Int.toNat (16 * M 103 2 - (v74 + 1)), by omega, by omega, ?_, ?_, ?_, ?_, ?_⟩
                  · show v73 = 0 ∨ v73 = 1  -- I87.2.h01
                    first | with_reducible assumption | omega | exact trivial | with_reducible rfl
                  · show 0 ≤ (v74 + 1) ∧ (v74 + 1) ≤ 16 * M 103 2  -- I87.2.hv74
                    first | with_reducible assumption | omega | exact trivial | with_reducible rfl
                  · show mFF M M18 v16 M77  -- I87.2.hg2
                    first | with_reducible assumption | omega | exact trivial | with_reducible rfl
                  · show (v73 = 0 ∧ M77 = M55) ∨ (v73 = 1 ∧ zc (fun i => M77 115 i < 0) 192 < zc (fun i => M55 115 i < 0) 192)  -- I87.2.hs
                    first | with_reducible assumption | omega | exact trivial | with_reducible rfl
                  · show v73 = 0 → ∀ x y, gD (M 103 1) (M 103 2) x → x < (v74 + 1) → gD (M 103 1) (M 103 2) y → gA (M 103 5) (M 104) x y → M77 115 x = M18 103 30 → 0 ≤ M77 115 y  -- I87.2.hcl2
                    intro q x y dx lx dy p l
                    by_cases c : x = v74
                    · rw [c] at l; omega
                    · exact hcl2 q x y dx (by omega) dy p l
                · -- b8.2
                  have dw : gD (M 103 1) (M 103 2) v74 := B91.ne.1 b7
                  refine ⟨fun v108 v109 M112 n114 => (n114 : Int) = (8 - v109) ∧ (v108 = 0 ∨ v108 = 1) ∧ (0 ≤ v109 ∧ v109 ≤ 8) ∧ (mFF M M18 v16 M112) ∧ ((v108 = 0 ∧ M112 = M55) ∨ (v108 = 1 ∧ zc (fun i => M112 115 i < 0) 192 < zc (fun i => M55 115 i < 0) 192)) ∧ (M112 115 v74 = M18 103 30) ∧ (v108 = 0 → ∀ x y, gD (M 103 1) (M 103 2) x → x < v74 → gD (M 103 1) (M 103 2) y → gA (M 103 5) (M 104) x y → M112 115 x = M18 103 30 → 0 ≤ M112 115 y) ∧ (v108 = 0 → ∀ d, 0 ≤ d → d < v109 → 0 ≤ mBes M v74 d → M 104 v74 = M 104 (mBes M v74 d) → 0 ≤ M112 115 (mBes M v74 d)), ⟨Int.toNat (8 - 0), by omega, ?_, ?_, ?_, ?_, ?_, ?_, ?_⟩, ?_⟩
                  · show v73 = 0 ∨ v73 = 1  -- I122.0.h01
                    first | with_reducible assumption | omega | exact trivial | with_reducible rfl
                  · show 0 ≤ 0 ∧ 0 ≤ 8  -- I122.0.hv109
                    first | with_reducible assumption | omega | exact trivial | with_reducible rfl
                  · show mFF M M18 v16 M77  -- I122.0.hg3
                    first | with_reducible assumption | omega | exact trivial | with_reducible rfl
                  · show (v73 = 0 ∧ M77 = M55) ∨ (v73 = 1 ∧ zc (fun i => M77 115 i < 0) 192 < zc (fun i => M55 115 i < 0) 192)  -- I122.0.hs3
                    first | with_reducible assumption | omega | exact trivial | with_reducible rfl
                  · show M77 115 v74 = M18 103 30  -- I122.0.hl3
                    first | with_reducible assumption | omega | exact trivial | with_reducible rfl
                  · show v73 = 0 → ∀ x y, gD (M 103 1) (M 103 2) x → x < v74 → gD (M 103 1) (M 103 2) y → gA (M 103 5) (M 104) x y → M77 115 x = M18 103 30 → 0 ≤ M77 115 y  -- I122.0.hcl3
                    first | with_reducible assumption | omega | exact trivial | with_reducible rfl
                  · show v73 = 0 → ∀ d, 0 ≤ d → d < 0 → 0 ≤ mBes M v74 d → M 104 v74 = M 104 (mBes M v74 d) → 0 ≤ M77 115 (mBes M v74 d)  -- I122.0.hcd
                    first | with_reducible assumption | omega | exact trivial | with_reducible rfl
                  rintro v108 v109 M112 n114 ⟨h_n114, h01, hv109, hg3, hs3, hl3, hcl3, hcd⟩ z_v108 z_v109 z_M112
                  obtain ⟨k1, k2, k3, k4, k5, k6⟩ := id hg3
                  have x1 := k1 103 1 (by decide) (by decide) (by decide)
                  have x2 := k1 103 2 (by decide) (by decide) (by decide)
                  have x5 := k1 103 5 (by decide) (by decide) (by decide)
                  have x104 : M112 104 = M 104 := funext fun i => k1 104 i (by decide) (by decide) (by omega)
                  have eB : ∀ d, mBes M112 v74 d = mBes M v74 d := fun d => by unfold mBes; rw [x1, x2]
                  intro K137 h_K137
                  have k_K137 : ∀ (v121 : Int), (v121 = (if M 103 5 = 0 then 4 else 8)) → K137 v121 := by
                    intro v121 hk
                    refine h_K137 _ ?_
                    intro z_v121
                    refine ⟨fun b9 => ?_, fun b9 => ?_⟩
                    · -- b9.1
                      have o12 : zin (v74 + 1) := by
                        omega
                      refine ⟨o12, ?_⟩
                      refine ⟨Int.toNat (16 * M 103 2 - (v74 + 1)), by omega, by omega, ?_, ?_, ?_, ?_, ?_⟩
                      · show v108 = 0 ∨ v108 = 1  -- I87.3.h01
                        first | with_reducible assumption | omega | exact trivial | with_reducible rfl
                      · show 0 ≤ (v74 + 1) ∧ (v74 + 1) ≤ 16 * M 103 2  -- I87.3.hv74
                        first | with_reducible assumption | omega | exact trivial | with_reducible rfl
                      · show mFF M M18 v16 M112  -- I87.3.hg2
                        first | with_reducible assumption | omega | exact trivial | with_reducible rfl
                      · show (v108 = 0 ∧ M112 = M55) ∨ (v108 = 1 ∧ zc (fun i => M112 115 i < 0) 192 < zc (fun i => M55 115 i < 0) 192)  -- I87.3.hs
                        first | with_reducible assumption | omega | exact trivial | with_reducible rfl
                      · show v108 = 0 → ∀ x y, gD (M 103 1) (M 103 2) x → x < (v74 + 1) → gD (M 103 1) (M 103 2) y → gA (M 103 5) (M 104) x y → M112 115 x = M18 103 30 → 0 ≤ M112 115 y  -- I87.3.hcl2
                        intro q x y dx lx dy p l
                        by_cases c : x = v74
                        · subst c
                          obtain ⟨d, d1, d2, d3, d4⟩ := gOff_m' p.1
                          have e : mBes M x d = y := mBes_E hd dy (by omega) (by omega)
                          have := hcd q d d1 (by omega) (by rw [e]; exact dy.1) (by rw [e]; exact p.2)
                          rw [e] at this
                          exact this
                        · exact hcl3 q x y dx (by omega) dy p l
                    · -- b9.2
                      have gc3 : pr_X12_beside v74 v109 M112 := by
                        refine ⟨?_, ?_, ?_⟩
                        · show mDim M112  -- c3.hd
                          unfold mDim; omega
                        · show 0 ≤ v74  -- c3.h0
                          first | with_reducible assumption | omega | exact trivial | with_reducible rfl
                        · show v74 < 192  -- c3.h1
                          first | with_reducible assumption | omega | exact trivial | with_reducible rfl
                      refine ⟨gc3, ?_⟩
                      rintro r128 M129 ⟨q_rfl, e_r128⟩ z_r128 z_M129
                      have q_rfl := q_rfl.symm
                      subst q_rfl
                      rw [eB] at e_r128
                      refine ⟨fun b10 => ?_, fun b10 => ?_⟩
                      · -- b10.1
                        have o13 : zin (v109 + 1) := by
                          first | with_reducible assumption | omega | exact trivial | with_reducible rfl  -- o13
                        refine ⟨o13, ?_⟩
                        refine ⟨Int.toNat (8 - (v109 + 1)), by omega, by omega, ?_, ?_, ?_, ?_, ?_, ?_, ?_⟩
                        · show v108 = 0 ∨ v108 = 1  -- I122.1.h01
                          first | with_reducible assumption | omega | exact trivial | with_reducible rfl
                        · show 0 ≤ (v109 + 1) ∧ (v109 + 1) ≤ 8  -- I122.1.hv109
                          first | with_reducible assumption | omega | exact trivial | with_reducible rfl
                        · show mFF M M18 v16 M112  -- I122.1.hg3
                          first | with_reducible assumption | omega | exact trivial | with_reducible rfl
                        · show (v108 = 0 ∧ M112 = M55) ∨ (v108 = 1 ∧ zc (fun i => M112 115 i < 0) 192 < zc (fun i => M55 115 i < 0) 192)  -- I122.1.hs3
                          first | with_reducible assumption | omega | exact trivial | with_reducible rfl
                        · show M112 115 v74 = M18 103 30  -- I122.1.hl3
                          first | with_reducible assumption | omega | exact trivial | with_reducible rfl
                        · show v108 = 0 → ∀ x y, gD (M 103 1) (M 103 2) x → x < v74 → gD (M 103 1) (M 103 2) y → gA (M 103 5) (M 104) x y → M112 115 x = M18 103 30 → 0 ≤ M112 115 y  -- I122.1.hcl3
                          first | with_reducible assumption | omega | exact trivial | with_reducible rfl
                        · show v108 = 0 → ∀ d, 0 ≤ d → d < (v109 + 1) → 0 ≤ mBes M v74 d → M 104 v74 = M 104 (mBes M v74 d) → 0 ≤ M112 115 (mBes M v74 d)  -- I122.1.hcd
                          intro q d d1 d2 d3 d4
                          by_cases c : d = v109
                          · subst c; omega
                          · exact hcd q d d1 (by omega) d3 d4
                      · -- b10.2
                        have o14 : ((0 : Int) ≤ r128 ∧ r128 < 192) := by
                          have := mBes_D (M := M) (a := v74) (d := v109) hd (by omega); omega
                        refine ⟨o14, ?_⟩
                        refine ⟨fun b11 => ?_, fun b11 => ?_⟩
                        · -- b11.1
                          have o15 : zin (v109 + 1) := by
                            first | with_reducible assumption | omega | exact trivial | with_reducible rfl  -- o15
                          refine ⟨o15, ?_⟩
                          refine ⟨Int.toNat (8 - (v109 + 1)), by omega, by omega, ?_, ?_, ?_, ?_, ?_, ?_, ?_⟩
                          · show v108 = 0 ∨ v108 = 1  -- I122.2.h01
                            first | with_reducible assumption | omega | exact trivial | with_reducible rfl
                          · show 0 ≤ (v109 + 1) ∧ (v109 + 1) ≤ 8  -- I122.2.hv109
                            first | with_reducible assumption | omega | exact trivial | with_reducible rfl
                          · show mFF M M18 v16 M112  -- I122.2.hg3
                            first | with_reducible assumption | omega | exact trivial | with_reducible rfl
                          · show (v108 = 0 ∧ M112 = M55) ∨ (v108 = 1 ∧ zc (fun i => M112 115 i < 0) 192 < zc (fun i => M55 115 i < 0) 192)  -- I122.2.hs3
                            first | with_reducible assumption | omega | exact trivial | with_reducible rfl
                          · show M112 115 v74 = M18 103 30  -- I122.2.hl3
                            first | with_reducible assumption | omega | exact trivial | with_reducible rfl
                          · show v108 = 0 → ∀ x y, gD (M 103 1) (M 103 2) x → x < v74 → gD (M 103 1) (M 103 2) y → gA (M 103 5) (M 104) x y → M112 115 x = M18 103 30 → 0 ≤ M112 115 y  -- I122.2.hcl3
                            first | with_reducible assumption | omega | exact trivial | with_reducible rfl
                          · show v108 = 0 → ∀ d, 0 ≤ d → d < (v109 + 1) → 0 ≤ mBes M v74 d → M 104 v74 = M 104 (mBes M v74 d) → 0 ≤ M112 115 (mBes M v74 d)  -- I122.2.hcd
                            intro q d d1 d2 d3 d4
                            by_cases c : d = v109
                            · subst c; rw [← e_r128]; exact b11
                            · exact hcd q d d1 (by omega) d3 d4
                        · -- b11.2
                          refine ⟨fun b12 => ?_, fun b12 => ?_⟩
                          · -- b12.1
                            have o16 : zin (v109 + 1) := by
                              first | with_reducible assumption | omega | exact trivial | with_reducible rfl  -- o16
                            refine ⟨o16, ?_⟩
                            refine ⟨Int.toNat (8 - (v109 + 1)), by omega, by omega, ?_, ?_, ?_, ?_, ?_, ?_, ?_⟩
                            · show v108 = 0 ∨ v108 = 1  -- I122.3.h01
                              first | with_reducible assumption | omega | exact trivial | with_reducible rfl
                            · show 0 ≤ (v109 + 1) ∧ (v109 + 1) ≤ 8  -- I122.3.hv109
                              first | with_reducible assumption | omega | exact trivial | with_reducible rfl
                            · show mFF M M18 v16 M112  -- I122.3.hg3
                              first | with_reducible assumption | omega | exact trivial | with_reducible rfl
                            · show (v108 = 0 ∧ M112 = M55) ∨ (v108 = 1 ∧ zc (fun i => M112 115 i < 0) 192 < zc (fun i => M55 115 i < 0) 192)  -- I122.3.hs3
                              first | with_reducible assumption | omega | exact trivial | with_reducible rfl
                            · show M112 115 v74 = M18 103 30  -- I122.3.hl3
                              first | with_reducible assumption | omega | exact trivial | with_reducible rfl
                            · show v108 = 0 → ∀ x y, gD (M 103 1) (M 103 2) x → x < v74 → gD (M 103 1) (M 103 2) y → gA (M 103 5) (M 104) x y → M112 115 x = M18 103 30 → 0 ≤ M112 115 y  -- I122.3.hcl3
                              first | with_reducible assumption | omega | exact trivial | with_reducible rfl
                            · show v108 = 0 → ∀ d, 0 ≤ d → d < (v109 + 1) → 0 ≤ mBes M v74 d → M 104 v74 = M 104 (mBes M v74 d) → 0 ≤ M112 115 (mBes M v74 d)  -- I122.3.hcd
                              intro q d d1 d2 d3 d4
                              by_cases c : d = v109
                              · subst c; rw [x104, e_r128] at b12; exact absurd d4.symm b12
                              · exact hcd q d d1 (by omega) d3 d4
                          · -- b12.2
                            have hB := mBes_D (M := M) (a := v74) (d := v109) hd (by omega)
                            rw [← e_r128] at hB
                            have hA : gA (M 103 5) (M 104) v74 r128 := by
                              refine ⟨?_, by rw [x104] at b12; exact b12.symm⟩
                              rw [show r128 % 16 - v74 % 16 = zdx v109 by omega, show r128 / 16 - v74 / 16 = zdy v109 by omega]
                              exact gOff_m hv109.1 (by omega)
                            intro M150 e_M150
                            rw [k2] at e_M150
                            have hlt : zc (fun i => M150 115 i < 0) 192 < zc (fun i => M112 115 i < 0) 192 := by
                              refine zc_lt (y := r128) o14.2 o14.1 ?_ ?_ ?_
                              · rw [e_M150, zset_s]; omega
                              · omega
                              · intro i _ _ q
                                rw [e_M150] at q
                                by_cases c : i = r128
                                · rw [c, zset_s] at q; omega
                                · rw [zset_n _ (.inr c)] at q; exact q
                            have o17 : zin (v109 + 1) := by
                              first | with_reducible assumption | omega | exact trivial | with_reducible rfl  -- o17
                            refine ⟨o17, ?_⟩
                            refine ⟨Int.toNat (8 - (v109 + 1)), by omega, by omega, ?_, ?_, ?_, ?_, ?_, ?_, ?_⟩
                            · show 1 = 0 ∨ 1 = 1  -- I122.4.h01
                              first | with_reducible assumption | omega | exact trivial | with_reducible rfl
                            · show 0 ≤ (v109 + 1) ∧ (v109 + 1) ≤ 8  -- I122.4.hv109
                              first | with_reducible assumption | omega | exact trivial | with_reducible rfl
                            · show mFF M M18 v16 M150  -- I122.4.hg3
                              rw [e_M150]; exact hg3.set dw hB.1 hA hl3 (by omega)
                            · show (1 = 0 ∧ M150 = M55) ∨ (1 = 1 ∧ zc (fun i => M150 115 i < 0) 192 < zc (fun i => M55 115 i < 0) 192)  -- I122.4.hs3
                              refine .inr ⟨rfl, ?_⟩
                              rcases hs3 with ⟨_, q⟩ | ⟨_, q⟩
                              · rw [q] at hlt; exact hlt
                              · omega
                            · show M150 115 v74 = M18 103 30  -- I122.4.hl3
                              rw [e_M150, zset_n _ (.inr (by intro c; rw [c] at hl3; omega))]; exact hl3
                            · show 1 = 0 → ∀ x y, gD (M 103 1) (M 103 2) x → x < v74 → gD (M 103 1) (M 103 2) y → gA (M 103 5) (M 104) x y → M150 115 x = M18 103 30 → 0 ≤ M150 115 y  -- I122.4.hcl3
                              first | with_reducible assumption | omega | exact trivial | with_reducible rfl
                            · show 1 = 0 → ∀ d, 0 ≤ d → d < (v109 + 1) → 0 ≤ mBes M v74 d → M 104 v74 = M 104 (mBes M v74 d) → 0 ≤ M150 115 (mBes M v74 d)  -- I122.4.hcd
                              first | with_reducible assumption | omega | exact trivial | with_reducible rfl
                  refine ⟨fun b13 => ?_, fun b13 => ?_⟩
                  · -- b13.1
                    refine k_K137 _ ?_
                    · show 8 = (if M 103 5 = 0 then 4 else 8)  -- K137.1.hk
                      rw [if_neg (by omega)]
                  · -- b13.2
                    refine k_K137 _ ?_
                    · show 4 = (if M 103 5 = 0 then 4 else 8)  -- K137.2.hk
                      rw [if_pos (by omega)]
  · -- b1.2
    have o18 : ((0 : Int) ≤ v4 ∧ v4 < 192) := by
      first | with_reducible assumption | omega | exact trivial | with_reducible rfl  -- o18
    refine ⟨o18, ?_⟩
    intro M159 e_M159
    have o19 : zin (v4 + 1) := by
      first | with_reducible assumption | omega | exact trivial | with_reducible rfl  -- o19
    refine ⟨o19, ?_⟩
    refine ⟨Int.toNat (192 - (v4 + 1)), by omega, by omega, ?_, ?_, ?_, ?_⟩
    · show 0 ≤ (v4 + 1) ∧ (v4 + 1) ≤ 192  -- I7.1.hv4
      first | with_reducible assumption | omega | exact trivial | with_reducible rfl
    · show ∀ c i, c ≠ 115 → ¬ (c = 103 ∧ i = 30) → M159 c i = M c i  -- I7.1.hf
      intro c i q1 q2; rw [e_M159, zset_n _ (.inl q1)]; exact hf c i q1 q2
    · show M159 103 30 = 0  -- I7.1.h30
      rw [e_M159, zset_n _ (.inl (by decide))]; exact h30
    · show ∀ i, 0 ≤ i → i < (v4 + 1) → M159 115 i = -1  -- I7.1.h5
      intro i q1 q2
      rw [e_M159]
      by_cases q : i = v4
      · rw [q, zset_s]
      · rw [zset_n _ (.inr q)]; exact h5 i q1 (by omega)

