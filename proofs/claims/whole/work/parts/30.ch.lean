abbrev pr_X2_isMark (x : Int) (y : Int) (M : zM) : Prop := True
abbrev po_X2_isMark (x : Int) (y : Int) (M : zM) (r : Int) (M' : zM) : Prop := M' = M ∧ r = if 0 ≤ x ∧ x < M 5 16 ∧ 0 ≤ y ∧ y < M 5 17 then 1 else 0
set_option maxHeartbeats 1000000 in
theorem ok_X2_isMark : zSnd zS 145 0 0 yX2_isMark cX2_isMark 3 (some .boolean) 0 [2, 0, 0] (F_X2_isMark pr_X2_isMark po_X2_isMark) := by
  refine (sn_X2_isMark).mono ?_
  rintro xs P M hz hR ⟨x, y, rfl, _, hP⟩
  refine ⟨_, _, rfl, ?_⟩
  have z_x := zall_h (zall_t hz) (by decide)
  have z_y := zall_h (zall_t (zall_t hz)) (by decide)
  change vc_X2_isMark x y P M
  unfold vc_X2_isMark
  refine ⟨fun b1 => ?_, fun b1 => ?_⟩
  · -- b1.1
    refine hP _ _ ⟨rfl, ?_⟩
    · rw [if_neg (by omega)]  -- p1
  · -- b1.2
    refine ⟨fun b2 => ?_, fun b2 => ?_⟩
    · -- b2.1
      refine hP _ _ ⟨rfl, ?_⟩
      · rw [if_neg (by omega)]  -- p2
    · -- b2.2
      refine ⟨fun b3 => ?_, fun b3 => ?_⟩
      · -- b3.1
        refine hP _ _ ⟨rfl, ?_⟩
        · rw [if_neg (by omega)]  -- p3
      · -- b3.2
        refine ⟨fun b4 => ?_, fun b4 => ?_⟩
        · -- b4.1
          refine hP _ _ ⟨rfl, ?_⟩
          · rw [if_neg (by omega)]  -- p4
        · -- b4.2
          refine hP _ _ ⟨rfl, ?_⟩
          · rw [if_pos (by omega)]  -- p5

/-- the places of the marked box that aren't in the face -/
def bMD (M : zM) (m : Int) : Prop := 0 ≤ m ∧ m % 18 < M 5 16 ∧ m / 18 < M 5 17 ∧ M 16 m ≠ -1
/-- the class's search for one part, under way: W places are in the row -/
def bHP (M : zM) (p a : Int) (F : Int → Int) (W : Int) (M' : zM) : Prop :=
  (∀ c i, c ≠ 16 → c ≠ 13 → M' c i = M c i) ∧ gGro (bMD M) (hA (M 1 2)) (fun m => M 16 m - 1) (p - 1) F a (fun m => M' 16 m - 1) ∧ (∀ m, ¬ bMD M m → M' 16 m = M 16 m) ∧
  (∀ i, 0 ≤ i → i < W → bMD M (M' 13 i) ∧ M' 16 (M' 13 i) = p) ∧ (∀ m, bMD M m → M' 16 m = p → ∃ i, 0 ≤ i ∧ i < W ∧ M' 13 i = m) ∧ zc (fun m => bMD M m ∧ M' 16 m = p) 252 = W
theorem bHP.set {M : zM} {p a : Int} {F : Int → Int} {W : Int} {M' : zM} (h : bHP M p a F W M') {x y : Int} (hy : y < 252) (dx : bMD M x) (dy : bMD M y) (q : hA (M 1 2) x y) (lx : M' 16 x = p) (ly : M' 16 y = 0) (hW : 0 ≤ W) (hp : 1 ≤ p) : bHP M p a F (W + 1) (zset (zset M' 16 y p) 13 W y) := by
  obtain ⟨h1, h4, h5, h6, h7, h8⟩ := h
  have e16 : ∀ z, zset (zset M' 16 y p) 13 W y 16 z = if z = y then p else M' 16 z := fun z => by
    rw [zset_n _ (.inl (by decide))]
    split
    · rename_i c; rw [c, zset_s]
    · rename_i c; rw [zset_n _ (.inr c)]
  have e13 : ∀ z, zset (zset M' 16 y p) 13 W y 13 z = if z = W then y else M' 13 z := fun z => by
    split
    · rename_i c; rw [c, zset_s]
    · rename_i c; rw [zset_n _ (.inr c), zset_n _ (.inl (by decide))]
  have keep : ∀ z, M' 16 z = p → zset (zset M' 16 y p) 13 W y 16 z = p := fun z hz => by
    rw [e16]; split
    · rfl
    · exact hz
  refine ⟨?_, ?_, ?_, ?_, ?_, ?_⟩
  · intro c i c1 c2; rw [zset_n _ (.inl c2), zset_n _ (.inl c1)]; exact h1 c i c1 c2
  · refine h4.more dx dy q (by (try dsimp only); omega) (by (try dsimp only); omega) (fun z _ hz => ?_) ?_
    · (try dsimp only); rw [e16, if_neg hz]
    · (try dsimp only); rw [e16, if_pos rfl]
  · intro m hm
    rw [e16, if_neg (fun e => hm (by rw [e]; exact dy))]
    exact h5 m hm
  · intro i i0 i1
    by_cases c : i = W
    · rw [e13, if_pos c, e16, if_pos rfl]; exact ⟨dy, rfl⟩
    · have := h6 i i0 (by omega)
      rw [e13, if_neg c]
      exact ⟨this.1, keep _ this.2⟩
  · intro z dz lz
    by_cases c : z = y
    · exact ⟨W, hW, by omega, by rw [e13, if_pos rfl, c]⟩
    · rw [e16, if_neg c] at lz
      obtain ⟨i, i0, i1, i2⟩ := h7 z dz lz
      exact ⟨i, i0, by omega, by rw [e13, if_neg (by omega)]; exact i2⟩
  · have e := zc_1 (p := fun m => bMD M m ∧ M' 16 m = p) (q := fun m => bMD M m ∧ zset (zset M' 16 y p) 13 W y 16 m = p) (y := y) dy.1 (by rintro ⟨_, e⟩; omega) ⟨dy, by rw [e16, if_pos rfl]⟩ (fun i hi => by rw [e16, if_neg hi]) 252 (by decide) hy
    rw [h8] at e
    exact e
theorem bBes18 {w h q d : Int} (hw : w ≤ 18) (q0 : 0 ≤ q) (h0 : 0 ≤ d) (h8 : d < 8) (c : 0 ≤ q % 18 + zac d.toNat ∧ q % 18 + zac d.toNat < w ∧ 0 ≤ q / 18 + zdn d.toNat ∧ q / 18 + zdn d.toNat < h) : (0 ≤ 18 * (q / 18 + zdn d.toNat) + (q % 18 + zac d.toNat) ∧ (18 * (q / 18 + zdn d.toNat) + (q % 18 + zac d.toNat)) % 18 < w ∧ (18 * (q / 18 + zdn d.toNat) + (q % 18 + zac d.toNat)) / 18 < h) ∧ (18 * (q / 18 + zdn d.toNat) + (q % 18 + zac d.toNat)) % 18 = q % 18 + zac d.toNat ∧ (18 * (q / 18 + zdn d.toNat) + (q % 18 + zac d.toNat)) / 18 = q / 18 + zdn d.toNat := by
  have := zac_b h0 h8
  omega
abbrev pr_X2_spreadMark (x : Int) (y : Int) (p : Int) (M : zM) : Prop := (1 ≤ M 5 16 ∧ M 5 16 ≤ 18 ∧ 1 ≤ M 5 17 ∧ M 5 17 ≤ 14) ∧ (M 1 2 = 0 ∨ M 1 2 = 1) ∧ (0 ≤ x ∧ x < M 5 16) ∧ (0 ≤ y ∧ y < M 5 17) ∧ (1 ≤ p) ∧ (∃ F, gPar (bMD M) (hA (M 1 2)) (fun m => M 16 m - 1) (p - 1) F (18 * y + x)) ∧ (M 16 (18 * y + x) = 0)
abbrev po_X2_spreadMark (x : Int) (y : Int) (p : Int) (M : zM) (M' : zM) : Prop := (∀ c i, c ≠ 16 → c ≠ 13 → M' c i = M c i) ∧ (∀ m, M' 16 m = -1 ↔ M 16 m = -1) ∧ (∃ F, gPar (bMD M) (hA (M 1 2)) (fun m => M' 16 m - 1) p F (18 * y + x + 1))
set_option maxHeartbeats 1000000 in
theorem ok_X2_spreadMark : zSnd zS 145 0 0 yX2_spreadMark cX2_spreadMark 12 none 1 [2, 0, 0, 0] (F_X2_spreadMark pr_X2_spreadMark po_X2_spreadMark) := by
  refine (sn_X2_spreadMark ok_X2_isMark).mono ?_
  rintro xs P M hz hR ⟨x, y, p, rfl, ⟨hdm, ht, hx, hy, hp1, hp, hu⟩, hP⟩
  refine ⟨_, _, _, rfl, ?_⟩
  have z_x := zall_h (zall_t hz) (by decide)
  have z_y := zall_h (zall_t (zall_t hz)) (by decide)
  have z_p := zall_h (zall_t (zall_t (zall_t hz))) (by decide)
  change vc_X2_spreadMark pr_X2_isMark po_X2_isMark x y p P M
  unfold vc_X2_spreadMark
  obtain ⟨F, hpF⟩ := hp
  have nle := hpF.le (fun x d => d.1) (by omega)
  have da : bMD M (18 * y + x) := ⟨by omega, by omega, by omega, by omega⟩
  have hDb : ∀ m, bMD M m → 0 ≤ m ∧ m < 252 ∧ m % 18 < M 5 16 ∧ m / 18 < M 5 17 ∧ M 16 m ≠ -1 := fun m h => ⟨h.1, by have := h.1; have := h.2.2.1; omega, h.2⟩
  intro K16 h_K16
  have k_K16 : ∀ (v1 : Int), (v1 = (if M 1 2 = 0 then 8 else 4)) → K16 v1 := by
    intro v1 hkk
    refine h_K16 _ ?_
    intro z_v1
    have o1 : ((0 : Int) ≤ ((18 * y) + x) ∧ ((18 * y) + x) < 252) := by
      first | with_reducible assumption | omega | exact trivial | with_reducible rfl  -- o1
    refine ⟨o1, ?_⟩
    intro M4 e_M4
    have o2 : zin ((18 * y) + x) := by
      first | with_reducible assumption | omega | exact trivial | with_reducible rfl  -- o2
    refine ⟨o2, ?_⟩
    intro M8 e_M8
    have q : M8 = zset (zset M 16 (18 * y + x) p) 13 0 (18 * y + x) := by rw [e_M8, e_M4]
    have e16 : ∀ z, M8 16 z = if z = 18 * y + x then p else M 16 z := fun z => by rw [q]; simp [zset]
    have e13 : ∀ z, M8 13 z = if z = 0 then 18 * y + x else M 13 z := fun z => by rw [q]; simp [zset]
    have hlo : ∀ m, bMD M m → M 16 m ≠ p := fun m d => by have := hpF.rng m d; (try dsimp only at this); omega
    refine ⟨fun v11 v12 M15 n17 => (n17 : Int) = (252 - v12) ∧ (0 ≤ v12 ∧ v12 ≤ v11) ∧ (bHP M p (18 * y + x) F v11 M15) ∧ (∀ i, 0 ≤ i → i < v12 → ∀ z, bMD M z → hA (M 1 2) (M15 13 i) z → 0 < M15 16 z), ⟨Int.toNat (252 - 0), by omega, ?_, ?_, ?_⟩, ?_⟩
    · show 0 ≤ 0 ∧ 0 ≤ 1  -- I48.0.hv
      first | with_reducible assumption | omega | exact trivial | with_reducible rfl
    · show bHP M p (18 * y + x) F 1 M8  -- I48.0.hs
      refine ⟨?_, ?_, ?_, ?_, ?_, ?_⟩
      · intro c i c1 c2
        rw [q, zset_n _ (.inl c2), zset_n _ (.inl c1)]
      · refine hpF.start da (by (try dsimp only); omega) ?_ ?_
        · intro z dz nz; (try dsimp only); rw [e16, if_neg nz]
        · (try dsimp only); rw [e16, if_pos rfl]
      · intro m hm
        rw [e16, if_neg (fun e => hm (by rw [e]; exact da))]
      · intro i i0 i1
        rw [e13, if_pos (by omega), e16, if_pos rfl]; exact ⟨da, rfl⟩
      · intro z dz lz
        refine ⟨0, by decide, by decide, ?_⟩
        rw [e13, if_pos rfl]
        rw [e16] at lz
        split at lz
        · rename_i c; exact c.symm
        · exact absurd lz (hlo z dz)
      · rw [zc_1 (p := fun m => bMD M m ∧ M 16 m = p) (y := 18 * y + x) da.1 (fun h => hlo _ h.1 h.2) ⟨da, by rw [e16, if_pos rfl]⟩ (fun i hi => by rw [e16, if_neg hi]) 252 (by decide) (by omega), zc_0 (by decide)]
        · decide
        · intro i i0 i1 e; exact hlo i e.1 e.2
    · show ∀ i, 0 ≤ i → i < 0 → ∀ z, bMD M z → hA (M 1 2) (M8 13 i) z → 0 < M8 16 z  -- I48.0.hcl
      first | with_reducible assumption | omega | exact trivial | with_reducible rfl
    rintro v11 v12 M15 n17 ⟨h_n17, hv, hs, hcl⟩ z_v11 z_v12 z_M15
    obtain ⟨g1, g4, g5, g6, g7, g8⟩ := id hs
    have hU := zc_b (fun m => bMD M m ∧ M15 16 m = p) 252 (by decide)
    have fin : v11 ≤ v12 → (∀ m, M15 16 m = -1 ↔ M 16 m = -1) ∧ ∃ F, gPar (bMD M) (hA (M 1 2)) (fun m => M15 16 m - 1) p F (18 * y + x + 1) := by
      intro le
      have e : v12 = v11 := by omega
      subst e
      refine ⟨fun m => ?_, ?_⟩
      · by_cases d : bMD M m
        · have r := hpF.rng m d
          have o := g4.old m d
          have := (hDb m d).2.2.2.2
          (try dsimp only at r o)
          omega
        · rw [g5 m d]
      · have := g4.fs hA.sym (by
          intro a b ad bd pp l
          (try dsimp only at l ⊢)
          obtain ⟨i, i0, i1, i2⟩ := g7 a ad (by omega)
          have := hcl i i0 i1 b bd (by rw [i2]; exact pp)
          omega)
        rw [show p - 1 + 1 = p by omega] at this
        exact this
    refine ⟨fun b1 => ?_, fun b1 => ?_⟩
    · -- b1.1
      refine hP _ ⟨?_, ?_, ?_⟩
      · show ∀ c i, c ≠ 16 → c ≠ 13 → M15 c i = M c i  -- p1.hf
        first | with_reducible assumption | omega | exact trivial | with_reducible rfl
      · show ∀ m, M15 16 m = -1 ↔ M 16 m = -1  -- p1.hk
        exact (fin b1).1
      · show ∃ F, gPar (bMD M) (hA (M 1 2)) (fun m => M15 16 m - 1) p F (18 * y + x + 1)  -- p1.hp
        exact (fin b1).2
    · -- b1.2
      refine ⟨fun b2 => ?_, fun b2 => ?_⟩
      · -- b2.1
        refine hP _ ⟨?_, ?_, ?_⟩
        · show ∀ c i, c ≠ 16 → c ≠ 13 → M15 c i = M c i  -- p2.hf
          first | with_reducible assumption | omega | exact trivial | with_reducible rfl
        · show ∀ m, M15 16 m = -1 ↔ M 16 m = -1  -- p2.hk
          exact (fin (by omega)).1
        · show ∃ F, gPar (bMD M) (hA (M 1 2)) (fun m => M15 16 m - 1) p F (18 * y + x + 1)  -- p2.hp
          exact (fin (by omega)).2
      · -- b2.2
        have hq := g6 v12 hv.1 (by omega)
        have hqb := hDb _ hq.1
        have o3 : ((0 : Int) ≤ v12 ∧ v12 < 252) := by
          first | with_reducible assumption | omega | exact trivial | with_reducible rfl  -- o3
        refine ⟨o3, ?_⟩
        have o4 : 0 ≤ (M15 13 v12) := by
          first | with_reducible assumption | omega | exact trivial | with_reducible rfl  -- o4
        refine ⟨o4, ?_⟩
        refine ⟨fun v28 v29 M32 n34 => (n34 : Int) = (8 - v29) ∧ (0 ≤ v29 ∧ v29 ≤ v1) ∧ (v12 < v28) ∧ (bHP M p (18 * y + x) F v28 M32) ∧ (M32 13 v12 = M15 13 v12) ∧ (∀ i, 0 ≤ i → i < v12 → ∀ z, bMD M z → hA (M 1 2) (M32 13 i) z → 0 < M32 16 z) ∧ (∀ d : Int, 0 ≤ d → d < v29 → bMD M (18 * (M15 13 v12 / 18 + zdn d.toNat) + (M15 13 v12 % 18 + zac d.toNat)) → 0 ≤ M15 13 v12 % 18 + zac d.toNat ∧ M15 13 v12 % 18 + zac d.toNat < M 5 16 ∧ 0 ≤ M15 13 v12 / 18 + zdn d.toNat ∧ M15 13 v12 / 18 + zdn d.toNat < M 5 17 → 0 < M32 16 (18 * (M15 13 v12 / 18 + zdn d.toNat) + (M15 13 v12 % 18 + zac d.toNat))), ⟨Int.toNat (8 - 0), by omega, ?_, ?_, ?_, ?_, ?_, ?_⟩, ?_⟩
        · show 0 ≤ 0 ∧ 0 ≤ v1  -- I90.0.hv59
          split at hkk <;> omega
        · show v12 < v11  -- I90.0.hvW
          first | with_reducible assumption | omega | exact trivial | with_reducible rfl
        · show bHP M p (18 * y + x) F v11 M15  -- I90.0.hs3
          first | with_reducible assumption | omega | exact trivial | with_reducible rfl
        · show M15 13 v12 = M15 13 v12  -- I90.0.hq3
          first | with_reducible assumption | omega | exact trivial | with_reducible rfl
        · show ∀ i, 0 ≤ i → i < v12 → ∀ z, bMD M z → hA (M 1 2) (M15 13 i) z → 0 < M15 16 z  -- I90.0.hcl3
          first | with_reducible assumption | omega | exact trivial | with_reducible rfl
        · show ∀ d : Int, 0 ≤ d → d < 0 → bMD M (18 * (M15 13 v12 / 18 + zdn d.toNat) + (M15 13 v12 % 18 + zac d.toNat)) → 0 ≤ M15 13 v12 % 18 + zac d.toNat ∧ M15 13 v12 % 18 + zac d.toNat < M 5 16 ∧ 0 ≤ M15 13 v12 / 18 + zdn d.toNat ∧ M15 13 v12 / 18 + zdn d.toNat < M 5 17 → 0 < M15 16 (18 * (M15 13 v12 / 18 + zdn d.toNat) + (M15 13 v12 % 18 + zac d.toNat))  -- I90.0.hcd
          first | with_reducible assumption | omega | exact trivial | with_reducible rfl
        rintro v28 v29 M32 n34 ⟨h_n34, hv59, hvW, hs3, hq3, hcl3, hcd⟩ z_v28 z_v29 z_M32
        have hv8 : v1 ≤ 8 := by split at hkk <;> omega
        obtain ⟨j1, j4, j5, j6, j7, j8⟩ := id hs3
        have y16 := j1 5 16 (by decide) (by decide)
        have y17 := j1 5 17 (by decide) (by decide)
        have hU2 := zc_b (fun m => bMD M m ∧ M32 16 m = p) 252 (by decide)
        refine ⟨fun b3 => ?_, fun b3 => ?_⟩
        · -- b3.1
          have o5 : zin (v12 + 1) := by
            first | with_reducible assumption | omega | exact trivial | with_reducible rfl  -- o5
          refine ⟨o5, ?_⟩
          refine ⟨Int.toNat (252 - (v12 + 1)), by omega, by omega, ?_, ?_, ?_⟩
          · show 0 ≤ (v12 + 1) ∧ (v12 + 1) ≤ v28  -- I48.1.hv
            first | with_reducible assumption | omega | exact trivial | with_reducible rfl
          · show bHP M p (18 * y + x) F v28 M32  -- I48.1.hs
            first | with_reducible assumption | omega | exact trivial | with_reducible rfl
          · show ∀ i, 0 ≤ i → i < (v12 + 1) → ∀ z, bMD M z → hA (M 1 2) (M32 13 i) z → 0 < M32 16 z  -- I48.1.hcl
            intro i i0 i1 z zd pp
            by_cases c : i = v12
            · subst c
              rw [hq3] at pp
              obtain ⟨d, d1, d2, d3, d4⟩ := gOff_hb' pp
              have e1 : M15 13 i % 18 + zac d.toNat = z % 18 := by omega
              have e2 : M15 13 i / 18 + zdn d.toNat = z / 18 := by omega
              have e3 : 18 * (z / 18) + z % 18 = z := by omega
              have h := hcd d d1 (by omega)
              rw [e1, e2, e3] at h
              have := hDb z zd
              exact h zd ⟨by omega, by omega, by omega, by omega⟩
            · exact hcl3 i i0 (by omega) z zd pp
        · -- b3.2
          have zb := zac_b hv59.1 (show v29 < 8 by omega)
          have o6 : ((0 : Int) ≤ v29 ∧ v29 < 8) := by
            first | with_reducible assumption | omega | exact trivial | with_reducible rfl  -- o6
          refine ⟨o6, ?_⟩
          have o7 : zin (((M15 13 v12) / 18) + (zdn (Int.toNat v29))) := by
            first | with_reducible assumption | omega | exact trivial | with_reducible rfl  -- o7
          refine ⟨o7, ?_⟩
          have o8 : zin (((M15 13 v12) % 18) + (zac (Int.toNat v29))) := by
            first | with_reducible assumption | omega | exact trivial | with_reducible rfl  -- o8
          refine ⟨o8, ?_⟩
          have gc1 : pr_X2_isMark (((M15 13 v12) % 18) + (zac (Int.toNat v29))) (((M15 13 v12) / 18) + (zdn (Int.toNat v29))) M32 := trivial
          refine ⟨gc1, ?_⟩
          rintro r49 M50 ⟨q_rfl, e_r49⟩ z_r49 z_M50
          have q_rfl := q_rfl.symm
          subst q_rfl
          have B := zif01 e_r49
          rw [y16, y17] at B
          refine ⟨fun b4 => ?_, fun b4 => ?_⟩
          · -- b4.1
            have o9 : zin (v29 + 1) := by
              first | with_reducible assumption | omega | exact trivial | with_reducible rfl  -- o9
            refine ⟨o9, ?_⟩
            refine ⟨Int.toNat (8 - (v29 + 1)), by omega, by omega, ?_, ?_, ?_, ?_, ?_, ?_⟩
            · show 0 ≤ (v29 + 1) ∧ (v29 + 1) ≤ v1  -- I90.1.hv59
              first | with_reducible assumption | omega | exact trivial | with_reducible rfl
            · show v12 < v28  -- I90.1.hvW
              first | with_reducible assumption | omega | exact trivial | with_reducible rfl
            · show bHP M p (18 * y + x) F v28 M32  -- I90.1.hs3
              first | with_reducible assumption | omega | exact trivial | with_reducible rfl
            · show M32 13 v12 = M15 13 v12  -- I90.1.hq3
              first | with_reducible assumption | omega | exact trivial | with_reducible rfl
            · show ∀ i, 0 ≤ i → i < v12 → ∀ z, bMD M z → hA (M 1 2) (M32 13 i) z → 0 < M32 16 z  -- I90.1.hcl3
              first | with_reducible assumption | omega | exact trivial | with_reducible rfl
            · show ∀ d : Int, 0 ≤ d → d < (v29 + 1) → bMD M (18 * (M15 13 v12 / 18 + zdn d.toNat) + (M15 13 v12 % 18 + zac d.toNat)) → 0 ≤ M15 13 v12 % 18 + zac d.toNat ∧ M15 13 v12 % 18 + zac d.toNat < M 5 16 ∧ 0 ≤ M15 13 v12 / 18 + zdn d.toNat ∧ M15 13 v12 / 18 + zdn d.toNat < M 5 17 → 0 < M32 16 (18 * (M15 13 v12 / 18 + zdn d.toNat) + (M15 13 v12 % 18 + zac d.toNat))  -- I90.1.hcd
              intro d d0 d1 dd c
              by_cases g : d = v29
              · subst g; exact absurd c (B.z.1 b4)
              · exact hcd d d0 (by omega) dd c
          · -- b4.2
            have hin := B.ne.1 b4
            have hB := bBes18 (w := M 5 16) (h := M 5 17) (q := M15 13 v12) (d := v29) (by omega) hqb.1 hv59.1 (by omega) hin
            have o10 : ((0 : Int) ≤ ((18 * (((M15 13 v12) / 18) + (zdn (Int.toNat v29)))) + (((M15 13 v12) % 18) + (zac (Int.toNat v29)))) ∧ ((18 * (((M15 13 v12) / 18) + (zdn (Int.toNat v29)))) + (((M15 13 v12) % 18) + (zac (Int.toNat v29)))) < 252) := by
              omega
            refine ⟨o10, ?_⟩
            refine ⟨fun b5 => ?_, fun b5 => ?_⟩
            · -- b5.1
              have o11 : zin (v29 + 1) := by
                first | with_reducible assumption | omega | exact trivial | with_reducible rfl  -- o11
              refine ⟨o11, ?_⟩
              refine ⟨Int.toNat (8 - (v29 + 1)), by omega, by omega, ?_, ?_, ?_, ?_, ?_, ?_⟩
              · show 0 ≤ (v29 + 1) ∧ (v29 + 1) ≤ v1  -- I90.2.hv59
                first | with_reducible assumption | omega | exact trivial | with_reducible rfl
              · show v12 < v28  -- I90.2.hvW
                first | with_reducible assumption | omega | exact trivial | with_reducible rfl
              · show bHP M p (18 * y + x) F v28 M32  -- I90.2.hs3
                first | with_reducible assumption | omega | exact trivial | with_reducible rfl
              · show M32 13 v12 = M15 13 v12  -- I90.2.hq3
                first | with_reducible assumption | omega | exact trivial | with_reducible rfl
              · show ∀ i, 0 ≤ i → i < v12 → ∀ z, bMD M z → hA (M 1 2) (M32 13 i) z → 0 < M32 16 z  -- I90.2.hcl3
                first | with_reducible assumption | omega | exact trivial | with_reducible rfl
              · show ∀ d : Int, 0 ≤ d → d < (v29 + 1) → bMD M (18 * (M15 13 v12 / 18 + zdn d.toNat) + (M15 13 v12 % 18 + zac d.toNat)) → 0 ≤ M15 13 v12 % 18 + zac d.toNat ∧ M15 13 v12 % 18 + zac d.toNat < M 5 16 ∧ 0 ≤ M15 13 v12 / 18 + zdn d.toNat ∧ M15 13 v12 / 18 + zdn d.toNat < M 5 17 → 0 < M32 16 (18 * (M15 13 v12 / 18 + zdn d.toNat) + (M15 13 v12 % 18 + zac d.toNat))  -- I90.2.hcd
                intro d d0 d1 dd c
                by_cases g : d = v29
                · subst g
                  have r := hpF.rng _ dd
                  have o := j4.old _ dd
                  (try dsimp only at r o)
                  omega
                · exact hcd d d0 (by omega) dd c
            · -- b5.2
              have dd : bMD M (18 * (M15 13 v12 / 18 + zdn v29.toNat) + (M15 13 v12 % 18 + zac v29.toNat)) := by
                refine ⟨hB.1.1, hB.1.2.1, hB.1.2.2, fun e => ?_⟩
                have := j5 _ (fun d => d.2.2.2 e)
                omega
              refine ⟨fun b6 => ?_, fun b6 => ?_⟩
              · -- b6.1
                have o12 : zin (v29 + 1) := by
                  first | with_reducible assumption | omega | exact trivial | with_reducible rfl  -- o12
                refine ⟨o12, ?_⟩
                refine ⟨Int.toNat (8 - (v29 + 1)), by omega, by omega, ?_, ?_, ?_, ?_, ?_, ?_⟩
                · show 0 ≤ (v29 + 1) ∧ (v29 + 1) ≤ v1  -- I90.3.hv59
                  first | with_reducible assumption | omega | exact trivial | with_reducible rfl
                · show v12 < v28  -- I90.3.hvW
                  first | with_reducible assumption | omega | exact trivial | with_reducible rfl
                · show bHP M p (18 * y + x) F v28 M32  -- I90.3.hs3
                  first | with_reducible assumption | omega | exact trivial | with_reducible rfl
                · show M32 13 v12 = M15 13 v12  -- I90.3.hq3
                  first | with_reducible assumption | omega | exact trivial | with_reducible rfl
                · show ∀ i, 0 ≤ i → i < v12 → ∀ z, bMD M z → hA (M 1 2) (M32 13 i) z → 0 < M32 16 z  -- I90.3.hcl3
                  first | with_reducible assumption | omega | exact trivial | with_reducible rfl
                · show ∀ d : Int, 0 ≤ d → d < (v29 + 1) → bMD M (18 * (M15 13 v12 / 18 + zdn d.toNat) + (M15 13 v12 % 18 + zac d.toNat)) → 0 ≤ M15 13 v12 % 18 + zac d.toNat ∧ M15 13 v12 % 18 + zac d.toNat < M 5 16 ∧ 0 ≤ M15 13 v12 / 18 + zdn d.toNat ∧ M15 13 v12 / 18 + zdn d.toNat < M 5 17 → 0 < M32 16 (18 * (M15 13 v12 / 18 + zdn d.toNat) + (M15 13 v12 % 18 + zac d.toNat))  -- I90.3.hcd
                  exfalso
                  have h1 := zc_lt (p := fun m => bMD M m ∧ M32 16 m = p) (q := fun _ => True) (y := 18 * (M15 13 v12 / 18 + zdn v29.toNat) + (M15 13 v12 % 18 + zac v29.toNat)) (n := 252) (by omega) (by omega) (by rintro ⟨_, e⟩; omega) trivial (fun _ _ _ _ => trivial)
                  have h2 := zc_b (fun _ => True) 252 (by decide)
                  omega
              · -- b6.2
                have hAA : hA (M 1 2) (M15 13 v12) (18 * (M15 13 v12 / 18 + zdn v29.toNat) + (M15 13 v12 % 18 + zac v29.toNat)) := by
                  unfold hA
                  rw [hB.2.1, hB.2.2, show M15 13 v12 % 18 + zac v29.toNat - M15 13 v12 % 18 = zac v29.toNat by omega, show M15 13 v12 / 18 + zdn v29.toNat - M15 13 v12 / 18 = zdn v29.toNat by omega]
                  exact gOff_hb hv59.1 (by omega)
                have hlq : M32 16 (M15 13 v12) = p := by
                  have := (j6 v12 hv.1 hvW).2
                  rw [hq3] at this
                  exact this
                intro M71 e_M71
                have o13 : ((0 : Int) ≤ v28 ∧ v28 < 252) := by
                  first | with_reducible assumption | omega | exact trivial | with_reducible rfl  -- o13
                refine ⟨o13, ?_⟩
                have o14 : zin ((18 * (((M15 13 v12) / 18) + (zdn (Int.toNat v29)))) + (((M15 13 v12) % 18) + (zac (Int.toNat v29)))) := by
                  first | with_reducible assumption | omega | exact trivial | with_reducible rfl  -- o14
                refine ⟨o14, ?_⟩
                intro M76 e_M76
                have eM : M76 = zset (zset M32 16 (18 * (M15 13 v12 / 18 + zdn v29.toNat) + (M15 13 v12 % 18 + zac v29.toNat)) p) 13 v28 (18 * (M15 13 v12 / 18 + zdn v29.toNat) + (M15 13 v12 % 18 + zac v29.toNat)) := by rw [e_M76, e_M71]
                have up : ∀ z, 0 < M32 16 z → 0 < M76 16 z := fun z h => by
                  rw [eM, zset_n _ (.inl (by decide))]
                  unfold zset
                  split
                  · omega
                  · exact h
                have o15 : zin (v28 + 1) := by
                  first | with_reducible assumption | omega | exact trivial | with_reducible rfl  -- o15
                refine ⟨o15, ?_⟩
                have o16 : zin (v29 + 1) := by
                  first | with_reducible assumption | omega | exact trivial | with_reducible rfl  -- o16
                refine ⟨o16, ?_⟩
                refine ⟨Int.toNat (8 - (v29 + 1)), by omega, by omega, ?_, ?_, ?_, ?_, ?_, ?_⟩
                · show 0 ≤ (v29 + 1) ∧ (v29 + 1) ≤ v1  -- I90.4.hv59
                  first | with_reducible assumption | omega | exact trivial | with_reducible rfl
                · show v12 < (v28 + 1)  -- I90.4.hvW
                  first | with_reducible assumption | omega | exact trivial | with_reducible rfl
                · show bHP M p (18 * y + x) F (v28 + 1) M76  -- I90.4.hs3
                  rw [eM]; exact hs3.set (by omega) hq.1 dd hAA hlq b5 (by omega) hp1
                · show M76 13 v12 = M15 13 v12  -- I90.4.hq3
                  rw [eM, zset_n _ (.inr (by omega)), zset_n _ (.inl (by decide))]; exact hq3
                · show ∀ i, 0 ≤ i → i < v12 → ∀ z, bMD M z → hA (M 1 2) (M76 13 i) z → 0 < M76 16 z  -- I90.4.hcl3
                  intro i i0 i1 z zd pp
                  refine up z (hcl3 i i0 i1 z zd ?_)
                  rw [eM, zset_n _ (.inr (by omega)), zset_n _ (.inl (by decide))] at pp
                  exact pp
                · show ∀ d : Int, 0 ≤ d → d < (v29 + 1) → bMD M (18 * (M15 13 v12 / 18 + zdn d.toNat) + (M15 13 v12 % 18 + zac d.toNat)) → 0 ≤ M15 13 v12 % 18 + zac d.toNat ∧ M15 13 v12 % 18 + zac d.toNat < M 5 16 ∧ 0 ≤ M15 13 v12 / 18 + zdn d.toNat ∧ M15 13 v12 / 18 + zdn d.toNat < M 5 17 → 0 < M76 16 (18 * (M15 13 v12 / 18 + zdn d.toNat) + (M15 13 v12 % 18 + zac d.toNat))  -- I90.4.hcd
                  intro d d0 d1 d2 c
                  by_cases g : d = v29
                  · subst g
                    rw [eM, zset_n _ (.inl (by decide)), zset_s]
                    omega
                  · exact up _ (hcd d d0 (by omega) d2 c)
  refine ⟨fun b7 => ?_, fun b7 => ?_⟩
  · -- b7.1
    refine k_K16 _ ?_
    · show 4 = (if M 1 2 = 0 then 8 else 4)  -- K16.1.hkk
      rw [if_neg b7]
  · -- b7.2
    refine k_K16 _ ?_
    · show 8 = (if M 1 2 = 0 then 8 else 4)  -- K16.2.hkk
      rw [if_pos b7]

abbrev pr_X2_markHoles (f : Int) (M : zM) : Prop := (bDim M) ∧ (M 1 2 = 0 ∨ M 1 2 = 1) ∧ (bFok M) ∧ (0 ≤ f ∧ f < M 5 2)
abbrev po_X2_markHoles (f : Int) (M : zM) (r : Int) (M' : zM) : Prop := (∀ c i, c ≠ 16 → c ≠ 13 → ¬ (c = 5 ∧ 14 ≤ i ∧ i ≤ 17) → M' c i = M c i) ∧ (M' 5 14 = M 8 f - 1) ∧ (M' 5 15 = M 9 f - 1) ∧ (M' 5 16 = M 10 f - M 8 f + 3) ∧ (M' 5 17 = M 11 f - M 9 f + 3) ∧ (gHo (M 1 0) (M 1 1) (M 1 2) (M 12) f (hQ (M 8 f) (M 10 f) (M 9 f) (M 11 f) (fun m => M' 16 m - 1)) (r + 1))
set_option maxHeartbeats 4000000 in
theorem ok_X2_markHoles : zSnd zS 145 0 0 yX2_markHoles cX2_markHoles 5 (some .int) 2 [2, 0] (F_X2_markHoles pr_X2_markHoles po_X2_markHoles) := by
  refine (sn_X2_markHoles ok_X2_width ok_X2_height ok_X2_spreadMark ok_X2_faceAt).mono ?_
  rintro xs P M hz hR ⟨f, rfl, ⟨hd, ht, hF, ha⟩, hP⟩
  refine ⟨_, rfl, ?_⟩
  have z_f := zall_h (zall_t hz) (by decide)
  change vc_X2_markHoles pr_X2_width po_X2_width pr_X2_height po_X2_height pr_X2_spreadMark po_X2_spreadMark pr_X2_faceAt po_X2_faceAt f P M
  unfold vc_X2_markHoles
  have hN := hF.N hd
  have hBx := (hF.2.2 f ha.1 ha.2).box (by omega) (by omega)
  obtain ⟨hb, hb2⟩ := hBx
  have o1 : ((0 : Int) ≤ f ∧ f < 192) := by
    first | with_reducible assumption | omega | exact trivial | with_reducible rfl  -- o1
  refine ⟨o1, ?_⟩
  have o2 : zin ((M 8 f) - 1) := by
    first | with_reducible assumption | omega | exact trivial | with_reducible rfl  -- o2
  refine ⟨o2, ?_⟩
  intro M3 e_M3
  have t9 : M3 9 f = M 9 f := by rw [e_M3, zset_n _ (.inl (by decide))]
  have o3 : zin ((M3 9 f) - 1) := by
    omega
  refine ⟨o3, ?_⟩
  intro M7 e_M7
  have u7 : ∀ c i, ¬ (c = 5 ∧ 14 ≤ i ∧ i ≤ 15) → M7 c i = M c i := fun c i h => by rw [e_M7, zset_n _ (by omega), e_M3, zset_n _ (by omega)]
  have u14 : M7 5 14 = M 8 f - 1 := by rw [e_M7, zset_n _ (by omega), e_M3, zset_s]
  have u15 : M7 5 15 = M 9 f - 1 := by rw [e_M7, zset_s, t9]
  have u8 := u7 8 f (by omega)
  have u9 := u7 9 f (by omega)
  have u10 := u7 10 f (by omega)
  have u11 := u7 11 f (by omega)
  have gc1 : pr_X2_width f M7 := by
    refine ⟨?_, ?_⟩
    · show 0 ≤ f ∧ f < 192  -- c1.hf
      first | with_reducible assumption | omega | exact trivial | with_reducible rfl
    · show 0 ≤ M7 8 f ∧ M7 8 f ≤ M7 10 f ∧ M7 10 f < 16  -- c1.hb
      omega
  refine ⟨gc1, ?_⟩
  rintro r10 M11 ⟨q_rfl, e_r10⟩ z_r10 z_M11
  have q_rfl := q_rfl.symm
  subst q_rfl
  have o4 : zin (r10 + 2) := by
    omega
  refine ⟨o4, ?_⟩
  intro M17 e_M17
  have gc2 : pr_X2_height f M17 := by
    refine ⟨?_, ?_⟩
    · show 0 ≤ f ∧ f < 192  -- c2.hf
      first | with_reducible assumption | omega | exact trivial | with_reducible rfl
    · show 0 ≤ M17 9 f ∧ M17 9 f ≤ M17 11 f ∧ M17 11 f < 12  -- c2.hb
      rw [e_M17, zset_n _ (by omega), zset_n _ (by omega)]; omega
  refine ⟨gc2, ?_⟩
  rintro r20 M21 ⟨q_rfl, e_r20⟩ z_r20 z_M21
  have q_rfl := q_rfl.symm
  subst q_rfl
  have v9e : M17 9 f = M 9 f := by rw [e_M17, zset_n _ (by omega), u9]
  have v11e : M17 11 f = M 11 f := by rw [e_M17, zset_n _ (by omega), u11]
  have o5 : zin (r20 + 2) := by
    omega
  refine ⟨o5, ?_⟩
  intro M27 e_M27
  have k27 : ∀ c i, ¬ (c = 5 ∧ 14 ≤ i ∧ i ≤ 17) → M27 c i = M c i := fun c i h => by rw [e_M27, zset_n _ (by omega), e_M17, zset_n _ (by omega)]; exact u7 c i (by omega)
  have k14 : M27 5 14 = M 8 f - 1 := by rw [e_M27, zset_n _ (by omega), e_M17, zset_n _ (by omega)]; exact u14
  have k15 : M27 5 15 = M 9 f - 1 := by rw [e_M27, zset_n _ (by omega), e_M17, zset_n _ (by omega)]; exact u15
  have k16 : M27 5 16 = M 10 f - M 8 f + 3 := by rw [e_M27, zset_n _ (by omega), e_M17, zset_s, e_r10]; omega
  have k17 : M27 5 17 = M 11 f - M 9 f + 3 := by rw [e_M27, zset_s, e_r20]; omega
  refine ⟨fun v30 M32 n34 => (n34 : Int) = (20 - v30) ∧ (0 ≤ v30 ∧ v30 ≤ M 11 f - M 9 f + 3) ∧ (∀ c i, c ≠ 16 → M32 c i = M27 c i) ∧ (∀ m, 0 ≤ m → m % 18 < M 10 f - M 8 f + 3 → m < 18 * v30 → M32 16 m = if zg (M 1 0) (M 1 1) (M 12) (M 8 f - 1 + m % 18) (M 9 f - 1 + m / 18) = f then -1 else 0), ⟨Int.toNat (20 - 0), by omega, ?_, ?_, ?_⟩, ?_⟩
  · show 0 ≤ 0 ∧ 0 ≤ M 11 f - M 9 f + 3  -- I48.0.hv
    first | with_reducible assumption | omega | exact trivial | with_reducible rfl
  · show ∀ c i, c ≠ 16 → M27 c i = M27 c i  -- I48.0.hf
    first | with_reducible assumption | omega | exact trivial | with_reducible rfl
  · show ∀ m, 0 ≤ m → m % 18 < M 10 f - M 8 f + 3 → m < 18 * 0 → M27 16 m = if zg (M 1 0) (M 1 1) (M 12) (M 8 f - 1 + m % 18) (M 9 f - 1 + m / 18) = f then -1 else 0  -- I48.0.hm
    first | with_reducible assumption | omega | exact trivial | with_reducible rfl
  rintro v30 M32 n34 ⟨h_n34, hv, hf, hm⟩ z_v30 z_M32
  have a16 := (hf 5 16 (by decide)).trans k16
  have a17 := (hf 5 17 (by decide)).trans k17
  refine ⟨fun b1 => ?_, fun b1 => ?_⟩
  · -- b1.1
    refine ⟨fun v42 v43 M46 n48 => (n48 : Int) = (20 - v43) ∧ (0 ≤ v43 ∧ v43 ≤ M 11 f - M 9 f + 3) ∧ (∀ c i, c ≠ 16 → c ≠ 13 → M46 c i = M27 c i) ∧ (∀ m, 0 ≤ m → m % 18 < M 10 f - M 8 f + 3 → m / 18 < M 11 f - M 9 f + 3 → (M46 16 m = -1 ↔ zg (M 1 0) (M 1 1) (M 12) (M 8 f - 1 + m % 18) (M 9 f - 1 + m / 18) = f)) ∧ (∃ F, gPar (hB (M 1 0) (M 1 1) (M 12) f (M 8 f) (M 10 f) (M 9 f) (M 11 f)) (hA (M 1 2)) (fun m => M46 16 m - 1) v42 F (18 * v43)), ⟨Int.toNat (20 - 0), by omega, ?_, ?_, ?_, ?_⟩, ?_⟩
    · show 0 ≤ 0 ∧ 0 ≤ M 11 f - M 9 f + 3  -- I118.0.hv3
      first | with_reducible assumption | omega | exact trivial | with_reducible rfl
    · show ∀ c i, c ≠ 16 → c ≠ 13 → M32 c i = M27 c i  -- I118.0.hf3
      intro c i h _; exact hf c i h
    · show ∀ m, 0 ≤ m → m % 18 < M 10 f - M 8 f + 3 → m / 18 < M 11 f - M 9 f + 3 → (M32 16 m = -1 ↔ zg (M 1 0) (M 1 1) (M 12) (M 8 f - 1 + m % 18) (M 9 f - 1 + m / 18) = f)  -- I118.0.hk3
      intro m m0 m1 m2
      rw [hm m m0 m1 (by omega)]
      split
      · rename_i c; simp [c]
      · rename_i c; simp [c]
    · show ∃ F, gPar (hB (M 1 0) (M 1 1) (M 12) f (M 8 f) (M 10 f) (M 9 f) (M 11 f)) (hA (M 1 2)) (fun m => M32 16 m - 1) 0 F (18 * 0)  -- I118.0.hp3
      refine ⟨fun _ => 0, gPar.nil (fun x d => ?_) (fun x d => d.1)⟩
      have := d.2.2.1
      rw [hm x d.1 d.2.1 (by omega), if_neg d.2.2.2]
      decide
    rintro v42 v43 M46 n48 ⟨h_n48, hv3, hf3, hk3, hp3⟩ z_v42 z_v43 z_M46
    have d16 := (hf3 5 16 (by decide) (by decide)).trans k16
    have d17 := (hf3 5 17 (by decide) (by decide)).trans k17
    have hp3' := hp3
    obtain ⟨F3, hp3F⟩ := hp3'
    have nle := hp3F.le (fun x d => d.1) (by omega)
    have nn := hp3F.nn
    refine ⟨fun b2 => ?_, fun b2 => ?_⟩
    · -- b2.1
      have o6 : zin (v42 - 1) := by
        first | with_reducible assumption | omega | exact trivial | with_reducible rfl  -- o6
      refine ⟨o6, ?_⟩
      refine hP _ _ ⟨?_, ?_, ?_, ?_, ?_, ?_⟩
      · show ∀ c i, c ≠ 16 → c ≠ 13 → ¬ (c = 5 ∧ 14 ≤ i ∧ i ≤ 17) → M46 c i = M c i  -- p1.hf
        intro c i c1 c2 c3; rw [hf3 c i c1 c2]; exact k27 c i c3
      · show M46 5 14 = M 8 f - 1  -- p1.h14
        rw [hf3 5 14 (by decide) (by decide)]; exact k14
      · show M46 5 15 = M 9 f - 1  -- p1.h15
        rw [hf3 5 15 (by decide) (by decide)]; exact k15
      · show M46 5 16 = M 10 f - M 8 f + 3  -- p1.h16
        first | with_reducible assumption | omega | exact trivial | with_reducible rfl
      · show M46 5 17 = M 11 f - M 9 f + 3  -- p1.h17
        first | with_reducible assumption | omega | exact trivial | with_reducible rfl
      · show gHo (M 1 0) (M 1 1) (M 1 2) (M 12) f (hQ (M 8 f) (M 10 f) (M 9 f) (M 11 f) (fun m => M46 16 m - 1)) ((v42 - 1) + 1)  -- p1.hL
        rw [show v42 - 1 + 1 = v42 by omega]
        exact gHo.ext (hp3F.lab (fun x d => by have := d.2.2.1; omega)) (by omega) (by omega) hb ha.1 (by omega) (by omega) (by omega) (by omega) (by omega) (by omega)
    · -- b2.2
      refine ⟨fun v57 v58 M61 n63 => (n63 : Int) = (20 - v58) ∧ (0 ≤ v58 ∧ v58 ≤ M 10 f - M 8 f + 3) ∧ (∀ c i, c ≠ 16 → c ≠ 13 → M61 c i = M27 c i) ∧ (∀ m, 0 ≤ m → m % 18 < M 10 f - M 8 f + 3 → m / 18 < M 11 f - M 9 f + 3 → (M61 16 m = -1 ↔ zg (M 1 0) (M 1 1) (M 12) (M 8 f - 1 + m % 18) (M 9 f - 1 + m / 18) = f)) ∧ (∃ F, gPar (hB (M 1 0) (M 1 1) (M 12) f (M 8 f) (M 10 f) (M 9 f) (M 11 f)) (hA (M 1 2)) (fun m => M61 16 m - 1) v57 F (18 * v43 + v58)), ⟨Int.toNat (20 - 0), by omega, ?_, ?_, ?_, ?_⟩, ?_⟩
      · show 0 ≤ 0 ∧ 0 ≤ M 10 f - M 8 f + 3  -- I129.0.hv4
        first | with_reducible assumption | omega | exact trivial | with_reducible rfl
      · show ∀ c i, c ≠ 16 → c ≠ 13 → M46 c i = M27 c i  -- I129.0.hf4
        first | with_reducible assumption | omega | exact trivial | with_reducible rfl
      · show ∀ m, 0 ≤ m → m % 18 < M 10 f - M 8 f + 3 → m / 18 < M 11 f - M 9 f + 3 → (M46 16 m = -1 ↔ zg (M 1 0) (M 1 1) (M 12) (M 8 f - 1 + m % 18) (M 9 f - 1 + m / 18) = f)  -- I129.0.hk4
        first | with_reducible assumption | omega | exact trivial | with_reducible rfl
      · show ∃ F, gPar (hB (M 1 0) (M 1 1) (M 12) f (M 8 f) (M 10 f) (M 9 f) (M 11 f)) (hA (M 1 2)) (fun m => M46 16 m - 1) v42 F (18 * v43 + 0)  -- I129.0.hp4
        rw [show 18 * v43 + 0 = 18 * v43 by omega]; exact hp3
      rintro v57 v58 M61 n63 ⟨h_n63, hv4, hf4, hk4, hp4⟩ z_v57 z_v58 z_M61
      have x16 := (hf4 5 16 (by decide) (by decide)).trans k16
      have x17 := (hf4 5 17 (by decide) (by decide)).trans k17
      have x2 := (hf4 1 2 (by decide) (by decide)).trans (k27 1 2 (by omega))
      have hp4' := hp4
      obtain ⟨F4, hp4F⟩ := hp4'
      have nle4 := hp4F.le (fun x d => d.1) (by omega)
      have nn4 := hp4F.nn
      have eD : bMD M61 = hB (M 1 0) (M 1 1) (M 12) f (M 8 f) (M 10 f) (M 9 f) (M 11 f) := funext fun m => propext (by
        unfold bMD hB
        rw [x16, x17]
        constructor
        · rintro ⟨m0, m1, m2, m3⟩; exact ⟨m0, m1, m2, fun e => m3 ((hk4 m m0 m1 m2).2 e)⟩
        · rintro ⟨m0, m1, m2, m3⟩; exact ⟨m0, m1, m2, fun e => m3 ((hk4 m m0 m1 m2).1 e)⟩)
      refine ⟨fun b3 => ?_, fun b3 => ?_⟩
      · -- b3.1
        have o7 : zin (v43 + 1) := by
          first | with_reducible assumption | omega | exact trivial | with_reducible rfl  -- o7
        refine ⟨o7, ?_⟩
        refine ⟨Int.toNat (20 - (v43 + 1)), by omega, by omega, ?_, ?_, ?_, ?_⟩
        · show 0 ≤ (v43 + 1) ∧ (v43 + 1) ≤ M 11 f - M 9 f + 3  -- I118.1.hv3
          first | with_reducible assumption | omega | exact trivial | with_reducible rfl
        · show ∀ c i, c ≠ 16 → c ≠ 13 → M61 c i = M27 c i  -- I118.1.hf3
          first | with_reducible assumption | omega | exact trivial | with_reducible rfl
        · show ∀ m, 0 ≤ m → m % 18 < M 10 f - M 8 f + 3 → m / 18 < M 11 f - M 9 f + 3 → (M61 16 m = -1 ↔ zg (M 1 0) (M 1 1) (M 12) (M 8 f - 1 + m % 18) (M 9 f - 1 + m / 18) = f)  -- I118.1.hk3
          first | with_reducible assumption | omega | exact trivial | with_reducible rfl
        · show ∃ F, gPar (hB (M 1 0) (M 1 1) (M 12) f (M 8 f) (M 10 f) (M 9 f) (M 11 f)) (hA (M 1 2)) (fun m => M61 16 m - 1) v57 F (18 * (v43 + 1))  -- I118.1.hp3
          exact ⟨F4, hp4F.to (by omega) (fun x d l1 l2 => by have := d.2.1; omega)⟩
      · -- b3.2
        have o8 : ((0 : Int) ≤ ((18 * v43) + v58) ∧ ((18 * v43) + v58) < 252) := by
          first | with_reducible assumption | omega | exact trivial | with_reducible rfl  -- o8
        refine ⟨o8, ?_⟩
        refine ⟨fun b4 => ?_, fun b4 => ?_⟩
        · -- b4.1
          have o9 : zin (v58 + 1) := by
            first | with_reducible assumption | omega | exact trivial | with_reducible rfl  -- o9
          refine ⟨o9, ?_⟩
          refine ⟨Int.toNat (20 - (v58 + 1)), by omega, by omega, ?_, ?_, ?_, ?_⟩
          · show 0 ≤ (v58 + 1) ∧ (v58 + 1) ≤ M 10 f - M 8 f + 3  -- I129.1.hv4
            first | with_reducible assumption | omega | exact trivial | with_reducible rfl
          · show ∀ c i, c ≠ 16 → c ≠ 13 → M61 c i = M27 c i  -- I129.1.hf4
            first | with_reducible assumption | omega | exact trivial | with_reducible rfl
          · show ∀ m, 0 ≤ m → m % 18 < M 10 f - M 8 f + 3 → m / 18 < M 11 f - M 9 f + 3 → (M61 16 m = -1 ↔ zg (M 1 0) (M 1 1) (M 12) (M 8 f - 1 + m % 18) (M 9 f - 1 + m / 18) = f)  -- I129.1.hk4
            first | with_reducible assumption | omega | exact trivial | with_reducible rfl
          · show ∃ F, gPar (hB (M 1 0) (M 1 1) (M 12) f (M 8 f) (M 10 f) (M 9 f) (M 11 f)) (hA (M 1 2)) (fun m => M61 16 m - 1) v57 F (18 * v43 + (v58 + 1))  -- I129.1.hp4
            rw [show 18 * v43 + (v58 + 1) = 18 * v43 + v58 + 1 by omega]
            exact ⟨F4, hp4F.skip (fun d => by have := hp4F.rng _ d; (try dsimp only at this ⊢); omega)⟩
        · -- b4.2
          have o10 : zin (v57 + 1) := by
            first | with_reducible assumption | omega | exact trivial | with_reducible rfl  -- o10
          refine ⟨o10, ?_⟩
          have gc3 : pr_X2_spreadMark v58 v43 (v57 + 1) M61 := by
            refine ⟨?_, ?_, ?_, ?_, ?_, ?_, ?_⟩
            · show 1 ≤ M61 5 16 ∧ M61 5 16 ≤ 18 ∧ 1 ≤ M61 5 17 ∧ M61 5 17 ≤ 14  -- c3.hdm
              omega
            · show M61 1 2 = 0 ∨ M61 1 2 = 1  -- c3.ht
              first | with_reducible assumption | omega | exact trivial | with_reducible rfl
            · show 0 ≤ v58 ∧ v58 < M61 5 16  -- c3.hx
              first | with_reducible assumption | omega | exact trivial | with_reducible rfl
            · show 0 ≤ v43 ∧ v43 < M61 5 17  -- c3.hy
              first | with_reducible assumption | omega | exact trivial | with_reducible rfl
            · show 1 ≤ (v57 + 1)  -- c3.hp1
              first | with_reducible assumption | omega | exact trivial | with_reducible rfl
            · show ∃ F, gPar (bMD M61) (hA (M61 1 2)) (fun m => M61 16 m - 1) ((v57 + 1) - 1) F (18 * v43 + v58)  -- c3.hp
              rw [eD, x2, show v57 + 1 - 1 = v57 by omega]; exact hp4
            · show M61 16 (18 * v43 + v58) = 0  -- c3.hu
              first | with_reducible assumption | omega | exact trivial | with_reducible rfl
          refine ⟨gc3, ?_⟩
          rintro M82 ⟨pc3_hf, pc3_hk, pc3_hp⟩ z_M82
          rw [eD, x2] at pc3_hp
          have o11 : zin (v58 + 1) := by
            first | with_reducible assumption | omega | exact trivial | with_reducible rfl  -- o11
          refine ⟨o11, ?_⟩
          refine ⟨Int.toNat (20 - (v58 + 1)), by omega, by omega, ?_, ?_, ?_, ?_⟩
          · show 0 ≤ (v58 + 1) ∧ (v58 + 1) ≤ M 10 f - M 8 f + 3  -- I129.2.hv4
            first | with_reducible assumption | omega | exact trivial | with_reducible rfl
          · show ∀ c i, c ≠ 16 → c ≠ 13 → M82 c i = M27 c i  -- I129.2.hf4
            intro c i c1 c2; rw [pc3_hf c i c1 c2]; exact hf4 c i c1 c2
          · show ∀ m, 0 ≤ m → m % 18 < M 10 f - M 8 f + 3 → m / 18 < M 11 f - M 9 f + 3 → (M82 16 m = -1 ↔ zg (M 1 0) (M 1 1) (M 12) (M 8 f - 1 + m % 18) (M 9 f - 1 + m / 18) = f)  -- I129.2.hk4
            intro m m0 m1 m2; rw [pc3_hk m]; exact hk4 m m0 m1 m2
          · show ∃ F, gPar (hB (M 1 0) (M 1 1) (M 12) f (M 8 f) (M 10 f) (M 9 f) (M 11 f)) (hA (M 1 2)) (fun m => M82 16 m - 1) (v57 + 1) F (18 * v43 + (v58 + 1))  -- I129.2.hp4
            rw [show 18 * v43 + (v58 + 1) = 18 * v43 + v58 + 1 by omega]; exact pc3_hp
  · -- b1.2
    refine ⟨fun v91 M93 n95 => (n95 : Int) = (20 - v91) ∧ (0 ≤ v91 ∧ v91 ≤ M 10 f - M 8 f + 3) ∧ (∀ c i, c ≠ 16 → M93 c i = M27 c i) ∧ (∀ m, 0 ≤ m → m % 18 < M 10 f - M 8 f + 3 → m < 18 * v30 + v91 → M93 16 m = if zg (M 1 0) (M 1 1) (M 12) (M 8 f - 1 + m % 18) (M 9 f - 1 + m / 18) = f then -1 else 0), ⟨Int.toNat (20 - 0), by omega, ?_, ?_, ?_⟩, ?_⟩
    · show 0 ≤ 0 ∧ 0 ≤ M 10 f - M 8 f + 3  -- I58.0.hv2
      first | with_reducible assumption | omega | exact trivial | with_reducible rfl
    · show ∀ c i, c ≠ 16 → M32 c i = M27 c i  -- I58.0.hf2
      first | with_reducible assumption | omega | exact trivial | with_reducible rfl
    · show ∀ m, 0 ≤ m → m % 18 < M 10 f - M 8 f + 3 → m < 18 * v30 + 0 → M32 16 m = if zg (M 1 0) (M 1 1) (M 12) (M 8 f - 1 + m % 18) (M 9 f - 1 + m / 18) = f then -1 else 0  -- I58.0.hm2
      intro m m0 m1 m2; exact hm m m0 m1 (by omega)
    rintro v91 M93 n95 ⟨h_n95, hv2, hf2, hm2⟩ z_v91 z_M93
    have b16 := (hf2 5 16 (by decide)).trans k16
    have b14 := (hf2 5 14 (by decide)).trans k14
    have b15 := (hf2 5 15 (by decide)).trans k15
    have b17 := (hf2 5 17 (by decide)).trans k17
    have z0 := (hf2 1 0 (by decide)).trans (k27 1 0 (by omega))
    have z1 := (hf2 1 1 (by decide)).trans (k27 1 1 (by omega))
    have z12 : M93 12 = M 12 := funext fun i => (hf2 12 i (by decide)).trans (k27 12 i (by omega))
    refine ⟨fun b5 => ?_, fun b5 => ?_⟩
    · -- b5.1
      have o12 : zin (v30 + 1) := by
        first | with_reducible assumption | omega | exact trivial | with_reducible rfl  -- o12
      refine ⟨o12, ?_⟩
      refine ⟨Int.toNat (20 - (v30 + 1)), by omega, by omega, ?_, ?_, ?_⟩
      · show 0 ≤ (v30 + 1) ∧ (v30 + 1) ≤ M 11 f - M 9 f + 3  -- I48.1.hv
        first | with_reducible assumption | omega | exact trivial | with_reducible rfl
      · show ∀ c i, c ≠ 16 → M93 c i = M27 c i  -- I48.1.hf
        first | with_reducible assumption | omega | exact trivial | with_reducible rfl
      · show ∀ m, 0 ≤ m → m % 18 < M 10 f - M 8 f + 3 → m < 18 * (v30 + 1) → M93 16 m = if zg (M 1 0) (M 1 1) (M 12) (M 8 f - 1 + m % 18) (M 9 f - 1 + m / 18) = f then -1 else 0  -- I48.1.hm
        intro m m0 m1 m2; exact hm2 m m0 m1 (by omega)
    · -- b5.2
      have o13 : zin ((M93 5 15) + v30) := by
        first | with_reducible assumption | omega | exact trivial | with_reducible rfl  -- o13
      refine ⟨o13, ?_⟩
      have o14 : zin ((M93 5 14) + v91) := by
        first | with_reducible assumption | omega | exact trivial | with_reducible rfl  -- o14
      refine ⟨o14, ?_⟩
      have gc4 : pr_X2_faceAt ((M93 5 14) + v91) ((M93 5 15) + v30) M93 := by
        show bDim M93
        unfold bDim; omega
      refine ⟨gc4, ?_⟩
      rintro r109 M110 ⟨q_rfl, e_r109⟩ z_r109 z_M110
      have q_rfl := q_rfl.symm
      subst q_rfl
      have e109 : r109 = zg (M 1 0) (M 1 1) (M 12) (M 8 f - 1 + v91) (M 9 f - 1 + v30) := by rw [e_r109, b14, b15, z0, z1, z12]; rfl
      refine ⟨fun b6 => ?_, fun b6 => ?_⟩
      · -- b6.1
        have o15 : ((0 : Int) ≤ ((18 * v30) + v91) ∧ ((18 * v30) + v91) < 252) := by
          first | with_reducible assumption | omega | exact trivial | with_reducible rfl  -- o15
        refine ⟨o15, ?_⟩
        intro M117 e_M117
        have o16 : zin (v91 + 1) := by
          first | with_reducible assumption | omega | exact trivial | with_reducible rfl  -- o16
        refine ⟨o16, ?_⟩
        refine ⟨Int.toNat (20 - (v91 + 1)), by omega, by omega, ?_, ?_, ?_⟩
        · show 0 ≤ (v91 + 1) ∧ (v91 + 1) ≤ M 10 f - M 8 f + 3  -- I58.1.hv2
          first | with_reducible assumption | omega | exact trivial | with_reducible rfl
        · show ∀ c i, c ≠ 16 → M117 c i = M27 c i  -- I58.1.hf2
          intro c i h; rw [e_M117, zset_n _ (.inl h)]; exact hf2 c i h
        · show ∀ m, 0 ≤ m → m % 18 < M 10 f - M 8 f + 3 → m < 18 * v30 + (v91 + 1) → M117 16 m = if zg (M 1 0) (M 1 1) (M 12) (M 8 f - 1 + m % 18) (M 9 f - 1 + m / 18) = f then -1 else 0  -- I58.1.hm2
          intro m m0 m1 m2
          by_cases c : m = 18 * v30 + v91
          · rw [e_M117, c, zset_s, if_neg]
            rw [show (18 * v30 + v91) % 18 = v91 by omega, show (18 * v30 + v91) / 18 = v30 by omega, ← e109]
            exact b6
          · rw [e_M117, zset_n _ (.inr c)]; exact hm2 m m0 m1 (by omega)
      · -- b6.2
        have o17 : ((0 : Int) ≤ ((18 * v30) + v91) ∧ ((18 * v30) + v91) < 252) := by
          first | with_reducible assumption | omega | exact trivial | with_reducible rfl  -- o17
        refine ⟨o17, ?_⟩
        intro M125 e_M125
        have o18 : zin (v91 + 1) := by
          first | with_reducible assumption | omega | exact trivial | with_reducible rfl  -- o18
        refine ⟨o18, ?_⟩
        refine ⟨Int.toNat (20 - (v91 + 1)), by omega, by omega, ?_, ?_, ?_⟩
        · show 0 ≤ (v91 + 1) ∧ (v91 + 1) ≤ M 10 f - M 8 f + 3  -- I58.2.hv2
          first | with_reducible assumption | omega | exact trivial | with_reducible rfl
        · show ∀ c i, c ≠ 16 → M125 c i = M27 c i  -- I58.2.hf2
          intro c i h; rw [e_M125, zset_n _ (.inl h)]; exact hf2 c i h
        · show ∀ m, 0 ≤ m → m % 18 < M 10 f - M 8 f + 3 → m < 18 * v30 + (v91 + 1) → M125 16 m = if zg (M 1 0) (M 1 1) (M 12) (M 8 f - 1 + m % 18) (M 9 f - 1 + m / 18) = f then -1 else 0  -- I58.2.hm2
          intro m m0 m1 m2
          by_cases c : m = 18 * v30 + v91
          · rw [e_M125, c, zset_s, if_pos]
            rw [show (18 * v30 + v91) % 18 = v91 by omega, show (18 * v30 + v91) / 18 = v30 by omega, ← e109]
            exact b6
          · rw [e_M125, zset_n _ (.inr c)]; exact hm2 m m0 m1 (by omega)

/-- the mark of a dot -/
def bMk (M : zM) (x y : Int) : Int := if 0 ≤ x - M 5 14 ∧ x - M 5 14 < M 5 16 ∧ 0 ≤ y - M 5 15 ∧ y - M 5 15 < M 5 17 then M 16 (18 * (y - M 5 15) + (x - M 5 14)) else 1
abbrev pr_X2_markAt (x : Int) (y : Int) (M : zM) : Prop := (0 ≤ x ∧ x < 16) ∧ (0 ≤ y ∧ y < 12) ∧ (-1 ≤ M 5 14 ∧ M 5 14 ≤ 16) ∧ (-1 ≤ M 5 15 ∧ M 5 15 ≤ 16) ∧ (M 5 16 ≤ 18) ∧ (M 5 17 ≤ 14)
abbrev po_X2_markAt (x : Int) (y : Int) (M : zM) (r : Int) (M' : zM) : Prop := M' = M ∧ r = bMk M x y
set_option maxHeartbeats 1000000 in
theorem ok_X2_markAt : zSnd zS 145 0 0 yX2_markAt cX2_markAt 5 (some .int) 1 [2, 0, 0] (F_X2_markAt pr_X2_markAt po_X2_markAt) := by
  refine (sn_X2_markAt ok_X2_isMark).mono ?_
  rintro xs P M hz hR ⟨x, y, rfl, ⟨hx, hy, h14, h15, h16, h17⟩, hP⟩
  refine ⟨_, _, rfl, ?_⟩
  have z_x := zall_h (zall_t hz) (by decide)
  have z_y := zall_h (zall_t (zall_t hz)) (by decide)
  change vc_X2_markAt pr_X2_isMark po_X2_isMark x y P M
  unfold vc_X2_markAt
  have o1 : zin (y - (M 5 15)) := by
    first | with_reducible assumption | omega | exact trivial | with_reducible rfl  -- o1
  refine ⟨o1, ?_⟩
  have o2 : zin (x - (M 5 14)) := by
    first | with_reducible assumption | omega | exact trivial | with_reducible rfl  -- o2
  refine ⟨o2, ?_⟩
  have gc1 : pr_X2_isMark (x - (M 5 14)) (y - (M 5 15)) M := trivial
  refine ⟨gc1, ?_⟩
  rintro r3 M4 ⟨q_rfl, e_r3⟩ z_r3 z_M4
  have q_rfl := q_rfl.symm
  subst q_rfl
  have B := zif01 e_r3
  refine ⟨fun b1 => ?_, fun b1 => ?_⟩
  · -- b1.1
    refine hP _ _ ⟨rfl, ?_⟩
    · exact (if_neg (B.z.1 b1)).symm  -- p1
  · -- b1.2
    have hin := B.ne.1 b1
    have o3 : ((0 : Int) ≤ ((18 * (y - (M 5 15))) + (x - (M 5 14))) ∧ ((18 * (y - (M 5 15))) + (x - (M 5 14))) < 252) := by
      first | with_reducible assumption | omega | exact trivial | with_reducible rfl  -- o3
    refine ⟨o3, ?_⟩
    refine hP _ _ ⟨rfl, ?_⟩
    · exact (if_pos hin).symm  -- p2

abbrev pr_X2_isFilled (f : Int) (x : Int) (y : Int) (M : zM) : Prop := (bDim M) ∧ (0 ≤ x ∧ x < 16) ∧ (0 ≤ y ∧ y < 12) ∧ (-1 ≤ M 5 14 ∧ M 5 14 ≤ 16) ∧ (-1 ≤ M 5 15 ∧ M 5 15 ≤ 16) ∧ (M 5 16 ≤ 18) ∧ (M 5 17 ≤ 14)
abbrev po_X2_isFilled (f : Int) (x : Int) (y : Int) (M : zM) (r : Int) (M' : zM) : Prop := (M' = M) ∧ (zB r (zg (M 1 0) (M 1 1) (M 12) x y = f ∨ 1 < bMk M x y))
set_option maxHeartbeats 1000000 in
theorem ok_X2_isFilled : zSnd zS 145 0 0 yX2_isFilled cX2_isFilled 4 (some .boolean) 2 [2, 0, 0, 0] (F_X2_isFilled pr_X2_isFilled po_X2_isFilled) := by
  refine (sn_X2_isFilled ok_X2_faceAt ok_X2_markAt).mono ?_
  rintro xs P M hz hR ⟨f, x, y, rfl, ⟨hd, hx, hy, h14, h15, h16, h17⟩, hP⟩
  refine ⟨_, _, _, rfl, ?_⟩
  have z_f := zall_h (zall_t hz) (by decide)
  have z_x := zall_h (zall_t (zall_t hz)) (by decide)
  have z_y := zall_h (zall_t (zall_t (zall_t hz))) (by decide)
  change vc_X2_isFilled pr_X2_faceAt po_X2_faceAt pr_X2_markAt po_X2_markAt f x y P M
  unfold vc_X2_isFilled
  have gc1 : pr_X2_faceAt x y M := by
    show bDim M
    first | with_reducible assumption | omega | exact trivial | with_reducible rfl  -- c1.hd
  refine ⟨gc1, ?_⟩
  rintro r1 M2 ⟨q_rfl, e_r1⟩ z_r1 z_M2
  have q_rfl := q_rfl.symm
  subst q_rfl
  have e1 : r1 = zg (M 1 0) (M 1 1) (M 12) x y := e_r1
  refine ⟨fun b1 => ?_, fun b1 => ?_⟩
  · -- b1.1
    refine hP _ _ ⟨?_, ?_⟩
    · show M = M  -- p1.rfl
      first | with_reducible assumption | omega | exact trivial | with_reducible rfl
    · show zB 1 (zg (M 1 0) (M 1 1) (M 12) x y = f ∨ 1 < bMk M x y)  -- p1.pb
      exact zB.t (.inl (by omega))
  · -- b1.2
    have gc2 : pr_X2_markAt x y M := by
      refine ⟨?_, ?_, ?_, ?_, ?_, ?_⟩
      · show 0 ≤ x ∧ x < 16  -- c2.hx
        first | with_reducible assumption | omega | exact trivial | with_reducible rfl
      · show 0 ≤ y ∧ y < 12  -- c2.hy
        first | with_reducible assumption | omega | exact trivial | with_reducible rfl
      · show -1 ≤ M 5 14 ∧ M 5 14 ≤ 16  -- c2.h14
        first | with_reducible assumption | omega | exact trivial | with_reducible rfl
      · show -1 ≤ M 5 15 ∧ M 5 15 ≤ 16  -- c2.h15
        first | with_reducible assumption | omega | exact trivial | with_reducible rfl
      · show M 5 16 ≤ 18  -- c2.h16
        first | with_reducible assumption | omega | exact trivial | with_reducible rfl
      · show M 5 17 ≤ 14  -- c2.h17
        first | with_reducible assumption | omega | exact trivial | with_reducible rfl
    refine ⟨gc2, ?_⟩
    rintro r8 M9 ⟨q_rfl, e_r8⟩ z_r8 z_M9
    have q_rfl := q_rfl.symm
    subst q_rfl
    refine ⟨fun b2 => ?_, fun b2 => ?_⟩
    · -- b2.1
      refine hP _ _ ⟨?_, ?_⟩
      · show M = M  -- p2.rfl
        first | with_reducible assumption | omega | exact trivial | with_reducible rfl
      · show zB 0 (zg (M 1 0) (M 1 1) (M 12) x y = f ∨ 1 < bMk M x y)  -- p2.pb
        exact zB.f (by omega)
    · -- b2.2
      refine hP _ _ ⟨?_, ?_⟩
      · show M = M  -- p3.rfl
        first | with_reducible assumption | omega | exact trivial | with_reducible rfl
      · show zB 1 (zg (M 1 0) (M 1 1) (M 12) x y = f ∨ 1 < bMk M x y)  -- p3.pb
        exact zB.t (.inr (by omega))

/-- a mark tells the part of a dot -/
theorem bMk_Q {M : zM} {l r u b k : Int} (h14 : M 5 14 = l - 1) (h15 : M 5 15 = u - 1) (h16 : M 5 16 = r - l + 3) (h17 : M 5 17 = b - u + 3) (k0 : 0 ≤ k) : bMk M (k % 16) (k / 16) - 1 = hQ l r u b (fun m => M 16 m - 1) (hC k) := by
  unfold bMk hQ hC
  rw [h14, h15, h16, h17]
  by_cases c : 0 ≤ k % 16 - (l - 1) ∧ k % 16 - (l - 1) < r - l + 3 ∧ 0 ≤ k / 16 - (u - 1) ∧ k / 16 - (u - 1) < b - u + 3
  · rw [if_pos c, if_pos (by omega), show 18 * (k / 16 + 1) + k % 16 + 1 - (18 * u + l) = 18 * (k / 16 - (u - 1)) + (k % 16 - (l - 1)) by omega]
  · rw [if_neg c, if_neg (by omega)]; decide
