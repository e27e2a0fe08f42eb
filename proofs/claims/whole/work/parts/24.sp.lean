/-- the box of part k -/
def gBox (D : Int → Prop) (L : Int → Int) (k l r t b : Int) : Prop :=
  (∀ x, D x → L x = k → l ≤ x % 16 ∧ x % 16 ≤ r ∧ t ≤ x / 16 ∧ x / 16 ≤ b) ∧ (∃ x, D x ∧ L x = k ∧ x % 16 = l) ∧ (∃ x, D x ∧ L x = k ∧ x % 16 = r) ∧ (∃ x, D x ∧ L x = k ∧ x / 16 = t) ∧ (∃ x, D x ∧ L x = k ∧ x / 16 = b)
theorem gBox.uq {D : Int → Prop} {L : Int → Int} {k l r t b l' r' t' b' : Int} (h : gBox D L k l r t b) (g : gBox D L k l' r' t' b') : l = l' ∧ r = r' ∧ t = t' ∧ b = b' := by
  obtain ⟨h0, ⟨x1, d1, e1, f1⟩, ⟨x2, d2, e2, f2⟩, ⟨x3, d3, e3, f3⟩, ⟨x4, d4, e4, f4⟩⟩ := h
  obtain ⟨g0, ⟨y1, d1', e1', f1'⟩, ⟨y2, d2', e2', f2'⟩, ⟨y3, d3', e3', f3'⟩, ⟨y4, d4', e4', f4'⟩⟩ := g
  have a1 := g0 x1 d1 e1
  have a2 := g0 x2 d2 e2
  have a3 := g0 x3 d3 e3
  have a4 := g0 x4 d4 e4
  have b1 := h0 y1 d1' e1'
  have b2 := h0 y2 d2' e2'
  have b3 := h0 y3 d3' e3'
  have b4 := h0 y4 d4' e4'
  omega
theorem gBox.cong {D : Int → Prop} {L L' : Int → Int} {k l r t b : Int} (h : gBox D L k l r t b) (e : ∀ x, D x → (L' x = k ↔ L x = k)) : gBox D L' k l r t b := by
  obtain ⟨h0, ⟨x1, d1, e1, f1⟩, ⟨x2, d2, e2, f2⟩, ⟨x3, d3, e3, f3⟩, ⟨x4, d4, e4, f4⟩⟩ := h
  exact ⟨fun x d l => h0 x d ((e x d).1 l), ⟨x1, d1, (e x1 d1).2 e1, f1⟩, ⟨x2, d2, (e x2 d2).2 e2, f2⟩, ⟨x3, d3, (e x3 d3).2 e3, f3⟩, ⟨x4, d4, (e x4 d4).2 e4, f4⟩⟩
/-- what the class keeps of face k: its size and its box -/
def bFI (w h : Int) (M : zM) (k : Int) : Prop := M 6 k = zc (fun i => M 12 i = k) 192 ∧ gBox (gD w h) (M 12) k (M 8 k) (M 10 k) (M 9 k) (M 11 k)
theorem bFI.cong {w h : Int} {M M' : zM} {k : Int} (H : bFI w h M k) (e6 : M' 6 k = M 6 k) (e8 : M' 8 k = M 8 k) (e9 : M' 9 k = M 9 k) (e10 : M' 10 k = M 10 k) (e11 : M' 11 k = M 11 k) (eL : ∀ x, 0 ≤ x → x < 192 → (M' 12 x = k ↔ M 12 x = k)) (hw : w ≤ 16) (hh : h ≤ 12) : bFI w h M' k := by
  refine ⟨?_, ?_⟩
  · rw [e6, H.1]; exact (zc_c 192 (by decide) eL).symm
  · rw [e8, e9, e10, e11]; exact H.2.cong (fun x d => eL x d.1 (by omega))
/-- the class's search for one face, under way: W dots are in the row, n of them are taken in -/
def bSP (M : zM) (f a W n : Int) (M' : zM) : Prop :=
  (∀ c i, c ≠ 12 → c ≠ 13 → ¬ ((c = 6 ∨ c = 7 ∨ c = 8 ∨ c = 9 ∨ c = 10 ∨ c = 11) ∧ i = f) → M' c i = M c i) ∧ M' 7 f = a ∧ M' 9 f = a / 16 ∧ M' 6 f = n ∧
  gGro (gD (M 1 0) (M 1 1)) (gA (M 1 2) (M 2)) (M 12) f (M 7) a (M' 12) ∧ (∀ i, 0 ≤ i → i < 192 → ¬ gD (M 1 0) (M 1 1) i → M' 12 i = -1) ∧
  (∀ i, 0 ≤ i → i < W → gD (M 1 0) (M 1 1) (M' 13 i) ∧ M' 12 (M' 13 i) = f) ∧ (∀ x, gD (M 1 0) (M 1 1) x → M' 12 x = f → ∃ i, 0 ≤ i ∧ i < W ∧ M' 13 i = x) ∧
  zc (fun i => M' 12 i = f) 192 = W ∧
  (∀ i, 0 ≤ i → i < n → M' 8 f ≤ M' 13 i % 16 ∧ M' 13 i % 16 ≤ M' 10 f ∧ M' 13 i / 16 ≤ M' 11 f) ∧
  (∃ x, gD (M 1 0) (M 1 1) x ∧ M' 12 x = f ∧ x % 16 = M' 8 f) ∧ (∃ x, gD (M 1 0) (M 1 1) x ∧ M' 12 x = f ∧ x % 16 = M' 10 f) ∧ (∃ x, gD (M 1 0) (M 1 1) x ∧ M' 12 x = f ∧ x / 16 = M' 11 f)
theorem bSP.set {M : zM} {f a W n : Int} {M' : zM} (h : bSP M f a W n M') {x y : Int} (h16 : M 1 0 ≤ 16) (h12 : M 1 1 ≤ 12) (dx : gD (M 1 0) (M 1 1) x) (dy : gD (M 1 0) (M 1 1) y) (p : gA (M 1 2) (M 2) x y) (lx : M' 12 x = f) (ly : M' 12 y < 0) (hnW : n ≤ W) (hW : 0 ≤ W) (hf : 0 ≤ f) : bSP M f a (W + 1) n (zset (zset M' 12 y f) 13 W y) := by
  obtain ⟨h1, h2, h3, h3b, h4, h5, h6, h7, h8, h9, ⟨x1, h10, q10, r10⟩, ⟨x2, h11, q11, r11⟩, ⟨x3, h12', q12, r12⟩⟩ := h
  have e12 : ∀ z, zset (zset M' 12 y f) 13 W y 12 z = if z = y then f else M' 12 z := fun z => by
    rw [zset_n _ (.inl (by decide))]
    split
    · rename_i c; rw [c, zset_s]
    · rename_i c; rw [zset_n _ (.inr c)]
  have e13 : ∀ z, zset (zset M' 12 y f) 13 W y 13 z = if z = W then y else M' 13 z := fun z => by
    split
    · rename_i c; rw [c, zset_s]
    · rename_i c; rw [zset_n _ (.inr c), zset_n _ (.inl (by decide))]
  have eo : ∀ c z, c ≠ 12 → c ≠ 13 → zset (zset M' 12 y f) 13 W y c z = M' c z := fun c z c1 c2 => by
    rw [zset_n _ (.inl c2), zset_n _ (.inl c1)]
  have keep : ∀ z, M' 12 z = f → zset (zset M' 12 y f) 13 W y 12 z = f := fun z hz => by
    rw [e12]; split
    · rfl
    · exact hz
  refine ⟨?_, ?_, ?_, ?_, ?_, ?_, ?_, ?_, ?_, ?_, ?_, ?_, ?_⟩
  · intro c i c1 c2 c3; rw [eo c i c1 c2]; exact h1 c i c1 c2 c3
  · rw [eo _ _ (by decide) (by decide)]; exact h2
  · rw [eo _ _ (by decide) (by decide)]; exact h3
  · rw [eo _ _ (by decide) (by decide)]; exact h3b
  · refine h4.more dx dy p lx ly (fun z _ hz => ?_) ?_
    · rw [e12, if_neg hz]
    · rw [e12, if_pos rfl]
  · intro i i0 i1 hi
    rw [e12, if_neg (fun e => hi (by rw [e]; exact dy))]
    exact h5 i i0 i1 hi
  · intro i i0 i1
    by_cases c : i = W
    · rw [e13, if_pos c, e12, if_pos rfl]; exact ⟨dy, rfl⟩
    · have := h6 i i0 (by omega)
      rw [e13, if_neg c]
      exact ⟨this.1, keep _ this.2⟩
  · intro z dz lz
    by_cases c : z = y
    · exact ⟨W, hW, by omega, by rw [e13, if_pos rfl, c]⟩
    · rw [e12, if_neg c] at lz
      obtain ⟨i, i0, i1, i2⟩ := h7 z dz lz
      exact ⟨i, i0, by omega, by rw [e13, if_neg (by omega)]; exact i2⟩
  · have e := zc_1 (p := fun i => M' 12 i = f) (q := fun i => zset (zset M' 12 y f) 13 W y 12 i = f) (y := y) dy.1 (by omega) (by rw [e12, if_pos rfl]) (fun i hi => by rw [e12, if_neg hi]) 192 (by decide) (by omega)
    rw [h8] at e
    exact e
  · intro i i0 i1
    rw [e13, if_neg (by omega), eo 8 _ (by decide) (by decide), eo 10 _ (by decide) (by decide), eo 11 _ (by decide) (by decide)]
    exact h9 i i0 i1
  · exact ⟨x1, h10, keep _ q10, by rw [eo _ _ (by decide) (by decide)]; exact r10⟩
  · exact ⟨x2, h11, keep _ q11, by rw [eo _ _ (by decide) (by decide)]; exact r11⟩
  · exact ⟨x3, h12', keep _ q12, by rw [eo _ _ (by decide) (by decide)]; exact r12⟩
abbrev pr_X2_takeIn (f : Int) (x : Int) (y : Int) (M : zM) : Prop := (0 ≤ f ∧ f < 192) ∧ (zin (M 6 f + 1))
abbrev po_X2_takeIn (f : Int) (x : Int) (y : Int) (M : zM) (M' : zM) : Prop := (M' 6 f = M 6 f + 1) ∧ (M' 8 f = min (M 8 f) x) ∧ (M' 10 f = max (M 10 f) x) ∧ (M' 11 f = max (M 11 f) y) ∧ (∀ c i, ¬ ((c = 6 ∨ c = 8 ∨ c = 10 ∨ c = 11) ∧ i = f) → M' c i = M c i)
set_option maxHeartbeats 1000000 in
theorem ok_X2_takeIn : zSnd zS 145 0 0 yX2_takeIn cX2_takeIn 4 none 1 [2, 0, 0, 0] (F_X2_takeIn pr_X2_takeIn po_X2_takeIn) := by
  refine (sn_X2_takeIn).mono ?_
  rintro xs P M hz hR ⟨f, x, y, rfl, ⟨hf, hzz⟩, hP⟩
  refine ⟨_, _, _, rfl, ?_⟩
  have z_f := zall_h (zall_t hz) (by decide)
  have z_x := zall_h (zall_t (zall_t hz)) (by decide)
  have z_y := zall_h (zall_t (zall_t (zall_t hz))) (by decide)
  change vc_X2_takeIn f x y P M
  unfold vc_X2_takeIn
  have o1 : ((0 : Int) ≤ f ∧ f < 192) := by
    first | with_reducible assumption | omega | exact trivial | with_reducible rfl  -- o1
  refine ⟨o1, ?_⟩
  have o2 : zin ((M 6 f) + 1) := by
    first | with_reducible assumption | omega | exact trivial | with_reducible rfl  -- o2
  refine ⟨o2, ?_⟩
  intro M3 e_M3
  intro M7 e_M7
  intro M11 e_M11
  intro M15 e_M15
  have q : M15 = zset (zset (zset (zset M 6 f (M 6 f + 1)) 8 f (min (M 8 f) x)) 10 f (max (M 10 f) x)) 11 f (max (M 11 f) y) := by
    rw [e_M15, e_M11, e_M7, e_M3]
    simp [zset]
  refine hP _ ⟨?_, ?_, ?_, ?_, ?_⟩
  · show M15 6 f = M 6 f + 1  -- p1.h6
    rw [q]; simp [zset]
  · show M15 8 f = min (M 8 f) x  -- p1.h8
    rw [q]; simp [zset]
  · show M15 10 f = max (M 10 f) x  -- p1.h10
    rw [q]; simp [zset]
  · show M15 11 f = max (M 11 f) y  -- p1.h11
    rw [q]; simp [zset]
  · show ∀ c i, ¬ ((c = 6 ∨ c = 8 ∨ c = 10 ∨ c = 11) ∧ i = f) → M15 c i = M c i  -- p1.ho
    intro c i k
    rw [q, zset_n _ (by omega), zset_n _ (by omega), zset_n _ (by omega), zset_n _ (by omega)]

theorem bSP.take {M : zM} {f a W n : Int} {M1 M2 : zM} (h : bSP M f a W n M1) (hn : 0 ≤ n) (hW : n < W) (h6 : M2 6 f = M1 6 f + 1) (h8 : M2 8 f = min (M1 8 f) (M1 13 n % 16)) (h10 : M2 10 f = max (M1 10 f) (M1 13 n % 16)) (h11 : M2 11 f = max (M1 11 f) (M1 13 n / 16)) (ho : ∀ c i, ¬ ((c = 6 ∨ c = 8 ∨ c = 10 ∨ c = 11) ∧ i = f) → M2 c i = M1 c i) : bSP M f a W (n + 1) M2 := by
  obtain ⟨g1, g2, g3, g3b, g4, g5, g6, g7, g8, g9, ⟨x1, g10, q10, r10⟩, ⟨x2, g11, q11, r11⟩, ⟨x3, g12', q12, r12⟩⟩ := h
  have e12 : M2 12 = M1 12 := funext fun i => ho 12 i (by omega)
  have e13 : M2 13 = M1 13 := funext fun i => ho 13 i (by omega)
  have gn := g6 n hn hW
  refine ⟨?_, ?_, ?_, ?_, ?_, ?_, ?_, ?_, ?_, ?_, ?_, ?_, ?_⟩
  · intro c i c1 c2 c3; rw [ho c i (by omega)]; exact g1 c i c1 c2 c3
  · rw [ho 7 _ (by omega)]; exact g2
  · rw [ho 9 _ (by omega)]; exact g3
  · rw [h6, g3b]
  · rw [e12]; exact g4
  · rw [e12]; exact g5
  · rw [e12, e13]; exact g6
  · rw [e12, e13]; exact g7
  · rw [e12]; exact g8
  · intro i i0 i1
    rw [e13, h8, h10, h11]
    by_cases c : i = n
    · rw [c]; omega
    · have := g9 i i0 (by omega); omega
  · rw [e12, h8]
    by_cases c : M1 8 f ≤ M1 13 n % 16
    · exact ⟨x1, g10, q10, by omega⟩
    · exact ⟨M1 13 n, gn.1, gn.2, by omega⟩
  · rw [e12, h10]
    by_cases c : M1 13 n % 16 ≤ M1 10 f
    · exact ⟨x2, g11, q11, by omega⟩
    · exact ⟨M1 13 n, gn.1, gn.2, by omega⟩
  · rw [e12, h11]
    by_cases c : M1 13 n / 16 ≤ M1 11 f
    · exact ⟨x3, g12', q12, by omega⟩
    · exact ⟨M1 13 n, gn.1, gn.2, by omega⟩
/-- the dot beside a dot, by the class's rows -/
theorem bBes {w h q d : Int} (hw : w ≤ 16) (h0 : 0 ≤ d) (h8 : d < 8) (c : 0 ≤ q % 16 + zac d.toNat ∧ q % 16 + zac d.toNat < w ∧ 0 ≤ q / 16 + zdn d.toNat ∧ q / 16 + zdn d.toNat < h) : gD w h (16 * (q / 16 + zdn d.toNat) + (q % 16 + zac d.toNat)) ∧ (16 * (q / 16 + zdn d.toNat) + (q % 16 + zac d.toNat)) % 16 = q % 16 + zac d.toNat ∧ (16 * (q / 16 + zdn d.toNat) + (q % 16 + zac d.toNat)) / 16 = q / 16 + zdn d.toNat := by
  have := zac_b h0 h8
  omega
abbrev pr_X2_spread (x : Int) (y : Int) (f : Int) (M : zM) : Prop := (bDim M) ∧ (M 1 2 = 0 ∨ M 1 2 = 1) ∧ (0 ≤ x ∧ x < M 1 0) ∧ (0 ≤ y ∧ y < M 1 1) ∧ (∀ i, gD (M 1 0) (M 1 1) i → 0 ≤ M 2 i) ∧ (gPar (gD (M 1 0) (M 1 1)) (gA (M 1 2) (M 2)) (M 12) f (M 7) (16 * y + x)) ∧ (M 12 (16 * y + x) = -1) ∧ (∀ i, 0 ≤ i → i < 192 → ¬ gD (M 1 0) (M 1 1) i → M 12 i = -1) ∧ (∀ k, 0 ≤ k → k < f → bFI (M 1 0) (M 1 1) M k)
abbrev po_X2_spread (x : Int) (y : Int) (f : Int) (M : zM) (M' : zM) : Prop := (∀ c i, ¬ (6 ≤ c ∧ c ≤ 13) → M' c i = M c i) ∧ (gPar (gD (M 1 0) (M 1 1)) (gA (M 1 2) (M 2)) (M' 12) (f + 1) (M' 7) (16 * y + x + 1)) ∧ (∀ i, 0 ≤ i → i < 192 → ¬ gD (M 1 0) (M 1 1) i → M' 12 i = -1) ∧ (∀ k, 0 ≤ k → k < f + 1 → bFI (M 1 0) (M 1 1) M' k)
set_option maxHeartbeats 1000000 in
theorem ok_X2_spread : zSnd zS 145 0 0 yX2_spread cX2_spread 13 none 2 [2, 0, 0, 0] (F_X2_spread pr_X2_spread po_X2_spread) := by
  refine (sn_X2_spread ok_X0_colourAt ok_X2_takeIn ok_X2_faceAt).mono ?_
  rintro xs P M hz hR ⟨x, y, f, rfl, ⟨hd, ht, hx, hy, hc, hp, hu, hn, hi⟩, hP⟩
  refine ⟨_, _, _, rfl, ?_⟩
  have z_x := zall_h (zall_t hz) (by decide)
  have z_y := zall_h (zall_t (zall_t hz)) (by decide)
  have z_f := zall_h (zall_t (zall_t (zall_t hz))) (by decide)
  change vc_X2_spread pr_X0_colourAt po_X0_colourAt pr_X2_takeIn po_X2_takeIn pr_X2_faceAt po_X2_faceAt x y f P M
  unfold vc_X2_spread
  have nle := hp.le (fun x d => d.1) (by omega)
  have nn := hp.nn
  have da : gD (M 1 0) (M 1 1) (16 * y + x) := by omega
  have gc1 : pr_X0_colourAt x y M := by
    show bDim M
    first | with_reducible assumption | omega | exact trivial | with_reducible rfl  -- c1.hd
  refine ⟨gc1, ?_⟩
  rintro r1 M2 ⟨q_rfl, e_r1⟩ z_r1 z_M2
  have q_rfl := q_rfl.symm
  subst q_rfl
  intro K27 h_K27
  have k_K27 : ∀ (v7 : Int), (v7 = (if M 1 2 = 0 then 4 else 8)) → K27 v7 := by
    intro v7 hk
    refine h_K27 _ ?_
    intro z_v7
    have o1 : ((0 : Int) ≤ f ∧ f < 192) := by
      first | with_reducible assumption | omega | exact trivial | with_reducible rfl  -- o1
    refine ⟨o1, ?_⟩
    intro M10 e_M10
    have o2 : zin ((16 * y) + x) := by
      first | with_reducible assumption | omega | exact trivial | with_reducible rfl  -- o2
    refine ⟨o2, ?_⟩
    intro M14 e_M14
    intro M17 e_M17
    intro M20 e_M20
    intro M23 e_M23
    intro M26 e_M26
    have o3 : ((0 : Int) ≤ ((16 * y) + x) ∧ ((16 * y) + x) < 192) := by
      first | with_reducible assumption | omega | exact trivial | with_reducible rfl  -- o3
    refine ⟨o3, ?_⟩
    intro M30 e_M30
    intro M33 e_M33
    have q : M33 = zset (zset (zset (zset (zset (zset (zset (zset M 6 f 0) 7 f (16 * y + x)) 9 f y) 8 f x) 10 f x) 11 f y) 12 (16 * y + x) f) 13 0 (16 * y + x) := by
      rw [e_M33, e_M30, e_M26, e_M23, e_M20, e_M17, e_M14, e_M10]
    have e12 : ∀ z, M33 12 z = if z = 16 * y + x then f else M 12 z := fun z => by rw [q]; simp [zset]
    have e13 : ∀ z, M33 13 z = if z = 0 then 16 * y + x else M 13 z := fun z => by rw [q]; simp [zset]
    have hrf : ∀ z, M 12 z ≠ f ∨ ¬ gD (M 1 0) (M 1 1) z := fun z => by
      by_cases c : gD (M 1 0) (M 1 1) z
      · have := hp.rng z c; exact .inl (by omega)
      · exact .inr c
    refine ⟨fun v36 v37 M40 n42 => (n42 : Int) = (192 - v37) ∧ (0 ≤ v37 ∧ v37 ≤ v36) ∧ (bSP M f (16 * y + x) v36 v37 M40) ∧ (∀ i, 0 ≤ i → i < v37 → ∀ z, gD (M 1 0) (M 1 1) z → gA (M 1 2) (M 2) (M40 13 i) z → 0 ≤ M40 12 z), ⟨Int.toNat (192 - 0), by omega, ?_, ?_, ?_⟩, ?_⟩
    · show 0 ≤ 0 ∧ 0 ≤ 1  -- I106.0.hv
      first | with_reducible assumption | omega | exact trivial | with_reducible rfl
    · show bSP M f (16 * y + x) 1 0 M33  -- I106.0.hs
      refine ⟨?_, ?_, ?_, ?_, ?_, ?_, ?_, ?_, ?_, ?_, ?_, ?_, ?_⟩
      · intro c i c1 c2 c3
        rw [q, zset_n _ (by omega), zset_n _ (by omega), zset_n _ (by omega), zset_n _ (by omega), zset_n _ (by omega), zset_n _ (by omega), zset_n _ (by omega), zset_n _ (by omega)]
      · rw [q]; simp [zset]
      · rw [q]; simp [zset]; omega
      · rw [q]; simp [zset]
      · refine hp.start da hu ?_ ?_
        · intro z dz nz; rw [e12, if_neg nz]
        · rw [e12, if_pos rfl]
      · intro i i0 i1 i2
        rw [e12, if_neg (by intro c; rw [c] at i2; exact i2 da)]; exact hn i i0 i1 i2
      · intro i i0 i1
        rw [e13, if_pos (by omega), e12, if_pos rfl]; exact ⟨da, rfl⟩
      · intro z dz lz
        refine ⟨0, by decide, by decide, ?_⟩
        rw [e13, if_pos rfl]
        rw [e12] at lz
        split at lz
        · rename_i c; exact c.symm
        · rcases hrf z with h | h
          · exact absurd lz h
          · exact absurd dz h
      · rw [zc_1 (p := fun i => M 12 i = f) (y := 16 * y + x) da.1 (by omega) (by rw [e12, if_pos rfl]) (fun i hi => by rw [e12, if_neg hi]) 192 (by decide) (by omega), zc_0 (by decide)]
        · decide
        · intro i i0 i1 e
          by_cases c : gD (M 1 0) (M 1 1) i
          · have := hp.rng i c; omega
          · have := hn i i0 i1 c; omega
      · intro i i0 i1; omega
      · exact ⟨16 * y + x, da, by rw [e12, if_pos rfl], by rw [q]; simp [zset]; omega⟩
      · exact ⟨16 * y + x, da, by rw [e12, if_pos rfl], by rw [q]; simp [zset]; omega⟩
      · exact ⟨16 * y + x, da, by rw [e12, if_pos rfl], by rw [q]; simp [zset]; omega⟩
    · show ∀ i, 0 ≤ i → i < 0 → ∀ z, gD (M 1 0) (M 1 1) z → gA (M 1 2) (M 2) (M33 13 i) z → 0 ≤ M33 12 z  -- I106.0.hcl
      first | with_reducible assumption | omega | exact trivial | with_reducible rfl
    rintro v36 v37 M40 n42 ⟨h_n42, hv, hs, hcl⟩ z_v36 z_v37 z_M40
    obtain ⟨g1, g2, g3, g3b, g4, g5, g6, g7, g8, g9, g10, g11, g12⟩ := id hs
    have w0 := g1 1 0 (by decide) (by decide) (by omega)
    have w1 := g1 1 1 (by decide) (by decide) (by omega)
    have hU := zc_b (fun i => M40 12 i = f) 192 (by decide)
    have fin : v36 ≤ v37 → (∀ c i, ¬ (6 ≤ c ∧ c ≤ 13) → M40 c i = M c i) ∧ gPar (gD (M 1 0) (M 1 1)) (gA (M 1 2) (M 2)) (M40 12) (f + 1) (M40 7) (16 * y + x + 1) ∧ (∀ i, 0 ≤ i → i < 192 → ¬ gD (M 1 0) (M 1 1) i → M40 12 i = -1) ∧ (∀ k, 0 ≤ k → k < f + 1 → bFI (M 1 0) (M 1 1) M40 k) := by
      intro le
      have e : v37 = v36 := by omega
      subst e
      refine ⟨fun c i k => g1 c i (by omega) (by omega) (by omega), ?_, g5, ?_⟩
      · refine g4.done gA.sym ?_ (fun k k1 k2 => g1 7 k (by decide) (by decide) (by omega)) g2
        intro a b ad bd p l
        obtain ⟨i, i0, i1, i2⟩ := g7 a ad l
        exact hcl i i0 i1 b bd (by rw [i2]; exact p)
      · intro k k1 k2
        by_cases c : k = f
        · subst c
          refine ⟨by rw [g3b, g8], ⟨?_, g10, g11, ⟨16 * y + x, da, g4.seed, by rw [g3]⟩, g12⟩⟩
          intro a ad l
          obtain ⟨i, i0, i1, i2⟩ := g7 a ad l
          have hb := g9 i i0 i1
          rw [i2] at hb
          refine ⟨hb.1, hb.2.1, ?_, hb.2.2⟩
          rw [g3]
          have : ¬ a < 16 * y + x := fun c => by
            have r1 := hp.don a ad c
            have r2 := hp.rng a ad
            rcases g4.old a ad with o | o <;> omega
          omega
        · have hk := hi k k1 (by omega)
          refine hk.cong (g1 6 k (by decide) (by decide) (by omega)) (g1 8 k (by decide) (by decide) (by omega)) (g1 9 k (by decide) (by decide) (by omega)) (g1 10 k (by decide) (by decide) (by omega)) (g1 11 k (by decide) (by decide) (by omega)) ?_ (by omega) (by omega)
          intro a a0 a1
          by_cases ad : gD (M 1 0) (M 1 1) a
          · rcases g4.old a ad with o | o <;> omega
          · rw [g5 a a0 a1 ad, hn a a0 a1 ad]
    refine ⟨fun b1 => ?_, fun b1 => ?_⟩
    · -- b1.1
      refine hP _ ⟨?_, ?_, ?_, ?_⟩
      · show ∀ c i, ¬ (6 ≤ c ∧ c ≤ 13) → M40 c i = M c i  -- p1.hf
        exact (fin b1).1
      · show gPar (gD (M 1 0) (M 1 1)) (gA (M 1 2) (M 2)) (M40 12) (f + 1) (M40 7) (16 * y + x + 1)  -- p1.hp
        exact (fin b1).2.1
      · show ∀ i, 0 ≤ i → i < 192 → ¬ gD (M 1 0) (M 1 1) i → M40 12 i = -1  -- p1.hn
        exact (fin b1).2.2.1
      · show ∀ k, 0 ≤ k → k < f + 1 → bFI (M 1 0) (M 1 1) M40 k  -- p1.hi
        exact (fin b1).2.2.2
    · -- b1.2
      refine ⟨fun b2 => ?_, fun b2 => ?_⟩
      · -- b2.1
        refine hP _ ⟨?_, ?_, ?_, ?_⟩
        · show ∀ c i, ¬ (6 ≤ c ∧ c ≤ 13) → M40 c i = M c i  -- p2.hf
          exact (fin (by omega)).1
        · show gPar (gD (M 1 0) (M 1 1)) (gA (M 1 2) (M 2)) (M40 12) (f + 1) (M40 7) (16 * y + x + 1)  -- p2.hp
          exact (fin (by omega)).2.1
        · show ∀ i, 0 ≤ i → i < 192 → ¬ gD (M 1 0) (M 1 1) i → M40 12 i = -1  -- p2.hn
          exact (fin (by omega)).2.2.1
        · show ∀ k, 0 ≤ k → k < f + 1 → bFI (M 1 0) (M 1 1) M40 k  -- p2.hi
          exact (fin (by omega)).2.2.2
      · -- b2.2
        have hq := g6 v37 hv.1 (by omega)
        have o4 : ((0 : Int) ≤ v37 ∧ v37 < 252) := by
          first | with_reducible assumption | omega | exact trivial | with_reducible rfl  -- o4
        refine ⟨o4, ?_⟩
        have o5 : 0 ≤ (M40 13 v37) := by
          exact hq.1.1
        refine ⟨o5, ?_⟩
        have gc2 : pr_X2_takeIn f ((M40 13 v37) % 16) ((M40 13 v37) / 16) M40 := by
          refine ⟨?_, ?_⟩
          · show 0 ≤ f ∧ f < 192  -- c2.hf
            first | with_reducible assumption | omega | exact trivial | with_reducible rfl
          · show zin (M40 6 f + 1)  -- c2.hzz
            have := hs.2.2.2.1; omega
        refine ⟨gc2, ?_⟩
        rintro M53 ⟨pc2_h6, pc2_h8, pc2_h10, pc2_h11, pc2_ho⟩ z_M53
        have hs2 := hs.take hv.1 (by omega) pc2_h6 pc2_h8 pc2_h10 pc2_h11 pc2_ho
        have e13 : M53 13 = M40 13 := funext fun i => pc2_ho 13 i (by omega)
        have e12 : M53 12 = M40 12 := funext fun i => pc2_ho 12 i (by omega)
        refine ⟨fun v58 v59 M62 n64 => (n64 : Int) = (8 - v59) ∧ (0 ≤ v59 ∧ v59 ≤ v7) ∧ (v37 < v58) ∧ (bSP M f (16 * y + x) v58 (v37 + 1) M62) ∧ (M62 13 v37 = M40 13 v37) ∧ (∀ i, 0 ≤ i → i < v37 → ∀ z, gD (M 1 0) (M 1 1) z → gA (M 1 2) (M 2) (M62 13 i) z → 0 ≤ M62 12 z) ∧ (∀ d : Int, 0 ≤ d → d < v59 → 0 ≤ M40 13 v37 % 16 + zac d.toNat ∧ M40 13 v37 % 16 + zac d.toNat < M 1 0 ∧ 0 ≤ M40 13 v37 / 16 + zdn d.toNat ∧ M40 13 v37 / 16 + zdn d.toNat < M 1 1 → M 2 (M40 13 v37) = M 2 (16 * (M40 13 v37 / 16 + zdn d.toNat) + (M40 13 v37 % 16 + zac d.toNat)) → 0 ≤ M62 12 (16 * (M40 13 v37 / 16 + zdn d.toNat) + (M40 13 v37 % 16 + zac d.toNat))), ⟨Int.toNat (8 - 0), by omega, ?_, ?_, ?_, ?_, ?_, ?_⟩, ?_⟩
        · show 0 ≤ 0 ∧ 0 ≤ v7  -- I157.0.hv59
          split at hk <;> omega
        · show v37 < v36  -- I157.0.hvW
          first | with_reducible assumption | omega | exact trivial | with_reducible rfl
        · show bSP M f (16 * y + x) v36 (v37 + 1) M53  -- I157.0.hs3
          first | with_reducible assumption | omega | exact trivial | with_reducible rfl
        · show M53 13 v37 = M40 13 v37  -- I157.0.hq3
          rw [e13]
        · show ∀ i, 0 ≤ i → i < v37 → ∀ z, gD (M 1 0) (M 1 1) z → gA (M 1 2) (M 2) (M53 13 i) z → 0 ≤ M53 12 z  -- I157.0.hcl3
          rw [e12, e13]; exact hcl
        · show ∀ d : Int, 0 ≤ d → d < 0 → 0 ≤ M40 13 v37 % 16 + zac d.toNat ∧ M40 13 v37 % 16 + zac d.toNat < M 1 0 ∧ 0 ≤ M40 13 v37 / 16 + zdn d.toNat ∧ M40 13 v37 / 16 + zdn d.toNat < M 1 1 → M 2 (M40 13 v37) = M 2 (16 * (M40 13 v37 / 16 + zdn d.toNat) + (M40 13 v37 % 16 + zac d.toNat)) → 0 ≤ M53 12 (16 * (M40 13 v37 / 16 + zdn d.toNat) + (M40 13 v37 % 16 + zac d.toNat))  -- I157.0.hcd
          first | with_reducible assumption | omega | exact trivial | with_reducible rfl
        rintro v58 v59 M62 n64 ⟨h_n64, hv59, hvW, hs3, hq3, hcl3, hcd⟩ z_v58 z_v59 z_M62
        have hv8 : v7 ≤ 8 := by split at hk <;> omega
        obtain ⟨j1, j2, j3, j3b, j4, j5, j6, j7, j8, j9, j10, j11, j12⟩ := id hs3
        have y0 := j1 1 0 (by decide) (by decide) (by omega)
        have y1 := j1 1 1 (by decide) (by decide) (by omega)
        have y2 : M62 2 = M 2 := funext fun i => j1 2 i (by decide) (by decide) (by omega)
        have hU2 := zc_b (fun i => M62 12 i = f) 192 (by decide)
        refine ⟨fun b3 => ?_, fun b3 => ?_⟩
        · -- b3.1
          have o6 : zin (v37 + 1) := by
            first | with_reducible assumption | omega | exact trivial | with_reducible rfl  -- o6
          refine ⟨o6, ?_⟩
          refine ⟨Int.toNat (192 - (v37 + 1)), by omega, by omega, ?_, ?_, ?_⟩
          · show 0 ≤ (v37 + 1) ∧ (v37 + 1) ≤ v58  -- I106.1.hv
            first | with_reducible assumption | omega | exact trivial | with_reducible rfl
          · show bSP M f (16 * y + x) v58 (v37 + 1) M62  -- I106.1.hs
            first | with_reducible assumption | omega | exact trivial | with_reducible rfl
          · show ∀ i, 0 ≤ i → i < (v37 + 1) → ∀ z, gD (M 1 0) (M 1 1) z → gA (M 1 2) (M 2) (M62 13 i) z → 0 ≤ M62 12 z  -- I106.1.hcl
            intro i i0 i1 z zd p
            by_cases c : i = v37
            · subst c
              rw [hq3] at p
              obtain ⟨d, d1, d2, d3, d4⟩ := gOff_b' p.1
              have e1 : M40 13 i % 16 + zac d.toNat = z % 16 := by omega
              have e2 : M40 13 i / 16 + zdn d.toNat = z / 16 := by omega
              have e3 : 16 * (z / 16) + z % 16 = z := by omega
              have h := hcd d d1 (by omega)
              rw [e1, e2, e3] at h
              exact h ⟨by omega, zd.2.1, by omega, zd.2.2⟩ p.2
            · exact hcl3 i i0 (by omega) z zd p
        · -- b3.2
          have zb := zac_b hv59.1 (show v59 < 8 by omega)
          have qd := hq.1
          have o7 : ((0 : Int) ≤ v59 ∧ v59 < 8) := by
            first | with_reducible assumption | omega | exact trivial | with_reducible rfl  -- o7
          refine ⟨o7, ?_⟩
          have o8 : zin (((M40 13 v37) / 16) + (zdn (Int.toNat v59))) := by
            first | with_reducible assumption | omega | exact trivial | with_reducible rfl  -- o8
          refine ⟨o8, ?_⟩
          have o9 : zin (((M40 13 v37) % 16) + (zac (Int.toNat v59))) := by
            first | with_reducible assumption | omega | exact trivial | with_reducible rfl  -- o9
          refine ⟨o9, ?_⟩
          have gc3 : pr_X0_colourAt (((M40 13 v37) % 16) + (zac (Int.toNat v59))) (((M40 13 v37) / 16) + (zdn (Int.toNat v59))) M62 := by
            show bDim M62
            unfold bDim; omega
          refine ⟨gc3, ?_⟩
          rintro r79 M80 ⟨q_rfl, e_r79⟩ z_r79 z_M80
          have q_rfl := q_rfl.symm
          subst q_rfl
          have er1 : r1 = M 2 (16 * y + x) := by rw [e_r1]; unfold bCol; rw [if_pos (by omega)]
          have hr0 := hc _ da
          have hseed := j4.seed
          have hqc : M 2 (M40 13 v37) = r1 := by
            rw [er1]
            exact gGro.col hs.2.2.2.2.1 (fun a b _ _ p => p.2) hq.1 hq.2
          unfold bCol at e_r79
          rw [y0, y1, y2] at e_r79
          refine ⟨fun b4 => ?_, fun b4 => ?_⟩
          · -- b4.1
            have o10 : zin (v59 + 1) := by
              first | with_reducible assumption | omega | exact trivial | with_reducible rfl  -- o10
            refine ⟨o10, ?_⟩
            refine ⟨Int.toNat (8 - (v59 + 1)), by omega, by omega, ?_, ?_, ?_, ?_, ?_, ?_⟩
            · show 0 ≤ (v59 + 1) ∧ (v59 + 1) ≤ v7  -- I157.1.hv59
              first | with_reducible assumption | omega | exact trivial | with_reducible rfl
            · show v37 < v58  -- I157.1.hvW
              first | with_reducible assumption | omega | exact trivial | with_reducible rfl
            · show bSP M f (16 * y + x) v58 (v37 + 1) M62  -- I157.1.hs3
              first | with_reducible assumption | omega | exact trivial | with_reducible rfl
            · show M62 13 v37 = M40 13 v37  -- I157.1.hq3
              first | with_reducible assumption | omega | exact trivial | with_reducible rfl
            · show ∀ i, 0 ≤ i → i < v37 → ∀ z, gD (M 1 0) (M 1 1) z → gA (M 1 2) (M 2) (M62 13 i) z → 0 ≤ M62 12 z  -- I157.1.hcl3
              first | with_reducible assumption | omega | exact trivial | with_reducible rfl
            · show ∀ d : Int, 0 ≤ d → d < (v59 + 1) → 0 ≤ M40 13 v37 % 16 + zac d.toNat ∧ M40 13 v37 % 16 + zac d.toNat < M 1 0 ∧ 0 ≤ M40 13 v37 / 16 + zdn d.toNat ∧ M40 13 v37 / 16 + zdn d.toNat < M 1 1 → M 2 (M40 13 v37) = M 2 (16 * (M40 13 v37 / 16 + zdn d.toNat) + (M40 13 v37 % 16 + zac d.toNat)) → 0 ≤ M62 12 (16 * (M40 13 v37 / 16 + zdn d.toNat) + (M40 13 v37 % 16 + zac d.toNat))  -- I157.1.hcd
              intro d d0 d1 c e
              by_cases g : d = v59
              · subst g
                rw [if_pos c] at e_r79
                exact absurd (e_r79.trans (e.symm.trans hqc)) b4
              · exact hcd d d0 (by omega) c e
          · -- b4.2
            have gc4 : pr_X2_faceAt (((M40 13 v37) % 16) + (zac (Int.toNat v59))) (((M40 13 v37) / 16) + (zdn (Int.toNat v59))) M62 := by
              show bDim M62
              unfold bDim; omega
            refine ⟨gc4, ?_⟩
            rintro r90 M91 ⟨q_rfl, e_r90⟩ z_r90 z_M91
            have q_rfl := q_rfl.symm
            subst q_rfl
            have hin : 0 ≤ M40 13 v37 % 16 + zac v59.toNat ∧ M40 13 v37 % 16 + zac v59.toNat < M 1 0 ∧ 0 ≤ M40 13 v37 / 16 + zdn v59.toNat ∧ M40 13 v37 / 16 + zdn v59.toNat < M 1 1 := by
              apply Classical.byContradiction
              intro c
              rw [if_neg c] at e_r79
              omega
            rw [y0, y1, if_pos hin] at e_r90
            rw [if_pos hin] at e_r79
            have hB := bBes (w := M 1 0) (h := M 1 1) (q := M40 13 v37) (d := v59) (by omega) hv59.1 (by omega) hin
            refine ⟨fun b5 => ?_, fun b5 => ?_⟩
            · -- b5.1
              have o11 : zin (v59 + 1) := by
                first | with_reducible assumption | omega | exact trivial | with_reducible rfl  -- o11
              refine ⟨o11, ?_⟩
              refine ⟨Int.toNat (8 - (v59 + 1)), by omega, by omega, ?_, ?_, ?_, ?_, ?_, ?_⟩
              · show 0 ≤ (v59 + 1) ∧ (v59 + 1) ≤ v7  -- I157.2.hv59
                first | with_reducible assumption | omega | exact trivial | with_reducible rfl
              · show v37 < v58  -- I157.2.hvW
                first | with_reducible assumption | omega | exact trivial | with_reducible rfl
              · show bSP M f (16 * y + x) v58 (v37 + 1) M62  -- I157.2.hs3
                first | with_reducible assumption | omega | exact trivial | with_reducible rfl
              · show M62 13 v37 = M40 13 v37  -- I157.2.hq3
                first | with_reducible assumption | omega | exact trivial | with_reducible rfl
              · show ∀ i, 0 ≤ i → i < v37 → ∀ z, gD (M 1 0) (M 1 1) z → gA (M 1 2) (M 2) (M62 13 i) z → 0 ≤ M62 12 z  -- I157.2.hcl3
                first | with_reducible assumption | omega | exact trivial | with_reducible rfl
              · show ∀ d : Int, 0 ≤ d → d < (v59 + 1) → 0 ≤ M40 13 v37 % 16 + zac d.toNat ∧ M40 13 v37 % 16 + zac d.toNat < M 1 0 ∧ 0 ≤ M40 13 v37 / 16 + zdn d.toNat ∧ M40 13 v37 / 16 + zdn d.toNat < M 1 1 → M 2 (M40 13 v37) = M 2 (16 * (M40 13 v37 / 16 + zdn d.toNat) + (M40 13 v37 % 16 + zac d.toNat)) → 0 ≤ M62 12 (16 * (M40 13 v37 / 16 + zdn d.toNat) + (M40 13 v37 % 16 + zac d.toNat))  -- I157.2.hcd
                intro d d0 d1 c e
                by_cases g : d = v59
                · subst g; rw [← e_r90]; exact b5
                · exact hcd d d0 (by omega) c e
            · -- b5.2
              refine ⟨fun b6 => ?_, fun b6 => ?_⟩
              · -- b6.1
                have o12 : zin (v59 + 1) := by
                  first | with_reducible assumption | omega | exact trivial | with_reducible rfl  -- o12
                refine ⟨o12, ?_⟩
                refine ⟨Int.toNat (8 - (v59 + 1)), by omega, by omega, ?_, ?_, ?_, ?_, ?_, ?_⟩
                · show 0 ≤ (v59 + 1) ∧ (v59 + 1) ≤ v7  -- I157.3.hv59
                  first | with_reducible assumption | omega | exact trivial | with_reducible rfl
                · show v37 < v58  -- I157.3.hvW
                  first | with_reducible assumption | omega | exact trivial | with_reducible rfl
                · show bSP M f (16 * y + x) v58 (v37 + 1) M62  -- I157.3.hs3
                  first | with_reducible assumption | omega | exact trivial | with_reducible rfl
                · show M62 13 v37 = M40 13 v37  -- I157.3.hq3
                  first | with_reducible assumption | omega | exact trivial | with_reducible rfl
                · show ∀ i, 0 ≤ i → i < v37 → ∀ z, gD (M 1 0) (M 1 1) z → gA (M 1 2) (M 2) (M62 13 i) z → 0 ≤ M62 12 z  -- I157.3.hcl3
                  first | with_reducible assumption | omega | exact trivial | with_reducible rfl
                · show ∀ d : Int, 0 ≤ d → d < (v59 + 1) → 0 ≤ M40 13 v37 % 16 + zac d.toNat ∧ M40 13 v37 % 16 + zac d.toNat < M 1 0 ∧ 0 ≤ M40 13 v37 / 16 + zdn d.toNat ∧ M40 13 v37 / 16 + zdn d.toNat < M 1 1 → M 2 (M40 13 v37) = M 2 (16 * (M40 13 v37 / 16 + zdn d.toNat) + (M40 13 v37 % 16 + zac d.toNat)) → 0 ≤ M62 12 (16 * (M40 13 v37 / 16 + zdn d.toNat) + (M40 13 v37 % 16 + zac d.toNat))  -- I157.3.hcd
                  exfalso
                  have h1 := zc_lt (p := fun i => M62 12 i = f) (q := fun _ => True) (y := 16 * (M40 13 v37 / 16 + zdn v59.toNat) + (M40 13 v37 % 16 + zac v59.toNat)) (n := 192) (by omega) (by omega) (by omega) trivial (fun _ _ _ _ => trivial)
                  have h2 := zc_b (fun _ => True) 192 (by decide)
                  omega
              · -- b6.2
                have hA : gA (M 1 2) (M 2) (M40 13 v37) (16 * (M40 13 v37 / 16 + zdn v59.toNat) + (M40 13 v37 % 16 + zac v59.toNat)) := by
                  refine ⟨?_, ?_⟩
                  · rw [hB.2.1, hB.2.2, show M40 13 v37 % 16 + zac v59.toNat - M40 13 v37 % 16 = zac v59.toNat by omega, show M40 13 v37 / 16 + zdn v59.toNat - M40 13 v37 / 16 = zdn v59.toNat by omega]
                    exact gOff_b hv59.1 (by omega)
                  · rw [hqc, ← b4, e_r79]
                have hlq : M62 12 (M40 13 v37) = f := by
                  have := (j6 v37 hv.1 hvW).2
                  rw [hq3] at this
                  exact this
                have o13 : ((0 : Int) ≤ ((16 * (((M40 13 v37) / 16) + (zdn (Int.toNat v59)))) + (((M40 13 v37) % 16) + (zac (Int.toNat v59)))) ∧ ((16 * (((M40 13 v37) / 16) + (zdn (Int.toNat v59)))) + (((M40 13 v37) % 16) + (zac (Int.toNat v59)))) < 192) := by
                  first | with_reducible assumption | omega | exact trivial | with_reducible rfl  -- o13
                refine ⟨o13, ?_⟩
                intro M107 e_M107
                have o14 : ((0 : Int) ≤ v58 ∧ v58 < 252) := by
                  first | with_reducible assumption | omega | exact trivial | with_reducible rfl  -- o14
                refine ⟨o14, ?_⟩
                have o15 : zin ((16 * (((M40 13 v37) / 16) + (zdn (Int.toNat v59)))) + (((M40 13 v37) % 16) + (zac (Int.toNat v59)))) := by
                  first | with_reducible assumption | omega | exact trivial | with_reducible rfl  -- o15
                refine ⟨o15, ?_⟩
                intro M112 e_M112
                have eM : M112 = zset (zset M62 12 (16 * (M40 13 v37 / 16 + zdn v59.toNat) + (M40 13 v37 % 16 + zac v59.toNat)) f) 13 v58 (16 * (M40 13 v37 / 16 + zdn v59.toNat) + (M40 13 v37 % 16 + zac v59.toNat)) := by rw [e_M112, e_M107]
                have up : ∀ z, 0 ≤ M62 12 z → 0 ≤ M112 12 z := fun z h => by
                  rw [eM, zset_n _ (.inl (by decide))]
                  unfold zset
                  split
                  · omega
                  · exact h
                have o16 : zin (v58 + 1) := by
                  first | with_reducible assumption | omega | exact trivial | with_reducible rfl  -- o16
                refine ⟨o16, ?_⟩
                have o17 : zin (v59 + 1) := by
                  first | with_reducible assumption | omega | exact trivial | with_reducible rfl  -- o17
                refine ⟨o17, ?_⟩
                refine ⟨Int.toNat (8 - (v59 + 1)), by omega, by omega, ?_, ?_, ?_, ?_, ?_, ?_⟩
                · show 0 ≤ (v59 + 1) ∧ (v59 + 1) ≤ v7  -- I157.4.hv59
                  first | with_reducible assumption | omega | exact trivial | with_reducible rfl
                · show v37 < (v58 + 1)  -- I157.4.hvW
                  first | with_reducible assumption | omega | exact trivial | with_reducible rfl
                · show bSP M f (16 * y + x) (v58 + 1) (v37 + 1) M112  -- I157.4.hs3
                  rw [eM]; exact hs3.set (by omega) (by omega) hq.1 hB.1 hA hlq (by omega) (by omega) (by omega) (by omega)
                · show M112 13 v37 = M40 13 v37  -- I157.4.hq3
                  rw [eM, zset_n _ (.inr (by omega)), zset_n _ (.inl (by decide))]; exact hq3
                · show ∀ i, 0 ≤ i → i < v37 → ∀ z, gD (M 1 0) (M 1 1) z → gA (M 1 2) (M 2) (M112 13 i) z → 0 ≤ M112 12 z  -- I157.4.hcl3
                  intro i i0 i1 z zd p
                  refine up z (hcl3 i i0 i1 z zd ?_)
                  rw [eM, zset_n _ (.inr (by omega)), zset_n _ (.inl (by decide))] at p
                  exact p
                · show ∀ d : Int, 0 ≤ d → d < (v59 + 1) → 0 ≤ M40 13 v37 % 16 + zac d.toNat ∧ M40 13 v37 % 16 + zac d.toNat < M 1 0 ∧ 0 ≤ M40 13 v37 / 16 + zdn d.toNat ∧ M40 13 v37 / 16 + zdn d.toNat < M 1 1 → M 2 (M40 13 v37) = M 2 (16 * (M40 13 v37 / 16 + zdn d.toNat) + (M40 13 v37 % 16 + zac d.toNat)) → 0 ≤ M112 12 (16 * (M40 13 v37 / 16 + zdn d.toNat) + (M40 13 v37 % 16 + zac d.toNat))  -- I157.4.hcd
                  intro d d0 d1 c e
                  by_cases g : d = v59
                  · subst g
                    rw [eM, zset_n _ (.inl (by decide)), zset_s]
                    omega
                  · exact up _ (hcd d d0 (by omega) c e)
  refine ⟨fun b7 => ?_, fun b7 => ?_⟩
  · -- b7.1
    refine k_K27 _ ?_
    · show 8 = (if M 1 2 = 0 then 4 else 8)  -- K27.1.hk
      rw [if_neg b7]
  · -- b7.2
    refine k_K27 _ ?_
    · show 4 = (if M 1 2 = 0 then 4 else 8)  -- K27.2.hk
      rw [if_pos b7]

