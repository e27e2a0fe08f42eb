theorem zc_inj {p : Int → Prop} {f : Int → Int} {n : Int} : ∀ v, 0 ≤ v → ∀ q : Int → Prop, (∀ i, 0 ≤ i → i < v → p i → 0 ≤ f i ∧ f i < n ∧ q (f i)) → (∀ i i', 0 ≤ i → i < v → 0 ≤ i' → i' < v → p i → p i' → f i = f i' → i = i') → zc p v ≤ zc q n := by
  apply zind
  · intro q _ _
    rw [zc_z]
    by_cases c : 0 ≤ n
    · exact (zc_b q n c).1
    · unfold zc
      rw [show n.toNat = 0 by omega]
      exact Int.le_refl _
  · intro v hv ih q h1 h2
    by_cases c : p v
    · have a := h1 v hv (by omega) c
      have e := zc_1 (p := fun j => q j ∧ j ≠ f v) (q := q) (y := f v) a.1 (fun h => h.2 rfl) a.2.2 (fun i hi => ⟨fun h => h.1, fun h => ⟨h, hi⟩⟩) n (by omega) a.2.1
      have i := ih (fun j => q j ∧ j ≠ f v) (fun i i0 i1 pi => by
        have b := h1 i i0 (by omega) pi
        exact ⟨b.1, b.2.1, b.2.2, fun e => by have := h2 i v i0 (by omega) hv (by omega) pi c e; omega⟩) (fun i i' a b c d => h2 i i' a (by omega) c (by omega))
      rw [zc_p hv c]
      omega
    · rw [zc_n hv c]
      exact ih q (fun i i0 i1 => h1 i i0 (by omega)) (fun i i' a b c d => h2 i i' a (by omega) c (by omega))
/-- just as many: each is met -/
theorem zc_onto {p q : Int → Prop} {f : Int → Int} {n : Int} (hn : 0 ≤ n) (h1 : ∀ i, 0 ≤ i → i < n → p i → 0 ≤ f i ∧ f i < n ∧ q (f i)) (h2 : ∀ i i', 0 ≤ i → i < n → 0 ≤ i' → i' < n → p i → p i' → f i = f i' → i = i') (e : zc p n = zc q n) {j : Int} (j0 : 0 ≤ j) (j1 : j < n) (qj : q j) : ∃ i, 0 ≤ i ∧ i < n ∧ p i ∧ f i = j := by
  apply Classical.byContradiction
  intro c
  have l := zc_inj (p := p) (f := f) (n := n) n hn (fun k => q k ∧ k ≠ j) (fun i i0 i1 pi => by
    have b := h1 i i0 i1 pi
    exact ⟨b.1, b.2.1, b.2.2, fun e => c ⟨i, i0, i1, pi, e⟩⟩) h2
  have e2 := zc_1 (p := fun k => q k ∧ k ≠ j) (q := q) (y := j) j0 (fun h => h.2 rfl) qj (fun i hi => ⟨fun h => h.1, fun h => ⟨h, hi⟩⟩) n hn j1
  omega
/-- a place in one box moved, turned, mirrored to one in another -/
def gTx (s mx W x y : Int) : Int := if mx = 0 then (if s = 0 then x else y) else W - 1 - (if s = 0 then x else y)
def gTy (s my H x y : Int) : Int := if my = 0 then (if s = 0 then y else x) else H - 1 - (if s = 0 then y else x)
/-- and back -/
def gIx (s mx my W H X Y : Int) : Int := if s = 0 then (if mx = 0 then X else W - 1 - X) else (if my = 0 then Y else H - 1 - Y)
def gIy (s mx my W H X Y : Int) : Int := if s = 0 then (if my = 0 then Y else H - 1 - Y) else (if mx = 0 then X else W - 1 - X)
theorem gT_I {s mx my W H X Y : Int} : gTx s mx W (gIx s mx my W H X Y) (gIy s mx my W H X Y) = X ∧ gTy s my H (gIx s mx my W H X Y) (gIy s mx my W H X Y) = Y := by
  unfold gTx gTy gIx gIy
  by_cases a : s = 0 <;> by_cases b : mx = 0 <;> by_cases c : my = 0 <;> simp [a, b, c] <;> omega
theorem gI_T {s mx my W H x y : Int} : gIx s mx my W H (gTx s mx W x y) (gTy s my H x y) = x ∧ gIy s mx my W H (gTx s mx W x y) (gTy s my H x y) = y := by
  unfold gTx gTy gIx gIy
  by_cases a : s = 0 <;> by_cases b : mx = 0 <;> by_cases c : my = 0 <;> simp [a, b, c] <;> omega
theorem gI_b {s mx my W H X Y wa ha : Int} (dw : wa = if s = 0 then W else H) (dh : ha = if s = 0 then H else W) (x0 : 0 ≤ X) (x1 : X < W) (y0 : 0 ≤ Y) (y1 : Y < H) : 0 ≤ gIx s mx my W H X Y ∧ gIx s mx my W H X Y < wa ∧ 0 ≤ gIy s mx my W H X Y ∧ gIy s mx my W H X Y < ha := by
  unfold gIx gIy
  by_cases a : s = 0 <;> by_cases b : mx = 0 <;> by_cases c : my = 0 <;> simp [a, b, c] at * <;> omega
theorem gT_b {s mx my W H x y wa ha : Int} (dw : wa = if s = 0 then W else H) (dh : ha = if s = 0 then H else W) (x0 : 0 ≤ x) (x1 : x < wa) (y0 : 0 ≤ y) (y1 : y < ha) : 0 ≤ gTx s mx W x y ∧ gTx s mx W x y < W ∧ 0 ≤ gTy s my H x y ∧ gTy s my H x y < H := by
  unfold gTx gTy
  by_cases a : s = 0 <;> by_cases b : mx = 0 <;> by_cases c : my = 0 <;> simp [a, b, c] at * <;> omega
def gSub (G : Int → Int → Int) (a b la ua wa ha lb ub wb hb s mx my : Int) : Prop := wa = (if s = 0 then wb else hb) ∧ ha = (if s = 0 then hb else wb) ∧ ∀ x y, 0 ≤ x → x < wa → 0 ≤ y → y < ha → G (la + x) (ua + y) = a → G (lb + gTx s mx wb x y) (ub + gTy s my hb x y) = b
/-- face a, so turned, lies just on face b -/
def gOn (G : Int → Int → Int) (a b la ua wa ha lb ub wb hb s mx my : Int) : Prop := wa = (if s = 0 then wb else hb) ∧ ha = (if s = 0 then hb else wb) ∧ ∀ X Y, 0 ≤ X → X < wb → 0 ≤ Y → Y < hb → (G (lb + X) (ub + Y) = b ↔ G (la + gIx s mx my wb hb X Y) (ua + gIy s mx my wb hb X Y) = a)
theorem gOn.sub {G : Int → Int → Int} {a b la ua wa ha lb ub wb hb s mx my : Int} (h : gOn G a b la ua wa ha lb ub wb hb s mx my) : gSub G a b la ua wa ha lb ub wb hb s mx my := by
  obtain ⟨d1, d2, h⟩ := h
  refine ⟨d1, d2, fun x y x0 x1 y0 y1 e => ?_⟩
  have t := gT_b (mx := mx) (my := my) d1 d2 x0 x1 y0 y1
  have i := @gI_T s mx my wb hb x y
  have := h _ _ t.1 t.2.1 t.2.2.1 t.2.2.2
  rw [i.1, i.2] at this
  exact this.2 e
theorem gSub.on {w h : Int} {L : Int → Int} {a b la ra ua ba lb rb ub bb s mx my : Int} (hw : w ≤ 16) (hh : h ≤ 12) (ha : 0 ≤ a) (hb : 0 ≤ b) (hn : ∀ i, 0 ≤ i → i < 192 → ¬ gD w h i → L i = -1)
    (A : gBox (gD w h) L a la ra ua ba) (B : gBox (gD w h) L b lb rb ub bb) (e : zc (fun i => L i = a) 192 = zc (fun i => L i = b) 192) (g : gSub (zg w h L) a b la ua (ra - la + 1) (ba - ua + 1) lb ub (rb - lb + 1) (bb - ub + 1) s mx my) : gOn (zg w h L) a b la ua (ra - la + 1) (ba - ua + 1) lb ub (rb - lb + 1) (bb - ub + 1) s mx my := by
  obtain ⟨d1, d2, g⟩ := g
  have dD : ∀ i k, 0 ≤ k → 0 ≤ i → i < 192 → L i = k → gD w h i := fun i k k0 i0 i1 e => by
    apply Classical.byContradiction
    intro c
    have := hn i i0 i1 c
    omega
  have A0 := A.1
  have B0 := B.1
  obtain ⟨_, ⟨b1, db1, eb1, fb1⟩, ⟨b2, db2, eb2, fb2⟩, ⟨b3, db3, eb3, fb3⟩, ⟨b4, db4, eb4, fb4⟩⟩ := B
  have onto : ∀ j : Int, 0 ≤ j → j < 192 → L j = b → ∃ i, 0 ≤ i ∧ i < 192 ∧ L i = a ∧ 16 * (ub + gTy s my (bb - ub + 1) (i % 16 - la) (i / 16 - ua)) + (lb + gTx s mx (rb - lb + 1) (i % 16 - la) (i / 16 - ua)) = j := fun j j0 j1 qj => zc_onto (p := fun i => L i = a) (q := fun i => L i = b) (f := fun i => 16 * (ub + gTy s my (bb - ub + 1) (i % 16 - la) (i / 16 - ua)) + (lb + gTx s mx (rb - lb + 1) (i % 16 - la) (i / 16 - ua))) (n := 192) (by decide) (by
      intro i i0 i1 ei
      have di := dD i a ha i0 i1 ei
      have bi := A0 i di ei
      have q := g (i % 16 - la) (i / 16 - ua) (by omega) (by omega) (by omega) (by omega) (by rw [show la + (i % 16 - la) = i % 16 by omega, show ua + (i / 16 - ua) = i / 16 by omega, zg_D di hw]; exact ei)
      have q2 := zg_ge q hb
      refine ⟨by omega, by omega, q2.2.2.2.2⟩) (by
      intro i i' i0 i1 i0' i1' ei ei' eq
      have di := dD i a ha i0 i1 ei
      have bi := A0 i di ei
      have di' := dD i' a ha i0' i1' ei'
      have bi' := A0 i' di' ei'
      have q := zg_ge (g (i % 16 - la) (i / 16 - ua) (by omega) (by omega) (by omega) (by omega) (by rw [show la + (i % 16 - la) = i % 16 by omega, show ua + (i / 16 - ua) = i / 16 by omega, zg_D di hw]; exact ei)) hb
      have q' := zg_ge (g (i' % 16 - la) (i' / 16 - ua) (by omega) (by omega) (by omega) (by omega) (by rw [show la + (i' % 16 - la) = i' % 16 by omega, show ua + (i' / 16 - ua) = i' / 16 by omega, zg_D di' hw]; exact ei')) hb
      have t1 := @gI_T s mx my (rb - lb + 1) (bb - ub + 1) (i % 16 - la) (i / 16 - ua)
      have t2 := @gI_T s mx my (rb - lb + 1) (bb - ub + 1) (i' % 16 - la) (i' / 16 - ua)
      rw [show gTx s mx (rb - lb + 1) (i % 16 - la) (i / 16 - ua) = gTx s mx (rb - lb + 1) (i' % 16 - la) (i' / 16 - ua) by omega, show gTy s my (bb - ub + 1) (i % 16 - la) (i / 16 - ua) = gTy s my (bb - ub + 1) (i' % 16 - la) (i' / 16 - ua) by omega] at t1
      omega) e j0 j1 qj
  refine ⟨d1, d2, fun X Y X0 X1 Y0 Y1 => ⟨fun eb => ?_, fun ea => ?_⟩⟩
  · have q := zg_ge eb hb
    obtain ⟨i, i0, i1, ei, ef⟩ := onto (16 * (ub + Y) + (lb + X)) (by omega) (by omega) q.2.2.2.2
    have di := dD i a ha i0 i1 ei
    have bi := A0 i di ei
    have q2 := zg_ge (g (i % 16 - la) (i / 16 - ua) (by omega) (by omega) (by omega) (by omega) (by rw [show la + (i % 16 - la) = i % 16 by omega, show ua + (i / 16 - ua) = i / 16 by omega, zg_D di hw]; exact ei)) hb
    have ef : 16 * (ub + gTy s my (bb - ub + 1) (i % 16 - la) (i / 16 - ua)) + (lb + gTx s mx (rb - lb + 1) (i % 16 - la) (i / 16 - ua)) = 16 * (ub + Y) + (lb + X) := ef
    have t := @gI_T s mx my (rb - lb + 1) (bb - ub + 1) (i % 16 - la) (i / 16 - ua)
    rw [show gTx s mx (rb - lb + 1) (i % 16 - la) (i / 16 - ua) = X by omega, show gTy s my (bb - ub + 1) (i % 16 - la) (i / 16 - ua) = Y by omega] at t
    rw [t.1, t.2, show la + (i % 16 - la) = i % 16 by omega, show ua + (i / 16 - ua) = i / 16 by omega, zg_D di hw]
    exact ei
  · have ib := gI_b (mx := mx) (my := my) d1 d2 X0 X1 Y0 Y1
    have := g _ _ ib.1 ib.2.1 ib.2.2.1 ib.2.2.2 ea
    have t := @gT_I s mx my (rb - lb + 1) (bb - ub + 1) X Y
    rw [t.1, t.2] at this
    exact this
theorem gOn.sym {G : Int → Int → Int} {a b la ua wa ha lb ub wb hb s mx my : Int} (h : gOn G a b la ua wa ha lb ub wb hb s mx my) : gOn G b a lb ub wb hb la ua wa ha s (if s = 0 then mx else my) (if s = 0 then my else mx) := by
  obtain ⟨d1, d2, h⟩ := h
  refine ⟨by split at d1 <;> split at d2 <;> omega, by split at d1 <;> split at d2 <;> omega, fun X Y X0 X1 Y0 Y1 => ?_⟩
  have d1' : wb = if s = 0 then wa else ha := by split at d1 <;> split at d2 <;> omega
  have d2' : hb = if s = 0 then ha else wa := by split at d1 <;> split at d2 <;> omega
  have i := gI_b (mx := if s = 0 then mx else my) (my := if s = 0 then my else mx) d1' d2' X0 X1 Y0 Y1
  have q := h _ _ i.1 i.2.1 i.2.2.1 i.2.2.2
  have e : gIx s mx my wb hb (gIx s (if s = 0 then mx else my) (if s = 0 then my else mx) wa ha X Y) (gIy s (if s = 0 then mx else my) (if s = 0 then my else mx) wa ha X Y) = X ∧ gIy s mx my wb hb (gIx s (if s = 0 then mx else my) (if s = 0 then my else mx) wa ha X Y) (gIy s (if s = 0 then mx else my) (if s = 0 then my else mx) wa ha X Y) = Y := by
    unfold gIx gIy
    by_cases c : s = 0 <;> by_cases c2 : mx = 0 <;> by_cases c3 : my = 0 <;> simp [c, c2, c3] at d1 d2 ⊢ <;> omega
  rw [e.1, e.2] at q
  exact q.symm
/-- two faces are like -/
def gLk (w h : Int) (L : Int → Int) (a b : Int) : Prop := zc (fun i => L i = a) 192 = zc (fun i => L i = b) 192 ∧ ∃ la ra ua ba lb rb ub bb, gBox (gD w h) L a la ra ua ba ∧ gBox (gD w h) L b lb rb ub bb ∧ ∃ s mx my, (s = 0 ∨ s = 1) ∧ (mx = 0 ∨ mx = 1) ∧ (my = 0 ∨ my = 1) ∧ gOn (zg w h L) a b la ua (ra - la + 1) (ba - ua + 1) lb ub (rb - lb + 1) (bb - ub + 1) s mx my
theorem gLk.sym {w h : Int} {L : Int → Int} {a b : Int} (H : gLk w h L a b) : gLk w h L b a := by
  obtain ⟨e, la, ra, ua, ba, lb, rb, ub, bb, A, B, s, mx, my, hs, hx, hy, g⟩ := H
  exact ⟨e.symm, lb, rb, ub, bb, la, ra, ua, ba, B, A, s, if s = 0 then mx else my, if s = 0 then my else mx, hs, by split <;> assumption, by split <;> assumption, g.sym⟩
/-- of given boxes -/
theorem gLk_box {w h : Int} {L : Int → Int} {a b la ra ua ba lb rb ub bb : Int} (A : gBox (gD w h) L a la ra ua ba) (B : gBox (gD w h) L b lb rb ub bb) : gLk w h L a b ↔ zc (fun i => L i = a) 192 = zc (fun i => L i = b) 192 ∧ ∃ s mx my, (s = 0 ∨ s = 1) ∧ (mx = 0 ∨ mx = 1) ∧ (my = 0 ∨ my = 1) ∧ gOn (zg w h L) a b la ua (ra - la + 1) (ba - ua + 1) lb ub (rb - lb + 1) (bb - ub + 1) s mx my := by
  constructor
  · rintro ⟨e, la', ra', ua', ba', lb', rb', ub', bb', A', B', g⟩
    obtain ⟨rfl, rfl, rfl, rfl⟩ := A.uq A'
    obtain ⟨rfl, rfl, rfl, rfl⟩ := B.uq B'
    exact ⟨e, g⟩
  · rintro ⟨e, g⟩
    exact ⟨e, la, ra, ua, ba, lb, rb, ub, bb, A, B, g⟩
theorem gBox.dom {w h : Int} {L : Int → Int} {f l r u b : Int} (hw : w ≤ 16) (hh : h ≤ 12) (hf : 0 ≤ f) (hn : ∀ i, 0 ≤ i → i < 192 → ¬ gD w h i → L i = -1) (H : gBox (fun k => 0 ≤ k ∧ k < 192) L f l r u b) : gBox (gD w h) L f l r u b := by
  have dD : ∀ i, (0 ≤ i ∧ i < 192) → L i = f → gD w h i := fun i i0 e => by
    apply Classical.byContradiction
    intro c
    have := hn i i0.1 i0.2 c
    omega
  obtain ⟨h0, ⟨x1, d1, e1, f1⟩, ⟨x2, d2, e2, f2⟩, ⟨x3, d3, e3, f3⟩, ⟨x4, d4, e4, f4⟩⟩ := H
  exact ⟨fun x d e => h0 x ⟨d.1, by omega⟩ e, ⟨x1, dD _ d1 e1, e1, f1⟩, ⟨x2, dD _ d2 e2, e2, f2⟩, ⟨x3, dD _ d3 e3, e3, f3⟩, ⟨x4, dD _ d4 e4, e4, f4⟩⟩
theorem zl124 {t : Int} (h0 : 0 ≤ t) (h : t < 8) : (zland t 1 = 0 ↔ t % 2 = 0) ∧ (zland t 2 = 0 ↔ t / 2 % 2 = 0) ∧ (zland t 4 = 0 ↔ t / 4 % 2 = 0) := by
  rcases zd8 h0 h with rfl | rfl | rfl | rfl | rfl | rfl | rfl | rfl <;> decide +kernel
abbrev pr_X9_isIn (f : Int) (x : Int) (y : Int) (M : zM) : Prop := (bDim M) ∧ (0 ≤ f ∧ f < 192) ∧ (0 ≤ M 8 f ∧ M 8 f ≤ 15) ∧ (0 ≤ M 9 f ∧ M 9 f ≤ 15) ∧ (-20 ≤ x ∧ x ≤ 20) ∧ (-20 ≤ y ∧ y ≤ 20)
abbrev po_X9_isIn (f : Int) (x : Int) (y : Int) (M : zM) (r : Int) (M' : zM) : Prop := (M' = M) ∧ (zB r (zg (M 1 0) (M 1 1) (M 12) (M 8 f + x) (M 9 f + y) = f))
set_option maxHeartbeats 1000000 in
theorem ok_X9_isIn : zSnd zS 145 0 0 yX9_isIn cX9_isIn 4 (some .boolean) 1 [2, 0, 0, 0] (F_X9_isIn pr_X9_isIn po_X9_isIn) := by
  refine (sn_X9_isIn ok_X2_faceAt).mono ?_
  rintro xs P M hz hR ⟨f, x, y, rfl, ⟨hd, hf, h8, h9, hx, hy⟩, hP⟩
  refine ⟨_, _, _, rfl, ?_⟩
  have z_f := zall_h (zall_t hz) (by decide)
  have z_x := zall_h (zall_t (zall_t hz)) (by decide)
  have z_y := zall_h (zall_t (zall_t (zall_t hz))) (by decide)
  change vc_X9_isIn pr_X2_faceAt po_X2_faceAt f x y P M
  unfold vc_X9_isIn
  have o1 : ((0 : Int) ≤ f ∧ f < 192) := by
    first | with_reducible assumption | omega | exact trivial | with_reducible rfl  -- o1
  refine ⟨o1, ?_⟩
  have o2 : zin ((M 9 f) + y) := by
    first | with_reducible assumption | omega | exact trivial | with_reducible rfl  -- o2
  refine ⟨o2, ?_⟩
  have o3 : zin ((M 8 f) + x) := by
    first | with_reducible assumption | omega | exact trivial | with_reducible rfl  -- o3
  refine ⟨o3, ?_⟩
  have gc1 : pr_X2_faceAt ((M 8 f) + x) ((M 9 f) + y) M := by
    show bDim M
    first | with_reducible assumption | omega | exact trivial | with_reducible rfl  -- c1.hd
  refine ⟨gc1, ?_⟩
  rintro r4 M5 ⟨q_rfl, e_r4⟩ z_r4 z_M5
  have q_rfl := q_rfl.symm
  subst q_rfl
  refine ⟨fun b1 => ?_, fun b1 => ?_⟩
  · -- b1.1
    refine hP _ _ ⟨?_, ?_⟩
    · show M = M  -- p1.rfl
      first | with_reducible assumption | omega | exact trivial | with_reducible rfl
    · show zB 0 (zg (M 1 0) (M 1 1) (M 12) (M 8 f + x) (M 9 f + y) = f)  -- p1.pb
      exact zB.f (by rw [show zg (M 1 0) (M 1 1) (M 12) (M 8 f + x) (M 9 f + y) = r4 from e_r4.symm]; exact b1)
  · -- b1.2
    refine hP _ _ ⟨?_, ?_⟩
    · show M = M  -- p2.rfl
      first | with_reducible assumption | omega | exact trivial | with_reducible rfl
    · show zB 1 (zg (M 1 0) (M 1 1) (M 12) (M 8 f + x) (M 9 f + y) = f)  -- p2.pb
      exact zB.t (by rw [show zg (M 1 0) (M 1 1) (M 12) (M 8 f + x) (M 9 f + y) = r4 from e_r4.symm]; exact b1)

abbrev pr_X9_liesOn (a : Int) (b : Int) (t : Int) (M : zM) : Prop := (bDim M) ∧ (bFok M) ∧ (0 ≤ a ∧ a < M 5 2) ∧ (0 ≤ b ∧ b < M 5 2) ∧ (0 ≤ t ∧ t < 8)
abbrev po_X9_liesOn (a : Int) (b : Int) (t : Int) (M : zM) (r : Int) (M' : zM) : Prop := (M' = M) ∧ (zB r (gSub (zg (M 1 0) (M 1 1) (M 12)) a b (M 8 a) (M 9 a) (M 10 a - M 8 a + 1) (M 11 a - M 9 a + 1) (M 8 b) (M 9 b) (M 10 b - M 8 b + 1) (M 11 b - M 9 b + 1) (t % 2) (t / 2 % 2) (t / 4 % 2)))
set_option maxHeartbeats 4000000 in
theorem ok_X9_liesOn : zSnd zS 145 0 0 yX9_liesOn cX9_liesOn 13 (some .boolean) 2 [2, 0, 0, 0] (F_X9_liesOn pr_X9_liesOn po_X9_liesOn) := by
  refine (sn_X9_liesOn ok_X2_width ok_X2_height ok_X9_isIn).mono ?_
  rintro xs P M hz hR ⟨a, b, t, rfl, ⟨hd, hF, ha, hb0, ht⟩, hP⟩
  refine ⟨_, _, _, rfl, ?_⟩
  have z_a := zall_h (zall_t hz) (by decide)
  have z_b := zall_h (zall_t (zall_t hz)) (by decide)
  have z_t := zall_h (zall_t (zall_t (zall_t hz))) (by decide)
  change vc_X9_liesOn pr_X2_width po_X2_width pr_X2_height po_X2_height pr_X9_isIn po_X9_isIn a b t P M
  unfold vc_X9_liesOn
  have hN := hF.N hd
  have hba := ((hF.2.2 a ha.1 ha.2).box (by omega) (by omega)).2
  have hbb := ((hF.2.2 b hb0.1 hb0.2).box (by omega) (by omega)).2
  have zl := zl124 ht.1 ht.2
  intro K11 h_K11
  have k_K11 : ∀ (v1 : Int), (zB v1 (¬ t % 2 = 0)) → K11 v1 := by
    intro v1 hk1
    refine h_K11 _ ?_
    intro z_v1
    have gc1 : pr_X2_width b M := by
      refine ⟨?_, ?_⟩
      · show 0 ≤ b ∧ b < 192  -- c1.hf
        first | with_reducible assumption | omega | exact trivial | with_reducible rfl
      · show 0 ≤ M 8 b ∧ M 8 b ≤ M 10 b ∧ M 10 b < 16  -- c1.hb
        omega
    refine ⟨gc1, ?_⟩
    rintro r3 M4 ⟨q_rfl, e_r3⟩ z_r3 z_M4
    have q_rfl := q_rfl.symm
    subst q_rfl
    have gc2 : pr_X2_height b M := by
      refine ⟨?_, ?_⟩
      · show 0 ≤ b ∧ b < 192  -- c2.hf
        first | with_reducible assumption | omega | exact trivial | with_reducible rfl
      · show 0 ≤ M 9 b ∧ M 9 b ≤ M 11 b ∧ M 11 b < 12  -- c2.hb
        omega
    refine ⟨gc2, ?_⟩
    rintro r9 M10 ⟨q_rfl, e_r9⟩ z_r9 z_M10
    have q_rfl := q_rfl.symm
    subst q_rfl
    have gc3 : pr_X2_width a M := by
      refine ⟨?_, ?_⟩
      · show 0 ≤ a ∧ a < 192  -- c3.hf
        first | with_reducible assumption | omega | exact trivial | with_reducible rfl
      · show 0 ≤ M 8 a ∧ M 8 a ≤ M 10 a ∧ M 10 a < 16  -- c3.hb
        omega
    refine ⟨gc3, ?_⟩
    rintro r15 M16 ⟨q_rfl, e_r15⟩ z_r15 z_M16
    have q_rfl := q_rfl.symm
    subst q_rfl
    intro K53 h_K53
    have k_K53 : ∀ (v21 : Int), (v21 = if t % 2 = 0 then M 10 b - M 8 b + 1 else M 11 b - M 9 b + 1) → K53 v21 := by
      intro v21 hk53
      refine h_K53 _ ?_
      intro z_v21
      refine ⟨fun b1 => ?_, fun b1 => ?_⟩
      · -- b1.1
        refine hP _ _ ⟨?_, ?_⟩
        · show M = M  -- p1.rfl
          first | with_reducible assumption | omega | exact trivial | with_reducible rfl
        · show zB 0 (gSub (zg (M 1 0) (M 1 1) (M 12)) a b (M 8 a) (M 9 a) (M 10 a - M 8 a + 1) (M 11 a - M 9 a + 1) (M 8 b) (M 9 b) (M 10 b - M 8 b + 1) (M 11 b - M 9 b + 1) (t % 2) (t / 2 % 2) (t / 4 % 2))  -- p1.pb
          exact zB.f (fun h => b1 (by rw [hk53, e_r15]; exact h.1))
      · -- b1.2
        have gc4 : pr_X2_height a M := by
          refine ⟨?_, ?_⟩
          · show 0 ≤ a ∧ a < 192  -- c4.hf
            first | with_reducible assumption | omega | exact trivial | with_reducible rfl
          · show 0 ≤ M 9 a ∧ M 9 a ≤ M 11 a ∧ M 11 a < 12  -- c4.hb
            omega
        refine ⟨gc4, ?_⟩
        rintro r24 M25 ⟨q_rfl, e_r24⟩ z_r24 z_M25
        have q_rfl := q_rfl.symm
        subst q_rfl
        intro K76 h_K76
        have k_K76 : ∀ (v30 : Int), (v30 = if t % 2 = 0 then M 11 b - M 9 b + 1 else M 10 b - M 8 b + 1) → K76 v30 := by
          intro v30 hk76
          refine h_K76 _ ?_
          intro z_v30
          refine ⟨fun b2 => ?_, fun b2 => ?_⟩
          · -- b2.1
            refine ⟨fun v33 M35 n37 => (n37 : Int) = (20 - v33) ∧ (0 ≤ v33 ∧ v33 ≤ M 11 a - M 9 a + 1) ∧ (M35 = M) ∧ (∀ x y, 0 ≤ x → x < M 10 a - M 8 a + 1 → 0 ≤ y → y < v33 → zg (M 1 0) (M 1 1) (M 12) (M 8 a + x) (M 9 a + y) = a → zg (M 1 0) (M 1 1) (M 12) (M 8 b + gTx (t % 2) (t / 2 % 2) (M 10 b - M 8 b + 1) x y) (M 9 b + gTy (t % 2) (t / 4 % 2) (M 11 b - M 9 b + 1) x y) = b), ⟨Int.toNat (20 - 0), by omega, ?_, ?_, ?_⟩, ?_⟩
            · show 0 ≤ 0 ∧ 0 ≤ M 11 a - M 9 a + 1  -- I84.0.hv
              first | with_reducible assumption | omega | exact trivial | with_reducible rfl
            · first | with_reducible assumption | omega | exact trivial | with_reducible rfl  -- I84.0.rfl
            · show ∀ x y, 0 ≤ x → x < M 10 a - M 8 a + 1 → 0 ≤ y → y < 0 → zg (M 1 0) (M 1 1) (M 12) (M 8 a + x) (M 9 a + y) = a → zg (M 1 0) (M 1 1) (M 12) (M 8 b + gTx (t % 2) (t / 2 % 2) (M 10 b - M 8 b + 1) x y) (M 9 b + gTy (t % 2) (t / 4 % 2) (M 11 b - M 9 b + 1) x y) = b  -- I84.0.hq
              intro x y _ _ y0 y1; omega
            rintro v33 M35 n37 ⟨h_n37, hv, q_rfl, hq⟩ z_v33 z_M35
            have q_rfl := q_rfl.symm
            subst q_rfl
            have gc5 : pr_X2_height a M := by
              refine ⟨?_, ?_⟩
              · show 0 ≤ a ∧ a < 192  -- c5.hf
                first | with_reducible assumption | omega | exact trivial | with_reducible rfl
              · show 0 ≤ M 9 a ∧ M 9 a ≤ M 11 a ∧ M 11 a < 12  -- c5.hb
                omega
            refine ⟨gc5, ?_⟩
            rintro r44 M45 ⟨q_rfl, e_r44⟩ z_r44 z_M45
            have q_rfl := q_rfl.symm
            subst q_rfl
            refine ⟨fun b3 => ?_, fun b3 => ?_⟩
            · -- b3.1
              refine hP _ _ ⟨?_, ?_⟩
              · show M = M  -- p2.rfl
                first | with_reducible assumption | omega | exact trivial | with_reducible rfl
              · show zB 1 (gSub (zg (M 1 0) (M 1 1) (M 12)) a b (M 8 a) (M 9 a) (M 10 a - M 8 a + 1) (M 11 a - M 9 a + 1) (M 8 b) (M 9 b) (M 10 b - M 8 b + 1) (M 11 b - M 9 b + 1) (t % 2) (t / 2 % 2) (t / 4 % 2))  -- p2.pb
                exact zB.t ⟨by rw [← hk53, ← b1, e_r15], by rw [← hk76, ← b2, e_r24], fun x y x0 x1 y0 y1 => hq x y x0 x1 y0 (by omega)⟩
            · -- b3.2
              refine ⟨fun v51 M53 n55 => (n55 : Int) = (20 - v51) ∧ (0 ≤ v51 ∧ v51 ≤ M 10 a - M 8 a + 1) ∧ (M53 = M) ∧ (∀ x y, 0 ≤ x → x < M 10 a - M 8 a + 1 → 0 ≤ y → (y < v33 ∨ (y = v33 ∧ x < v51)) → zg (M 1 0) (M 1 1) (M 12) (M 8 a + x) (M 9 a + y) = a → zg (M 1 0) (M 1 1) (M 12) (M 8 b + gTx (t % 2) (t / 2 % 2) (M 10 b - M 8 b + 1) x y) (M 9 b + gTy (t % 2) (t / 4 % 2) (M 11 b - M 9 b + 1) x y) = b), ⟨Int.toNat (20 - 0), by omega, ?_, ?_, ?_⟩, ?_⟩
              · show 0 ≤ 0 ∧ 0 ≤ M 10 a - M 8 a + 1  -- I100.0.hv2
                first | with_reducible assumption | omega | exact trivial | with_reducible rfl
              · first | with_reducible assumption | omega | exact trivial | with_reducible rfl  -- I100.0.rfl
              · show ∀ x y, 0 ≤ x → x < M 10 a - M 8 a + 1 → 0 ≤ y → (y < v33 ∨ (y = v33 ∧ x < 0)) → zg (M 1 0) (M 1 1) (M 12) (M 8 a + x) (M 9 a + y) = a → zg (M 1 0) (M 1 1) (M 12) (M 8 b + gTx (t % 2) (t / 2 % 2) (M 10 b - M 8 b + 1) x y) (M 9 b + gTy (t % 2) (t / 4 % 2) (M 11 b - M 9 b + 1) x y) = b  -- I100.0.hq2
                intro x y x0 x1 y0 k; exact hq x y x0 x1 y0 (by omega)
              rintro v51 M53 n55 ⟨h_n55, hv2, q_rfl, hq2⟩ z_v51 z_M53
              have q_rfl := q_rfl.symm
              subst q_rfl
              have gc6 : pr_X2_width a M := by
                refine ⟨?_, ?_⟩
                · show 0 ≤ a ∧ a < 192  -- c6.hf
                  first | with_reducible assumption | omega | exact trivial | with_reducible rfl
                · show 0 ≤ M 8 a ∧ M 8 a ≤ M 10 a ∧ M 10 a < 16  -- c6.hb
                  omega
              refine ⟨gc6, ?_⟩
              rintro r62 M63 ⟨q_rfl, e_r62⟩ z_r62 z_M63
              have q_rfl := q_rfl.symm
              subst q_rfl
              refine ⟨fun b4 => ?_, fun b4 => ?_⟩
              · -- b4.1
                have o1 : zin (v33 + 1) := by
                  first | with_reducible assumption | omega | exact trivial | with_reducible rfl  -- o1
                refine ⟨o1, ?_⟩
                refine ⟨Int.toNat (20 - (v33 + 1)), by omega, by omega, ?_, ?_, ?_⟩
                · show 0 ≤ (v33 + 1) ∧ (v33 + 1) ≤ M 11 a - M 9 a + 1  -- I84.1.hv
                  first | with_reducible assumption | omega | exact trivial | with_reducible rfl
                · first | with_reducible assumption | omega | exact trivial | with_reducible rfl  -- I84.1.rfl
                · show ∀ x y, 0 ≤ x → x < M 10 a - M 8 a + 1 → 0 ≤ y → y < (v33 + 1) → zg (M 1 0) (M 1 1) (M 12) (M 8 a + x) (M 9 a + y) = a → zg (M 1 0) (M 1 1) (M 12) (M 8 b + gTx (t % 2) (t / 2 % 2) (M 10 b - M 8 b + 1) x y) (M 9 b + gTy (t % 2) (t / 4 % 2) (M 11 b - M 9 b + 1) x y) = b  -- I84.1.hq
                  intro x y x0 x1 y0 k; exact hq2 x y x0 x1 y0 (by omega)
              · -- b4.2
                have tb := gT_b (s := t % 2) (mx := t / 2 % 2) (my := t / 4 % 2) (W := M 10 b - M 8 b + 1) (H := M 11 b - M 9 b + 1) (x := v51) (y := v33) (by rw [← hk53, ← b1, e_r15]) (by rw [← hk76, ← b2, e_r24]) hv2.1 (by omega) hv.1 (by omega)
                intro K125 h_K125
                have k_K125 : ∀ (v73 : Int), (v73 = if t % 2 = 0 then v51 else v33) → K125 v73 := by
                  intro v73 hk125
                  refine h_K125 _ ?_
                  intro z_v73
                  intro K139 h_K139
                  have k_K139 : ∀ (v75 : Int), (v75 = if t % 2 = 0 then v33 else v51) → K139 v75 := by
                    intro v75 hk139
                    refine h_K139 _ ?_
                    intro z_v75
                    intro K159 h_K159
                    have k_K159 : ∀ (v77 : Int), (v77 = gTx (t % 2) (t / 2 % 2) (M 10 b - M 8 b + 1) v51 v33) → K159 v77 := by
                      intro v77 hk159
                      refine h_K159 _ ?_
                      intro z_v77
                      intro K179 h_K179
                      have k_K179 : ∀ (v79 : Int), (v79 = gTy (t % 2) (t / 4 % 2) (M 11 b - M 9 b + 1) v51 v33) → K179 v79 := by
                        intro v79 hk179
                        refine h_K179 _ ?_
                        intro z_v79
                        have gc7 : pr_X9_isIn a v51 v33 M := by
                          refine ⟨?_, ?_, ?_, ?_, ?_, ?_⟩
                          · show bDim M  -- c7.hd
                            first | with_reducible assumption | omega | exact trivial | with_reducible rfl
                          · show 0 ≤ a ∧ a < 192  -- c7.hf
                            first | with_reducible assumption | omega | exact trivial | with_reducible rfl
                          · show 0 ≤ M 8 a ∧ M 8 a ≤ 15  -- c7.h8
                            omega
                          · show 0 ≤ M 9 a ∧ M 9 a ≤ 15  -- c7.h9
                            omega
                          · show -20 ≤ v51 ∧ v51 ≤ 20  -- c7.hx
                            omega
                          · show -20 ≤ v33 ∧ v33 ≤ 20  -- c7.hy
                            omega
                        refine ⟨gc7, ?_⟩
                        rintro r81 M82 ⟨q_rfl, pc7_pb⟩ z_r81 z_M82
                        have q_rfl := q_rfl.symm
                        subst q_rfl
                        refine ⟨fun b5 => ?_, fun b5 => ?_⟩
                        · -- b5.1
                          have o2 : zin (v51 + 1) := by
                            first | with_reducible assumption | omega | exact trivial | with_reducible rfl  -- o2
                          refine ⟨o2, ?_⟩
                          refine ⟨Int.toNat (20 - (v51 + 1)), by omega, by omega, ?_, ?_, ?_⟩
                          · show 0 ≤ (v51 + 1) ∧ (v51 + 1) ≤ M 10 a - M 8 a + 1  -- I100.1.hv2
                            first | with_reducible assumption | omega | exact trivial | with_reducible rfl
                          · first | with_reducible assumption | omega | exact trivial | with_reducible rfl  -- I100.1.rfl
                          · show ∀ x y, 0 ≤ x → x < M 10 a - M 8 a + 1 → 0 ≤ y → (y < v33 ∨ (y = v33 ∧ x < (v51 + 1))) → zg (M 1 0) (M 1 1) (M 12) (M 8 a + x) (M 9 a + y) = a → zg (M 1 0) (M 1 1) (M 12) (M 8 b + gTx (t % 2) (t / 2 % 2) (M 10 b - M 8 b + 1) x y) (M 9 b + gTy (t % 2) (t / 4 % 2) (M 11 b - M 9 b + 1) x y) = b  -- I100.1.hq2
                            intro x y x0 x1 y0 k e
                            by_cases c : x = v51 ∧ y = v33
                            · rw [c.1, c.2] at e; exact absurd e (pc7_pb.z.1 b5)
                            · exact hq2 x y x0 x1 y0 (by omega) e
                        · -- b5.2
                          have gc8 : pr_X9_isIn b v77 v79 M := by
                            refine ⟨?_, ?_, ?_, ?_, ?_, ?_⟩
                            · show bDim M  -- c8.hd
                              first | with_reducible assumption | omega | exact trivial | with_reducible rfl
                            · show 0 ≤ b ∧ b < 192  -- c8.hf
                              first | with_reducible assumption | omega | exact trivial | with_reducible rfl
                            · show 0 ≤ M 8 b ∧ M 8 b ≤ 15  -- c8.h8
                              omega
                            · show 0 ≤ M 9 b ∧ M 9 b ≤ 15  -- c8.h9
                              omega
                            · show -20 ≤ v77 ∧ v77 ≤ 20  -- c8.hx
                              omega
                            · show -20 ≤ v79 ∧ v79 ≤ 20  -- c8.hy
                              omega
                          refine ⟨gc8, ?_⟩
                          rintro r92 M93 ⟨q_rfl, pc8_pb⟩ z_r92 z_M93
                          have q_rfl := q_rfl.symm
                          subst q_rfl
                          rw [hk159, hk179] at pc8_pb
                          refine ⟨fun b6 => ?_, fun b6 => ?_⟩
                          · -- b6.1
                            have o3 : zin (v51 + 1) := by
                              first | with_reducible assumption | omega | exact trivial | with_reducible rfl  -- o3
                            refine ⟨o3, ?_⟩
                            refine ⟨Int.toNat (20 - (v51 + 1)), by omega, by omega, ?_, ?_, ?_⟩
                            · show 0 ≤ (v51 + 1) ∧ (v51 + 1) ≤ M 10 a - M 8 a + 1  -- I100.2.hv2
                              first | with_reducible assumption | omega | exact trivial | with_reducible rfl
                            · first | with_reducible assumption | omega | exact trivial | with_reducible rfl  -- I100.2.rfl
                            · show ∀ x y, 0 ≤ x → x < M 10 a - M 8 a + 1 → 0 ≤ y → (y < v33 ∨ (y = v33 ∧ x < (v51 + 1))) → zg (M 1 0) (M 1 1) (M 12) (M 8 a + x) (M 9 a + y) = a → zg (M 1 0) (M 1 1) (M 12) (M 8 b + gTx (t % 2) (t / 2 % 2) (M 10 b - M 8 b + 1) x y) (M 9 b + gTy (t % 2) (t / 4 % 2) (M 11 b - M 9 b + 1) x y) = b  -- I100.2.hq2
                              intro x y x0 x1 y0 k e
                              by_cases c : x = v51 ∧ y = v33
                              · rw [c.1, c.2]; exact pc8_pb.ne.1 b6
                              · exact hq2 x y x0 x1 y0 (by omega) e
                          · -- b6.2
                            refine hP _ _ ⟨?_, ?_⟩
                            · show M = M  -- p3.rfl
                              first | with_reducible assumption | omega | exact trivial | with_reducible rfl
                            · show zB 0 (gSub (zg (M 1 0) (M 1 1) (M 12)) a b (M 8 a) (M 9 a) (M 10 a - M 8 a + 1) (M 11 a - M 9 a + 1) (M 8 b) (M 9 b) (M 10 b - M 8 b + 1) (M 11 b - M 9 b + 1) (t % 2) (t / 2 % 2) (t / 4 % 2))  -- p3.pb
                              exact zB.f (fun h => pc8_pb.z.1 b6 (h.2.2 v51 v33 hv2.1 (by omega) hv.1 (by omega) (pc7_pb.ne.1 b5)))
                      refine ⟨fun b7 => ?_, fun b7 => ?_⟩
                      · -- b7.1
                        refine k_K179 _ ?_
                        · show v75 = gTy (t % 2) (t / 4 % 2) (M 11 b - M 9 b + 1) v51 v33  -- K179.1.hk179
                          unfold gTy; rw [if_pos (zl.2.2.1 b7)]; exact hk139
                      · -- b7.2
                        have o4 : zin ((r9 - 1) - v75) := by
                          first | with_reducible assumption | omega | exact trivial | with_reducible rfl  -- o4
                        refine ⟨o4, ?_⟩
                        refine k_K179 _ ?_
                        · show ((r9 - 1) - v75) = gTy (t % 2) (t / 4 % 2) (M 11 b - M 9 b + 1) v51 v33  -- K179.2.hk179
                          unfold gTy; rw [if_neg (fun h => b7 (zl.2.2.2 h)), ← hk139]; omega
                    refine ⟨fun b8 => ?_, fun b8 => ?_⟩
                    · -- b8.1
                      refine k_K159 _ ?_
                      · show v73 = gTx (t % 2) (t / 2 % 2) (M 10 b - M 8 b + 1) v51 v33  -- K159.1.hk159
                        unfold gTx; rw [if_pos (zl.2.1.1 b8)]; exact hk125
                    · -- b8.2
                      have o5 : zin ((r3 - 1) - v73) := by
                        first | with_reducible assumption | omega | exact trivial | with_reducible rfl  -- o5
                      refine ⟨o5, ?_⟩
                      refine k_K159 _ ?_
                      · show ((r3 - 1) - v73) = gTx (t % 2) (t / 2 % 2) (M 10 b - M 8 b + 1) v51 v33  -- K159.2.hk159
                        unfold gTx; rw [if_neg (fun h => b8 (zl.2.1.2 h)), ← hk125]; omega
                  refine ⟨fun b9 => ?_, fun b9 => ?_⟩
                  · -- b9.1
                    refine k_K139 _ ?_
                    · show v33 = if t % 2 = 0 then v33 else v51  -- K139.1.hk139
                      rw [if_pos (by have := hk1.z.1 b9; omega)]
                  · -- b9.2
                    refine k_K139 _ ?_
                    · show v51 = if t % 2 = 0 then v33 else v51  -- K139.2.hk139
                      rw [if_neg (hk1.ne.1 b9)]
                refine ⟨fun b10 => ?_, fun b10 => ?_⟩
                · -- b10.1
                  refine k_K125 _ ?_
                  · show v51 = if t % 2 = 0 then v51 else v33  -- K125.1.hk125
                    rw [if_pos (by have := hk1.z.1 b10; omega)]
                · -- b10.2
                  refine k_K125 _ ?_
                  · show v33 = if t % 2 = 0 then v51 else v33  -- K125.2.hk125
                    rw [if_neg (hk1.ne.1 b10)]
          · -- b2.2
            refine hP _ _ ⟨?_, ?_⟩
            · show M = M  -- p4.rfl
              first | with_reducible assumption | omega | exact trivial | with_reducible rfl
            · show zB 0 (gSub (zg (M 1 0) (M 1 1) (M 12)) a b (M 8 a) (M 9 a) (M 10 a - M 8 a + 1) (M 11 a - M 9 a + 1) (M 8 b) (M 9 b) (M 10 b - M 8 b + 1) (M 11 b - M 9 b + 1) (t % 2) (t / 2 % 2) (t / 4 % 2))  -- p4.pb
              exact zB.f (fun h => b2 (by rw [hk76, e_r24]; exact h.2.1))
        refine ⟨fun b11 => ?_, fun b11 => ?_⟩
        · -- b11.1
          refine k_K76 _ ?_
          · show r9 = if t % 2 = 0 then M 11 b - M 9 b + 1 else M 10 b - M 8 b + 1  -- K76.1.hk76
            rw [if_pos (by have := hk1.z.1 b11; omega)]; exact e_r9
        · -- b11.2
          refine k_K76 _ ?_
          · show r3 = if t % 2 = 0 then M 11 b - M 9 b + 1 else M 10 b - M 8 b + 1  -- K76.2.hk76
            rw [if_neg (hk1.ne.1 b11)]; exact e_r3
    refine ⟨fun b12 => ?_, fun b12 => ?_⟩
    · -- b12.1
      refine k_K53 _ ?_
      · show r3 = if t % 2 = 0 then M 10 b - M 8 b + 1 else M 11 b - M 9 b + 1  -- K53.1.hk53
        rw [if_pos (by have := hk1.z.1 b12; omega)]; exact e_r3
    · -- b12.2
      refine k_K53 _ ?_
      · show r9 = if t % 2 = 0 then M 10 b - M 8 b + 1 else M 11 b - M 9 b + 1  -- K53.2.hk53
        rw [if_neg (hk1.ne.1 b12)]; exact e_r9
  refine ⟨fun b13 => ?_, fun b13 => ?_⟩
  · -- b13.1
    refine k_K11 _ ?_
    · show zB 0 (¬ t % 2 = 0)  -- K11.1.hk1
      exact zB.f (fun h => h (zl.1.1 b13))
  · -- b13.2
    refine k_K11 _ ?_
    · show zB 1 (¬ t % 2 = 0)  -- K11.2.hk1
      exact zB.t (fun h => b13 (zl.1.2 h))

abbrev pr_X9_areLike (a : Int) (b : Int) (M : zM) : Prop := (bDim M) ∧ (bFok M) ∧ (0 ≤ a ∧ a < M 5 2) ∧ (0 ≤ b ∧ b < M 5 2)
abbrev po_X9_areLike (a : Int) (b : Int) (M : zM) (r : Int) (M' : zM) : Prop := (M' = M) ∧ (zB r (gLk (M 1 0) (M 1 1) (M 12) a b))
set_option maxHeartbeats 1000000 in
theorem ok_X9_areLike : zSnd zS 145 0 0 yX9_areLike cX9_areLike 4 (some .boolean) 3 [2, 0, 0] (F_X9_areLike pr_X9_areLike po_X9_areLike) := by
  refine (sn_X9_areLike ok_X9_liesOn).mono ?_
  rintro xs P M hz hR ⟨a, b, rfl, ⟨hd, hF, ha, hb0⟩, hP⟩
  refine ⟨_, _, rfl, ?_⟩
  have z_a := zall_h (zall_t hz) (by decide)
  have z_b := zall_h (zall_t (zall_t hz)) (by decide)
  change vc_X9_areLike pr_X9_liesOn po_X9_liesOn a b P M
  unfold vc_X9_areLike
  have hN := hF.N hd
  have A := hF.2.2 a ha.1 ha.2
  have B := hF.2.2 b hb0.1 hb0.2
  have E := gLk_box A.2 B.2
  rw [← A.1, ← B.1] at E
  have o1 : ((0 : Int) ≤ a ∧ a < 192) := by
    first | with_reducible assumption | omega | exact trivial | with_reducible rfl  -- o1
  refine ⟨o1, ?_⟩
  have o2 : ((0 : Int) ≤ b ∧ b < 192) := by
    first | with_reducible assumption | omega | exact trivial | with_reducible rfl  -- o2
  refine ⟨o2, ?_⟩
  refine ⟨fun b1 => ?_, fun b1 => ?_⟩
  · -- b1.1
    have ON : ∀ s mx my, gSub (zg (M 1 0) (M 1 1) (M 12)) a b (M 8 a) (M 9 a) (M 10 a - M 8 a + 1) (M 11 a - M 9 a + 1) (M 8 b) (M 9 b) (M 10 b - M 8 b + 1) (M 11 b - M 9 b + 1) s mx my → gOn (zg (M 1 0) (M 1 1) (M 12)) a b (M 8 a) (M 9 a) (M 10 a - M 8 a + 1) (M 11 a - M 9 a + 1) (M 8 b) (M 9 b) (M 10 b - M 8 b + 1) (M 11 b - M 9 b + 1) s mx my := fun s mx my g => gSub.on (by omega) (by omega) ha.1 hb0.1 hF.2.1 A.2 B.2 (by rw [← A.1, ← B.1]; exact b1) g
    refine ⟨fun v4 M6 n8 => (n8 : Int) = (8 - v4) ∧ (0 ≤ v4 ∧ v4 ≤ 8) ∧ (M6 = M) ∧ (∀ t, 0 ≤ t → t < v4 → ¬ gSub (zg (M 1 0) (M 1 1) (M 12)) a b (M 8 a) (M 9 a) (M 10 a - M 8 a + 1) (M 11 a - M 9 a + 1) (M 8 b) (M 9 b) (M 10 b - M 8 b + 1) (M 11 b - M 9 b + 1) (t % 2) (t / 2 % 2) (t / 4 % 2)), ⟨Int.toNat (8 - 0), by omega, ?_, ?_, ?_⟩, ?_⟩
    · show 0 ≤ 0 ∧ 0 ≤ 8  -- I25.0.hv
      first | with_reducible assumption | omega | exact trivial | with_reducible rfl
    · first | with_reducible assumption | omega | exact trivial | with_reducible rfl  -- I25.0.rfl
    · show ∀ t, 0 ≤ t → t < 0 → ¬ gSub (zg (M 1 0) (M 1 1) (M 12)) a b (M 8 a) (M 9 a) (M 10 a - M 8 a + 1) (M 11 a - M 9 a + 1) (M 8 b) (M 9 b) (M 10 b - M 8 b + 1) (M 11 b - M 9 b + 1) (t % 2) (t / 2 % 2) (t / 4 % 2)  -- I25.0.hq
      intro t t0 t1; omega
    rintro v4 M6 n8 ⟨h_n8, hv, q_rfl, hq⟩ z_v4 z_M6
    have q_rfl := q_rfl.symm
    subst q_rfl
    refine ⟨fun b2 => ?_, fun b2 => ?_⟩
    · -- b2.1
      refine hP _ _ ⟨?_, ?_⟩
      · show M = M  -- p1.rfl
        first | with_reducible assumption | omega | exact trivial | with_reducible rfl
      · show zB 0 (gLk (M 1 0) (M 1 1) (M 12) a b)  -- p1.pb
        refine zB.f (fun h => ?_)
        obtain ⟨_, s, mx, my, hs, hx, hy, g⟩ := E.1 h
        refine hq (s + 2 * mx + 4 * my) (by omega) (by omega) ?_
        rw [show (s + 2 * mx + 4 * my) % 2 = s by omega, show (s + 2 * mx + 4 * my) / 2 % 2 = mx by omega, show (s + 2 * mx + 4 * my) / 4 % 2 = my by omega]
        exact g.sub
    · -- b2.2
      have gc1 : pr_X9_liesOn a b v4 M := by
        refine ⟨?_, ?_, ?_, ?_, ?_⟩
        · show bDim M  -- c1.hd
          first | with_reducible assumption | omega | exact trivial | with_reducible rfl
        · show bFok M  -- c1.hF
          first | with_reducible assumption | omega | exact trivial | with_reducible rfl
        · show 0 ≤ a ∧ a < M 5 2  -- c1.ha
          first | with_reducible assumption | omega | exact trivial | with_reducible rfl
        · show 0 ≤ b ∧ b < M 5 2  -- c1.hb0
          first | with_reducible assumption | omega | exact trivial | with_reducible rfl
        · show 0 ≤ v4 ∧ v4 < 8  -- c1.ht
          first | with_reducible assumption | omega | exact trivial | with_reducible rfl
      refine ⟨gc1, ?_⟩
      rintro r16 M17 ⟨q_rfl, pc1_pb⟩ z_r16 z_M17
      have q_rfl := q_rfl.symm
      subst q_rfl
      refine ⟨fun b3 => ?_, fun b3 => ?_⟩
      · -- b3.1
        have o3 : zin (v4 + 1) := by
          first | with_reducible assumption | omega | exact trivial | with_reducible rfl  -- o3
        refine ⟨o3, ?_⟩
        refine ⟨Int.toNat (8 - (v4 + 1)), by omega, by omega, ?_, ?_, ?_⟩
        · show 0 ≤ (v4 + 1) ∧ (v4 + 1) ≤ 8  -- I25.1.hv
          first | with_reducible assumption | omega | exact trivial | with_reducible rfl
        · first | with_reducible assumption | omega | exact trivial | with_reducible rfl  -- I25.1.rfl
        · show ∀ t, 0 ≤ t → t < (v4 + 1) → ¬ gSub (zg (M 1 0) (M 1 1) (M 12)) a b (M 8 a) (M 9 a) (M 10 a - M 8 a + 1) (M 11 a - M 9 a + 1) (M 8 b) (M 9 b) (M 10 b - M 8 b + 1) (M 11 b - M 9 b + 1) (t % 2) (t / 2 % 2) (t / 4 % 2)  -- I25.1.hq
          intro t t0 t1
          by_cases c : t = v4
          · subst c; exact pc1_pb.z.1 b3
          · exact hq t t0 (by omega)
      · -- b3.2
        refine hP _ _ ⟨?_, ?_⟩
        · show M = M  -- p2.rfl
          first | with_reducible assumption | omega | exact trivial | with_reducible rfl
        · show zB 1 (gLk (M 1 0) (M 1 1) (M 12) a b)  -- p2.pb
          exact zB.t (E.2 ⟨b1, v4 % 2, v4 / 2 % 2, v4 / 4 % 2, by omega, by omega, by omega, ON _ _ _ (pc1_pb.ne.1 b3)⟩)
  · -- b1.2
    refine hP _ _ ⟨?_, ?_⟩
    · show M = M  -- p3.rfl
      first | with_reducible assumption | omega | exact trivial | with_reducible rfl
    · show zB 0 (gLk (M 1 0) (M 1 1) (M 12) a b)  -- p3.pb
      exact zB.f (fun h => b1 (E.1 h).1)

/-- the first face that is like one -/
def gLd (w h : Int) (L : Int → Int) (f r : Int) : Prop := 0 ≤ r ∧ r ≤ f ∧ (r = f ∨ gLk w h L r f) ∧ ∀ g, 0 ≤ g → g < r → ¬ gLk w h L g f
theorem gLd.uq {w h : Int} {L : Int → Int} {f r q : Int} (a : gLd w h L f r) (b : gLd w h L f q) : r = q := by
  obtain ⟨a1, a2, a3, a4⟩ := a
  obtain ⟨b1, b2, b3, b4⟩ := b
  apply Classical.byContradiction
  intro c
  rcases Int.lt_or_gt_of_ne c with k | k
  · rcases a3 with e | e
    · omega
    · exact b4 r a1 k e
  · rcases b3 with e | e
    · omega
    · exact a4 q b1 k e
abbrev pr_X9_firstLike (f : Int) (M : zM) : Prop := (bDim M) ∧ (bFok M) ∧ (0 ≤ f ∧ f < M 5 2)
abbrev po_X9_firstLike (f : Int) (M : zM) (r : Int) (M' : zM) : Prop := (M' = M) ∧ (gLd (M 1 0) (M 1 1) (M 12) f r)
set_option maxHeartbeats 1000000 in
theorem ok_X9_firstLike : zSnd zS 145 0 0 yX9_firstLike cX9_firstLike 3 (some .int) 4 [2, 0] (F_X9_firstLike pr_X9_firstLike po_X9_firstLike) := by
  refine (sn_X9_firstLike ok_X9_areLike).mono ?_
  rintro xs P M hz hR ⟨f, rfl, ⟨hd, hF, ha⟩, hP⟩
  refine ⟨_, rfl, ?_⟩
  have z_f := zall_h (zall_t hz) (by decide)
  change vc_X9_firstLike pr_X9_areLike po_X9_areLike f P M
  unfold vc_X9_firstLike
  have hN := hF.N hd
  refine ⟨fun v1 M3 n5 => (n5 : Int) = (192 - v1) ∧ (0 ≤ v1 ∧ v1 ≤ f) ∧ (M3 = M) ∧ (∀ g, 0 ≤ g → g < v1 → ¬ gLk (M 1 0) (M 1 1) (M 12) g f), ⟨Int.toNat (192 - 0), by omega, ?_, ?_, ?_⟩, ?_⟩
  · show 0 ≤ 0 ∧ 0 ≤ f  -- I2.0.hv
    first | with_reducible assumption | omega | exact trivial | with_reducible rfl
  · first | with_reducible assumption | omega | exact trivial | with_reducible rfl  -- I2.0.rfl
  · show ∀ g, 0 ≤ g → g < 0 → ¬ gLk (M 1 0) (M 1 1) (M 12) g f  -- I2.0.hq
    intro g g0 g1; omega
  rintro v1 M3 n5 ⟨h_n5, hv, q_rfl, hq⟩ z_v1 z_M3
  have q_rfl := q_rfl.symm
  subst q_rfl
  refine ⟨fun b1 => ?_, fun b1 => ?_⟩
  · -- b1.1
    refine hP _ _ ⟨?_, ?_⟩
    · show M = M  -- p1.rfl
      first | with_reducible assumption | omega | exact trivial | with_reducible rfl
    · show gLd (M 1 0) (M 1 1) (M 12) f f  -- p1.hr
      exact ⟨ha.1, by omega, .inl rfl, fun g g0 g1 => hq g g0 (by omega)⟩
  · -- b1.2
    have gc1 : pr_X9_areLike v1 f M := by
      refine ⟨?_, ?_, ?_, ?_⟩
      · show bDim M  -- c1.hd
        first | with_reducible assumption | omega | exact trivial | with_reducible rfl
      · show bFok M  -- c1.hF
        first | with_reducible assumption | omega | exact trivial | with_reducible rfl
      · show 0 ≤ v1 ∧ v1 < M 5 2  -- c1.ha
        first | with_reducible assumption | omega | exact trivial | with_reducible rfl
      · show 0 ≤ f ∧ f < M 5 2  -- c1.hb0
        first | with_reducible assumption | omega | exact trivial | with_reducible rfl
    refine ⟨gc1, ?_⟩
    rintro r13 M14 ⟨q_rfl, pc1_pb⟩ z_r13 z_M14
    have q_rfl := q_rfl.symm
    subst q_rfl
    refine ⟨fun b2 => ?_, fun b2 => ?_⟩
    · -- b2.1
      have o1 : zin (v1 + 1) := by
        first | with_reducible assumption | omega | exact trivial | with_reducible rfl  -- o1
      refine ⟨o1, ?_⟩
      refine ⟨Int.toNat (192 - (v1 + 1)), by omega, by omega, ?_, ?_, ?_⟩
      · show 0 ≤ (v1 + 1) ∧ (v1 + 1) ≤ f  -- I2.1.hv
        first | with_reducible assumption | omega | exact trivial | with_reducible rfl
      · first | with_reducible assumption | omega | exact trivial | with_reducible rfl  -- I2.1.rfl
      · show ∀ g, 0 ≤ g → g < (v1 + 1) → ¬ gLk (M 1 0) (M 1 1) (M 12) g f  -- I2.1.hq
        intro g g0 g1
        by_cases c : g = v1
        · subst c; exact pc1_pb.z.1 b2
        · exact hq g g0 (by omega)
    · -- b2.2
      refine hP _ _ ⟨?_, ?_⟩
      · show M = M  -- p2.rfl
        first | with_reducible assumption | omega | exact trivial | with_reducible rfl
      · show gLd (M 1 0) (M 1 1) (M 12) f v1  -- p2.hr
        exact ⟨hv.1, hv.2, .inr (pc1_pb.ne.1 b2), hq⟩

abbrev pr_X9_countLike (f : Int) (M : zM) : Prop := (bDim M) ∧ (bFok M) ∧ (0 ≤ f ∧ f < M 5 2)
abbrev po_X9_countLike (f : Int) (M : zM) (r : Int) (M' : zM) : Prop := M' = M ∧ r = zc (fun g => gLk (M 1 0) (M 1 1) (M 12) g f) (M 5 2)
set_option maxHeartbeats 1000000 in
theorem ok_X9_countLike : zSnd zS 145 0 0 yX9_countLike cX9_countLike 4 (some .int) 4 [2, 0] (F_X9_countLike pr_X9_countLike po_X9_countLike) := by
  refine (sn_X9_countLike ok_X9_areLike).mono ?_
  rintro xs P M hz hR ⟨f, rfl, ⟨hd, hF, ha⟩, hP⟩
  refine ⟨_, rfl, ?_⟩
  have z_f := zall_h (zall_t hz) (by decide)
  change vc_X9_countLike pr_X9_areLike po_X9_areLike f P M
  unfold vc_X9_countLike
  have hN := hF.N hd
  refine ⟨fun v1 v2 M5 n7 => (n7 : Int) = (192 - v2) ∧ (0 ≤ v2 ∧ v2 ≤ M 5 2) ∧ (M5 = M) ∧ (v1 = zc (fun g => gLk (M 1 0) (M 1 1) (M 12) g f) v2), ⟨Int.toNat (192 - 0), by omega, ?_, ?_, ?_⟩, ?_⟩
  · show 0 ≤ 0 ∧ 0 ≤ M 5 2  -- I4.0.hv
    first | with_reducible assumption | omega | exact trivial | with_reducible rfl
  · first | with_reducible assumption | omega | exact trivial | with_reducible rfl  -- I4.0.rfl
  · show 0 = zc (fun g => gLk (M 1 0) (M 1 1) (M 12) g f) 0  -- I4.0.h1
    rfl
  rintro v1 v2 M5 n7 ⟨h_n7, hv, q_rfl, h1⟩ z_v1 z_v2 z_M5
  have q_rfl := q_rfl.symm
  subst q_rfl
  have u := zc_b (fun g => gLk (M 1 0) (M 1 1) (M 12) g f) v2 hv.1
  refine ⟨fun b1 => ?_, fun b1 => ?_⟩
  · -- b1.1
    refine hP _ _ ⟨rfl, ?_⟩
    · rw [h1, show v2 = M 5 2 by omega]  -- p1
  · -- b1.2
    have gc1 : pr_X9_areLike v2 f M := by
      refine ⟨?_, ?_, ?_, ?_⟩
      · show bDim M  -- c1.hd
        first | with_reducible assumption | omega | exact trivial | with_reducible rfl
      · show bFok M  -- c1.hF
        first | with_reducible assumption | omega | exact trivial | with_reducible rfl
      · show 0 ≤ v2 ∧ v2 < M 5 2  -- c1.ha
        first | with_reducible assumption | omega | exact trivial | with_reducible rfl
      · show 0 ≤ f ∧ f < M 5 2  -- c1.hb0
        first | with_reducible assumption | omega | exact trivial | with_reducible rfl
    refine ⟨gc1, ?_⟩
    rintro r15 M16 ⟨q_rfl, pc1_pb⟩ z_r15 z_M16
    have q_rfl := q_rfl.symm
    subst q_rfl
    refine ⟨fun b2 => ?_, fun b2 => ?_⟩
    · -- b2.1
      have o1 : zin (v2 + 1) := by
        first | with_reducible assumption | omega | exact trivial | with_reducible rfl  -- o1
      refine ⟨o1, ?_⟩
      refine ⟨Int.toNat (192 - (v2 + 1)), by omega, by omega, ?_, ?_, ?_⟩
      · show 0 ≤ (v2 + 1) ∧ (v2 + 1) ≤ M 5 2  -- I4.1.hv
        first | with_reducible assumption | omega | exact trivial | with_reducible rfl
      · first | with_reducible assumption | omega | exact trivial | with_reducible rfl  -- I4.1.rfl
      · show v1 = zc (fun g => gLk (M 1 0) (M 1 1) (M 12) g f) (v2 + 1)  -- I4.1.h1
        rw [zc_n hv.1 (pc1_pb.z.1 b2)]; exact h1
    · -- b2.2
      have o2 : zin (v1 + 1) := by
        first | with_reducible assumption | omega | exact trivial | with_reducible rfl  -- o2
      refine ⟨o2, ?_⟩
      have o3 : zin (v2 + 1) := by
        first | with_reducible assumption | omega | exact trivial | with_reducible rfl  -- o3
      refine ⟨o3, ?_⟩
      refine ⟨Int.toNat (192 - (v2 + 1)), by omega, by omega, ?_, ?_, ?_⟩
      · show 0 ≤ (v2 + 1) ∧ (v2 + 1) ≤ M 5 2  -- I4.2.hv
        first | with_reducible assumption | omega | exact trivial | with_reducible rfl
      · first | with_reducible assumption | omega | exact trivial | with_reducible rfl  -- I4.2.rfl
      · show (v1 + 1) = zc (fun g => gLk (M 1 0) (M 1 1) (M 12) g f) (v2 + 1)  -- I4.2.h1
        rw [zc_p hv.1 (pc1_pb.ne.1 b2)]; omega

abbrev pr_X9_countLeaders (M : zM) : Prop := (bDim M) ∧ (bFok M)
abbrev po_X9_countLeaders (M : zM) (r : Int) (M' : zM) : Prop := M' = M ∧ r = zc (fun g => gLd (M 1 0) (M 1 1) (M 12) g g) (M 5 2)
set_option maxHeartbeats 1000000 in
theorem ok_X9_countLeaders : zSnd zS 145 0 0 yX9_countLeaders cX9_countLeaders 3 (some .int) 5 [2] (F_X9_countLeaders pr_X9_countLeaders po_X9_countLeaders) := by
  refine (sn_X9_countLeaders ok_X9_firstLike).mono ?_
  rintro xs P M hz hR ⟨rfl, ⟨hd, hF⟩, hP⟩
  refine ⟨rfl, ?_⟩
  change vc_X9_countLeaders pr_X9_firstLike po_X9_firstLike P M
  unfold vc_X9_countLeaders
  have hN := hF.N hd
  refine ⟨fun v1 v2 M5 n7 => (n7 : Int) = (192 - v2) ∧ (0 ≤ v2 ∧ v2 ≤ M 5 2) ∧ (M5 = M) ∧ (v1 = zc (fun g => gLd (M 1 0) (M 1 1) (M 12) g g) v2), ⟨Int.toNat (192 - 0), by omega, ?_, ?_, ?_⟩, ?_⟩
  · show 0 ≤ 0 ∧ 0 ≤ M 5 2  -- I4.0.hv
    first | with_reducible assumption | omega | exact trivial | with_reducible rfl
  · first | with_reducible assumption | omega | exact trivial | with_reducible rfl  -- I4.0.rfl
  · show 0 = zc (fun g => gLd (M 1 0) (M 1 1) (M 12) g g) 0  -- I4.0.h1
    rfl
  rintro v1 v2 M5 n7 ⟨h_n7, hv, q_rfl, h1⟩ z_v1 z_v2 z_M5
  have q_rfl := q_rfl.symm
  subst q_rfl
  have u := zc_b (fun g => gLd (M 1 0) (M 1 1) (M 12) g g) v2 hv.1
  refine ⟨fun b1 => ?_, fun b1 => ?_⟩
  · -- b1.1
    refine hP _ _ ⟨rfl, ?_⟩
    · rw [h1, show v2 = M 5 2 by omega]  -- p1
  · -- b1.2
    have gc1 : pr_X9_firstLike v2 M := by
      refine ⟨?_, ?_, ?_⟩
      · show bDim M  -- c1.hd
        first | with_reducible assumption | omega | exact trivial | with_reducible rfl
      · show bFok M  -- c1.hF
        first | with_reducible assumption | omega | exact trivial | with_reducible rfl
      · show 0 ≤ v2 ∧ v2 < M 5 2  -- c1.ha
        first | with_reducible assumption | omega | exact trivial | with_reducible rfl
    refine ⟨gc1, ?_⟩
    rintro r15 M16 ⟨q_rfl, pc1_hr⟩ z_r15 z_M16
    have q_rfl := q_rfl.symm
    subst q_rfl
    refine ⟨fun b2 => ?_, fun b2 => ?_⟩
    · -- b2.1
      have o1 : zin (v2 + 1) := by
        first | with_reducible assumption | omega | exact trivial | with_reducible rfl  -- o1
      refine ⟨o1, ?_⟩
      refine ⟨Int.toNat (192 - (v2 + 1)), by omega, by omega, ?_, ?_, ?_⟩
      · show 0 ≤ (v2 + 1) ∧ (v2 + 1) ≤ M 5 2  -- I4.1.hv
        first | with_reducible assumption | omega | exact trivial | with_reducible rfl
      · first | with_reducible assumption | omega | exact trivial | with_reducible rfl  -- I4.1.rfl
      · show v1 = zc (fun g => gLd (M 1 0) (M 1 1) (M 12) g g) (v2 + 1)  -- I4.1.h1
        rw [zc_n (p := fun g => gLd (M 1 0) (M 1 1) (M 12) g g) hv.1 (fun h => b2 (pc1_hr.uq h))]; exact h1
    · -- b2.2
      have o2 : zin (v1 + 1) := by
        first | with_reducible assumption | omega | exact trivial | with_reducible rfl  -- o2
      refine ⟨o2, ?_⟩
      have o3 : zin (v2 + 1) := by
        first | with_reducible assumption | omega | exact trivial | with_reducible rfl  -- o3
      refine ⟨o3, ?_⟩
      refine ⟨Int.toNat (192 - (v2 + 1)), by omega, by omega, ?_, ?_, ?_⟩
      · show 0 ≤ (v2 + 1) ∧ (v2 + 1) ≤ M 5 2  -- I4.2.hv
        first | with_reducible assumption | omega | exact trivial | with_reducible rfl
      · first | with_reducible assumption | omega | exact trivial | with_reducible rfl  -- I4.2.rfl
      · show (v1 + 1) = zc (fun g => gLd (M 1 0) (M 1 1) (M 12) g g) (v2 + 1)  -- I4.2.h1
        rw [zc_p (p := fun g => gLd (M 1 0) (M 1 1) (M 12) g g) hv.1 (by rw [b2] at pc1_hr; exact pc1_hr)]; omega

/-- by how many dots they differ, box on box -/
noncomputable def gDf (G : Int → Int → Int) (a b la ua wa ha lb ub wb hb : Int) : Int := if wa = wb ∧ ha = hb then zc (fun k => k % 16 < wa ∧ k / 16 < ha ∧ ¬ (G (la + k % 16) (ua + k / 16) = a ↔ G (lb + k % 16) (ub + k / 16) = b)) 192 else -4
abbrev pr_X9_difference (a : Int) (b : Int) (M : zM) : Prop := (bDim M) ∧ (bFok M) ∧ (0 ≤ a ∧ a < M 5 2) ∧ (0 ≤ b ∧ b < M 5 2)
abbrev po_X9_difference (a : Int) (b : Int) (M : zM) (r : Int) (M' : zM) : Prop := M' = M ∧ r = gDf (zg (M 1 0) (M 1 1) (M 12)) a b (M 8 a) (M 9 a) (M 10 a - M 8 a + 1) (M 11 a - M 9 a + 1) (M 8 b) (M 9 b) (M 10 b - M 8 b + 1) (M 11 b - M 9 b + 1)
set_option maxHeartbeats 1000000 in
theorem ok_X9_difference : zSnd zS 145 0 0 yX9_difference cX9_difference 6 (some .int) 2 [2, 0, 0] (F_X9_difference pr_X9_difference po_X9_difference) := by
  refine (sn_X9_difference ok_X2_width ok_X2_height ok_X9_isIn).mono ?_
  rintro xs P M hz hR ⟨a, b, rfl, ⟨hd, hF, ha, hb0⟩, hP⟩
  refine ⟨_, _, rfl, ?_⟩
  have z_a := zall_h (zall_t hz) (by decide)
  have z_b := zall_h (zall_t (zall_t hz)) (by decide)
  change vc_X9_difference pr_X2_width po_X2_width pr_X2_height po_X2_height pr_X9_isIn po_X9_isIn a b P M
  unfold vc_X9_difference
  have hN := hF.N hd
  have hba := ((hF.2.2 a ha.1 ha.2).box (by omega) (by omega)).2
  have hbb := ((hF.2.2 b hb0.1 hb0.2).box (by omega) (by omega)).2
  have gc1 : pr_X2_width a M := by
    refine ⟨?_, ?_⟩
    · show 0 ≤ a ∧ a < 192  -- c1.hf
      first | with_reducible assumption | omega | exact trivial | with_reducible rfl
    · show 0 ≤ M 8 a ∧ M 8 a ≤ M 10 a ∧ M 10 a < 16  -- c1.hb
      omega
  refine ⟨gc1, ?_⟩
  rintro r1 M2 ⟨q_rfl, e_r1⟩ z_r1 z_M2
  have q_rfl := q_rfl.symm
  subst q_rfl
  have gc2 : pr_X2_width b M := by
    refine ⟨?_, ?_⟩
    · show 0 ≤ b ∧ b < 192  -- c2.hf
      first | with_reducible assumption | omega | exact trivial | with_reducible rfl
    · show 0 ≤ M 8 b ∧ M 8 b ≤ M 10 b ∧ M 10 b < 16  -- c2.hb
      omega
  refine ⟨gc2, ?_⟩
  rintro r7 M8 ⟨q_rfl, e_r7⟩ z_r7 z_M8
  have q_rfl := q_rfl.symm
  subst q_rfl
  refine ⟨fun b1 => ?_, fun b1 => ?_⟩
  · -- b1.1
    refine hP _ _ ⟨rfl, ?_⟩
    · unfold gDf; rw [if_neg (by omega)]  -- p1
  · -- b1.2
    have gc3 : pr_X2_height a M := by
      refine ⟨?_, ?_⟩
      · show 0 ≤ a ∧ a < 192  -- c3.hf
        first | with_reducible assumption | omega | exact trivial | with_reducible rfl
      · show 0 ≤ M 9 a ∧ M 9 a ≤ M 11 a ∧ M 11 a < 12  -- c3.hb
        omega
    refine ⟨gc3, ?_⟩
    rintro r14 M15 ⟨q_rfl, e_r14⟩ z_r14 z_M15
    have q_rfl := q_rfl.symm
    subst q_rfl
    have gc4 : pr_X2_height b M := by
      refine ⟨?_, ?_⟩
      · show 0 ≤ b ∧ b < 192  -- c4.hf
        first | with_reducible assumption | omega | exact trivial | with_reducible rfl
      · show 0 ≤ M 9 b ∧ M 9 b ≤ M 11 b ∧ M 11 b < 12  -- c4.hb
        omega
    refine ⟨gc4, ?_⟩
    rintro r20 M21 ⟨q_rfl, e_r20⟩ z_r20 z_M21
    have q_rfl := q_rfl.symm
    subst q_rfl
    refine ⟨fun b2 => ?_, fun b2 => ?_⟩
    · -- b2.1
      have E : gDf (zg (M 1 0) (M 1 1) (M 12)) a b (M 8 a) (M 9 a) (M 10 a - M 8 a + 1) (M 11 a - M 9 a + 1) (M 8 b) (M 9 b) (M 10 b - M 8 b + 1) (M 11 b - M 9 b + 1) = zc (fun k => k % 16 < M 10 a - M 8 a + 1 ∧ k / 16 < M 11 a - M 9 a + 1 ∧ ¬ (zg (M 1 0) (M 1 1) (M 12) (M 8 a + k % 16) (M 9 a + k / 16) = a ↔ zg (M 1 0) (M 1 1) (M 12) (M 8 b + k % 16) (M 9 b + k / 16) = b)) 192 := by
        unfold gDf
        rw [if_pos (by omega)]
      generalize hp : (fun k => k % 16 < M 10 a - M 8 a + 1 ∧ k / 16 < M 11 a - M 9 a + 1 ∧ ¬ (zg (M 1 0) (M 1 1) (M 12) (M 8 a + k % 16) (M 9 a + k / 16) = a ↔ zg (M 1 0) (M 1 1) (M 12) (M 8 b + k % 16) (M 9 b + k / 16) = b)) = p at E
      refine ⟨fun v27 v28 M31 n33 => (n33 : Int) = (20 - v28) ∧ (0 ≤ v28 ∧ v28 ≤ M 11 a - M 9 a + 1) ∧ (M31 = M) ∧ (v27 = zc p (16 * v28)), ⟨Int.toNat (20 - 0), by omega, ?_, ?_, ?_⟩, ?_⟩
      · show 0 ≤ 0 ∧ 0 ≤ M 11 a - M 9 a + 1  -- I46.0.hv
        first | with_reducible assumption | omega | exact trivial | with_reducible rfl
      · first | with_reducible assumption | omega | exact trivial | with_reducible rfl  -- I46.0.rfl
      · show 0 = zc p (16 * 0)  -- I46.0.h1
        rfl
      rintro v27 v28 M31 n33 ⟨h_n33, hv, q_rfl, h1⟩ z_v27 z_v28 z_M31
      have q_rfl := q_rfl.symm
      subst q_rfl
      have u := zc_b p (16 * v28) (by omega)
      have gc5 : pr_X2_height a M := by
        refine ⟨?_, ?_⟩
        · show 0 ≤ a ∧ a < 192  -- c5.hf
          first | with_reducible assumption | omega | exact trivial | with_reducible rfl
        · show 0 ≤ M 9 a ∧ M 9 a ≤ M 11 a ∧ M 11 a < 12  -- c5.hb
          omega
      refine ⟨gc5, ?_⟩
      rintro r40 M41 ⟨q_rfl, e_r40⟩ z_r40 z_M41
      have q_rfl := q_rfl.symm
      subst q_rfl
      refine ⟨fun b3 => ?_, fun b3 => ?_⟩
      · -- b3.1
        refine hP _ _ ⟨rfl, ?_⟩
        · rw [E, h1]  -- p2
          refine (zc_skip (by omega) 192 (by omega) (fun i i0 i1 q => ?_)).symm
          rw [← hp] at q
          have := q.2.1
          omega
      · -- b3.2
        refine ⟨fun v47 v48 M51 n53 => (n53 : Int) = (20 - v48) ∧ (0 ≤ v48 ∧ v48 ≤ M 10 a - M 8 a + 1) ∧ (M51 = M) ∧ (v47 = zc p (16 * v28 + v48)), ⟨Int.toNat (20 - 0), by omega, ?_, ?_, ?_⟩, ?_⟩
        · show 0 ≤ 0 ∧ 0 ≤ M 10 a - M 8 a + 1  -- I62.0.hv2
          first | with_reducible assumption | omega | exact trivial | with_reducible rfl
        · first | with_reducible assumption | omega | exact trivial | with_reducible rfl  -- I62.0.rfl
        · show v27 = zc p (16 * v28 + 0)  -- I62.0.h2
          rw [show 16 * v28 + 0 = 16 * v28 by omega]; exact h1
        rintro v47 v48 M51 n53 ⟨h_n53, hv2, q_rfl, h2⟩ z_v47 z_v48 z_M51
        have q_rfl := q_rfl.symm
        subst q_rfl
        have u2 := zc_b p (16 * v28 + v48) (by omega)
        have gc6 : pr_X2_width a M := by
          refine ⟨?_, ?_⟩
          · show 0 ≤ a ∧ a < 192  -- c6.hf
            first | with_reducible assumption | omega | exact trivial | with_reducible rfl
          · show 0 ≤ M 8 a ∧ M 8 a ≤ M 10 a ∧ M 10 a < 16  -- c6.hb
            omega
        refine ⟨gc6, ?_⟩
        rintro r60 M61 ⟨q_rfl, e_r60⟩ z_r60 z_M61
        have q_rfl := q_rfl.symm
        subst q_rfl
        refine ⟨fun b4 => ?_, fun b4 => ?_⟩
        · -- b4.1
          have o1 : zin (v28 + 1) := by
            first | with_reducible assumption | omega | exact trivial | with_reducible rfl  -- o1
          refine ⟨o1, ?_⟩
          refine ⟨Int.toNat (20 - (v28 + 1)), by omega, by omega, ?_, ?_, ?_⟩
          · show 0 ≤ (v28 + 1) ∧ (v28 + 1) ≤ M 11 a - M 9 a + 1  -- I46.1.hv
            first | with_reducible assumption | omega | exact trivial | with_reducible rfl
          · first | with_reducible assumption | omega | exact trivial | with_reducible rfl  -- I46.1.rfl
          · show v47 = zc p (16 * (v28 + 1))  -- I46.1.h1
            rw [h2]
            refine (zc_skip (by omega) _ (by omega) (fun i i0 i1 q => ?_)).symm
            rw [← hp] at q
            have := q.1
            omega
        · -- b4.2
          have gc7 : pr_X9_isIn a v48 v28 M := by
            refine ⟨?_, ?_, ?_, ?_, ?_, ?_⟩
            · show bDim M  -- c7.hd
              first | with_reducible assumption | omega | exact trivial | with_reducible rfl
            · show 0 ≤ a ∧ a < 192  -- c7.hf
              first | with_reducible assumption | omega | exact trivial | with_reducible rfl
            · show 0 ≤ M 8 a ∧ M 8 a ≤ 15  -- c7.h8
              omega
            · show 0 ≤ M 9 a ∧ M 9 a ≤ 15  -- c7.h9
              omega
            · show -20 ≤ v48 ∧ v48 ≤ 20  -- c7.hx
              omega
            · show -20 ≤ v28 ∧ v28 ≤ 20  -- c7.hy
              omega
          refine ⟨gc7, ?_⟩
          rintro r71 M72 ⟨q_rfl, pc7_pb⟩ z_r71 z_M72
          have q_rfl := q_rfl.symm
          subst q_rfl
          have gc8 : pr_X9_isIn b v48 v28 M := by
            refine ⟨?_, ?_, ?_, ?_, ?_, ?_⟩
            · show bDim M  -- c8.hd
              first | with_reducible assumption | omega | exact trivial | with_reducible rfl
            · show 0 ≤ b ∧ b < 192  -- c8.hf
              first | with_reducible assumption | omega | exact trivial | with_reducible rfl
            · show 0 ≤ M 8 b ∧ M 8 b ≤ 15  -- c8.h8
              omega
            · show 0 ≤ M 9 b ∧ M 9 b ≤ 15  -- c8.h9
              omega
            · show -20 ≤ v48 ∧ v48 ≤ 20  -- c8.hx
              omega
            · show -20 ≤ v28 ∧ v28 ≤ 20  -- c8.hy
              omega
          refine ⟨gc8, ?_⟩
          rintro r77 M78 ⟨q_rfl, pc8_pb⟩ z_r77 z_M78
          have q_rfl := q_rfl.symm
          subst q_rfl
          have ip : p (16 * v28 + v48) ↔ ¬ (zg (M 1 0) (M 1 1) (M 12) (M 8 a + v48) (M 9 a + v28) = a ↔ zg (M 1 0) (M 1 1) (M 12) (M 8 b + v48) (M 9 b + v28) = b) := by
            rw [← hp]
            show ((16 * v28 + v48) % 16 < _ ∧ (16 * v28 + v48) / 16 < _ ∧ ¬ (zg (M 1 0) (M 1 1) (M 12) (M 8 a + (16 * v28 + v48) % 16) (M 9 a + (16 * v28 + v48) / 16) = a ↔ zg (M 1 0) (M 1 1) (M 12) (M 8 b + (16 * v28 + v48) % 16) (M 9 b + (16 * v28 + v48) / 16) = b)) ↔ _
            rw [show (16 * v28 + v48) % 16 = v48 by omega, show (16 * v28 + v48) / 16 = v28 by omega]
            exact ⟨fun h => h.2.2, fun h => ⟨by omega, by omega, h⟩⟩
          have n7 := pc7_pb.ne
          have n8 := pc8_pb.ne
          have m7 := pc7_pb.b
          have m8 := pc8_pb.b
          refine ⟨fun b5 => ?_, fun b5 => ?_⟩
          · -- b5.1
            have o2 : zin (v48 + 1) := by
              first | with_reducible assumption | omega | exact trivial | with_reducible rfl  -- o2
            refine ⟨o2, ?_⟩
            refine ⟨Int.toNat (20 - (v48 + 1)), by omega, by omega, ?_, ?_, ?_⟩
            · show 0 ≤ (v48 + 1) ∧ (v48 + 1) ≤ M 10 a - M 8 a + 1  -- I62.1.hv2
              first | with_reducible assumption | omega | exact trivial | with_reducible rfl
            · first | with_reducible assumption | omega | exact trivial | with_reducible rfl  -- I62.1.rfl
            · show v47 = zc p (16 * v28 + (v48 + 1))  -- I62.1.h2
              rw [show 16 * v28 + (v48 + 1) = 16 * v28 + v48 + 1 by omega, zc_n (by omega) (by
                rw [ip, ← n7, ← n8]
                omega)]
              exact h2
          · -- b5.2
            have o3 : zin (v47 + 1) := by
              first | with_reducible assumption | omega | exact trivial | with_reducible rfl  -- o3
            refine ⟨o3, ?_⟩
            have o4 : zin (v48 + 1) := by
              first | with_reducible assumption | omega | exact trivial | with_reducible rfl  -- o4
            refine ⟨o4, ?_⟩
            refine ⟨Int.toNat (20 - (v48 + 1)), by omega, by omega, ?_, ?_, ?_⟩
            · show 0 ≤ (v48 + 1) ∧ (v48 + 1) ≤ M 10 a - M 8 a + 1  -- I62.2.hv2
              first | with_reducible assumption | omega | exact trivial | with_reducible rfl
            · first | with_reducible assumption | omega | exact trivial | with_reducible rfl  -- I62.2.rfl
            · show (v47 + 1) = zc p (16 * v28 + (v48 + 1))  -- I62.2.h2
              rw [show 16 * v28 + (v48 + 1) = 16 * v28 + v48 + 1 by omega, zc_p (by omega) (by
                rw [ip, ← n7, ← n8]
                omega)]
              omega
    · -- b2.2
      refine hP _ _ ⟨rfl, ?_⟩
      · unfold gDf; rw [if_neg (by omega)]  -- p3

