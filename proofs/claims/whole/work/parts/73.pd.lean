def qFew (G : Int → Int → Int) (f t : Int) (s : gS) (m i r : Int) : Prop := ∃ n P b, gPer G f t s n ∧ gPie (gStr (gX G f t s) (gY G f t s) m) n P b ∧ r = if i < 0 then P else if i < P then b i else -4
theorem qFew.uq {G : Int → Int → Int} {f t : Int} {s : gS} {m i r r' : Int} (h : qFew G f t s m i r) (g : qFew G f t s m i r') : r = r' := by
  obtain ⟨n, P, b, x, y, z⟩ := h
  obtain ⟨n', P', b', x', y', z'⟩ := g
  have := x.uq x'
  subst this
  obtain ⟨u1, u2⟩ := y.uq y'
  subst u1
  rw [z, z']
  split
  · rfl
  · split
    · exact u2 i (by omega) (by omega)
    · rfl
def qDw (G : Int → Int → Int) (f t : Int) (s : gS) (m n P : Int) (b X Y : Int → Int) : Prop := gPer G f t s n ∧ gPie (gStr (gX G f t s) (gY G f t s) m) n P b ∧ ∀ k, 0 ≤ k → k ≤ n → X k = gX G f t s k ∧ Y k = gY G f t s k
theorem gHl_cg {X Y b X' Y' b' : Int → Int} {x y : Int} : ∀ k : Nat, (∀ p : Int, 0 ≤ p → p ≤ k → b p = b' p ∧ X (b p) = X' (b p) ∧ Y (b p) = Y' (b p)) → gHl X Y b x y k = gHl X' Y' b' x y k
  | 0, _ => rfl
  | k + 1, h => by
    have a := h k (by omega) (by omega)
    have c := h (k + 1) (by omega) (by omega)
    have ih := gHl_cg (x := x) (y := y) k (fun p p0 p1 => h p p0 (by omega))
    unfold gHl
    rw [ih, ← a.1, ← c.1, a.2.1, a.2.2, c.2.1, c.2.2]
theorem qDw.uq {G : Int → Int → Int} {f t : Int} {s : gS} {m n P n' P' : Int} {b X Y b' X' Y' : Int → Int} (h : qDw G f t s m n P b X Y) (g : qDw G f t s m n' P' b' X' Y') (x y : Int) : gHo2 X Y b x y P = gHo2 X' Y' b' x y P' := by
  obtain ⟨h1, h2, h3⟩ := h
  obtain ⟨g1, g2, g3⟩ := g
  have := h1.uq g1
  subst this
  obtain ⟨u1, u2⟩ := h2.uq g2
  subst u1
  unfold gHo2
  have hP := h2.1
  refine gHl_cg _ (fun p p0 p1 => ?_)
  have r := h2.rng p p0 (by omega)
  have c := h3 _ r.1 r.2
  have d := g3 _ r.1 r.2
  exact ⟨u2 p p0 (by omega), by rw [c.1, d.1], by rw [c.2, d.2]⟩
def qDrw (G : Int → Int → Int) (f t : Int) (s : gS) (m x y r : Int) : Prop := ∃ n P b X Y, qDw G f t s m n P b X Y ∧ r = gHo2 X Y b x y P
theorem qDrw.uq {G : Int → Int → Int} {f t : Int} {s : gS} {m x y r r' : Int} (h : qDrw G f t s m x y r) (g : qDrw G f t s m x y r') : r = r' := by
  obtain ⟨n, P, b, X, Y, a, e⟩ := h
  obtain ⟨n', P', b', X', Y', a', e'⟩ := g
  rw [e, e', a.uq a' x y]
def qDif (w h t : Int) (L F : Int → Int) (f m r : Int) : Prop := ∃ n P b X Y Q K, qDw (zg w h L) f t (gS0 (F f)) m n P b X Y ∧ gHo w h t L f Q K ∧ r = zc (fun a => gD w h a ∧ ¬ (gHo2 X Y b (a % 16) (a / 16) P = 1 ↔ (L a = f ∨ 0 < Q (hC a)))) 192
theorem qDif.uq {w h t : Int} {L F : Int → Int} {f m r r' : Int} (hw : w ≤ 16) (H : qDif w h t L F f m r) (H' : qDif w h t L F f m r') : r = r' := by
  obtain ⟨n, P, b, X, Y, Q, K, a, c, e⟩ := H
  obtain ⟨n', P', b', X', Y', Q', K', a', c', e'⟩ := H'
  rw [e, e']
  refine zc_c 192 (by decide) (fun i i0 i1 => ?_)
  have u := a.uq a' (i % 16) (i / 16)
  rw [u]
  constructor
  · rintro ⟨d, q⟩
    refine ⟨d, fun k => q ?_⟩
    by_cases l : L i = f
    · exact ⟨fun _ => .inl l, fun _ => k.2 (.inl l)⟩
    · rw [(gHo.uq c c').2 _ (hC_D d hw l)]; exact k
  · rintro ⟨d, q⟩
    refine ⟨d, fun k => q ?_⟩
    by_cases l : L i = f
    · exact ⟨fun _ => .inl l, fun _ => k.2 (.inl l)⟩
    · rw [← (gHo.uq c c').2 _ (hC_D d hw l)]; exact k
theorem bPk.dw {M : zM} {f m : Int} (H : bPk M f m) (B : bBk M f) : qDw (zg (M 1 0) (M 1 1) (M 12)) f (M 1 2) (gS0 (M 7 f)) m (M 17 1) (M 42 1) (M 43) (M 19) (M 20) := by
  obtain ⟨n, a, b⟩ := H
  have := a.uq B.1
  subst this
  exact ⟨a, b, B.2.2.1⟩
theorem qDw.at {G : Int → Int → Int} {f t : Int} {s : gS} {m n P : Int} {b X Y : Int → Int} (h : qDw G f t s m n P b X Y) : (3 ≤ P ∧ P ≤ n) ∧ ∀ p, 0 ≤ p → p ≤ P → 0 ≤ b p ∧ b p ≤ n := ⟨⟨h.2.1.1, h.2.1.2.1⟩, h.2.1.rng⟩
abbrev pr_X11_fewest (f : Int) (m : Int) (i : Int) (M : zM) : Prop := (bI M) ∧ (bK M)
abbrev po_X11_fewest (f : Int) (m : Int) (i : Int) (M : zM) (r : Int) (M' : zM) : Prop := (bW M M') ∧ (bQ M') ∧ (qI ((0 ≤ f ∧ f < M' 5 2) ∧ (0 ≤ m ∧ m ≤ 400) ∧ -1 ≤ i) (qFew (zg (M' 1 0) (M' 1 1) (M' 12)) f (M' 1 2) (gS0 (M' 7 f)) m i r) r)
set_option maxHeartbeats 1000000 in
theorem ok_X11_fewest : zSnd zS 145 0 0 yX11_fewest cX11_fewest 4 (some .int) 5 [2, 0, 0, 0] (F_X11_fewest pr_X11_fewest po_X11_fewest) := by
  refine (sn_X11_fewest ok_X11_isFace ok_X11_isMiss ok_X6_find).mono ?_
  rintro xs P M hz hR ⟨f, m, i, rfl, ⟨hI, hK⟩, hP⟩
  refine ⟨_, _, _, rfl, ?_⟩
  have z_f := zall_h (zall_t hz) (by decide)
  have z_m := zall_h (zall_t (zall_t hz)) (by decide)
  have z_i := zall_h (zall_t (zall_t (zall_t hz))) (by decide)
  change vc_X11_fewest pr_X11_isFace po_X11_isFace pr_X11_isMiss po_X11_isMiss pr_X6_find po_X6_find f m i P M
  unfold vc_X11_fewest
  have gc1 : pr_X11_isFace f M := by
    refine ⟨?_, ?_⟩
    · show bI M  -- c1.hI
      exact hI
    · show bK M  -- c1.hK
      exact hK
  refine ⟨gc1, ?_⟩
  rintro r1 M2 ⟨pc1_hf, pc1_hQ, pc1_hs, pc1_hr⟩ z_r1 z_M2
  have I2 := hI.face pc1_hf
  have w2 : bW M M2 := fun c i k => pc1_hf c i (by omega) (by omega)
  refine ⟨fun b1 => ?_, fun b1 => ?_⟩
  · -- b1.1
    refine hP _ _ ⟨?_, ?_, ?_⟩
    · show bW M M2  -- p1.hw
      exact w2
    · show bQ M2  -- p1.hQ
      exact pc1_hQ
    · show qI ((0 ≤ f ∧ f < M2 5 2) ∧ (0 ≤ m ∧ m ≤ 400) ∧ -1 ≤ i) (qFew (zg (M2 1 0) (M2 1 1) (M2 12)) f (M2 1 2) (gS0 (M2 7 f)) m i (-1)) (-1)  -- p1.hr
      exact qI.n (fun k => pc1_hr.z.1 b1 k.1)
  · -- b1.2
    have ha := pc1_hr.ne.1 b1
    have gc2 : pr_X11_isMiss m M2 := trivial
    refine ⟨gc2, ?_⟩
    rintro r8 M9 ⟨q_rfl, e_r8⟩ z_r8 z_M9
    have q_rfl := q_rfl.symm
    subst q_rfl
    have zk := zif01 e_r8
    refine ⟨fun b2 => ?_, fun b2 => ?_⟩
    · -- b2.1
      refine hP _ _ ⟨?_, ?_, ?_⟩
      · show bW M M2  -- p2.hw
        exact w2
      · show bQ M2  -- p2.hQ
        exact pc1_hQ
      · show qI ((0 ≤ f ∧ f < M2 5 2) ∧ (0 ≤ m ∧ m ≤ 400) ∧ -1 ≤ i) (qFew (zg (M2 1 0) (M2 1 1) (M2 12)) f (M2 1 2) (gS0 (M2 7 f)) m i (-1)) (-1)  -- p2.hr
        exact qI.n (fun k => zk.z.1 b2 k.2.1)
    · -- b2.2
      have hm := zk.ne.1 b2
      refine ⟨fun b3 => ?_, fun b3 => ?_⟩
      · -- b3.1
        have gc3 : pr_X6_find f m M2 := by
          refine ⟨?_, ?_, ?_, ?_, ?_, ?_, ?_⟩
          · show bDim M2  -- c3.hd
            exact I2.d
          · show M2 1 2 = 0 ∨ M2 1 2 = 1  -- c3.ht
            exact I2.t
          · show bFok M2  -- c3.hF
            exact pc1_hQ.ok
          · show 0 ≤ f ∧ f < M2 5 2  -- c3.ha
            exact ha
          · show 0 ≤ m ∧ m ≤ 400  -- c3.hm
            exact hm
          · show M2 17 6 = M2 5 1 → M2 17 7 = f → bBk M2 f  -- c3.hk
            exact pc1_hQ.bk
          · show M2 42 3 = M2 5 1 → M2 42 4 = f → M2 42 5 = m → bPk M2 f m  -- c3.hkp
            exact pc1_hQ.pk
        refine ⟨gc3, ?_⟩
        rintro M16 ⟨pc3_hf, pc3_h6, pc3_h7, pc3_hB, pc3_p3, pc3_p4, pc3_p5, pc3_hP⟩ z_M16
        have Q3 := pc1_hQ.find pc3_hf pc3_h6 pc3_h7 pc3_hB pc3_p3 pc3_p4 pc3_p5 pc3_hP
        have n3 : M16 5 2 = M2 5 2 := pc3_hf 5 2 (by omega) (by omega)
        have W := pc3_hP.dw pc3_hB
        have A := W.at
        have N1 := W.1.2.1
        have w3 : bW M M16 := w2.tr (fun c i k => pc3_hf c i (by omega) (by omega))
        refine ⟨fun b4 => ?_, fun b4 => ?_⟩
        · -- b4.1
          refine ⟨fun b5 => ?_, fun b5 => ?_⟩
          · -- b5.1
            refine hP _ _ ⟨?_, ?_, ?_⟩
            · show bW M M16  -- p3.hw
              exact w3
            · show bQ M16  -- p3.hQ
              exact Q3
            · show qI ((0 ≤ f ∧ f < M16 5 2) ∧ (0 ≤ m ∧ m ≤ 400) ∧ -1 ≤ i) (qFew (zg (M16 1 0) (M16 1 1) (M16 12)) f (M16 1 2) (gS0 (M16 7 f)) m i (-4)) (-4)  -- p3.hr
              exact qI.y ⟨by omega, hm, b3⟩ ⟨_, _, _, W.1, W.2.1, by rw [if_neg (by omega), if_neg (by omega)]⟩
          · -- b5.2
            have o1 : ((0 : Int) ≤ i ∧ i < 413) := by
              omega
            refine ⟨o1, ?_⟩
            refine hP _ _ ⟨?_, ?_, ?_⟩
            · show bW M M16  -- p4.hw
              exact w3
            · show bQ M16  -- p4.hQ
              exact Q3
            · show qI ((0 ≤ f ∧ f < M16 5 2) ∧ (0 ≤ m ∧ m ≤ 400) ∧ -1 ≤ i) (qFew (zg (M16 1 0) (M16 1 1) (M16 12)) f (M16 1 2) (gS0 (M16 7 f)) m i (M16 43 i)) (M16 43 i)  -- p4.hr
              exact qI.y ⟨by omega, hm, b3⟩ ⟨_, _, _, W.1, W.2.1, by rw [if_neg (by omega), if_pos (by omega)]⟩
        · -- b4.2
          refine hP _ _ ⟨?_, ?_, ?_⟩
          · show bW M M16  -- p5.hw
            exact w3
          · show bQ M16  -- p5.hQ
            exact Q3
          · show qI ((0 ≤ f ∧ f < M16 5 2) ∧ (0 ≤ m ∧ m ≤ 400) ∧ -1 ≤ i) (qFew (zg (M16 1 0) (M16 1 1) (M16 12)) f (M16 1 2) (gS0 (M16 7 f)) m i (M16 42 1)) (M16 42 1)  -- p5.hr
            exact qI.y ⟨by omega, hm, b3⟩ ⟨_, _, _, W.1, W.2.1, by rw [if_pos (by omega)]⟩
      · -- b3.2
        refine hP _ _ ⟨?_, ?_, ?_⟩
        · show bW M M2  -- p6.hw
          exact w2
        · show bQ M2  -- p6.hQ
          exact pc1_hQ
        · show qI ((0 ≤ f ∧ f < M2 5 2) ∧ (0 ≤ m ∧ m ≤ 400) ∧ -1 ≤ i) (qFew (zg (M2 1 0) (M2 1 1) (M2 12)) f (M2 1 2) (gS0 (M2 7 f)) m i (-1)) (-1)  -- p6.hr
          exact qI.n (fun k => b3 k.2.2)

abbrev pr_X11_drawn (f : Int) (m : Int) (a : Int) (M : zM) : Prop := (bI M) ∧ (bK M)
abbrev po_X11_drawn (f : Int) (m : Int) (a : Int) (M : zM) (r : Int) (M' : zM) : Prop := (bW M M') ∧ (bQ M') ∧ (qI ((0 ≤ f ∧ f < M' 5 2) ∧ (0 ≤ m ∧ m ≤ 400) ∧ gD (M' 1 0) (M' 1 1) a) (qDrw (zg (M' 1 0) (M' 1 1) (M' 12)) f (M' 1 2) (gS0 (M' 7 f)) m (a % 16) (a / 16) r) r)
set_option maxHeartbeats 1000000 in
theorem ok_X11_drawn : zSnd zS 145 0 0 yX11_drawn cX11_drawn 4 (some .int) 5 [2, 0, 0, 0] (F_X11_drawn pr_X11_drawn po_X11_drawn) := by
  refine (sn_X11_drawn ok_X11_isFace ok_X11_isMiss ok_X0_isDot ok_X6_find ok_X6_hold ok_X11_asNumber).mono ?_
  rintro xs P M hz hR ⟨f, m, a, rfl, ⟨hI, hK⟩, hP⟩
  refine ⟨_, _, _, rfl, ?_⟩
  have z_f := zall_h (zall_t hz) (by decide)
  have z_m := zall_h (zall_t (zall_t hz)) (by decide)
  have z_a := zall_h (zall_t (zall_t (zall_t hz))) (by decide)
  change vc_X11_drawn pr_X11_isFace po_X11_isFace pr_X11_isMiss po_X11_isMiss pr_X0_isDot po_X0_isDot pr_X6_find po_X6_find pr_X6_hold po_X6_hold pr_X11_asNumber po_X11_asNumber f m a P M
  unfold vc_X11_drawn
  have gc1 : pr_X11_isFace f M := by
    refine ⟨?_, ?_⟩
    · show bI M  -- c1.hI
      exact hI
    · show bK M  -- c1.hK
      exact hK
  refine ⟨gc1, ?_⟩
  rintro r1 M2 ⟨pc1_hf, pc1_hQ, pc1_hs, pc1_hr⟩ z_r1 z_M2
  have I2 := hI.face pc1_hf
  have w2 : bW M M2 := fun c i k => pc1_hf c i (by omega) (by omega)
  refine ⟨fun b1 => ?_, fun b1 => ?_⟩
  · -- b1.1
    refine hP _ _ ⟨?_, ?_, ?_⟩
    · show bW M M2  -- p1.hw
      exact w2
    · show bQ M2  -- p1.hQ
      exact pc1_hQ
    · show qI ((0 ≤ f ∧ f < M2 5 2) ∧ (0 ≤ m ∧ m ≤ 400) ∧ gD (M2 1 0) (M2 1 1) a) (qDrw (zg (M2 1 0) (M2 1 1) (M2 12)) f (M2 1 2) (gS0 (M2 7 f)) m (a % 16) (a / 16) (-1)) (-1)  -- p1.hr
      exact qI.n (fun k => pc1_hr.z.1 b1 k.1)
  · -- b1.2
    have ha := pc1_hr.ne.1 b1
    have gc2 : pr_X11_isMiss m M2 := trivial
    refine ⟨gc2, ?_⟩
    rintro r8 M9 ⟨q_rfl, e_r8⟩ z_r8 z_M9
    have q_rfl := q_rfl.symm
    subst q_rfl
    have zk := zif01 e_r8
    refine ⟨fun b2 => ?_, fun b2 => ?_⟩
    · -- b2.1
      refine hP _ _ ⟨?_, ?_, ?_⟩
      · show bW M M2  -- p2.hw
        exact w2
      · show bQ M2  -- p2.hQ
        exact pc1_hQ
      · show qI ((0 ≤ f ∧ f < M2 5 2) ∧ (0 ≤ m ∧ m ≤ 400) ∧ gD (M2 1 0) (M2 1 1) a) (qDrw (zg (M2 1 0) (M2 1 1) (M2 12)) f (M2 1 2) (gS0 (M2 7 f)) m (a % 16) (a / 16) (-1)) (-1)  -- p2.hr
        exact qI.n (fun k => zk.z.1 b2 k.2.1)
    · -- b2.2
      have hm := zk.ne.1 b2
      have gc3 : pr_X0_isDot a M2 := by
        show bDim M2
        exact I2.d
      refine ⟨gc3, ?_⟩
      rintro r15 M16 ⟨q_rfl, e_r15⟩ z_r15 z_M16
      have q_rfl := q_rfl.symm
      subst q_rfl
      have zd := zif01 e_r15
      refine ⟨fun b3 => ?_, fun b3 => ?_⟩
      · -- b3.1
        have hD : gD (M2 1 0) (M2 1 1) a := zd.ne.1 b3
        have gc4 : pr_X6_find f m M2 := by
          refine ⟨?_, ?_, ?_, ?_, ?_, ?_, ?_⟩
          · show bDim M2  -- c4.hd
            exact I2.d
          · show M2 1 2 = 0 ∨ M2 1 2 = 1  -- c4.ht
            exact I2.t
          · show bFok M2  -- c4.hF
            exact pc1_hQ.ok
          · show 0 ≤ f ∧ f < M2 5 2  -- c4.ha
            exact ha
          · show 0 ≤ m ∧ m ≤ 400  -- c4.hm
            exact hm
          · show M2 17 6 = M2 5 1 → M2 17 7 = f → bBk M2 f  -- c4.hk
            exact pc1_hQ.bk
          · show M2 42 3 = M2 5 1 → M2 42 4 = f → M2 42 5 = m → bPk M2 f m  -- c4.hkp
            exact pc1_hQ.pk
        refine ⟨gc4, ?_⟩
        rintro M22 ⟨pc4_hf, pc4_h6, pc4_h7, pc4_hB, pc4_p3, pc4_p4, pc4_p5, pc4_hP⟩ z_M22
        have Q3 := pc1_hQ.find pc4_hf pc4_h6 pc4_h7 pc4_hB pc4_p3 pc4_p4 pc4_p5 pc4_hP
        have I3 : bI M22 := I2.fr (fun c i k _ => pc4_hf c i (by omega) (by omega))
        have n3 : M22 5 2 = M2 5 2 := pc4_hf 5 2 (by omega) (by omega)
        have n30 : M22 1 0 = M2 1 0 := pc4_hf 1 0 (by omega) (by omega)
        have n31 : M22 1 1 = M2 1 1 := pc4_hf 1 1 (by omega) (by omega)
        have W := pc4_hP.dw pc4_hB
        have A := W.at
        have N1 := W.1.2.1
        have w3 : bW M M22 := w2.tr (fun c i k => pc4_hf c i (by omega) (by omega))
        have X := pc4_hB.XY I3.d Q3.ok (by omega)
        have d2 := I2.d
        have o1 : 0 ≤ a := by
          first | with_reducible assumption | omega | exact trivial | with_reducible rfl  -- o1
        refine ⟨o1, ?_⟩
        have gc5 : pr_X6_hold (a % 16) (a / 16) M22 := by
          refine ⟨?_, ?_, ?_, ?_, ?_, ?_⟩
          · show M22 17 1 ≤ 412  -- c5.hn
            omega
          · show bXY M22  -- c5.hX
            exact X.1
          · show 0 ≤ M22 42 1 ∧ M22 42 1 ≤ M22 17 1  -- c5.hPP
            omega
          · show ∀ p, 0 ≤ p → p ≤ M22 42 1 → 0 ≤ M22 43 p ∧ M22 43 p ≤ M22 17 1  -- c5.hb
            exact A.2
          · show 0 ≤ (a % 16) ∧ (a % 16) < 16  -- c5.hx
            omega
          · show 0 ≤ (a / 16) ∧ (a / 16) < 12  -- c5.hy
            omega
        refine ⟨gc5, ?_⟩
        rintro r28 M29 ⟨q_rfl, e_r28⟩ z_r28 z_M29
        have q_rfl := q_rfl.symm
        subst q_rfl
        have gc6 : pr_X11_asNumber r28 M22 := by
          show r28 = 0 ∨ r28 = 1
          rw [e_r28]; exact gHl_01 _
        refine ⟨gc6, ?_⟩
        rintro r34 M35 ⟨q_rfl, e_r34⟩ z_r34 z_M35
        have q_rfl := q_rfl.symm
        subst q_rfl
        refine hP _ _ ⟨?_, ?_, ?_⟩
        · show bW M M22  -- p3.hw
          exact w3
        · show bQ M22  -- p3.hQ
          exact Q3
        · show qI ((0 ≤ f ∧ f < M22 5 2) ∧ (0 ≤ m ∧ m ≤ 400) ∧ gD (M22 1 0) (M22 1 1) a) (qDrw (zg (M22 1 0) (M22 1 1) (M22 12)) f (M22 1 2) (gS0 (M22 7 f)) m (a % 16) (a / 16) r34) r34  -- p3.hr
          rw [e_r34, e_r28]; exact qI.y ⟨by omega, hm, by rw [n30, n31]; exact hD⟩ ⟨_, _, _, _, _, W, rfl⟩
      · -- b3.2
        refine hP _ _ ⟨?_, ?_, ?_⟩
        · show bW M M2  -- p4.hw
          exact w2
        · show bQ M2  -- p4.hQ
          exact pc1_hQ
        · show qI ((0 ≤ f ∧ f < M2 5 2) ∧ (0 ≤ m ∧ m ≤ 400) ∧ gD (M2 1 0) (M2 1 1) a) (qDrw (zg (M2 1 0) (M2 1 1) (M2 12)) f (M2 1 2) (gS0 (M2 7 f)) m (a % 16) (a / 16) (-1)) (-1)  -- p4.hr
          exact qI.n (fun k => zd.z.1 b3 k.2.2)

abbrev pr_X11_differ (f : Int) (m : Int) (M : zM) : Prop := (bI M) ∧ (bK M)
abbrev po_X11_differ (f : Int) (m : Int) (M : zM) (r : Int) (M' : zM) : Prop := (bW M M') ∧ (bQ M') ∧ (qI ((0 ≤ f ∧ f < M' 5 2) ∧ (0 ≤ m ∧ m ≤ 400)) (qDif (M' 1 0) (M' 1 1) (M' 1 2) (M' 12) (M' 7) f m r) r)
set_option maxHeartbeats 4000000 in
theorem ok_X11_differ : zSnd zS 145 0 0 yX11_differ cX11_differ 6 (some .int) 5 [2, 0, 0] (F_X11_differ pr_X11_differ po_X11_differ) := by
  refine (sn_X11_differ ok_X11_isFace ok_X11_isMiss ok_X6_find ok_X2_markHoles ok_X6_hold ok_X2_isFilled).mono ?_
  rintro xs P M hz hR ⟨f, m, rfl, ⟨hI, hK⟩, hP⟩
  refine ⟨_, _, rfl, ?_⟩
  have z_f := zall_h (zall_t hz) (by decide)
  have z_m := zall_h (zall_t (zall_t hz)) (by decide)
  change vc_X11_differ pr_X11_isFace po_X11_isFace pr_X11_isMiss po_X11_isMiss pr_X6_find po_X6_find pr_X2_markHoles po_X2_markHoles pr_X6_hold po_X6_hold pr_X2_isFilled po_X2_isFilled f m P M
  unfold vc_X11_differ
  have gc1 : pr_X11_isFace f M := by
    refine ⟨?_, ?_⟩
    · show bI M  -- c1.hI
      exact hI
    · show bK M  -- c1.hK
      exact hK
  refine ⟨gc1, ?_⟩
  rintro r1 M2 ⟨pc1_hf, pc1_hQ, pc1_hs, pc1_hr⟩ z_r1 z_M2
  have I2 := hI.face pc1_hf
  have w2 : bW M M2 := fun c i k => pc1_hf c i (by omega) (by omega)
  refine ⟨fun b1 => ?_, fun b1 => ?_⟩
  · -- b1.1
    refine hP _ _ ⟨?_, ?_, ?_⟩
    · show bW M M2  -- p1.hw
      exact w2
    · show bQ M2  -- p1.hQ
      exact pc1_hQ
    · show qI ((0 ≤ f ∧ f < M2 5 2) ∧ (0 ≤ m ∧ m ≤ 400)) (qDif (M2 1 0) (M2 1 1) (M2 1 2) (M2 12) (M2 7) f m (-1)) (-1)  -- p1.hr
      exact qI.n (fun k => pc1_hr.z.1 b1 k.1)
  · -- b1.2
    have ha := pc1_hr.ne.1 b1
    have gc2 : pr_X11_isMiss m M2 := trivial
    refine ⟨gc2, ?_⟩
    rintro r8 M9 ⟨q_rfl, e_r8⟩ z_r8 z_M9
    have q_rfl := q_rfl.symm
    subst q_rfl
    have zk := zif01 e_r8
    refine ⟨fun b2 => ?_, fun b2 => ?_⟩
    · -- b2.1
      have hm := zk.ne.1 b2
      have gc3 : pr_X6_find f m M2 := by
        refine ⟨?_, ?_, ?_, ?_, ?_, ?_, ?_⟩
        · show bDim M2  -- c3.hd
          exact I2.d
        · show M2 1 2 = 0 ∨ M2 1 2 = 1  -- c3.ht
          exact I2.t
        · show bFok M2  -- c3.hF
          exact pc1_hQ.ok
        · show 0 ≤ f ∧ f < M2 5 2  -- c3.ha
          exact ha
        · show 0 ≤ m ∧ m ≤ 400  -- c3.hm
          exact hm
        · show M2 17 6 = M2 5 1 → M2 17 7 = f → bBk M2 f  -- c3.hk
          exact pc1_hQ.bk
        · show M2 42 3 = M2 5 1 → M2 42 4 = f → M2 42 5 = m → bPk M2 f m  -- c3.hkp
          exact pc1_hQ.pk
      refine ⟨gc3, ?_⟩
      rintro M15 ⟨pc3_hf, pc3_h6, pc3_h7, pc3_hB, pc3_p3, pc3_p4, pc3_p5, pc3_hP⟩ z_M15
      have Q3 := pc1_hQ.find pc3_hf pc3_h6 pc3_h7 pc3_hB pc3_p3 pc3_p4 pc3_p5 pc3_hP
      have I3 : bI M15 := I2.fr (fun c i k _ => pc3_hf c i (by omega) (by omega))
      have n3 : M15 5 2 = M2 5 2 := pc3_hf 5 2 (by omega) (by omega)
      have w3 : bW M M15 := w2.tr (fun c i k => pc3_hf c i (by omega) (by omega))
      have ha3 : 0 ≤ f ∧ f < M15 5 2 := by omega
      have gc4 : pr_X2_markHoles f M15 := by
        refine ⟨?_, ?_, ?_, ?_⟩
        · show bDim M15  -- c4.hd
          exact I3.d
        · show M15 1 2 = 0 ∨ M15 1 2 = 1  -- c4.ht
          exact I3.t
        · show bFok M15  -- c4.hF
          exact Q3.ok
        · show 0 ≤ f ∧ f < M15 5 2  -- c4.ha
          exact ha3
      refine ⟨gc4, ?_⟩
      rintro r20 M21 ⟨pc4_hf, pc4_h14, pc4_h15, pc4_h16, pc4_h17, pc4_hL⟩ z_r20 z_M21
      have Q4 : bQ M21 := Q3.fr (fun c i k => pc4_hf c i (by omega) (by omega) (by omega))
      have I4 : bI M21 := I3.fr (fun c i k _ => pc4_hf c i (by omega) (by omega) (by omega))
      have d4 := I4.d
      have hB4 : bBk M21 f := by
        have q := @bQ.bk M21 f Q4
        have e5 : M21 5 1 = M15 5 1 := pc4_hf 5 1 (by omega) (by omega) (by omega)
        have e9 : M15 5 1 = M2 5 1 := pc3_hf 5 1 (by omega) (by omega)
        have e6 : M21 17 6 = M15 17 6 := pc4_hf 17 6 (by omega) (by omega) (by omega)
        have e7 : M21 17 7 = M15 17 7 := pc4_hf 17 7 (by omega) (by omega) (by omega)
        exact q (by rw [e6, pc3_h6, e5, e9]) (by rw [e7]; exact pc3_h7)
      have hP4 : bPk M21 f m := by
        have q := @bQ.pk M21 f m Q4
        have e5 : M21 5 1 = M15 5 1 := pc4_hf 5 1 (by omega) (by omega) (by omega)
        have e9 : M15 5 1 = M2 5 1 := pc3_hf 5 1 (by omega) (by omega)
        exact q (by rw [pc4_hf 42 3 (by omega) (by omega) (by omega), pc3_p3, e5, e9]) (by rw [pc4_hf 42 4 (by omega) (by omega) (by omega)]; exact pc3_p4) (by rw [pc4_hf 42 5 (by omega) (by omega) (by omega)]; exact pc3_p5)
      have W := hP4.dw hB4
      have A := W.at
      have N1 := W.1.2.1
      have n4 : M21 5 2 = M15 5 2 := pc4_hf 5 2 (by omega) (by omega) (by omega)
      have w4 : bW M M21 := w3.tr (fun c i k => pc4_hf c i (by omega) (by omega) (by omega))
      have X := hB4.XY d4 Q4.ok (by omega)
      have bx := Q3.bx I3 ha3
      have hL := pc4_hL
      obtain ⟨v0, v1, v2, v3, v4, v5, v6⟩ := bVe.of (M := M15) (M' := M21) (fun c i k => pc4_hf c i (by omega) (by omega) (by omega))
      rw [← v0, ← v1, ← v2, ← v4] at hL
      generalize hq : hQ (M15 8 f) (M15 10 f) (M15 9 f) (M15 11 f) (fun m => M21 16 m - 1) = Q at hL
      generalize hp : (fun a => gD (M21 1 0) (M21 1 1) a ∧ ¬ (gHo2 (M21 19) (M21 20) (M21 43) (a % 16) (a / 16) (M21 42 1) = 1 ↔ (M21 12 a = f ∨ 0 < Q (hC a)))) = p
      refine ⟨fun v26 v27 M30 n32 => (n32 : Int) = (20 - v27) ∧ (0 ≤ v27 ∧ v27 ≤ M21 1 1) ∧ (M30 = M21) ∧ (v26 = zc p (16 * v27)), ⟨Int.toNat (20 - 0), by omega, ?_, ?_, ?_⟩, ?_⟩
      · show 0 ≤ 0 ∧ 0 ≤ M21 1 1  -- I40.0.hv
        first | with_reducible assumption | omega | exact trivial | with_reducible rfl
      · first | with_reducible assumption | omega | exact trivial | with_reducible rfl  -- I40.0.rfl
      · show 0 = zc p (16 * 0)  -- I40.0.h1
        rfl
      rintro v26 v27 M30 n32 ⟨h_n32, hv, q_rfl, h1⟩ z_v26 z_v27 z_M30
      have q_rfl := q_rfl.symm
      subst q_rfl
      have u := zc_b p (16 * v27) (by omega)
      refine ⟨fun b3 => ?_, fun b3 => ?_⟩
      · -- b3.1
        refine hP _ _ ⟨?_, ?_, ?_⟩
        · show bW M M21  -- p2.hw
          exact w4
        · show bQ M21  -- p2.hQ
          exact Q4
        · show qI ((0 ≤ f ∧ f < M21 5 2) ∧ (0 ≤ m ∧ m ≤ 400)) (qDif (M21 1 0) (M21 1 1) (M21 1 2) (M21 12) (M21 7) f m v26) v26  -- p2.hr
          refine qI.y ⟨by omega, hm⟩ ⟨_, _, _, _, _, Q, _, W, hL, ?_⟩
          rw [hp, h1]
          refine (zc_skip (by omega) 192 (by omega) (fun i i0 i1 q => ?_)).symm
          rw [← hp] at q
          have := q.1.2.2
          omega
      · -- b3.2
        refine ⟨fun v40 v41 M44 n46 => (n46 : Int) = (20 - v41) ∧ (0 ≤ v41 ∧ v41 ≤ M21 1 0) ∧ (M44 = M21) ∧ (v40 = zc p (16 * v27 + v41)), ⟨Int.toNat (20 - 0), by omega, ?_, ?_, ?_⟩, ?_⟩
        · show 0 ≤ 0 ∧ 0 ≤ M21 1 0  -- I55.0.hv2
          first | with_reducible assumption | omega | exact trivial | with_reducible rfl
        · first | with_reducible assumption | omega | exact trivial | with_reducible rfl  -- I55.0.rfl
        · show v26 = zc p (16 * v27 + 0)  -- I55.0.h2
          rw [show 16 * v27 + 0 = 16 * v27 by omega]; exact h1
        rintro v40 v41 M44 n46 ⟨h_n46, hv2, q_rfl, h2⟩ z_v40 z_v41 z_M44
        have q_rfl := q_rfl.symm
        subst q_rfl
        have u2 := zc_b p (16 * v27 + v41) (by omega)
        refine ⟨fun b4 => ?_, fun b4 => ?_⟩
        · -- b4.1
          have o1 : zin (v27 + 1) := by
            first | with_reducible assumption | omega | exact trivial | with_reducible rfl  -- o1
          refine ⟨o1, ?_⟩
          refine ⟨Int.toNat (20 - (v27 + 1)), by omega, by omega, ?_, ?_, ?_⟩
          · show 0 ≤ (v27 + 1) ∧ (v27 + 1) ≤ M21 1 1  -- I40.1.hv
            first | with_reducible assumption | omega | exact trivial | with_reducible rfl
          · first | with_reducible assumption | omega | exact trivial | with_reducible rfl  -- I40.1.rfl
          · show v40 = zc p (16 * (v27 + 1))  -- I40.1.h1
            rw [h2]
            refine (zc_skip (by omega) _ (by omega) (fun i i0 i1 q => ?_)).symm
            rw [← hp] at q
            have := q.1.2.1
            omega
        · -- b4.2
          have gc5 : pr_X6_hold v41 v27 M21 := by
            refine ⟨?_, ?_, ?_, ?_, ?_, ?_⟩
            · show M21 17 1 ≤ 412  -- c5.hn
              omega
            · show bXY M21  -- c5.hX
              exact X.1
            · show 0 ≤ M21 42 1 ∧ M21 42 1 ≤ M21 17 1  -- c5.hPP
              omega
            · show ∀ p, 0 ≤ p → p ≤ M21 42 1 → 0 ≤ M21 43 p ∧ M21 43 p ≤ M21 17 1  -- c5.hb
              exact A.2
            · show 0 ≤ v41 ∧ v41 < 16  -- c5.hx
              omega
            · show 0 ≤ v27 ∧ v27 < 12  -- c5.hy
              omega
          refine ⟨gc5, ?_⟩
          rintro r58 M59 ⟨q_rfl, e_r58⟩ z_r58 z_M59
          have q_rfl := q_rfl.symm
          subst q_rfl
          have gc6 : pr_X2_isFilled f v41 v27 M21 := by
            refine ⟨?_, ?_, ?_, ?_, ?_, ?_, ?_⟩
            · show bDim M21  -- c6.hd
              exact d4
            · show 0 ≤ v41 ∧ v41 < 16  -- c6.hx
              omega
            · show 0 ≤ v27 ∧ v27 < 12  -- c6.hy
              omega
            · show -1 ≤ M21 5 14 ∧ M21 5 14 ≤ 16  -- c6.h14
              omega
            · show -1 ≤ M21 5 15 ∧ M21 5 15 ≤ 16  -- c6.h15
              omega
            · show M21 5 16 ≤ 18  -- c6.h16
              omega
            · show M21 5 17 ≤ 14  -- c6.h17
              omega
          refine ⟨gc6, ?_⟩
          rintro r64 M65 ⟨q_rfl, pc6_pb⟩ z_r64 z_M65
          have q_rfl := q_rfl.symm
          subst q_rfl
          have g5 : r58 = 0 ∨ r58 = 1 := by rw [e_r58]; exact gHl_01 _
          have g6 := pc6_pb.b
          have ia : (16 * v27 + v41) % 16 = v41 := by omega
          have ib : (16 * v27 + v41) / 16 = v27 := by omega
          have dD : gD (M21 1 0) (M21 1 1) (16 * v27 + v41) := by omega
          have mk := bMk_Q (M := M21) (k := 16 * v27 + v41) pc4_h14 pc4_h15 pc4_h16 pc4_h17 (by omega)
          rw [ia, ib, hq] at mk
          have zg' : zg (M21 1 0) (M21 1 1) (M21 12) v41 v27 = M21 12 (16 * v27 + v41) := zg_i (by omega)
          have ip : p (16 * v27 + v41) ↔ ¬ (r58 = 1 ↔ r64 = 1) := by
            rw [← hp]
            show (gD (M21 1 0) (M21 1 1) (16 * v27 + v41) ∧ ¬ (gHo2 (M21 19) (M21 20) (M21 43) ((16 * v27 + v41) % 16) ((16 * v27 + v41) / 16) (M21 42 1) = 1 ↔ (M21 12 (16 * v27 + v41) = f ∨ 0 < Q (hC (16 * v27 + v41))))) ↔ _
            rw [ia, ib, ← e_r58]
            have n6 : r64 = 1 ↔ (M21 12 (16 * v27 + v41) = f ∨ 0 < Q (hC (16 * v27 + v41))) := by
              have := pc6_pb.ne
              rw [zg'] at this
              constructor
              · intro h
                rcases this.1 (by omega) with q | q
                · exact .inl q
                · exact .inr (by omega)
              · intro h
                have : r64 ≠ 0 := this.2 (by
                  rcases h with q | q
                  · exact .inl q
                  · exact .inr (by omega))
                omega
            rw [← n6]
            exact ⟨fun h => h.2, fun h => ⟨dD, h⟩⟩
          refine ⟨fun b5 => ?_, fun b5 => ?_⟩
          · -- b5.1
            have o2 : zin (v41 + 1) := by
              first | with_reducible assumption | omega | exact trivial | with_reducible rfl  -- o2
            refine ⟨o2, ?_⟩
            refine ⟨Int.toNat (20 - (v41 + 1)), by omega, by omega, ?_, ?_, ?_⟩
            · show 0 ≤ (v41 + 1) ∧ (v41 + 1) ≤ M21 1 0  -- I55.1.hv2
              first | with_reducible assumption | omega | exact trivial | with_reducible rfl
            · first | with_reducible assumption | omega | exact trivial | with_reducible rfl  -- I55.1.rfl
            · show v40 = zc p (16 * v27 + (v41 + 1))  -- I55.1.h2
              rw [show 16 * v27 + (v41 + 1) = 16 * v27 + v41 + 1 by omega, zc_n (by omega) (by rw [ip]; exact fun h => h (by rw [b5]))]; exact h2
          · -- b5.2
            have o3 : zin (v40 + 1) := by
              first | with_reducible assumption | omega | exact trivial | with_reducible rfl  -- o3
            refine ⟨o3, ?_⟩
            have o4 : zin (v41 + 1) := by
              first | with_reducible assumption | omega | exact trivial | with_reducible rfl  -- o4
            refine ⟨o4, ?_⟩
            refine ⟨Int.toNat (20 - (v41 + 1)), by omega, by omega, ?_, ?_, ?_⟩
            · show 0 ≤ (v41 + 1) ∧ (v41 + 1) ≤ M21 1 0  -- I55.2.hv2
              first | with_reducible assumption | omega | exact trivial | with_reducible rfl
            · first | with_reducible assumption | omega | exact trivial | with_reducible rfl  -- I55.2.rfl
            · show (v40 + 1) = zc p (16 * v27 + (v41 + 1))  -- I55.2.h2
              rw [show 16 * v27 + (v41 + 1) = 16 * v27 + v41 + 1 by omega, zc_p (by omega) (by rw [ip]; exact fun h => b5 (by omega)), h2]
    · -- b2.2
      refine hP _ _ ⟨?_, ?_, ?_⟩
      · show bW M M2  -- p3.hw
        exact w2
      · show bQ M2  -- p3.hQ
        exact pc1_hQ
      · show qI ((0 ≤ f ∧ f < M2 5 2) ∧ (0 ≤ m ∧ m ≤ 400)) (qDif (M2 1 0) (M2 1 1) (M2 1 2) (M2 12) (M2 7) f m (-1)) (-1)  -- p3.hr
        exact qI.n (fun k => zk.z.1 b2 k.2)

