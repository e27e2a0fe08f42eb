theorem bK.d4 {M M' : zM} (H : bK M) (e : ∀ c i, bKc c i → c ≠ 4 → M' c i = M c i) (h4 : ∀ i, 0 ≤ i → i < 192 → 0 ≤ M' 4 i ∧ M' 4 i ≤ 15) : bK M' := by
  have a : bK (fun c i => if c = 4 then M 4 i else M' c i) := by
    refine H.fr (fun c i k => ?_)
    show (if c = 4 then M 4 i else M' c i) = M c i
    by_cases q : c = 4
    · rw [if_pos q, q]
    · rw [if_neg q]; exact e c i k q
  obtain ⟨_, b, c, d, f⟩ := a
  have q51 : M' 5 1 = M 5 1 := e 5 1 (by omega) (by decide)
  have q176 : M' 17 6 = M 17 6 := e 17 6 (by omega) (by decide)
  have q177 : M' 17 7 = M 17 7 := e 17 7 (by omega) (by decide)
  have q423 : M' 42 3 = M 42 3 := e 42 3 (by omega) (by decide)
  have q13 : M' 1 3 = M 1 3 := e 1 3 (by omega) (by decide)
  exact ⟨h4, b, c, d, f⟩
theorem bQ.d4 {M M' : zM} (H : bQ M) (e : ∀ c i, bKc c i → c ≠ 4 → M' c i = M c i) (h4 : ∀ i, 0 ≤ i → i < 192 → 0 ≤ M' 4 i ∧ M' 4 i ≤ 15) : bQ M' := ⟨H.1.d4 e h4, by rw [e 5 1 (by omega) (by decide), e 1 3 (by omega) (by decide)]; exact H.2⟩
def qStk (w h : Int) (L : Int → Int) (f n r : Int) : Prop := ∃ g l rr u b, gGb (zg w h L) f g ∧ gBox (gD w h) L f l rr u b ∧ zB r (g ≤ n ∧ (2 * g < rr - l + 1 ∨ 2 * g < b - u + 1))
theorem qStk.uq {w h : Int} {L : Int → Int} {f n r r' : Int} (H : qStk w h L f n r) (H' : qStk w h L f n r') : r = r' := by
  obtain ⟨g, l, rr, u, b, x, y, z⟩ := H
  obtain ⟨g', l', rr', u', b', x', y', z'⟩ := H'
  obtain ⟨e1, e2, e3, e4⟩ := y.uq y'
  have := x.uq x'
  subst this e1 e2 e3 e4
  exact z.eq z' Iff.rfl
def qBut (w h : Int) (L : Int → Int) (a b r : Int) : Prop := ∃ la ra ua ba lb rb ub bb, gBox (gD w h) L a la ra ua ba ∧ gBox (gD w h) L b lb rb ub bb ∧ r = gDf (zg w h L) a b la ua (ra - la + 1) (ba - ua + 1) lb ub (rb - lb + 1) (bb - ub + 1)
theorem qBut.uq {w h : Int} {L : Int → Int} {a b r r' : Int} (H : qBut w h L a b r) (H' : qBut w h L a b r') : r = r' := by
  obtain ⟨la, ra, ua, ba, lb, rb, ub, bb, x, y, z⟩ := H
  obtain ⟨la', ra', ua', ba', lb', rb', ub', bb', x', y', z'⟩ := H'
  obtain ⟨e1, e2, e3, e4⟩ := x.uq x'
  obtain ⟨d1, d2, d3, d4⟩ := y.uq y'
  subst e1 e2 e3 e4 d1 d2 d3 d4
  rw [z, z']
def qFw (w h : Int) (D T : Int → Int) (k what r : Int) : Prop := (8 < zc (fun c => 0 < gCn w h D c) 16 ∧ r = -3) ∨ (zc (fun c => 0 < gCn w h D c) 16 ≤ 8 ∧ ∃ l s, gFw (gCn w h D) T k l s ∧ r = if what = 0 then l else s)
def qPen (D F : Int → Int) (N c i r : Int) : Prop := (7 < zc (fun f => D (F f) = c) N ∧ r = -3) ∨ (zc (fun f => D (F f) = c) N ≤ 7 ∧ (zc (fun f => D (F f) = c) N = 0 ∨ zc (fun f => D (F f) = c) N ≤ i) ∧ r = -4) ∨
  (∃ n, n = zc (fun f => D (F f) = c) N ∧ (1 ≤ n ∧ n ≤ 7) ∧ i < n ∧ ∃ S σ l, (∀ t, 0 ≤ t → t < n → 0 ≤ S t ∧ S t < N ∧ D (F (S t)) = c ∧ zc (fun f => D (F f) = c) (S t) = t) ∧ gPn (gPd F S) n l σ ∧ r = if i < 0 then l else S (σ i))
abbrev pr_X11_breadth (a : Int) (k : Int) (M : zM) : Prop := (bI M) ∧ (bK M)
abbrev po_X11_breadth (a : Int) (k : Int) (M : zM) (r : Int) (M' : zM) : Prop := (¬ (gD (M 1 0) (M 1 1) a ∧ 0 ≤ k ∧ k ≤ 1) → r = -1 ∧ M' = M) ∧ (gD (M 1 0) (M 1 1) a ∧ 0 ≤ k ∧ k ≤ 1 → bW M M' ∧ bQ M' ∧ if k = 0 then gBr (zg (M' 1 0) (M' 1 1) (M' 12)) (M' 12 a) (a % 16) (a / 16) r else zB r (gMid (zg (M' 1 0) (M' 1 1) (M' 12)) (M' 12 a) (a % 16) (a / 16)))
set_option maxHeartbeats 1000000 in
theorem ok_X11_breadth : zSnd zS 145 0 0 yX11_breadth cX11_breadth 5 (some .int) 4 [2, 0, 0] (F_X11_breadth pr_X11_breadth po_X11_breadth) := by
  refine (sn_X11_breadth ok_X0_isDot ok_X2_refresh ok_X2_faceAt ok_X9_growSquares ok_X9_isMiddle ok_X11_asNumber ok_X9_breadthAt).mono ?_
  rintro xs P M hz hR ⟨a, k, rfl, ⟨hI, hK⟩, hP⟩
  refine ⟨_, _, rfl, ?_⟩
  have z_a := zall_h (zall_t hz) (by decide)
  have z_k := zall_h (zall_t (zall_t hz)) (by decide)
  change vc_X11_breadth pr_X0_isDot po_X0_isDot pr_X2_refresh po_X2_refresh pr_X2_faceAt po_X2_faceAt pr_X9_growSquares po_X9_growSquares pr_X9_isMiddle po_X9_isMiddle pr_X11_asNumber po_X11_asNumber pr_X9_breadthAt po_X9_breadthAt a k P M
  unfold vc_X11_breadth
  have gc1 : pr_X0_isDot a M := by
    show bDim M
    exact hI.d
  refine ⟨gc1, ?_⟩
  rintro r1 M2 ⟨q_rfl, e_r1⟩ z_r1 z_M2
  have q_rfl := q_rfl.symm
  subst q_rfl
  have zr := zif01 e_r1
  have hd := hI.d
  refine ⟨fun b1 => ?_, fun b1 => ?_⟩
  · -- b1.1
    refine hP _ _ ⟨?_, ?_⟩
    · show ¬ (gD (M 1 0) (M 1 1) a ∧ 0 ≤ k ∧ k ≤ 1) → (-1) = -1 ∧ M = M  -- p1.hn
      intro h; exact ⟨rfl, rfl⟩
    · show gD (M 1 0) (M 1 1) a ∧ 0 ≤ k ∧ k ≤ 1 → bW M M ∧ bQ M ∧ if k = 0 then gBr (zg (M 1 0) (M 1 1) (M 12)) (M 12 a) (a % 16) (a / 16) (-1) else zB (-1) (gMid (zg (M 1 0) (M 1 1) (M 12)) (M 12 a) (a % 16) (a / 16))  -- p1.hy
      intro h; exact absurd h.1 (zr.z.1 b1)
  · -- b1.2
    have hD : gD (M 1 0) (M 1 1) a := zr.ne.1 b1
    refine ⟨fun b2 => ?_, fun b2 => ?_⟩
    · -- b2.1
      refine hP _ _ ⟨?_, ?_⟩
      · show ¬ (gD (M 1 0) (M 1 1) a ∧ 0 ≤ k ∧ k ≤ 1) → (-1) = -1 ∧ M = M  -- p2.hn
        intro h; exact ⟨rfl, rfl⟩
      · show gD (M 1 0) (M 1 1) a ∧ 0 ≤ k ∧ k ≤ 1 → bW M M ∧ bQ M ∧ if k = 0 then gBr (zg (M 1 0) (M 1 1) (M 12)) (M 12 a) (a % 16) (a / 16) (-1) else zB (-1) (gMid (zg (M 1 0) (M 1 1) (M 12)) (M 12 a) (a % 16) (a / 16))  -- p2.hy
        intro h; omega
    · -- b2.2
      refine ⟨fun b3 => ?_, fun b3 => ?_⟩
      · -- b3.1
        have gc2 : pr_X2_refresh M := by
          refine ⟨?_, ?_, ?_, ?_⟩
          · show bDim M  -- c2.hd
            exact hI.d
          · show M 1 2 = 0 ∨ M 1 2 = 1  -- c2.ht
            exact hI.t
          · show ∀ i, gD (M 1 0) (M 1 1) i → 0 ≤ M 2 i  -- c2.hc
            intro i d; exact (hI.c i d.1 (by omega)).1
          · show M 5 1 = M 1 3 → bFok M  -- c2.hk
            exact hK.2.2.1
        refine ⟨gc2, ?_⟩
        rintro M10 ⟨pc2_hf, pc2_h51, pc2_hok, pc2_hs⟩ z_M10
        have I2 := hI.face pc2_hf
        have Q2 := hK.refresh pc2_hf pc2_h51 pc2_hok pc2_hs
        have q0 := pc2_hf 1 0 (by omega) (by omega)
        have q1 := pc2_hf 1 1 (by omega) (by omega)
        have d2 := I2.d
        have hD2 : gD (M10 1 0) (M10 1 1) a := by rw [q0, q1]; exact hD
        have o1 : 0 ≤ a := by
          first | with_reducible assumption | omega | exact trivial | with_reducible rfl  -- o1
        refine ⟨o1, ?_⟩
        have gc3 : pr_X2_faceAt (a % 16) (a / 16) M10 := by
          show bDim M10
          exact I2.d
        refine ⟨gc3, ?_⟩
        rintro r16 M17 ⟨q_rfl, e_r16⟩ z_r16 z_M17
        have q_rfl := q_rfl.symm
        subst q_rfl
        have e3 : r16 = M10 12 a := by
          rw [if_pos (by omega)] at e_r16
          rw [e_r16]; congr 1; omega
        have rg := Q2.ok.1.rng a hD2
        have zgA : zg (M10 1 0) (M10 1 1) (M10 12) (a % 16) (a / 16) = M10 12 a := zg_D hD2 (by omega)
        have gc4 : pr_X9_growSquares r16 M10 := by
          refine ⟨?_, ?_⟩
          · show bDim M10  -- c4.hd
            exact I2.d
          · show 0 ≤ r16  -- c4.hf0
            omega
        refine ⟨gc4, ?_⟩
        rintro M22 ⟨pc4_hf, pc4_hs⟩ z_M22
        have I3 : bI M22 := I2.fr (fun c i k _ => pc4_hf c i (by omega) (by omega))
        have Q3 : bQ M22 := Q2.fr (fun c i k => pc4_hf c i (by omega) (by omega))
        obtain ⟨v0, v1, v2, v3, v4, v5, v6⟩ := bVe.of (M := M10) (M' := M22) (fun c i k => pc4_hf c i (by omega) (by omega))
        have zgB : zg (M22 1 0) (M22 1 1) (M22 12) (a % 16) (a / 16) = r16 := by rw [v0, v1, v4, zgA, e3]
        have w3 : bW M M22 := fun c i k => by rw [pc4_hf c i (by omega) (by omega)]; exact pc2_hf c i (by omega) (by omega)
        refine ⟨fun b4 => ?_, fun b4 => ?_⟩
        · -- b4.1
          have gc5 : pr_X9_isMiddle (a % 16) (a / 16) M22 := by
            refine ⟨?_, ?_, ?_, ?_⟩
            · show bDim M22  -- c5.hd
              exact I3.d
            · show ∃ f, 0 ≤ f ∧ bSq M22 f  -- c5.hs
              exact ⟨r16, by omega, pc4_hs⟩
            · show 0 ≤ (a % 16) ∧ (a % 16) < 16  -- c5.hx
              omega
            · show 0 ≤ (a / 16) ∧ (a / 16) < 12  -- c5.hy
              omega
          refine ⟨gc5, ?_⟩
          rintro r28 M29 ⟨q_rfl, pc5_pb⟩ z_r28 z_M29
          have q_rfl := q_rfl.symm
          subst q_rfl
          have gc6 : pr_X11_asNumber r28 M22 := by
            show r28 = 0 ∨ r28 = 1
            exact pc5_pb.b
          refine ⟨gc6, ?_⟩
          rintro r34 M35 ⟨q_rfl, e_r34⟩ z_r34 z_M35
          have q_rfl := q_rfl.symm
          subst q_rfl
          refine hP _ _ ⟨?_, ?_⟩
          · show ¬ (gD (M 1 0) (M 1 1) a ∧ 0 ≤ k ∧ k ≤ 1) → r34 = -1 ∧ M22 = M  -- p3.hn
            intro h; exact absurd ⟨hD, by omega, by omega⟩ h
          · show gD (M 1 0) (M 1 1) a ∧ 0 ≤ k ∧ k ≤ 1 → bW M M22 ∧ bQ M22 ∧ if k = 0 then gBr (zg (M22 1 0) (M22 1 1) (M22 12)) (M22 12 a) (a % 16) (a / 16) r34 else zB r34 (gMid (zg (M22 1 0) (M22 1 1) (M22 12)) (M22 12 a) (a % 16) (a / 16))  -- p3.hy
            intro _; refine ⟨w3, Q3, ?_⟩
            rw [if_neg b4, e_r34, show M22 12 a = r16 by rw [v4, e3]]
            have e48 : M22 48 2 = r16 := pc4_hs.1
            rw [e48] at pc5_pb
            exact pc5_pb
        · -- b4.2
          have gc7 : pr_X9_breadthAt (a % 16) (a / 16) M22 := by
            refine ⟨?_, ?_, ?_, ?_⟩
            · show bDim M22  -- c7.hd
              exact I3.d
            · show ∃ f, 0 ≤ f ∧ bSq M22 f ∧ zg (M22 1 0) (M22 1 1) (M22 12) (a % 16) (a / 16) = f  -- c7.hs
              exact ⟨r16, by omega, pc4_hs, zgB⟩
            · show 0 ≤ (a % 16) ∧ (a % 16) < M22 1 0  -- c7.hx
              omega
            · show 0 ≤ (a / 16) ∧ (a / 16) < M22 1 1  -- c7.hy
              omega
          refine ⟨gc7, ?_⟩
          rintro r40 M41 ⟨q_rfl, pc7_hr⟩ z_r40 z_M41
          have q_rfl := q_rfl.symm
          subst q_rfl
          refine hP _ _ ⟨?_, ?_⟩
          · show ¬ (gD (M 1 0) (M 1 1) a ∧ 0 ≤ k ∧ k ≤ 1) → r40 = -1 ∧ M22 = M  -- p4.hn
            intro h; exact absurd ⟨hD, by omega, by omega⟩ h
          · show gD (M 1 0) (M 1 1) a ∧ 0 ≤ k ∧ k ≤ 1 → bW M M22 ∧ bQ M22 ∧ if k = 0 then gBr (zg (M22 1 0) (M22 1 1) (M22 12)) (M22 12 a) (a % 16) (a / 16) r40 else zB r40 (gMid (zg (M22 1 0) (M22 1 1) (M22 12)) (M22 12 a) (a % 16) (a / 16))  -- p4.hy
            intro _; refine ⟨w3, Q3, ?_⟩
            rw [if_pos b4, show M22 12 a = r16 by rw [v4, e3]]
            rw [zgB] at pc7_hr
            exact pc7_hr
      · -- b3.2
        refine hP _ _ ⟨?_, ?_⟩
        · show ¬ (gD (M 1 0) (M 1 1) a ∧ 0 ≤ k ∧ k ≤ 1) → (-1) = -1 ∧ M = M  -- p5.hn
          intro h; exact ⟨rfl, rfl⟩
        · show gD (M 1 0) (M 1 1) a ∧ 0 ≤ k ∧ k ≤ 1 → bW M M ∧ bQ M ∧ if k = 0 then gBr (zg (M 1 0) (M 1 1) (M 12)) (M 12 a) (a % 16) (a / 16) (-1) else zB (-1) (gMid (zg (M 1 0) (M 1 1) (M 12)) (M 12 a) (a % 16) (a / 16))  -- p5.hy
          intro h; omega

abbrev pr_X11_stroke (f : Int) (n : Int) (M : zM) : Prop := (bI M) ∧ (bK M)
abbrev po_X11_stroke (f : Int) (n : Int) (M : zM) (r : Int) (M' : zM) : Prop := (bW M M') ∧ (bQ M') ∧ (qI ((0 ≤ f ∧ f < M' 5 2) ∧ 1 ≤ n ∧ n ≤ 16) (qStk (M' 1 0) (M' 1 1) (M' 12) f n r) r)
set_option maxHeartbeats 1000000 in
theorem ok_X11_stroke : zSnd zS 145 0 0 yX11_stroke cX11_stroke 5 (some .int) 5 [2, 0, 0] (F_X11_stroke pr_X11_stroke po_X11_stroke) := by
  refine (sn_X11_stroke ok_X11_isFace ok_X9_greatestBreadth ok_X2_width ok_X2_height ok_X11_asNumber).mono ?_
  rintro xs P M hz hR ⟨f, n, rfl, ⟨hI, hK⟩, hP⟩
  refine ⟨_, _, rfl, ?_⟩
  have z_f := zall_h (zall_t hz) (by decide)
  have z_n := zall_h (zall_t (zall_t hz)) (by decide)
  change vc_X11_stroke pr_X11_isFace po_X11_isFace pr_X9_greatestBreadth po_X9_greatestBreadth pr_X2_width po_X2_width pr_X2_height po_X2_height pr_X11_asNumber po_X11_asNumber f n P M
  unfold vc_X11_stroke
  have gc1 : pr_X11_isFace f M := by
    refine ⟨?_, ?_⟩
    · show bI M  -- c1.hI
      exact hI
    · show bK M  -- c1.hK
      exact hK
  refine ⟨gc1, ?_⟩
  rintro r1 M2 ⟨pc1_hf, pc1_hQ, pc1_hs, pc1_hr⟩ z_r1 z_M2
  have I2 := hI.face pc1_hf
  have w2 : bW M M2 := fun c i k => pc1_hf c i (by omega) (by omega)
  refine ⟨fun b1 => ?_, fun b1 => ?_⟩
  · -- b1.1
    refine hP _ _ ⟨?_, ?_, ?_⟩
    · show bW M M2  -- p1.hw
      exact w2
    · show bQ M2  -- p1.hQ
      exact pc1_hQ
    · show qI ((0 ≤ f ∧ f < M2 5 2) ∧ 1 ≤ n ∧ n ≤ 16) (qStk (M2 1 0) (M2 1 1) (M2 12) f n (-1)) (-1)  -- p1.hr
      exact qI.n (fun k => pc1_hr.z.1 b1 k.1)
  · -- b1.2
    have ha := pc1_hr.ne.1 b1
    refine ⟨fun b2 => ?_, fun b2 => ?_⟩
    · -- b2.1
      refine hP _ _ ⟨?_, ?_, ?_⟩
      · show bW M M2  -- p2.hw
        exact w2
      · show bQ M2  -- p2.hQ
        exact pc1_hQ
      · show qI ((0 ≤ f ∧ f < M2 5 2) ∧ 1 ≤ n ∧ n ≤ 16) (qStk (M2 1 0) (M2 1 1) (M2 12) f n (-1)) (-1)  -- p2.hr
        exact qI.n (fun k => by omega)
    · -- b2.2
      refine ⟨fun b3 => ?_, fun b3 => ?_⟩
      · -- b3.1
        have gc2 : pr_X9_greatestBreadth f M2 := by
          refine ⟨?_, ?_⟩
          · show bDim M2  -- c2.hd
            exact I2.d
          · show 0 ≤ f  -- c2.hf0
            omega
        refine ⟨gc2, ?_⟩
        rintro r10 M11 ⟨pc2_hf, pc2_hr, pc2_hb⟩ z_r10 z_M11
        have I3 : bI M11 := I2.fr (fun c i k _ => pc2_hf c i (by omega) (by omega))
        have Q3 : bQ M11 := pc1_hQ.fr (fun c i k => pc2_hf c i (by omega) (by omega))
        obtain ⟨v0, v1, v2, v3, v4, v5, v6⟩ := bVe.of (M := M2) (M' := M11) (fun c i k => pc2_hf c i (by omega) (by omega))
        have bx := Q3.bx I3 (show 0 ≤ f ∧ f < M11 5 2 by omega)
        have N3 := Q3.N I3
        have w3 : bW M M11 := w2.tr (fun c i k => pc2_hf c i (by omega) (by omega))
        have gG : gGb (zg (M11 1 0) (M11 1 1) (M11 12)) f r10 := by rw [v0, v1, v4]; exact pc2_hr
        have gc3 : pr_X2_width f M11 := by
          refine ⟨?_, ?_⟩
          · show 0 ≤ f ∧ f < 192  -- c3.hf
            omega
          · show 0 ≤ M11 8 f ∧ M11 8 f ≤ M11 10 f ∧ M11 10 f < 16  -- c3.hb
            omega
        refine ⟨gc3, ?_⟩
        rintro r16 M17 ⟨q_rfl, e_r16⟩ z_r16 z_M17
        have q_rfl := q_rfl.symm
        subst q_rfl
        have gc4 : pr_X2_height f M11 := by
          refine ⟨?_, ?_⟩
          · show 0 ≤ f ∧ f < 192  -- c4.hf
            omega
          · show 0 ≤ M11 9 f ∧ M11 9 f ≤ M11 11 f ∧ M11 11 f < 12  -- c4.hb
            omega
        refine ⟨gc4, ?_⟩
        rintro r22 M23 ⟨q_rfl, e_r22⟩ z_r22 z_M23
        have q_rfl := q_rfl.symm
        subst q_rfl
        refine ⟨fun b4 => ?_, fun b4 => ?_⟩
        · -- b4.1
          have gc5 : pr_X11_asNumber 0 M11 := by
            show 0 = 0 ∨ 0 = 1
            omega
          refine ⟨gc5, ?_⟩
          rintro r30 M31 ⟨q_rfl, e_r30⟩ z_r30 z_M31
          have q_rfl := q_rfl.symm
          subst q_rfl
          refine hP _ _ ⟨?_, ?_, ?_⟩
          · show bW M M11  -- p3.hw
            exact w3
          · show bQ M11  -- p3.hQ
            exact Q3
          · show qI ((0 ≤ f ∧ f < M11 5 2) ∧ 1 ≤ n ∧ n ≤ 16) (qStk (M11 1 0) (M11 1 1) (M11 12) f n r30) r30  -- p3.hr
            exact qI.y ⟨by omega, by omega⟩ ⟨_, _, _, _, _, gG, bx.1, .inr ⟨e_r30, fun q => by omega⟩⟩
        · -- b4.2
          have o1 : zin (2 * r10) := by
            first | with_reducible assumption | omega | exact trivial | with_reducible rfl  -- o1
          refine ⟨o1, ?_⟩
          refine ⟨fun b5 => ?_, fun b5 => ?_⟩
          · -- b5.1
            have gc6 : pr_X11_asNumber 0 M11 := by
              show 0 = 0 ∨ 0 = 1
              omega
            refine ⟨gc6, ?_⟩
            rintro r38 M39 ⟨q_rfl, e_r38⟩ z_r38 z_M39
            have q_rfl := q_rfl.symm
            subst q_rfl
            refine hP _ _ ⟨?_, ?_, ?_⟩
            · show bW M M11  -- p4.hw
              exact w3
            · show bQ M11  -- p4.hQ
              exact Q3
            · show qI ((0 ≤ f ∧ f < M11 5 2) ∧ 1 ≤ n ∧ n ≤ 16) (qStk (M11 1 0) (M11 1 1) (M11 12) f n r38) r38  -- p4.hr
              exact qI.y ⟨by omega, by omega⟩ ⟨_, _, _, _, _, gG, bx.1, .inr ⟨e_r38, fun q => by omega⟩⟩
          · -- b5.2
            have gc7 : pr_X11_asNumber 1 M11 := by
              show 1 = 0 ∨ 1 = 1
              omega
            refine ⟨gc7, ?_⟩
            rintro r44 M45 ⟨q_rfl, e_r44⟩ z_r44 z_M45
            have q_rfl := q_rfl.symm
            subst q_rfl
            refine hP _ _ ⟨?_, ?_, ?_⟩
            · show bW M M11  -- p5.hw
              exact w3
            · show bQ M11  -- p5.hQ
              exact Q3
            · show qI ((0 ≤ f ∧ f < M11 5 2) ∧ 1 ≤ n ∧ n ≤ 16) (qStk (M11 1 0) (M11 1 1) (M11 12) f n r44) r44  -- p5.hr
              exact qI.y ⟨by omega, by omega⟩ ⟨_, _, _, _, _, gG, bx.1, .inl ⟨e_r44, by omega⟩⟩
      · -- b3.2
        refine hP _ _ ⟨?_, ?_, ?_⟩
        · show bW M M2  -- p6.hw
          exact w2
        · show bQ M2  -- p6.hQ
          exact pc1_hQ
        · show qI ((0 ≤ f ∧ f < M2 5 2) ∧ 1 ≤ n ∧ n ≤ 16) (qStk (M2 1 0) (M2 1 1) (M2 12) f n (-1)) (-1)  -- p6.hr
          exact qI.n (fun k => by omega)

abbrev pr_X11_like (a : Int) (b : Int) (M : zM) : Prop := (bI M) ∧ (bK M)
abbrev po_X11_like (a : Int) (b : Int) (M : zM) (r : Int) (M' : zM) : Prop := (bW M M') ∧ (bQ M') ∧ (qI ((0 ≤ a ∧ a < M' 5 2) ∧ (0 ≤ b ∧ b < M' 5 2)) (zB r (gLk (M' 1 0) (M' 1 1) (M' 12) a b)) r)
set_option maxHeartbeats 1000000 in
theorem ok_X11_like : zSnd zS 145 0 0 yX11_like cX11_like 3 (some .int) 5 [2, 0, 0] (F_X11_like pr_X11_like po_X11_like) := by
  refine (sn_X11_like ok_X11_isFace ok_X9_areLike ok_X11_asNumber).mono ?_
  rintro xs P M hz hR ⟨a, b, rfl, ⟨hI, hK⟩, hP⟩
  refine ⟨_, _, rfl, ?_⟩
  have z_a := zall_h (zall_t hz) (by decide)
  have z_b := zall_h (zall_t (zall_t hz)) (by decide)
  change vc_X11_like pr_X11_isFace po_X11_isFace pr_X9_areLike po_X9_areLike pr_X11_asNumber po_X11_asNumber a b P M
  unfold vc_X11_like
  have gc1 : pr_X11_isFace a M := by
    refine ⟨?_, ?_⟩
    · show bI M  -- c1.hI
      exact hI
    · show bK M  -- c1.hK
      exact hK
  refine ⟨gc1, ?_⟩
  rintro r1 M2 ⟨pc1_hf, pc1_hQ, pc1_hs, pc1_hr⟩ z_r1 z_M2
  have I2 := hI.face pc1_hf
  have w2 : bW M M2 := fun c i k => pc1_hf c i (by omega) (by omega)
  refine ⟨fun b1 => ?_, fun b1 => ?_⟩
  · -- b1.1
    refine hP _ _ ⟨?_, ?_, ?_⟩
    · show bW M M2  -- p1.hw
      exact w2
    · show bQ M2  -- p1.hQ
      exact pc1_hQ
    · show qI ((0 ≤ a ∧ a < M2 5 2) ∧ (0 ≤ b ∧ b < M2 5 2)) (zB (-1) (gLk (M2 1 0) (M2 1 1) (M2 12) a b)) (-1)  -- p1.hr
      exact qI.n (fun k => pc1_hr.z.1 b1 k.1)
  · -- b1.2
    have ha := pc1_hr.ne.1 b1
    have gc2 : pr_X11_isFace b M2 := by
      refine ⟨?_, ?_⟩
      · show bI M2  -- c2.hI
        exact I2
      · show bK M2  -- c2.hK
        exact pc1_hQ.1
    refine ⟨gc2, ?_⟩
    rintro r8 M9 ⟨pc2_hf, pc2_hQ, pc2_hs, pc2_hr⟩ z_r8 z_M9
    have eM := pc2_hs pc1_hQ
    subst eM
    refine ⟨fun b2 => ?_, fun b2 => ?_⟩
    · -- b2.1
      have hb' := pc2_hr.ne.1 b2
      have gc3 : pr_X9_areLike a b M9 := by
        refine ⟨?_, ?_, ?_, ?_⟩
        · show bDim M9  -- c3.hd
          exact I2.d
        · show bFok M9  -- c3.hF
          exact pc1_hQ.ok
        · show 0 ≤ a ∧ a < M9 5 2  -- c3.ha
          exact ha
        · show 0 ≤ b ∧ b < M9 5 2  -- c3.hb0
          exact hb'
      refine ⟨gc3, ?_⟩
      rintro r15 M16 ⟨q_rfl, pc3_pb⟩ z_r15 z_M16
      have q_rfl := q_rfl.symm
      subst q_rfl
      have gc4 : pr_X11_asNumber r15 M9 := by
        show r15 = 0 ∨ r15 = 1
        exact pc3_pb.b
      refine ⟨gc4, ?_⟩
      rintro r21 M22 ⟨q_rfl, e_r21⟩ z_r21 z_M22
      have q_rfl := q_rfl.symm
      subst q_rfl
      refine hP _ _ ⟨?_, ?_, ?_⟩
      · show bW M M9  -- p2.hw
        exact w2
      · show bQ M9  -- p2.hQ
        exact pc1_hQ
      · show qI ((0 ≤ a ∧ a < M9 5 2) ∧ (0 ≤ b ∧ b < M9 5 2)) (zB r21 (gLk (M9 1 0) (M9 1 1) (M9 12) a b)) r21  -- p2.hr
        rw [e_r21]; exact qI.y ⟨ha, hb'⟩ pc3_pb
    · -- b2.2
      refine hP _ _ ⟨?_, ?_, ?_⟩
      · show bW M M9  -- p3.hw
        exact w2
      · show bQ M9  -- p3.hQ
        exact pc1_hQ
      · show qI ((0 ≤ a ∧ a < M9 5 2) ∧ (0 ≤ b ∧ b < M9 5 2)) (zB (-1) (gLk (M9 1 0) (M9 1 1) (M9 12) a b)) (-1)  -- p3.hr
        exact qI.n (fun k => pc2_hr.z.1 b2 k.2)

abbrev pr_X11_butFor (a : Int) (b : Int) (M : zM) : Prop := (bI M) ∧ (bK M)
abbrev po_X11_butFor (a : Int) (b : Int) (M : zM) (r : Int) (M' : zM) : Prop := (bW M M') ∧ (bQ M') ∧ (qI ((0 ≤ a ∧ a < M' 5 2) ∧ (0 ≤ b ∧ b < M' 5 2)) (qBut (M' 1 0) (M' 1 1) (M' 12) a b r) r)
set_option maxHeartbeats 1000000 in
theorem ok_X11_butFor : zSnd zS 145 0 0 yX11_butFor cX11_butFor 3 (some .int) 5 [2, 0, 0] (F_X11_butFor pr_X11_butFor po_X11_butFor) := by
  refine (sn_X11_butFor ok_X11_isFace ok_X9_difference).mono ?_
  rintro xs P M hz hR ⟨a, b, rfl, ⟨hI, hK⟩, hP⟩
  refine ⟨_, _, rfl, ?_⟩
  have z_a := zall_h (zall_t hz) (by decide)
  have z_b := zall_h (zall_t (zall_t hz)) (by decide)
  change vc_X11_butFor pr_X11_isFace po_X11_isFace pr_X9_difference po_X9_difference a b P M
  unfold vc_X11_butFor
  have gc1 : pr_X11_isFace a M := by
    refine ⟨?_, ?_⟩
    · show bI M  -- c1.hI
      exact hI
    · show bK M  -- c1.hK
      exact hK
  refine ⟨gc1, ?_⟩
  rintro r1 M2 ⟨pc1_hf, pc1_hQ, pc1_hs, pc1_hr⟩ z_r1 z_M2
  have I2 := hI.face pc1_hf
  have w2 : bW M M2 := fun c i k => pc1_hf c i (by omega) (by omega)
  refine ⟨fun b1 => ?_, fun b1 => ?_⟩
  · -- b1.1
    refine hP _ _ ⟨?_, ?_, ?_⟩
    · show bW M M2  -- p1.hw
      exact w2
    · show bQ M2  -- p1.hQ
      exact pc1_hQ
    · show qI ((0 ≤ a ∧ a < M2 5 2) ∧ (0 ≤ b ∧ b < M2 5 2)) (qBut (M2 1 0) (M2 1 1) (M2 12) a b (-1)) (-1)  -- p1.hr
      exact qI.n (fun k => pc1_hr.z.1 b1 k.1)
  · -- b1.2
    have ha := pc1_hr.ne.1 b1
    have gc2 : pr_X11_isFace b M2 := by
      refine ⟨?_, ?_⟩
      · show bI M2  -- c2.hI
        exact I2
      · show bK M2  -- c2.hK
        exact pc1_hQ.1
    refine ⟨gc2, ?_⟩
    rintro r8 M9 ⟨pc2_hf, pc2_hQ, pc2_hs, pc2_hr⟩ z_r8 z_M9
    have eM := pc2_hs pc1_hQ
    subst eM
    refine ⟨fun b2 => ?_, fun b2 => ?_⟩
    · -- b2.1
      have hb' := pc2_hr.ne.1 b2
      have gc3 : pr_X9_difference a b M9 := by
        refine ⟨?_, ?_, ?_, ?_⟩
        · show bDim M9  -- c3.hd
          exact I2.d
        · show bFok M9  -- c3.hF
          exact pc1_hQ.ok
        · show 0 ≤ a ∧ a < M9 5 2  -- c3.ha
          exact ha
        · show 0 ≤ b ∧ b < M9 5 2  -- c3.hb0
          exact hb'
      refine ⟨gc3, ?_⟩
      rintro r15 M16 ⟨q_rfl, e_r15⟩ z_r15 z_M16
      have q_rfl := q_rfl.symm
      subst q_rfl
      refine hP _ _ ⟨?_, ?_, ?_⟩
      · show bW M M9  -- p2.hw
        exact w2
      · show bQ M9  -- p2.hQ
        exact pc1_hQ
      · show qI ((0 ≤ a ∧ a < M9 5 2) ∧ (0 ≤ b ∧ b < M9 5 2)) (qBut (M9 1 0) (M9 1 1) (M9 12) a b r15) r15  -- p2.hr
        exact qI.y ⟨ha, hb'⟩ ⟨_, _, _, _, _, _, _, _, (pc1_hQ.bx I2 ha).1, (pc1_hQ.bx I2 hb').1, e_r15⟩
    · -- b2.2
      refine hP _ _ ⟨?_, ?_, ?_⟩
      · show bW M M9  -- p3.hw
        exact w2
      · show bQ M9  -- p3.hQ
        exact pc1_hQ
      · show qI ((0 ≤ a ∧ a < M9 5 2) ∧ (0 ≤ b ∧ b < M9 5 2)) (qBut (M9 1 0) (M9 1 1) (M9 12) a b (-1)) (-1)  -- p3.hr
        exact qI.n (fun k => pc2_hr.z.1 b2 k.2)

abbrev pr_X11_leader (f : Int) (M : zM) : Prop := (bI M) ∧ (bK M)
abbrev po_X11_leader (f : Int) (M : zM) (r : Int) (M' : zM) : Prop := (bW M M') ∧ (bQ M') ∧ (qI (0 ≤ f ∧ f < M' 5 2) (gLd (M' 1 0) (M' 1 1) (M' 12) f r) r)
set_option maxHeartbeats 1000000 in
theorem ok_X11_leader : zSnd zS 145 0 0 yX11_leader cX11_leader 2 (some .int) 5 [2, 0] (F_X11_leader pr_X11_leader po_X11_leader) := by
  refine (sn_X11_leader ok_X11_isFace ok_X9_firstLike).mono ?_
  rintro xs P M hz hR ⟨f, rfl, ⟨hI, hK⟩, hP⟩
  refine ⟨_, rfl, ?_⟩
  have z_f := zall_h (zall_t hz) (by decide)
  change vc_X11_leader pr_X11_isFace po_X11_isFace pr_X9_firstLike po_X9_firstLike f P M
  unfold vc_X11_leader
  have gc1 : pr_X11_isFace f M := by
    refine ⟨?_, ?_⟩
    · show bI M  -- c1.hI
      exact hI
    · show bK M  -- c1.hK
      exact hK
  refine ⟨gc1, ?_⟩
  rintro r1 M2 ⟨pc1_hf, pc1_hQ, pc1_hs, pc1_hr⟩ z_r1 z_M2
  have I2 := hI.face pc1_hf
  have w2 : bW M M2 := fun c i k => pc1_hf c i (by omega) (by omega)
  refine ⟨fun b1 => ?_, fun b1 => ?_⟩
  · -- b1.1
    refine hP _ _ ⟨?_, ?_, ?_⟩
    · show bW M M2  -- p1.hw
      exact w2
    · show bQ M2  -- p1.hQ
      exact pc1_hQ
    · show qI (0 ≤ f ∧ f < M2 5 2) (gLd (M2 1 0) (M2 1 1) (M2 12) f (-1)) (-1)  -- p1.hr
      exact qI.n (fun k => pc1_hr.z.1 b1 k)
  · -- b1.2
    have ha := pc1_hr.ne.1 b1
    have gc2 : pr_X9_firstLike f M2 := by
      refine ⟨?_, ?_, ?_⟩
      · show bDim M2  -- c2.hd
        exact I2.d
      · show bFok M2  -- c2.hF
        exact pc1_hQ.ok
      · show 0 ≤ f ∧ f < M2 5 2  -- c2.ha
        exact ha
    refine ⟨gc2, ?_⟩
    rintro r8 M9 ⟨q_rfl, pc2_hr⟩ z_r8 z_M9
    have q_rfl := q_rfl.symm
    subst q_rfl
    refine hP _ _ ⟨?_, ?_, ?_⟩
    · show bW M M2  -- p2.hw
      exact w2
    · show bQ M2  -- p2.hQ
      exact pc1_hQ
    · show qI (0 ≤ f ∧ f < M2 5 2) (gLd (M2 1 0) (M2 1 1) (M2 12) f r8) r8  -- p2.hr
      exact qI.y ha pc2_hr

abbrev pr_X11_few (k : Int) (what : Int) (M : zM) : Prop := (bI M) ∧ (bK M)
abbrev po_X11_few (k : Int) (what : Int) (M : zM) (r : Int) (M' : zM) : Prop := (bW M M') ∧ (bK M') ∧ (qI ((1 ≤ k ∧ k ≤ 4) ∧ 0 ≤ what ∧ what ≤ 1) (qFw (M 1 0) (M 1 1) (M 2) (M 3) k what r) r)
set_option maxHeartbeats 1000000 in
theorem ok_X11_few : zSnd zS 145 0 0 yX11_few cX11_few 3 (some .int) 5 [2, 0, 0] (F_X11_few pr_X11_few po_X11_few) := by
  refine (sn_X11_few ok_X4_choose).mono ?_
  rintro xs P M hz hR ⟨k, what, rfl, ⟨hI, hK⟩, hP⟩
  refine ⟨_, _, rfl, ?_⟩
  have z_k := zall_h (zall_t hz) (by decide)
  have z_what := zall_h (zall_t (zall_t hz)) (by decide)
  change vc_X11_few pr_X4_choose po_X4_choose k what P M
  unfold vc_X11_few
  refine ⟨fun b1 => ?_, fun b1 => ?_⟩
  · -- b1.1
    refine hP _ _ ⟨?_, ?_, ?_⟩
    · show bW M M  -- p1.hw
      exact bW.r
    · show bK M  -- p1.hK
      exact hK
    · show qI ((1 ≤ k ∧ k ≤ 4) ∧ 0 ≤ what ∧ what ≤ 1) (qFw (M 1 0) (M 1 1) (M 2) (M 3) k what (-1)) (-1)  -- p1.hr
      exact qI.n (fun k => by omega)
  · -- b1.2
    refine ⟨fun b2 => ?_, fun b2 => ?_⟩
    · -- b2.1
      refine hP _ _ ⟨?_, ?_, ?_⟩
      · show bW M M  -- p2.hw
        exact bW.r
      · show bK M  -- p2.hK
        exact hK
      · show qI ((1 ≤ k ∧ k ≤ 4) ∧ 0 ≤ what ∧ what ≤ 1) (qFw (M 1 0) (M 1 1) (M 2) (M 3) k what (-1)) (-1)  -- p2.hr
        exact qI.n (fun k => by omega)
    · -- b2.2
      refine ⟨fun b3 => ?_, fun b3 => ?_⟩
      · -- b3.1
        refine hP _ _ ⟨?_, ?_, ?_⟩
        · show bW M M  -- p3.hw
          exact bW.r
        · show bK M  -- p3.hK
          exact hK
        · show qI ((1 ≤ k ∧ k ≤ 4) ∧ 0 ≤ what ∧ what ≤ 1) (qFw (M 1 0) (M 1 1) (M 2) (M 3) k what (-1)) (-1)  -- p3.hr
          exact qI.n (fun k => by omega)
      · -- b3.2
        refine ⟨fun b4 => ?_, fun b4 => ?_⟩
        · -- b4.1
          have gc1 : pr_X4_choose k M := by
            refine ⟨?_, ?_, ?_, ?_⟩
            · show bDim M  -- c1.hd
              exact hI.d
            · show bCo M  -- c1.hc
              exact hI.c
            · show ∀ c, 0 ≤ c → c < 16 → 0 ≤ M 3 c ∧ M 3 c ≤ 255  -- c1.ht
              exact hI.tn
            · show 1 ≤ k ∧ k ≤ 4  -- c1.hk
              omega
          refine ⟨gc1, ?_⟩
          rintro r5 M6 ⟨pc1_hf, pc1_hr, pc1_hw⟩ z_r5 z_M6
          have w1 : bW M M6 := fun c i k => pc1_hf c i (by omega) (by omega) (by omega)
          have K1 : bK M6 := hK.fr (fun c i k => pc1_hf c i (by omega) (by omega) (by omega))
          refine ⟨fun b5 => ?_, fun b5 => ?_⟩
          · -- b5.1
            refine ⟨fun b6 => ?_, fun b6 => ?_⟩
            · -- b6.1
              refine hP _ _ ⟨?_, ?_, ?_⟩
              · show bW M M6  -- p4.hw
                exact w1
              · show bK M6  -- p4.hK
                exact K1
              · show qI ((1 ≤ k ∧ k ≤ 4) ∧ 0 ≤ what ∧ what ≤ 1) (qFw (M 1 0) (M 1 1) (M 2) (M 3) k what (M6 50 2)) (M6 50 2)  -- p4.hr
                exact qI.y (by omega) (.inr ⟨pc1_hr.ne.1 b5, _, _, pc1_hw (pc1_hr.ne.1 b5), by rw [if_neg b6]⟩)
            · -- b6.2
              refine hP _ _ ⟨?_, ?_, ?_⟩
              · show bW M M6  -- p5.hw
                exact w1
              · show bK M6  -- p5.hK
                exact K1
              · show qI ((1 ≤ k ∧ k ≤ 4) ∧ 0 ≤ what ∧ what ≤ 1) (qFw (M 1 0) (M 1 1) (M 2) (M 3) k what (M6 50 1)) (M6 50 1)  -- p5.hr
                exact qI.y (by omega) (.inr ⟨pc1_hr.ne.1 b5, _, _, pc1_hw (pc1_hr.ne.1 b5), by rw [if_pos b6]⟩)
          · -- b5.2
            refine hP _ _ ⟨?_, ?_, ?_⟩
            · show bW M M6  -- p6.hw
              exact w1
            · show bK M6  -- p6.hK
              exact K1
            · show qI ((1 ≤ k ∧ k ≤ 4) ∧ 0 ≤ what ∧ what ≤ 1) (qFw (M 1 0) (M 1 1) (M 2) (M 3) k what (-3)) (-3)  -- p6.hr
              exact qI.y (by omega) (.inl ⟨by have := pc1_hr.z.1 b5; omega, rfl⟩)
        · -- b4.2
          refine hP _ _ ⟨?_, ?_, ?_⟩
          · show bW M M  -- p7.hw
            exact bW.r
          · show bK M  -- p7.hK
            exact hK
          · show qI ((1 ≤ k ∧ k ≤ 4) ∧ 0 ≤ what ∧ what ≤ 1) (qFw (M 1 0) (M 1 1) (M 2) (M 3) k what (-1)) (-1)  -- p7.hr
            exact qI.n (fun k => by omega)

abbrev pr_X11_makeFew (k : Int) (M : zM) : Prop := (bI M) ∧ (bK M)
abbrev po_X11_makeFew (k : Int) (M : zM) (r : Int) (M' : zM) : Prop := (¬ (1 ≤ k ∧ k ≤ 4) → r = -1 ∧ M' = M) ∧ (1 ≤ k ∧ k ≤ 4 → 8 < zc (fun c => 0 < gCn (M 1 0) (M 1 1) (M 2) c) 16 → r = -3 ∧ bW M M' ∧ bK M') ∧ (1 ≤ k ∧ k ≤ 4 → zc (fun c => 0 < gCn (M 1 0) (M 1 1) (M 2) c) 16 ≤ 8 → ∃ N l s, gFw (gCn (M 1 0) (M 1 1) (M 2)) (M 3) k l s ∧ (∀ i, 0 ≤ i → i < 192 → N 4 i = if gD (M 1 0) (M 1 1) i then gNe (M 3) s (M 2 i) 16 else M 2 i) ∧ bW M N ∧ bK N ∧ po_X11_changeToDraft N r M')
set_option maxHeartbeats 1000000 in
theorem ok_X11_makeFew : zSnd zS 145 0 0 yX11_makeFew cX11_makeFew 2 (some .int) 5 [2, 0] (F_X11_makeFew pr_X11_makeFew po_X11_makeFew) := by
  refine (sn_X11_makeFew ok_X4_choose ok_X0_startDraft ok_X4_paintDraft ok_X11_changeToDraft).mono ?_
  rintro xs P M hz hR ⟨k, rfl, ⟨hI, hK⟩, hP⟩
  refine ⟨_, rfl, ?_⟩
  have z_k := zall_h (zall_t hz) (by decide)
  change vc_X11_makeFew pr_X4_choose po_X4_choose pr_X0_startDraft po_X0_startDraft pr_X4_paintDraft po_X4_paintDraft pr_X11_changeToDraft po_X11_changeToDraft k P M
  unfold vc_X11_makeFew
  refine ⟨fun b1 => ?_, fun b1 => ?_⟩
  · -- b1.1
    refine hP _ _ ⟨?_, ?_, ?_⟩
    · show ¬ (1 ≤ k ∧ k ≤ 4) → (-1) = -1 ∧ M = M  -- p1.hn
      intro _; exact ⟨rfl, rfl⟩
    · show 1 ≤ k ∧ k ≤ 4 → 8 < zc (fun c => 0 < gCn (M 1 0) (M 1 1) (M 2) c) 16 → (-1) = -3 ∧ bW M M ∧ bK M  -- p1.hm
      intro h; omega
    · show 1 ≤ k ∧ k ≤ 4 → zc (fun c => 0 < gCn (M 1 0) (M 1 1) (M 2) c) 16 ≤ 8 → ∃ N l s, gFw (gCn (M 1 0) (M 1 1) (M 2)) (M 3) k l s ∧ (∀ i, 0 ≤ i → i < 192 → N 4 i = if gD (M 1 0) (M 1 1) i then gNe (M 3) s (M 2 i) 16 else M 2 i) ∧ bW M N ∧ bK N ∧ po_X11_changeToDraft N (-1) M  -- p1.hy
      intro h; omega
  · -- b1.2
    refine ⟨fun b2 => ?_, fun b2 => ?_⟩
    · -- b2.1
      have gc1 : pr_X4_choose k M := by
        refine ⟨?_, ?_, ?_, ?_⟩
        · show bDim M  -- c1.hd
          exact hI.d
        · show bCo M  -- c1.hc
          exact hI.c
        · show ∀ c, 0 ≤ c → c < 16 → 0 ≤ M 3 c ∧ M 3 c ≤ 255  -- c1.ht
          exact hI.tn
        · show 1 ≤ k ∧ k ≤ 4  -- c1.hk
          omega
      refine ⟨gc1, ?_⟩
      rintro r3 M4 ⟨pc1_hf, pc1_hr, pc1_hw⟩ z_r3 z_M4
      have w1 : bW M M4 := fun c i k => pc1_hf c i (by omega) (by omega) (by omega)
      have K1 : bK M4 := hK.fr (fun c i k => pc1_hf c i (by omega) (by omega) (by omega))
      refine ⟨fun b3 => ?_, fun b3 => ?_⟩
      · -- b3.1
        have le8 := pc1_hr.ne.1 b3
        have W := pc1_hw le8
        have gc2 : pr_X0_startDraft M4 := by
          show ∀ i, 0 ≤ i → i < 192 → 0 ≤ M4 2 i ∧ M4 2 i ≤ 15
          exact (hI.w w1).c
        refine ⟨gc2, ?_⟩
        rintro M10 pc2_e z_M10
        have g4 : ∀ i, 0 ≤ i → i < 192 → M10 4 i = M 2 i := fun i i0 i1 => by rw [pc2_e, zcpy_s _ (by omega), show 0 + (i - 0) = i by omega]; exact w1 2 i (by omega)
        have gn : ∀ d i, d ≠ 4 → M10 d i = M4 d i := fun d i k => by rw [pc2_e, zcpy_n _ (by omega)]
        have I2 : bI M10 := (hI.w w1).fr (fun c i k _ => gn c i (by omega))
        have e0 : M10 1 0 = M 1 0 := by rw [gn 1 0 (by decide)]; exact w1 1 0 (by omega)
        have e1 : M10 1 1 = M 1 1 := by rw [gn 1 1 (by decide)]; exact w1 1 1 (by omega)
        have e2 : M10 2 = M 2 := funext fun i => by rw [gn 2 i (by decide)]; exact w1 2 i (by omega)
        have e3 : M10 3 = M 3 := funext fun i => by rw [gn 3 i (by decide)]; exact w1 3 i (by omega)
        have e5 : M10 50 2 = M4 50 2 := gn 50 2 (by decide)
        have gc3 : pr_X4_paintDraft M10 := by
          refine ⟨?_, ?_, ?_, ?_⟩
          · show bDim M10  -- c3.hd
            exact I2.d
          · show bCo M10  -- c3.hc
            exact I2.c
          · show ∀ c, 0 ≤ c → c < 16 → 0 ≤ M10 3 c ∧ M10 3 c ≤ 255  -- c3.ht
            exact I2.tn
          · show 1 ≤ M10 50 2 ∧ M10 50 2 < 65536  -- c3.hs
            rw [e5]; exact W.1
        refine ⟨gc3, ?_⟩
        rintro M15 ⟨pc3_hf, pc3_hp⟩ z_M15
        have p4 : ∀ i, 0 ≤ i → i < 192 → M15 4 i = if gD (M 1 0) (M 1 1) i then gNe (M 3) (M4 50 2) (M 2 i) 16 else M 2 i := fun i i0 i1 => by
          rw [pc3_hp i i0 i1, e0, e1, e2, e3, e5, g4 i i0 i1]
        have w4 : bW M M15 := fun c i k => by rw [pc3_hf c i (by omega), gn c i (by omega)]; exact w1 c i k
        have r4 : ∀ i, 0 ≤ i → i < 192 → 0 ≤ M15 4 i ∧ M15 4 i ≤ 15 := fun i i0 i1 => by
          rw [p4 i i0 i1]
          split
          · have n0 := gNe_0 (tone := M 3) (c := M 2 i) (zbt_ne W.1.1 W.1.2)
            have n1 := @gNe_b (M 3) (M4 50 2) (M 2 i) 16 (by decide)
            omega
          · exact hI.c i i0 i1
        have K4 : bK M15 := K1.d4 (fun c i k q => by rw [pc3_hf c i q, gn c i q]) r4
        have I4 : bI M15 := hI.w w4
        have gc4 : pr_X11_changeToDraft M15 := by
          refine ⟨?_, ?_, ?_, ?_, ?_⟩
          · show 0 ≤ M15 77 0 ∧ M15 77 0 ≤ 20  -- c4.hu
            have := I4.h.1; omega
          · show 0 ≤ M15 77 2 ∧ M15 77 2 < 20  -- c4.ho
            exact I4.h.2.1
          · show 0 ≤ M15 1 3 ∧ M15 1 3 < 1000000000  -- c4.hv
            exact I4.v
          · show ∀ i, 0 ≤ i → i < 192 → 0 ≤ M15 2 i ∧ M15 2 i ≤ 15  -- c4.hc
            exact I4.c
          · show ∀ i, 0 ≤ i → i < 192 → 0 ≤ M15 4 i ∧ M15 4 i ≤ 15  -- c4.hq
            exact r4
        refine ⟨gc4, ?_⟩
        rintro r20 M21 ⟨pc4_hr, pc4_hs, pc4_hf, pc4_hd⟩ z_r20 z_M21
        refine hP _ _ ⟨?_, ?_, ?_⟩
        · show ¬ (1 ≤ k ∧ k ≤ 4) → r20 = -1 ∧ M21 = M  -- p2.hn
          intro h; omega
        · show 1 ≤ k ∧ k ≤ 4 → 8 < zc (fun c => 0 < gCn (M 1 0) (M 1 1) (M 2) c) 16 → r20 = -3 ∧ bW M M21 ∧ bK M21  -- p2.hm
          intro _ h; omega
        · show 1 ≤ k ∧ k ≤ 4 → zc (fun c => 0 < gCn (M 1 0) (M 1 1) (M 2) c) 16 ≤ 8 → ∃ N l s, gFw (gCn (M 1 0) (M 1 1) (M 2)) (M 3) k l s ∧ (∀ i, 0 ≤ i → i < 192 → N 4 i = if gD (M 1 0) (M 1 1) i then gNe (M 3) s (M 2 i) 16 else M 2 i) ∧ bW M N ∧ bK N ∧ po_X11_changeToDraft N r20 M21  -- p2.hy
          intro _ _; exact ⟨M15, _, _, W, p4, w4, K4, pc4_hr, pc4_hs, pc4_hf, pc4_hd⟩
      · -- b3.2
        refine hP _ _ ⟨?_, ?_, ?_⟩
        · show ¬ (1 ≤ k ∧ k ≤ 4) → (-3) = -1 ∧ M4 = M  -- p3.hn
          intro h; omega
        · show 1 ≤ k ∧ k ≤ 4 → 8 < zc (fun c => 0 < gCn (M 1 0) (M 1 1) (M 2) c) 16 → (-3) = -3 ∧ bW M M4 ∧ bK M4  -- p3.hm
          intro _ _; exact ⟨rfl, w1, K1⟩
        · show 1 ≤ k ∧ k ≤ 4 → zc (fun c => 0 < gCn (M 1 0) (M 1 1) (M 2) c) 16 ≤ 8 → ∃ N l s, gFw (gCn (M 1 0) (M 1 1) (M 2)) (M 3) k l s ∧ (∀ i, 0 ≤ i → i < 192 → N 4 i = if gD (M 1 0) (M 1 1) i then gNe (M 3) s (M 2 i) 16 else M 2 i) ∧ bW M N ∧ bK N ∧ po_X11_changeToDraft N (-3) M4  -- p3.hy
          intro _ h; exact absurd h (pc1_hr.z.1 b3)
    · -- b2.2
      refine hP _ _ ⟨?_, ?_, ?_⟩
      · show ¬ (1 ≤ k ∧ k ≤ 4) → (-1) = -1 ∧ M = M  -- p4.hn
        intro _; exact ⟨rfl, rfl⟩
      · show 1 ≤ k ∧ k ≤ 4 → 8 < zc (fun c => 0 < gCn (M 1 0) (M 1 1) (M 2) c) 16 → (-1) = -3 ∧ bW M M ∧ bK M  -- p4.hm
        intro h; omega
      · show 1 ≤ k ∧ k ≤ 4 → zc (fun c => 0 < gCn (M 1 0) (M 1 1) (M 2) c) 16 ≤ 8 → ∃ N l s, gFw (gCn (M 1 0) (M 1 1) (M 2)) (M 3) k l s ∧ (∀ i, 0 ≤ i → i < 192 → N 4 i = if gD (M 1 0) (M 1 1) i then gNe (M 3) s (M 2 i) 16 else M 2 i) ∧ bW M N ∧ bK N ∧ po_X11_changeToDraft N (-1) M  -- p4.hy
        intro h; omega

abbrev pr_X11_pen (c : Int) (i : Int) (M : zM) : Prop := (bI M) ∧ (bK M)
abbrev po_X11_pen (c : Int) (i : Int) (M : zM) (r : Int) (M' : zM) : Prop := (¬ ((0 ≤ c ∧ c ≤ 15) ∧ -1 ≤ i ∧ i ≤ 6) → r = -1 ∧ M' = M) ∧ ((0 ≤ c ∧ c ≤ 15) ∧ -1 ≤ i ∧ i ≤ 6 → bW M M' ∧ bQ M' ∧ qPen (M' 2) (M' 7) (M' 5 2) c i r)
set_option maxHeartbeats 1000000 in
theorem ok_X11_pen : zSnd zS 145 0 0 yX11_pen cX11_pen 3 (some .int) 6 [2, 0, 0] (F_X11_pen pr_X11_pen po_X11_pen) := by
  refine (sn_X11_pen ok_X11_isColour ok_X2_refresh ok_X5_collect ok_X5_plan).mono ?_
  rintro xs P M hz hR ⟨c, i, rfl, ⟨hI, hK⟩, hP⟩
  refine ⟨_, _, rfl, ?_⟩
  have z_c := zall_h (zall_t hz) (by decide)
  have z_i := zall_h (zall_t (zall_t hz)) (by decide)
  change vc_X11_pen pr_X11_isColour po_X11_isColour pr_X2_refresh po_X2_refresh pr_X5_collect po_X5_collect pr_X5_plan po_X5_plan c i P M
  unfold vc_X11_pen
  have gc1 : pr_X11_isColour c M := trivial
  refine ⟨gc1, ?_⟩
  rintro r1 M2 ⟨q_rfl, e_r1⟩ z_r1 z_M2
  have q_rfl := q_rfl.symm
  subst q_rfl
  have zr := zif01 e_r1
  refine ⟨fun b1 => ?_, fun b1 => ?_⟩
  · -- b1.1
    refine hP _ _ ⟨?_, ?_⟩
    · show ¬ ((0 ≤ c ∧ c ≤ 15) ∧ -1 ≤ i ∧ i ≤ 6) → (-1) = -1 ∧ M = M  -- p1.hn
      intro _; exact ⟨rfl, rfl⟩
    · show (0 ≤ c ∧ c ≤ 15) ∧ -1 ≤ i ∧ i ≤ 6 → bW M M ∧ bQ M ∧ qPen (M 2) (M 7) (M 5 2) c i (-1)  -- p1.hy
      intro h; have := zr.z.1 b1; omega
  · -- b1.2
    have hc := zr.ne.1 b1
    refine ⟨fun b2 => ?_, fun b2 => ?_⟩
    · -- b2.1
      refine hP _ _ ⟨?_, ?_⟩
      · show ¬ ((0 ≤ c ∧ c ≤ 15) ∧ -1 ≤ i ∧ i ≤ 6) → (-1) = -1 ∧ M = M  -- p2.hn
        intro _; exact ⟨rfl, rfl⟩
      · show (0 ≤ c ∧ c ≤ 15) ∧ -1 ≤ i ∧ i ≤ 6 → bW M M ∧ bQ M ∧ qPen (M 2) (M 7) (M 5 2) c i (-1)  -- p2.hy
        intro h; omega
    · -- b2.2
      refine ⟨fun b3 => ?_, fun b3 => ?_⟩
      · -- b3.1
        have gc2 : pr_X2_refresh M := by
          refine ⟨?_, ?_, ?_, ?_⟩
          · show bDim M  -- c2.hd
            exact hI.d
          · show M 1 2 = 0 ∨ M 1 2 = 1  -- c2.ht
            exact hI.t
          · show ∀ i, gD (M 1 0) (M 1 1) i → 0 ≤ M 2 i  -- c2.hc
            intro i d; have := hI.d; exact (hI.c i d.1 (by omega)).1
          · show M 5 1 = M 1 3 → bFok M  -- c2.hk
            exact hK.2.2.1
        refine ⟨gc2, ?_⟩
        rintro M10 ⟨pc2_hf, pc2_h51, pc2_hok, pc2_hs⟩ z_M10
        have I2 := hI.face pc2_hf
        have Q2 := hK.refresh pc2_hf pc2_h51 pc2_hok pc2_hs
        have gc3 : pr_X5_collect c M10 := by
          refine ⟨?_, ?_⟩
          · show bDim M10  -- c3.hd
            exact I2.d
          · show bFok M10  -- c3.hk
            exact Q2.ok
        refine ⟨gc3, ?_⟩
        rintro r15 M16 ⟨pc3_hf, pc3_hb, pc3_hn⟩ z_r15 z_M16
        have I3 : bI M16 := I2.fr (fun c i k _ => pc3_hf c i (by omega) (by omega))
        have Q3 : bQ M16 := Q2.fr (fun c i k => pc3_hf c i (by omega) (by omega))
        obtain ⟨v0, v1, v2, v3, v4, v5, v6⟩ := bVe.of (M := M10) (M' := M16) (fun c i k => pc3_hf c i (by omega) (by omega))
        have w3 : bW M M16 := fun c i k => by rw [pc3_hf c i (by omega) (by omega)]; exact pc2_hf c i (by omega) (by omega)
        have N2 := Q2.N I2
        have zb := zc_b (fun f => M10 2 (M10 7 f) = c) (M10 5 2) N2.1
        refine ⟨fun b4 => ?_, fun b4 => ?_⟩
        · -- b4.1
          have r1 : r15 = 1 := by have := pc3_hb.b; omega
          have le7 := pc3_hb.ne.1 b4
          have ⟨n1, nS⟩ := pc3_hn r1
          refine ⟨fun b5 => ?_, fun b5 => ?_⟩
          · -- b5.1
            refine hP _ _ ⟨?_, ?_⟩
            · show ¬ ((0 ≤ c ∧ c ≤ 15) ∧ -1 ≤ i ∧ i ≤ 6) → (-4) = -1 ∧ M16 = M  -- p3.hn
              intro h; omega
            · show (0 ≤ c ∧ c ≤ 15) ∧ -1 ≤ i ∧ i ≤ 6 → bW M M16 ∧ bQ M16 ∧ qPen (M16 2) (M16 7) (M16 5 2) c i (-4)  -- p3.hy
              intro _; refine ⟨w3, Q3, .inr (.inl ?_)⟩
              rw [v3, v5, v6]; exact ⟨le7, .inr (by omega), rfl⟩
          · -- b5.2
            refine ⟨fun b6 => ?_, fun b6 => ?_⟩
            · -- b6.1
              have gc4 : pr_X5_plan M16 := by
                refine ⟨?_, ?_⟩
                · show 1 ≤ M16 53 1 ∧ M16 53 1 ≤ 7  -- c4.hn
                  omega
                · show gSp (M16 53 1) (M16 7) (M16 55)  -- c4.hS
                  intro t t0 t1
                  have a := nS t t0 t1
                  have F := Q3.F I3 (f := M16 55 t) (by omega)
                  have := I3.d
                  omega
              refine ⟨gc4, ?_⟩
              rintro M24 ⟨pc4_hf, pc4_hw⟩ z_M24
              obtain ⟨u0, u1, u2, u3, u4, u5, u6⟩ := bVe.of (M := M16) (M' := M24) (fun c i k => pc4_hf c i (by omega) (by omega) (by omega))
              have w4 : bW M M24 := w3.tr (fun c i k => pc4_hf c i (by omega) (by omega) (by omega))
              have Q4 : bQ M24 := Q3.fr (fun c i k => pc4_hf c i (by omega) (by omega) (by omega))
              obtain ⟨σ, hσ, ho⟩ := pc4_hw
              refine ⟨fun b7 => ?_, fun b7 => ?_⟩
              · -- b7.1
                have o1 : ((0 : Int) ≤ i ∧ i < 7) := by
                  omega
                refine ⟨o1, ?_⟩
                refine hP _ _ ⟨?_, ?_⟩
                · show ¬ ((0 ≤ c ∧ c ≤ 15) ∧ -1 ≤ i ∧ i ≤ 6) → (M24 54 i) = -1 ∧ M24 = M  -- p4.hn
                  intro h; omega
                · show (0 ≤ c ∧ c ≤ 15) ∧ -1 ≤ i ∧ i ≤ 6 → bW M M24 ∧ bQ M24 ∧ qPen (M24 2) (M24 7) (M24 5 2) c i (M24 54 i)  -- p4.hy
                  intro _; refine ⟨w4, Q4, .inr (.inr ?_)⟩
                  rw [u3, u5, u6, v3, v5, v6]
                  rw [v5] at hσ
                  refine ⟨M16 53 1, n1, by omega, by omega, M16 55, σ, _, nS, hσ, ?_⟩
                  rw [if_neg (by omega)]; exact ho i (by omega) (by omega)
              · -- b7.2
                refine hP _ _ ⟨?_, ?_⟩
                · show ¬ ((0 ≤ c ∧ c ≤ 15) ∧ -1 ≤ i ∧ i ≤ 6) → (M24 53 2) = -1 ∧ M24 = M  -- p5.hn
                  intro h; omega
                · show (0 ≤ c ∧ c ≤ 15) ∧ -1 ≤ i ∧ i ≤ 6 → bW M M24 ∧ bQ M24 ∧ qPen (M24 2) (M24 7) (M24 5 2) c i (M24 53 2)  -- p5.hy
                  intro _; refine ⟨w4, Q4, .inr (.inr ?_)⟩
                  rw [u3, u5, u6, v3, v5, v6]
                  rw [v5] at hσ
                  refine ⟨M16 53 1, n1, by omega, by omega, M16 55, σ, _, nS, hσ, ?_⟩
                  rw [if_pos (by omega)]
            · -- b6.2
              refine hP _ _ ⟨?_, ?_⟩
              · show ¬ ((0 ≤ c ∧ c ≤ 15) ∧ -1 ≤ i ∧ i ≤ 6) → (-4) = -1 ∧ M16 = M  -- p6.hn
                intro h; omega
              · show (0 ≤ c ∧ c ≤ 15) ∧ -1 ≤ i ∧ i ≤ 6 → bW M M16 ∧ bQ M16 ∧ qPen (M16 2) (M16 7) (M16 5 2) c i (-4)  -- p6.hy
                intro _; refine ⟨w3, Q3, .inr (.inl ?_)⟩
                rw [v3, v5, v6]; exact ⟨le7, .inl (by omega), rfl⟩
        · -- b4.2
          refine hP _ _ ⟨?_, ?_⟩
          · show ¬ ((0 ≤ c ∧ c ≤ 15) ∧ -1 ≤ i ∧ i ≤ 6) → (-3) = -1 ∧ M16 = M  -- p7.hn
            intro h; omega
          · show (0 ≤ c ∧ c ≤ 15) ∧ -1 ≤ i ∧ i ≤ 6 → bW M M16 ∧ bQ M16 ∧ qPen (M16 2) (M16 7) (M16 5 2) c i (-3)  -- p7.hy
            intro _; refine ⟨w3, Q3, .inl ⟨?_, rfl⟩⟩
            have := pc3_hb.z.1 b4
            rw [v3, v5, v6]; omega
      · -- b3.2
        refine hP _ _ ⟨?_, ?_⟩
        · show ¬ ((0 ≤ c ∧ c ≤ 15) ∧ -1 ≤ i ∧ i ≤ 6) → (-1) = -1 ∧ M = M  -- p8.hn
          intro _; exact ⟨rfl, rfl⟩
        · show (0 ≤ c ∧ c ≤ 15) ∧ -1 ≤ i ∧ i ≤ 6 → bW M M ∧ bQ M ∧ qPen (M 2) (M 7) (M 5 2) c i (-1)  -- p8.hy
          intro h; omega

