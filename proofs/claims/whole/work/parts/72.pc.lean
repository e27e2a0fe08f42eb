def bVe (M M' : zM) : Prop := M' 1 0 = M 1 0 ∧ M' 1 1 = M 1 1 ∧ M' 1 2 = M 1 2 ∧ M' 2 = M 2 ∧ M' 12 = M 12 ∧ M' 7 = M 7 ∧ M' 5 2 = M 5 2
theorem bVe.of {M M' : zM} (e : ∀ c i, (c = 1 ∧ 0 ≤ i ∧ i ≤ 2) ∨ c = 2 ∨ c = 7 ∨ c = 12 ∨ (c = 5 ∧ i = 2) → M' c i = M c i) : bVe M M' :=
  ⟨e 1 0 (by omega), e 1 1 (by omega), e 1 2 (by omega), funext fun i => e 2 i (by omega), funext fun i => e 12 i (by omega), funext fun i => e 7 i (by omega), e 5 2 (by omega)⟩
theorem zTurn_e {w w' : Int → Int} {n i : Int} (h : ∀ j, 0 ≤ j → j < n → w j = w' j) (i0 : 0 ≤ i) (i1 : i < n) : zTurn w n i = zTurn w' n i := by
  unfold zTurn
  rw [h i i0 i1, h (if i = 0 then n - 1 else i - 1) (by split <;> omega) (by split <;> omega)]
def qStv (G : Int → Int → Int) (f t : Int) (s : gS) (n i k : Int) : Int := if k = 0 then (gE G f t s i).2.2 else if k = 1 then (gE G f t s i).1 else if k = 2 then (gE G f t s i).2.1 else zTurn (fun j => (gE G f t s j).2.2) n i + 1
def qStp (G : Int → Int → Int) (f t : Int) (s : gS) (i k r : Int) : Prop := ∃ n, gPer G f t s n ∧ qI (0 ≤ i ∧ i < n) (r = qStv G f t s n i k) r
theorem qStp.uq {G : Int → Int → Int} {f t : Int} {s : gS} {i k r r' : Int} (h : qStp G f t s i k r) (g : qStp G f t s i k r') : r = r' := by
  obtain ⟨n, a, b⟩ := h
  obtain ⟨n', a', b'⟩ := g
  have := a.uq a'
  subst this
  exact b.eq b' Iff.rfl (fun _ x y => by rw [x, y])
def qCor (G : Int → Int → Int) (f t : Int) (s : gS) (c r : Int) : Prop := ∃ n W T tp, gPer G f t s n ∧ (∀ j, 0 ≤ j → j < n → W j = (gE G f t s j).2.2) ∧ gTP W n T tp ∧ r = gLs (gPr W n T tp) c T
def qCrd (G : Int → Int → Int) (f t : Int) (s : gS) (c i r : Int) : Prop := ∃ n W T tp, gPer G f t s n ∧ (∀ j, 0 ≤ j → j < n → W j = (gE G f t s j).2.2) ∧ gTP W n T tp ∧ qI (0 ≤ i ∧ i < n) (r = gCa W n T tp c (gSt (gPr W n T tp) c T) i) r
theorem gTP.T0 {w : Int → Int} {n T : Int} {tp : Int → Int} (h : gTP w n T tp) (hn : 0 ≤ n) : 0 ≤ T ∧ T ≤ n := by rw [h.1]; exact zc_b _ n hn
theorem gPr_cg {W W' : Int → Int} {n T : Int} {tp tp' : Int → Int} (hn : 1 ≤ n) (h : gTP W n T tp) (e : ∀ j, 0 ≤ j → j < n → W j = W' j) (et : ∀ t, 0 ≤ t → t < T → tp t = tp' t) : ∀ t, 0 ≤ t → t < T → gPr W n T tp t = gPr W' n T tp' t := by
  intro t t0 t1
  have a := h.at (by omega) t0 t1
  have q0 : 0 ≤ (if t + 1 < T then t + 1 else 0) := by split <;> omega
  have q1 : (if t + 1 < T then t + 1 else 0) < T := by split <;> omega
  have b := h.at (by omega) q0 q1
  unfold gPr
  rw [← et t t0 t1, ← et _ q0 q1, zTurn_e e a.1 a.2.1, zTurn_e e b.1 b.2.1]
theorem gLs_cg {p p' : Int → Int} {c T : Int} (hT : 0 ≤ T) (e : ∀ t, 0 ≤ t → t < T → p t = p' t) : gLs p c T = gLs p' c T ∧ gSt p c T = gSt p' c T := by
  unfold gLs gSt
  rw [(gA.cong e (by omega) hT : gA0 p c T 0 0 = _ ∧ _).1, (gA.cong e (by omega) hT : gA0 p c T 1 0 = _ ∧ gA1 p c T 1 0 = _).2]
  exact ⟨rfl, rfl⟩
theorem qCor.uq {G : Int → Int → Int} {f t : Int} {s : gS} {c r r' : Int} (h : qCor G f t s c r) (g : qCor G f t s c r') : r = r' := by
  obtain ⟨n, W, T, tp, a, b, d, e⟩ := h
  obtain ⟨n', W', T', tp', a', b', d', e'⟩ := g
  have := a.uq a'
  subst this
  have ew : ∀ j, 0 ≤ j → j < n → W j = W' j := fun j j0 j1 => (b j j0 j1).trans (b' j j0 j1).symm
  have u := gTP.uq a.1 ew d d'
  obtain ⟨u1, u2⟩ := u
  subst u1
  rw [e, e', (gLs_cg (d.T0 (by have := a.1; omega)).1 (gPr_cg a.1 d ew u2)).1]
theorem gCa_cg {W W' : Int → Int} {n T c s i : Int} {tp tp' : Int → Int} (hn : 1 ≤ n) (h : gTP W n T tp) (e : ∀ j, 0 ≤ j → j < n → W j = W' j) (et : ∀ t, 0 ≤ t → t < T → tp t = tp' t) (i0 : 0 ≤ i) (i1 : i < n) : gCa W n T tp c s i = gCa W' n T tp' c s i := by
  have z : zc (fun i => zTurn W n i ≠ 0) i = zc (fun i => zTurn W' n i ≠ 0) i := zc_c i i0 (fun j j0 j1 => by rw [zTurn_e e j0 (by omega)])
  have b := zc_b (fun i => zTurn W n i ≠ 0) i i0
  unfold gCa
  rw [zTurn_e e i0 i1]
  by_cases k : zTurn W' n i = 0
  · rw [if_pos k, if_pos k]
  · rw [if_neg k, if_neg k, ← z]
    have l := zc_lt2 (p := fun i => zTurn W n i ≠ 0) i0 i1 (by rw [zTurn_e e i0 i1]; exact k)
    exact gCs.cong (gPr_cg hn h e et) _ b.1 (by have := h.1; omega)
theorem qCrd.uq {G : Int → Int → Int} {f t : Int} {s : gS} {c i r r' : Int} (h : qCrd G f t s c i r) (g : qCrd G f t s c i r') : r = r' := by
  obtain ⟨n, W, T, tp, a, b, d, e⟩ := h
  obtain ⟨n', W', T', tp', a', b', d', e'⟩ := g
  have := a.uq a'
  subst this
  have ew : ∀ j, 0 ≤ j → j < n → W j = W' j := fun j j0 j1 => (b j j0 j1).trans (b' j j0 j1).symm
  obtain ⟨u1, u2⟩ := gTP.uq a.1 ew d d'
  subst u1
  refine e.eq e' Iff.rfl (fun q x y => ?_)
  rw [x, y, (gLs_cg (d.T0 (by have := a.1; omega)).1 (gPr_cg a.1 d ew u2)).2]
  exact gCa_cg a.1 d ew u2 q.1 q.2
def qBnd (G : Int → Int → Int) (f t : Int) (s : gS) (i j m r : Int) : Prop := ∃ n, gPer G f t s n ∧ qI (0 ≤ i ∧ i < j ∧ j ≤ n) (zB r (gStr (gX G f t s) (gY G f t s) m i j)) r
theorem qBnd.uq {G : Int → Int → Int} {f t : Int} {s : gS} {i j m r r' : Int} (h : qBnd G f t s i j m r) (g : qBnd G f t s i j m r') : r = r' := by
  obtain ⟨n, a, b⟩ := h
  obtain ⟨n', a', b'⟩ := g
  have := a.uq a'
  subst this
  exact b.eq b' Iff.rfl (fun _ x y => x.eq y Iff.rfl)
abbrev pr_X11_step (f : Int) (i : Int) (k : Int) (M : zM) : Prop := (bI M) ∧ (bK M)
abbrev po_X11_step (f : Int) (i : Int) (k : Int) (M : zM) (r : Int) (M' : zM) : Prop := (bW M M') ∧ (bQ M') ∧ (qI ((0 ≤ f ∧ f < M' 5 2) ∧ 0 ≤ k ∧ k ≤ 3) (qStp (zg (M' 1 0) (M' 1 1) (M' 12)) f (M' 1 2) (gS0 (M' 7 f)) i k r) r)
set_option maxHeartbeats 1000000 in
theorem ok_X11_step : zSnd zS 145 0 0 yX11_step cX11_step 4 (some .int) 6 [2, 0, 0, 0] (F_X11_step pr_X11_step po_X11_step) := by
  refine (sn_X11_step ok_X11_isPoint ok_X1_turnAt).mono ?_
  rintro xs P M hz hR ⟨f, i, k, rfl, ⟨hI, hK⟩, hP⟩
  refine ⟨_, _, _, rfl, ?_⟩
  have z_f := zall_h (zall_t hz) (by decide)
  have z_i := zall_h (zall_t (zall_t hz)) (by decide)
  have z_k := zall_h (zall_t (zall_t (zall_t hz))) (by decide)
  change vc_X11_step pr_X11_isPoint po_X11_isPoint pr_X1_turnAt po_X1_turnAt f i k P M
  unfold vc_X11_step
  have gc1 : pr_X11_isPoint f i M := by
    refine ⟨?_, ?_⟩
    · show bI M  -- c1.hI
      exact hI
    · show bK M  -- c1.hK
      exact hK
  refine ⟨gc1, ?_⟩
  rintro r1 M2 ⟨pc1_hw, pc1_hQ, pc1_hr⟩ z_r1 z_M2
  have I2 : bI M2 := hI.fr (fun c i k _ => pc1_hw c i (by omega))
  have w2 : bW M M2 := fun c i k => pc1_hw c i (by omega)
  refine ⟨fun b1 => ?_, fun b1 => ?_⟩
  · -- b1.1
    refine hP _ _ ⟨?_, ?_, ?_⟩
    · show bW M M2  -- p1.hw
      exact w2
    · show bQ M2  -- p1.hQ
      exact pc1_hQ
    · show qI ((0 ≤ f ∧ f < M2 5 2) ∧ 0 ≤ k ∧ k ≤ 3) (qStp (zg (M2 1 0) (M2 1 1) (M2 12)) f (M2 1 2) (gS0 (M2 7 f)) i k (-1)) (-1)  -- p1.hr
      rcases pc1_hr with ⟨a, _⟩ | ⟨_, a | ⟨a, b, c⟩⟩
      · exact absurd b1 (by omega)
      · exact qI.n (fun k => a k.1)
      · by_cases e : 0 ≤ k ∧ k ≤ 3
        · exact qI.y ⟨a, e⟩ ⟨_, b.1, qI.n c⟩
        · exact qI.n (fun k => e k.2)
  · -- b1.2
    have ⟨ha, hi, hB⟩ : (0 ≤ f ∧ f < M2 5 2) ∧ (0 ≤ i ∧ i < M2 17 1) ∧ bBk M2 f := by
      rcases pc1_hr with a | a
      · exact a.2
      · exact absurd a.1 b1
    have X := hB.XY I2.d pc1_hQ.ok ha
    refine ⟨fun b2 => ?_, fun b2 => ?_⟩
    · -- b2.1
      refine hP _ _ ⟨?_, ?_, ?_⟩
      · show bW M M2  -- p2.hw
        exact w2
      · show bQ M2  -- p2.hQ
        exact pc1_hQ
      · show qI ((0 ≤ f ∧ f < M2 5 2) ∧ 0 ≤ k ∧ k ≤ 3) (qStp (zg (M2 1 0) (M2 1 1) (M2 12)) f (M2 1 2) (gS0 (M2 7 f)) i k (-1)) (-1)  -- p2.hr
        exact qI.n (fun k => by omega)
    · -- b2.2
      refine ⟨fun b3 => ?_, fun b3 => ?_⟩
      · -- b3.1
        refine ⟨fun b4 => ?_, fun b4 => ?_⟩
        · -- b4.1
          have o1 : ((0 : Int) ≤ i ∧ i < 413) := by
            omega
          refine ⟨o1, ?_⟩
          refine hP _ _ ⟨?_, ?_, ?_⟩
          · show bW M M2  -- p3.hw
            exact w2
          · show bQ M2  -- p3.hQ
            exact pc1_hQ
          · show qI ((0 ≤ f ∧ f < M2 5 2) ∧ 0 ≤ k ∧ k ≤ 3) (qStp (zg (M2 1 0) (M2 1 1) (M2 12)) f (M2 1 2) (gS0 (M2 7 f)) i k (M2 18 i)) (M2 18 i)  -- p3.hr
            exact qI.y ⟨ha, by omega⟩ ⟨_, hB.1, qI.y hi (by unfold qStv; rw [if_pos b4]; exact hB.2.1 i hi.1 hi.2)⟩
        · -- b4.2
          refine ⟨fun b5 => ?_, fun b5 => ?_⟩
          · -- b5.1
            have o2 : ((0 : Int) ≤ i ∧ i < 413) := by
              omega
            refine ⟨o2, ?_⟩
            refine hP _ _ ⟨?_, ?_, ?_⟩
            · show bW M M2  -- p4.hw
              exact w2
            · show bQ M2  -- p4.hQ
              exact pc1_hQ
            · show qI ((0 ≤ f ∧ f < M2 5 2) ∧ 0 ≤ k ∧ k ≤ 3) (qStp (zg (M2 1 0) (M2 1 1) (M2 12)) f (M2 1 2) (gS0 (M2 7 f)) i k (M2 19 i)) (M2 19 i)  -- p4.hr
              exact qI.y ⟨ha, by omega⟩ ⟨_, hB.1, qI.y hi (by unfold qStv; rw [if_neg b4, if_pos b5]; exact (hB.2.2.1 i hi.1 (by omega)).1)⟩
          · -- b5.2
            refine ⟨fun b6 => ?_, fun b6 => ?_⟩
            · -- b6.1
              have o3 : ((0 : Int) ≤ i ∧ i < 413) := by
                omega
              refine ⟨o3, ?_⟩
              refine hP _ _ ⟨?_, ?_, ?_⟩
              · show bW M M2  -- p5.hw
                exact w2
              · show bQ M2  -- p5.hQ
                exact pc1_hQ
              · show qI ((0 ≤ f ∧ f < M2 5 2) ∧ 0 ≤ k ∧ k ≤ 3) (qStp (zg (M2 1 0) (M2 1 1) (M2 12)) f (M2 1 2) (gS0 (M2 7 f)) i k (M2 20 i)) (M2 20 i)  -- p5.hr
                exact qI.y ⟨ha, by omega⟩ ⟨_, hB.1, qI.y hi (by unfold qStv; rw [if_neg b4, if_neg b5, if_pos b6]; exact (hB.2.2.1 i hi.1 (by omega)).2)⟩
            · -- b6.2
              have gc2 : pr_X1_turnAt i M2 := by
                refine ⟨?_, ?_, ?_⟩
                · show 1 ≤ M2 17 1 ∧ M2 17 1 ≤ 412  -- c2.hn
                  omega
                · show 0 ≤ i ∧ i < M2 17 1  -- c2.hi
                  exact hi
                · show ∀ k, 0 ≤ k → k < M2 17 1 → 0 ≤ M2 18 k ∧ M2 18 k < 4  -- c2.hw
                  exact X.2.2.2
              refine ⟨gc2, ?_⟩
              rintro r13 M14 ⟨q_rfl, e_r13⟩ z_r13 z_M14
              have q_rfl := q_rfl.symm
              subst q_rfl
              have e4 : r13 = zTurn (fun j => (gE (zg (M2 1 0) (M2 1 1) (M2 12)) f (M2 1 2) (gS0 (M2 7 f)) j).2.2) (M2 17 1) i := by
                rw [e_r13]; exact zTurn_e (fun j j0 j1 => hB.2.1 j j0 j1) hi.1 hi.2
              have o4 : zin (r13 + 1) := by
                have : zTurn (M2 18) (M2 17 1) i ≤ 1 ∧ -1 ≤ zTurn (M2 18) (M2 17 1) i := by unfold zTurn; split <;> (try split) <;> omega
                omega
              refine ⟨o4, ?_⟩
              refine hP _ _ ⟨?_, ?_, ?_⟩
              · show bW M M2  -- p6.hw
                exact w2
              · show bQ M2  -- p6.hQ
                exact pc1_hQ
              · show qI ((0 ≤ f ∧ f < M2 5 2) ∧ 0 ≤ k ∧ k ≤ 3) (qStp (zg (M2 1 0) (M2 1 1) (M2 12)) f (M2 1 2) (gS0 (M2 7 f)) i k (r13 + 1)) (r13 + 1)  -- p6.hr
                exact qI.y ⟨ha, by omega⟩ ⟨_, hB.1, qI.y hi (by unfold qStv; rw [if_neg b4, if_neg b5, if_neg b6, e4])⟩
      · -- b3.2
        refine hP _ _ ⟨?_, ?_, ?_⟩
        · show bW M M2  -- p7.hw
          exact w2
        · show bQ M2  -- p7.hQ
          exact pc1_hQ
        · show qI ((0 ≤ f ∧ f < M2 5 2) ∧ 0 ≤ k ∧ k ≤ 3) (qStp (zg (M2 1 0) (M2 1 1) (M2 12)) f (M2 1 2) (gS0 (M2 7 f)) i k (-1)) (-1)  -- p7.hr
          exact qI.n (fun k => by omega)

abbrev pr_X11_corners (f : Int) (k : Int) (M : zM) : Prop := (bI M) ∧ (bK M)
abbrev po_X11_corners (f : Int) (k : Int) (M : zM) (r : Int) (M' : zM) : Prop := (bW M M') ∧ (bQ M') ∧ (qI ((0 ≤ f ∧ f < M' 5 2) ∧ 0 ≤ k ∧ k ≤ 99) (qCor (zg (M' 1 0) (M' 1 1) (M' 12)) f (M' 1 2) (gS0 (M' 7 f)) k r) r)
set_option maxHeartbeats 1000000 in
theorem ok_X11_corners : zSnd zS 145 0 0 yX11_corners cX11_corners 3 (some .int) 5 [2, 0, 0] (F_X11_corners pr_X11_corners po_X11_corners) := by
  refine (sn_X11_corners ok_X11_isFace ok_X11_isCost ok_X1_trace ok_X1_decideCorners).mono ?_
  rintro xs P M hz hR ⟨f, k, rfl, ⟨hI, hK⟩, hP⟩
  refine ⟨_, _, rfl, ?_⟩
  have z_f := zall_h (zall_t hz) (by decide)
  have z_k := zall_h (zall_t (zall_t hz)) (by decide)
  change vc_X11_corners pr_X11_isFace po_X11_isFace pr_X11_isCost po_X11_isCost pr_X1_trace po_X1_trace pr_X1_decideCorners po_X1_decideCorners f k P M
  unfold vc_X11_corners
  have gc1 : pr_X11_isFace f M := by
    refine ⟨?_, ?_⟩
    · show bI M  -- c1.hI
      exact hI
    · show bK M  -- c1.hK
      exact hK
  refine ⟨gc1, ?_⟩
  rintro r1 M2 ⟨pc1_hf, pc1_hQ, pc1_hs, pc1_hr⟩ z_r1 z_M2
  have I2 := hI.face pc1_hf
  have w2 : bW M M2 := fun c i k => pc1_hf c i (by omega) (by omega)
  refine ⟨fun b1 => ?_, fun b1 => ?_⟩
  · -- b1.1
    refine hP _ _ ⟨?_, ?_, ?_⟩
    · show bW M M2  -- p1.hw
      exact w2
    · show bQ M2  -- p1.hQ
      exact pc1_hQ
    · show qI ((0 ≤ f ∧ f < M2 5 2) ∧ 0 ≤ k ∧ k ≤ 99) (qCor (zg (M2 1 0) (M2 1 1) (M2 12)) f (M2 1 2) (gS0 (M2 7 f)) k (-1)) (-1)  -- p1.hr
      exact qI.n (fun k => pc1_hr.z.1 b1 k.1)
  · -- b1.2
    have ha := pc1_hr.ne.1 b1
    have gc2 : pr_X11_isCost k M2 := trivial
    refine ⟨gc2, ?_⟩
    rintro r8 M9 ⟨q_rfl, e_r8⟩ z_r8 z_M9
    have q_rfl := q_rfl.symm
    subst q_rfl
    have zk := zif01 e_r8
    refine ⟨fun b2 => ?_, fun b2 => ?_⟩
    · -- b2.1
      have hk := zk.ne.1 b2
      have gc3 : pr_X1_trace f M2 := by
        refine ⟨?_, ?_, ?_, ?_, ?_⟩
        · show bDim M2  -- c3.hd
          exact I2.d
        · show M2 1 2 = 0 ∨ M2 1 2 = 1  -- c3.ht
          exact I2.t
        · show bFok M2  -- c3.hF
          exact pc1_hQ.ok
        · show 0 ≤ f ∧ f < M2 5 2  -- c3.ha
          exact ha
        · show M2 17 6 = M2 5 1 → M2 17 7 = f → bBk M2 f  -- c3.hk
          exact pc1_hQ.bk
      refine ⟨gc3, ?_⟩
      rintro M15 ⟨pc3_hf, pc3_h6, pc3_h7, pc3_hB⟩ z_M15
      have Q3 := pc1_hQ.trace pc3_hf pc3_h6 pc3_h7 pc3_hB
      have I3 : bI M15 := I2.fr (fun c i k _ => pc3_hf c i (by omega) (by omega) (by omega) (by omega) (by omega))
      have n3 : M15 5 2 = M2 5 2 := pc3_hf 5 2 (by omega) (by omega) (by omega) (by omega) (by omega)
      have X := pc3_hB.XY I3.d Q3.ok (by omega)
      have gc4 : pr_X1_decideCorners k M15 := by
        refine ⟨?_, ?_, ?_, ?_⟩
        · show 1 ≤ M15 17 1 ∧ M15 17 1 ≤ 412  -- c4.hn
          omega
        · show ∀ k, 0 ≤ k → k < M15 17 1 → 0 ≤ M15 18 k ∧ M15 18 k < 4  -- c4.hw
          exact X.2.2.2
        · show gTP (M15 18) (M15 17 1) (M15 17 8) (M15 22)  -- c4.hT
          exact pc3_hB.2.2.2
        · show 0 ≤ k ∧ k ≤ 99  -- c4.hc
          exact hk
      refine ⟨gc4, ?_⟩
      rintro r20 M21 ⟨pc4_hf, pc4_hr, pc4_hC⟩ z_r20 z_M21
      refine hP _ _ ⟨?_, ?_, ?_⟩
      · show bW M M21  -- p2.hw
        exact w2.tr (fun c i k => by rw [pc4_hf c i (by omega) (by omega) (by omega)]; exact pc3_hf c i (by omega) (by omega) (by omega) (by omega) (by omega))
      · show bQ M21  -- p2.hQ
        exact Q3.fr (fun c i k => pc4_hf c i (by omega) (by omega) (by omega))
      · show qI ((0 ≤ f ∧ f < M21 5 2) ∧ 0 ≤ k ∧ k ≤ 99) (qCor (zg (M21 1 0) (M21 1 1) (M21 12)) f (M21 1 2) (gS0 (M21 7 f)) k r20) r20  -- p2.hr
        obtain ⟨v0, v1, v2, v3, v4, v5, v6⟩ := bVe.of (M := M15) (M' := M21) (fun c i k => pc4_hf c i (by omega) (by omega) (by omega))
        simp only [v0, v1, v2, v4, v5, v6]
        exact qI.y ⟨by omega, hk⟩ ⟨_, _, _, _, pc3_hB.1, pc3_hB.2.1, pc3_hB.2.2.2, pc4_hr⟩
    · -- b2.2
      refine hP _ _ ⟨?_, ?_, ?_⟩
      · show bW M M2  -- p3.hw
        exact w2
      · show bQ M2  -- p3.hQ
        exact pc1_hQ
      · show qI ((0 ≤ f ∧ f < M2 5 2) ∧ 0 ≤ k ∧ k ≤ 99) (qCor (zg (M2 1 0) (M2 1 1) (M2 12)) f (M2 1 2) (gS0 (M2 7 f)) k (-1)) (-1)  -- p3.hr
        exact qI.n (fun k => zk.z.1 b2 k.2)

abbrev pr_X11_cornered (f : Int) (k : Int) (i : Int) (M : zM) : Prop := (bI M) ∧ (bK M)
abbrev po_X11_cornered (f : Int) (k : Int) (i : Int) (M : zM) (r : Int) (M' : zM) : Prop := (bW M M') ∧ (bQ M') ∧ (qI ((0 ≤ f ∧ f < M' 5 2) ∧ 0 ≤ k ∧ k ≤ 99) (qCrd (zg (M' 1 0) (M' 1 1) (M' 12)) f (M' 1 2) (gS0 (M' 7 f)) k i r) r)
set_option maxHeartbeats 1000000 in
theorem ok_X11_cornered : zSnd zS 145 0 0 yX11_cornered cX11_cornered 4 (some .int) 6 [2, 0, 0, 0] (F_X11_cornered pr_X11_cornered po_X11_cornered) := by
  refine (sn_X11_cornered ok_X11_isPoint ok_X11_isCost ok_X1_decideCorners).mono ?_
  rintro xs P M hz hR ⟨f, k, i, rfl, ⟨hI, hK⟩, hP⟩
  refine ⟨_, _, _, rfl, ?_⟩
  have z_f := zall_h (zall_t hz) (by decide)
  have z_k := zall_h (zall_t (zall_t hz)) (by decide)
  have z_i := zall_h (zall_t (zall_t (zall_t hz))) (by decide)
  change vc_X11_cornered pr_X11_isPoint po_X11_isPoint pr_X11_isCost po_X11_isCost pr_X1_decideCorners po_X1_decideCorners f k i P M
  unfold vc_X11_cornered
  have gc1 : pr_X11_isPoint f i M := by
    refine ⟨?_, ?_⟩
    · show bI M  -- c1.hI
      exact hI
    · show bK M  -- c1.hK
      exact hK
  refine ⟨gc1, ?_⟩
  rintro r1 M2 ⟨pc1_hw, pc1_hQ, pc1_hr⟩ z_r1 z_M2
  have I2 : bI M2 := hI.fr (fun c i k _ => pc1_hw c i (by omega))
  have w2 : bW M M2 := fun c i k => pc1_hw c i (by omega)
  refine ⟨fun b1 => ?_, fun b1 => ?_⟩
  · -- b1.1
    refine hP _ _ ⟨?_, ?_, ?_⟩
    · show bW M M2  -- p1.hw
      exact w2
    · show bQ M2  -- p1.hQ
      exact pc1_hQ
    · show qI ((0 ≤ f ∧ f < M2 5 2) ∧ 0 ≤ k ∧ k ≤ 99) (qCrd (zg (M2 1 0) (M2 1 1) (M2 12)) f (M2 1 2) (gS0 (M2 7 f)) k i (-1)) (-1)  -- p1.hr
      rcases pc1_hr with ⟨a, _⟩ | ⟨_, a | ⟨a, b, c⟩⟩
      · exact absurd b1 (by omega)
      · exact qI.n (fun k => a k.1)
      · by_cases e : 0 ≤ k ∧ k ≤ 99
        · exact qI.y ⟨a, e⟩ ⟨_, _, _, _, b.1, b.2.1, b.2.2.2, qI.n c⟩
        · exact qI.n (fun k => e k.2)
  · -- b1.2
    have ⟨ha, hi, hB⟩ : (0 ≤ f ∧ f < M2 5 2) ∧ (0 ≤ i ∧ i < M2 17 1) ∧ bBk M2 f := by
      rcases pc1_hr with a | a
      · exact a.2
      · exact absurd a.1 b1
    have X := hB.XY I2.d pc1_hQ.ok ha
    have gc2 : pr_X11_isCost k M2 := trivial
    refine ⟨gc2, ?_⟩
    rintro r8 M9 ⟨q_rfl, e_r8⟩ z_r8 z_M9
    have q_rfl := q_rfl.symm
    subst q_rfl
    have zk := zif01 e_r8
    refine ⟨fun b2 => ?_, fun b2 => ?_⟩
    · -- b2.1
      have hk := zk.ne.1 b2
      have gc3 : pr_X1_decideCorners k M2 := by
        refine ⟨?_, ?_, ?_, ?_⟩
        · show 1 ≤ M2 17 1 ∧ M2 17 1 ≤ 412  -- c3.hn
          omega
        · show ∀ k, 0 ≤ k → k < M2 17 1 → 0 ≤ M2 18 k ∧ M2 18 k < 4  -- c3.hw
          exact X.2.2.2
        · show gTP (M2 18) (M2 17 1) (M2 17 8) (M2 22)  -- c3.hT
          exact hB.2.2.2
        · show 0 ≤ k ∧ k ≤ 99  -- c3.hc
          exact hk
      refine ⟨gc3, ?_⟩
      rintro r15 M16 ⟨pc3_hf, pc3_hr, pc3_hC⟩ z_r15 z_M16
      have o1 : ((0 : Int) ≤ i ∧ i < 413) := by
        omega
      refine ⟨o1, ?_⟩
      refine hP _ _ ⟨?_, ?_, ?_⟩
      · show bW M M16  -- p2.hw
        exact w2.tr (fun c i k => pc3_hf c i (by omega) (by omega) (by omega))
      · show bQ M16  -- p2.hQ
        exact pc1_hQ.fr (fun c i k => pc3_hf c i (by omega) (by omega) (by omega))
      · show qI ((0 ≤ f ∧ f < M16 5 2) ∧ 0 ≤ k ∧ k ≤ 99) (qCrd (zg (M16 1 0) (M16 1 1) (M16 12)) f (M16 1 2) (gS0 (M16 7 f)) k i (M16 21 i)) (M16 21 i)  -- p2.hr
        obtain ⟨v0, v1, v2, v3, v4, v5, v6⟩ := bVe.of (M := M2) (M' := M16) (fun c i k => pc3_hf c i (by omega) (by omega) (by omega))
        simp only [v0, v1, v2, v4, v5, v6]
        exact qI.y ⟨ha, hk⟩ ⟨_, _, _, _, hB.1, hB.2.1, hB.2.2.2, qI.y hi (pc3_hC i hi.1 hi.2)⟩
    · -- b2.2
      refine hP _ _ ⟨?_, ?_, ?_⟩
      · show bW M M2  -- p3.hw
        exact w2
      · show bQ M2  -- p3.hQ
        exact pc1_hQ
      · show qI ((0 ≤ f ∧ f < M2 5 2) ∧ 0 ≤ k ∧ k ≤ 99) (qCrd (zg (M2 1 0) (M2 1 1) (M2 12)) f (M2 1 2) (gS0 (M2 7 f)) k i (-1)) (-1)  -- p3.hr
        exact qI.n (fun k => zk.z.1 b2 k.2)

abbrev pr_X11_inBand (f : Int) (i : Int) (j : Int) (k : Int) (M : zM) : Prop := (bI M) ∧ (bK M)
abbrev po_X11_inBand (f : Int) (i : Int) (j : Int) (k : Int) (M : zM) (r : Int) (M' : zM) : Prop := (bW M M') ∧ (bQ M') ∧ (qI ((0 ≤ f ∧ f < M' 5 2) ∧ 0 ≤ k ∧ k ≤ 400) (qBnd (zg (M' 1 0) (M' 1 1) (M' 12)) f (M' 1 2) (gS0 (M' 7 f)) i j k r) r)
set_option maxHeartbeats 1000000 in
theorem ok_X11_inBand : zSnd zS 145 0 0 yX11_inBand cX11_inBand 5 (some .int) 6 [2, 0, 0, 0, 0] (F_X11_inBand pr_X11_inBand po_X11_inBand) := by
  refine (sn_X11_inBand ok_X11_isPoint ok_X11_isMiss ok_X1_staysInBand ok_X11_asNumber).mono ?_
  rintro xs P M hz hR ⟨f, i, j, k, rfl, ⟨hI, hK⟩, hP⟩
  refine ⟨_, _, _, _, rfl, ?_⟩
  have z_f := zall_h (zall_t hz) (by decide)
  have z_i := zall_h (zall_t (zall_t hz)) (by decide)
  have z_j := zall_h (zall_t (zall_t (zall_t hz))) (by decide)
  have z_k := zall_h (zall_t (zall_t (zall_t (zall_t hz)))) (by decide)
  change vc_X11_inBand pr_X11_isPoint po_X11_isPoint pr_X11_isMiss po_X11_isMiss pr_X1_staysInBand po_X1_staysInBand pr_X11_asNumber po_X11_asNumber f i j k P M
  unfold vc_X11_inBand
  have gc1 : pr_X11_isPoint f i M := by
    refine ⟨?_, ?_⟩
    · show bI M  -- c1.hI
      exact hI
    · show bK M  -- c1.hK
      exact hK
  refine ⟨gc1, ?_⟩
  rintro r1 M2 ⟨pc1_hw, pc1_hQ, pc1_hr⟩ z_r1 z_M2
  have I2 : bI M2 := hI.fr (fun c i k _ => pc1_hw c i (by omega))
  have w2 : bW M M2 := fun c i k => pc1_hw c i (by omega)
  refine ⟨fun b1 => ?_, fun b1 => ?_⟩
  · -- b1.1
    refine hP _ _ ⟨?_, ?_, ?_⟩
    · show bW M M2  -- p1.hw
      exact w2
    · show bQ M2  -- p1.hQ
      exact pc1_hQ
    · show qI ((0 ≤ f ∧ f < M2 5 2) ∧ 0 ≤ k ∧ k ≤ 400) (qBnd (zg (M2 1 0) (M2 1 1) (M2 12)) f (M2 1 2) (gS0 (M2 7 f)) i j k (-1)) (-1)  -- p1.hr
      rcases pc1_hr with ⟨a, _⟩ | ⟨_, a | ⟨a, b, c⟩⟩
      · exact absurd b1 (by omega)
      · exact qI.n (fun k => a k.1)
      · by_cases e : 0 ≤ k ∧ k ≤ 400
        · exact qI.y ⟨a, e⟩ ⟨_, b.1, qI.n (fun q => c (by omega))⟩
        · exact qI.n (fun k => e k.2)
  · -- b1.2
    have ⟨ha, hi, hB⟩ : (0 ≤ f ∧ f < M2 5 2) ∧ (0 ≤ i ∧ i < M2 17 1) ∧ bBk M2 f := by
      rcases pc1_hr with a | a
      · exact a.2
      · exact absurd a.1 b1
    have X := hB.XY I2.d pc1_hQ.ok ha
    have gc2 : pr_X11_isMiss k M2 := trivial
    refine ⟨gc2, ?_⟩
    rintro r8 M9 ⟨q_rfl, e_r8⟩ z_r8 z_M9
    have q_rfl := q_rfl.symm
    subst q_rfl
    have zk := zif01 e_r8
    refine ⟨fun b2 => ?_, fun b2 => ?_⟩
    · -- b2.1
      refine hP _ _ ⟨?_, ?_, ?_⟩
      · show bW M M2  -- p2.hw
        exact w2
      · show bQ M2  -- p2.hQ
        exact pc1_hQ
      · show qI ((0 ≤ f ∧ f < M2 5 2) ∧ 0 ≤ k ∧ k ≤ 400) (qBnd (zg (M2 1 0) (M2 1 1) (M2 12)) f (M2 1 2) (gS0 (M2 7 f)) i j k (-1)) (-1)  -- p2.hr
        exact qI.n (fun k => zk.z.1 b2 k.2)
    · -- b2.2
      have hk := zk.ne.1 b2
      refine ⟨fun b3 => ?_, fun b3 => ?_⟩
      · -- b3.1
        refine hP _ _ ⟨?_, ?_, ?_⟩
        · show bW M M2  -- p3.hw
          exact w2
        · show bQ M2  -- p3.hQ
          exact pc1_hQ
        · show qI ((0 ≤ f ∧ f < M2 5 2) ∧ 0 ≤ k ∧ k ≤ 400) (qBnd (zg (M2 1 0) (M2 1 1) (M2 12)) f (M2 1 2) (gS0 (M2 7 f)) i j k (-1)) (-1)  -- p3.hr
          exact qI.y ⟨ha, hk⟩ ⟨_, hB.1, qI.n (fun q => by omega)⟩
      · -- b3.2
        refine ⟨fun b4 => ?_, fun b4 => ?_⟩
        · -- b4.1
          have gc3 : pr_X1_staysInBand i j k M2 := by
            refine ⟨?_, ?_, ?_, ?_, ?_⟩
            · show M2 17 1 ≤ 412  -- c3.hn
              omega
            · show bXY M2  -- c3.hX
              exact X.1
            · show 0 ≤ i ∧ i ≤ M2 17 1  -- c3.hi
              omega
            · show 0 ≤ j ∧ j ≤ M2 17 1  -- c3.hj
              omega
            · show 0 ≤ k ∧ k ≤ 400  -- c3.hm
              exact hk
          refine ⟨gc3, ?_⟩
          rintro r17 M18 ⟨q_rfl, pc3_pb⟩ z_r17 z_M18
          have q_rfl := q_rfl.symm
          subst q_rfl
          have gc4 : pr_X11_asNumber r17 M2 := by
            show r17 = 0 ∨ r17 = 1
            exact pc3_pb.b
          refine ⟨gc4, ?_⟩
          rintro r23 M24 ⟨q_rfl, e_r23⟩ z_r23 z_M24
          have q_rfl := q_rfl.symm
          subst q_rfl
          refine hP _ _ ⟨?_, ?_, ?_⟩
          · show bW M M2  -- p4.hw
            exact w2
          · show bQ M2  -- p4.hQ
            exact pc1_hQ
          · show qI ((0 ≤ f ∧ f < M2 5 2) ∧ 0 ≤ k ∧ k ≤ 400) (qBnd (zg (M2 1 0) (M2 1 1) (M2 12)) f (M2 1 2) (gS0 (M2 7 f)) i j k r23) r23  -- p4.hr
            rw [e_r23]
            refine qI.y ⟨ha, hk⟩ ⟨_, hB.1, qI.y ⟨hi.1, by omega, by omega⟩ (pc3_pb.iff (gStr_e (n := M2 17 1) (fun q q0 q1 => hB.2.2.1 q q0 q1) hi.1 (by omega) (by omega)))⟩
        · -- b4.2
          refine hP _ _ ⟨?_, ?_, ?_⟩
          · show bW M M2  -- p5.hw
            exact w2
          · show bQ M2  -- p5.hQ
            exact pc1_hQ
          · show qI ((0 ≤ f ∧ f < M2 5 2) ∧ 0 ≤ k ∧ k ≤ 400) (qBnd (zg (M2 1 0) (M2 1 1) (M2 12)) f (M2 1 2) (gS0 (M2 7 f)) i j k (-1)) (-1)  -- p5.hr
            exact qI.y ⟨ha, hk⟩ ⟨_, hB.1, qI.n (fun q => by omega)⟩

