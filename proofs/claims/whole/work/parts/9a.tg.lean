theorem zcnt_zc (p : Int → Prop) [DecidablePred p] : ∀ n : Nat, zcnt p n = zc p n
  | 0 => rfl
  | n + 1 => by
    rw [show ((n + 1 : Nat) : Int) = (n : Int) + 1 by omega]
    by_cases k : p n
    · rw [zc_p (by omega) k]; show zcnt p n + (if p n then 1 else 0) = _; rw [if_pos k, zcnt_zc p n]
    · rw [zc_n (by omega) k]; show zcnt p n + (if p n then 1 else 0) = _; rw [if_neg k, zcnt_zc p n, Int.add_zero]
section
variable {v r r' : Int} {M M1 M2 N1 N2 : zM}
theorem zJn.ch (hv : v < 999999998) (J : zJn v M) (wN : bW M N1) (K : bK N1) (h : po_X11_changeToDraft N1 r M1) (x : mW M1 N2) (g : po_X12_change N2 r' M2) (eI : ∀ i, gD (M 1 0) (M 1 1) i → N1 4 i = N2 114 i) (eO : ∀ i, 0 ≤ i → i < 192 → ¬ gD (M 1 0) (M 1 1) i → N1 4 i = M 2 i ∧ N2 114 i = M 104 i) : r = r' ∧ zJn (v + 1) M2 := by
  have hI := J.1
  have hM := J.2.2.2.1
  have R := J.2.2.2.2.1
  have v1 := J.2.2.2.2.2.1
  have v9 := J.2.2.2.2.2.2
  obtain ⟨hr, h0, hf, h1⟩ := h
  obtain ⟨gr, g0, gf, g1⟩ := g
  have w1 : ∀ c i, ¬ (bWk c i ∨ c = 2 ∨ (c = 1 ∧ i = 3) ∨ (79 ≤ c ∧ c ≤ 98) ∨ (c = 77 ∧ 0 ≤ i ∧ i ≤ 2)) → M1 c i = M c i := fun c i l => by rw [hf c i (by omega) (by omega) (by omega) (by omega), wN c i (by omega)]
  have w2 : ∀ c i, ¬ (c = 104 ∨ c = 106 ∨ (c = 103 ∧ (i = 7 ∨ i = 8)) ∨ mWk c i) → M2 c i = M1 c i := fun c i l => by rw [gf c i (by omega) (by omega) (by omega), x c i (by omega)]
  have e2 : ∀ i, N1 2 i = M 2 i := fun i => wN 2 i (by omega)
  have e104 : ∀ i, N2 104 i = M 104 i := fun i => by rw [x 104 i (by omega), w1 104 i (by omega)]
  have D := hI.d
  have rr : r = r' := by
    rw [hr, zcnt_zc, gr]
    refine zc_c 192 (by decide) (fun i i0 i1 => ?_)
    rw [e2, e104]
    by_cases k : gD (M 1 0) (M 1 1) i
    · rw [eI i k, R.2.1 i k]
    · have q := eO i i0 i1 k
      rw [q.1, q.2]
      exact ⟨fun c => (c rfl).elim, fun c => (c rfl).elim⟩
  refine ⟨rr, ?_⟩
  by_cases z : r = 0
  · have a := h0 (by omega)
    have b := g0 (by omega)
    rw [a] at x
    rw [b]
    exact J.q wN K x
  · have p : 0 < r := by have := zcnt_b (fun i => N1 4 i ≠ N1 2 i) 192; omega
    obtain ⟨a2, a3, a4, a5, a6, a7⟩ := h1 p
    obtain ⟨b8, b7, bD, bP, bS⟩ := g1 (by omega)
    rw [wN 77 0 (by omega), wN 77 2 (by omega)] at a4
    rw [wN 77 0 (by omega)] at a5
    rw [wN 1 3 (by omega)] at a3
    have x8 : N2 103 8 = M 103 8 := by rw [x 103 8 (by omega), w1 103 8 (by omega)]
    have x106 : ∀ i, N2 106 i = M 106 i := fun i => by rw [x 106 i (by omega), w1 106 i (by omega)]
    obtain ⟨⟨R1, R2⟩, R3⟩ := R.2.2.2.1
    rw [x8, ← R1] at b8
    rw [x8, ← R1] at bS
    have H := hI.h
    have G := hM.h
    have w : ∀ c i, ¬ (bWk c i ∨ c = 2 ∨ (c = 1 ∧ i = 3) ∨ (79 ≤ c ∧ c ≤ 98) ∨ (c = 77 ∧ 0 ≤ i ∧ i ≤ 2) ∨ c = 104 ∨ c = 106 ∨ (c = 103 ∧ (i = 7 ∨ i = 8)) ∨ mWk c i) → M2 c i = M c i := fun c i l => by rw [w2 c i (by omega), w1 c i (by omega)]
    have n1 : M1 77 0 = M2 103 8 := by rw [a5, b8]
    have row : ∀ k i, 0 ≤ k → k < 20 → 0 ≤ i → i < 192 → M1 (79 + k) i = if k = (M1 77 2 + M1 77 0 - 1) % 20 then M 2 i else M (79 + k) i := fun k i k0 k1 i0 i1 => by rw [a7 k i k0 k1 i0 i1, e2, wN (79 + k) i (by omega)]
    have cls : ∀ k, 0 ≤ k → k < M1 77 0 → ∀ i, 0 ≤ i → i < 192 → M1 (79 + (M1 77 2 + k) % 20) i = if k = M1 77 0 - 1 then M 2 i else if M 77 0 = 20 then M (79 + (M 77 2 + (k + 1)) % 20) i else M (79 + (M 77 2 + k) % 20) i := fun k k0 k1 i i0 i1 => by
      rw [row _ i (by omega) (by omega) i0 i1]
      by_cases q : k = M1 77 0 - 1
      · rw [if_pos q, if_pos (by rw [q]; congr 1; omega)]
      · have ne : ¬ (M1 77 2 + k) % 20 = (M1 77 2 + M1 77 0 - 1) % 20 := by
          have : M1 77 0 ≤ 20 := by rw [a5]; split <;> omega
          omega
        rw [if_neg q, if_neg ne]
        by_cases t : M 77 0 = 20
        · rw [if_pos t, a4, if_pos t, show ((M 77 2 + 1) % 20 + k) % 20 = (M 77 2 + (k + 1)) % 20 by omega]
        · rw [if_neg t, a4, if_neg t]
    have rfr : ∀ k, 0 ≤ k → k < M1 77 0 → ∀ i, 0 ≤ i → i < 192 → M2 106 (192 * k + i) = if k = M1 77 0 - 1 then M 104 i else if M 77 0 = 20 then M 106 (192 * (k + 1) + i) else M 106 (192 * k + i) := fun k k0 k1 i i0 i1 => by
      by_cases q : k = M1 77 0 - 1
      · rw [if_pos q, q, n1, bP i i0 i1, e104]
      · rw [if_neg q, bS _ (by omega) (by omega)]
        by_cases t : M 77 0 = 20
        · rw [if_pos t, if_pos t, x106, show 192 * k + i + 192 = 192 * (k + 1) + i by omega]
        · rw [if_neg t, if_neg t, x106]
    have n20 : M1 77 0 = if M 77 0 = 20 then 20 else M 77 0 + 1 := a5
    have nb : 0 < M1 77 0 ∧ M1 77 0 ≤ 20 ∧ (M 77 0 = 20 → M1 77 0 = 20) ∧ (M 77 0 ≠ 20 → M1 77 0 = M 77 0 + 1) := by rw [n20]; split <;> omega
    refine J.mk (fun d i l => w1 d i (by omega)) (fun d i l => w2 d i (by omega)) (fun i => w1 75 i (by omega))
      ⟨hI.d' (fun c i k => w1 c i (by omega)), hI.t' (fun c i k => w1 c i (by omega)), by have := hI.v; rw [a3]; omega, fun i i0 i1 => by rw [a2 i i0 i1]; exact K.1 i i0 i1, hI.tn' (fun c i k => w1 c i (by omega)), ⟨by rw [a6]; omega, by rw [a4]; split <;> omega, fun k i k0 k1 i0 i1 => (by
        rw [row k i k0 k1 i0 i1]
        split
        · exact hI.c i i0 i1
        · exact H.2.2 k i k0 k1 i0 i1)⟩, hI.i' (fun c i k => w1 c i (by omega)), hI.r' (fun c i k => w1 c i (by omega)), hI.s' (fun c i k => w1 c i (by omega))⟩
      (K.up (hf 5 1 (by omega) (by omega) (by omega) (by omega)) (hf 17 6 (by omega) (by omega) (by omega) (by omega)) (hf 42 3 (by omega) (by omega) (by omega) (by omega)) (by rw [a3, wN 1 3 (by omega)]) (fun i i0 i1 => by rw [hf 4 i (by omega) (by omega) (by omega) (by omega)]; exact K.1 i i0 i1))
      (fun m => ⟨m.d' (fun c i k => w2 c i (by omega)), m.t' (fun c i k => w2 c i (by omega)), fun i i0 i1 => (by
        rw [bD i i0 i1]
        by_cases k : gD (M 1 0) (M 1 1) i
        · rw [← eI i k]; exact K.1 i i0 i1
        · rw [(eO i i0 i1 k).2]; exact hM.c i i0 i1), m.tn' (fun c i k => w2 c i (by omega)), ⟨by rw [b7, ← n1]; omega, fun i i0 i1 => (by
        rw [b7, ← n1] at i1
        rw [show i = 192 * (i / 192) + i % 192 by omega, rfr (i / 192) (by omega) (by omega) (i % 192) (by omega) (by omega)]
        split
        · exact hM.c _ (by omega) (by omega)
        · split
          · exact G.2 _ (by omega) (by omega)
          · exact G.2 _ (by omega) (by omega))⟩, m.i' (fun c i k => w2 c i (by omega)), m.r' (fun c i k => w2 c i (by omega)), m.s' (fun c i k => w2 c i (by omega))⟩)
      ⟨R.d' (fun c i k => w c i (by omega)), (by
        rw [w 1 0 (by omega), w 1 1 (by omega)]
        exact fun i k => by rw [w2 2 i (by omega), a2 i k.1 (by omega), bD i k.1 (by omega)]; exact eI i k), R.tn' (fun c i k => w c i (by omega)), (by
        rw [w 1 0 (by omega), w 1 1 (by omega), w2 77 0 (by omega), w2 77 1 (by omega), w2 77 2 (by omega), b7, a6]
        refine ⟨⟨n1, by rw [n1, Int.add_zero]⟩, fun k k0 k1 i i0 i1 => ?_⟩
        rw [← n1] at k1
        rw [w2 (79 + (M1 77 2 + k) % 20) i (by omega), w2 2 i (by omega), cls k k0 k1 i i0 i1, rfr k k0 k1 i i0 i1, a2 i i0 i1, bD i i0 i1]
        by_cases q : k = M1 77 0 - 1
        · rw [if_pos q, if_pos q]
          exact ⟨fun c => R.2.1 i c, fun c => ⟨(eO i i0 i1 c).1.symm, (eO i i0 i1 c).2.symm⟩⟩
        · rw [if_neg q, if_neg q]
          have fin : ∀ k', 0 ≤ k' → k' < M 103 7 → (gD (M 1 0) (M 1 1) i → M (79 + (M 77 2 + k') % 20) i = M 106 (192 * k' + i)) ∧ (¬ gD (M 1 0) (M 1 1) i → M (79 + (M 77 2 + k') % 20) i = N1 4 i ∧ M 106 (192 * k' + i) = N2 114 i) := fun k' l0 l1 => by
            have X := R3 k' l0 l1 i i0 i1
            exact ⟨X.1, fun c => ⟨(X.2 c).1.trans (eO i i0 i1 c).1.symm, (X.2 c).2.trans (eO i i0 i1 c).2.symm⟩⟩
          by_cases t : M 77 0 = 20
          · rw [if_pos t, if_pos t]; exact fin (k + 1) (by omega) (by omega)
          · rw [if_neg t, if_neg t]; exact fin k k0 (by omega)), R.r' hI (fun c i k => w c i (by omega)), R.i' (fun c i k => w c i (by omega)), R.s' (fun c i k => w c i (by omega))⟩
      (by rw [a3]; omega) (by rw [w1 99 3 (by omega)]; omega)
theorem zq_paint {a c : Int} (hv : v < 999999998) (J : zJn v M) (h : po_X11_paint a c M r M1) (g : po_X12_paint a c M1 r' M2) : r = r' ∧ zJn (v + 1) M2 := by
  have hI := J.1
  have hM := J.2.2.2.1
  have R := J.2.2.2.2.1
  have v1 := J.2.2.2.2.2.1
  have v9 := J.2.2.2.2.2.2
  have D := hI.d
  by_cases k : gD (M 1 0) (M 1 1) a ∧ 0 ≤ c ∧ c ≤ 15
  · obtain ⟨er, N, q, s1, f1, ch⟩ := h.2 k
    have m1 : ∀ d i, 103 ≤ d → M1 d i = M d i := fun d i l => by rw [ch.2.2.1 d i (by omega) (by omega) (by omega) (by omega), f1 d i (by omega)]
    obtain ⟨er', N', q', s2, _, f2, ch'⟩ := g.2 (by rw [m1 103 1 (by omega), m1 103 2 (by omega), ← R.1.1, ← R.1.2.1]; exact k)
    have J2 := J.ch hv (fun d i l => f1 d i (by omega)) (J.2.1.d4 (fun d i _ l => f1 d i l) (fun i i0 i1 => by
      rw [s1 i i0 i1]
      split
      · exact k.2
      · exact hI.c i i0 i1)) ch (fun d i l => f2 d i (by omega) (by omega)) ch' (fun i d => by
      rw [s1 i d.1 (by omega), s2 i d.1 (by omega), m1 104 i (by omega), R.2.1 i d]) (fun i i0 i1 d => by
      have ne : i ≠ a := fun e => d (by rw [e]; exact k.1)
      rw [s1 i i0 i1, s2 i i0 i1, if_neg ne, if_neg ne, m1 104 i (by omega)]; exact ⟨rfl, rfl⟩)
    exact ⟨by rw [er, er', m1 104 a (by omega)]; exact R.2.1 a k.1, J2.2⟩
  · obtain ⟨er, e1⟩ := h.1 k
    subst e1
    obtain ⟨er', e2⟩ := g.1 (by rw [← R.1.1, ← R.1.2.1]; exact k)
    subst e2
    exact ⟨by rw [er, er'], J.q bW.r J.2.1 (mW.z0 0)⟩
theorem zq_makeFew {k : Int} (hv : v < 999999998) (J : zJn v M) (h : po_X11_makeFew k M r M1) (g : po_X12_makeFew k M1 r' M2) : r = r' ∧ zJn (v + 1) M2 := by
  have hI := J.1
  have hM := J.2.2.2.1
  have R := J.2.2.2.2.1
  have v1 := J.2.2.2.2.2.1
  have v9 := J.2.2.2.2.2.2
  have D := hI.d
  by_cases kk : 1 ≤ k ∧ k ≤ 4
  · have cnt : gCn (M 1 0) (M 1 1) (M 2) = gCn (M 103 1) (M 103 2) (M 104) := funext fun c => by rw [← R.1.1, ← R.1.2.1]; exact gCn_cg (by omega) (fun i d => R.2.1 i d) c
    by_cases k8 : zc (fun c => 0 < gCn (M 1 0) (M 1 1) (M 2) c) 16 ≤ 8
    · obtain ⟨N, l, s, F, s1, wN, K, ch⟩ := h.2.2 kk k8
      have m1 : ∀ d i, 103 ≤ d → M1 d i = M d i := fun d i l => by rw [ch.2.2.1 d i (by omega) (by omega) (by omega) (by omega), wN d i (by omega)]
      have g3 := g.2.2 kk
      rw [m1 103 1 (by omega), m1 103 2 (by omega), show M1 104 = M 104 from funext fun i => m1 104 i (by omega), show M1 105 = M 105 from funext fun i => m1 105 i (by omega), ← cnt, ← R.1.1, ← R.1.2.1] at g3
      obtain ⟨N', l', s', F', s2, w', ch'⟩ := g3 k8
      have es := (F.uq (gFw_t (T' := M 3) (fun c c0 c1 => (R.2.2.1 c c0 c1).symm) F')).2
      subst es
      exact J.ch hv wN K ch w' ch' (fun i d => by
        have b := hI.c i d.1 (by omega)
        rw [s1 i d.1 (by omega), s2 i d.1 (by omega), if_pos d, if_pos d, ← R.2.1 i d]
        exact gNe_t (fun c c0 c1 => R.2.2.1 c c0 c1) b.1 (by omega)) (fun i i0 i1 d => by
        rw [s1 i i0 i1, s2 i i0 i1, if_neg d, if_neg d]; exact ⟨rfl, rfl⟩)
    · obtain ⟨er, w, K⟩ := h.2.1 kk (by omega)
      have g2 := g.2.1 kk
      rw [w 103 1 (by omega), w 103 2 (by omega), show M1 104 = M 104 from funext fun i => w 104 i (by omega), ← cnt] at g2
      obtain ⟨er', w'⟩ := g2 (by omega)
      exact ⟨by rw [er, er'], J.q w K w'⟩
  · obtain ⟨er, e1⟩ := h.1 kk
    obtain ⟨er', w'⟩ := g.1 kk
    subst e1
    exact ⟨by rw [er, er'], J.q bW.r J.2.1 w'⟩
theorem qClv.cgL {w h n vv : Int} {D L L' E : Int → Int} (eL : ∀ i, 0 ≤ i → i < 192 → L i = L' i) (eG : zg w h L = zg w h L') (H : qClv w h D L n vv E) : qClv w h D L' n vv E := by
  intro i i0 i1
  obtain ⟨a, b, c⟩ := H i i0 i1
  have z : ∀ f, zc (fun j => L j = f) 192 = zc (fun j => L' j = f) 192 := fun f => zc_c 192 (by decide) (fun j j0 j1 => by rw [eL j j0 j1])
  have y : ∀ f, (fun c => zc (gSd w h L D f c) 768) = fun c => zc (gSd w h L' D f c) 768 := fun f => funext fun c => zc_c 768 (by decide) (fun j j0 j1 => by unfold gSd; rw [eG, eL (j / 4) (by omega) (by omega)])
  rw [eL i i0 i1, z, y] at c
  rw [eL i i0 i1, z] at b
  rw [eL i i0 i1] at a
  exact ⟨a, b, c⟩
theorem zq_clean {n : Int} (hv : v < 999999998) (J : zJn v M) (h : po_X11_clean n M r M1) (g : po_X12_clean n M1 r' M2) : r = r' ∧ zJn (v + 1) M2 := by
  have hI := J.1
  have hM := J.2.2.2.1
  have R := J.2.2.2.2.1
  have v1 := J.2.2.2.2.2.1
  have v9 := J.2.2.2.2.2.2
  have D := hI.d
  by_cases k : 1 ≤ n ∧ n ≤ 20
  · obtain ⟨N, Q1, wN, Q, ch⟩ := h.2 k
    have m1 : ∀ d i, 103 ≤ d → M1 d i = N d i := fun d i l => by rw [ch.2.2.1 d i (by omega) (by omega) (by omega) (by omega)]
    obtain ⟨N', Q2, w', F, ch'⟩ := g.2 k
    let H : zM := fun c i => if c ≤ 102 then N c i else N' c i
    have H1 : ∀ c i, c ≤ 102 → H c i = N c i := fun c i l => if_pos l
    have H2 : ∀ c i, 103 ≤ c → H c i = N' c i := fun c i l => if_neg (by omega)
    have wH : mW N H := fun c i l => by
      by_cases q : c ≤ 102
      · exact H1 c i q
      · rw [H2 c i (by omega), w' c i l, m1 c i (by omega)]
    have H2f : ∀ c, 103 ≤ c → H c = N' c := fun c l => funext fun i => H2 c i l
    have H1f : ∀ c, c ≤ 102 → H c = N c := fun c l => funext fun i => H1 c i l
    have FH : mFok H := by
      unfold mFok
      rw [H2f 103 (by omega), H2f 104 (by omega), H2f 115 (by omega), H2f 116 (by omega)]
      exact F
    obtain ⟨J2, L, _, RH, d, eD⟩ := J.L wN Q wH FH
    have LG := L.G RH
    have L2 := L.2.1
    have L1 := L.1
    rw [H1f 12 (by omega), H1f 1 (by omega), H2f 115 (by omega)] at LG
    rw [H1f 12 (by omega), H2f 115 (by omega)] at L2
    rw [H1f 5 (by omega), H2f 103 (by omega)] at L1
    rw [H1f 1 (by omega), H2f 103 (by omega)] at RH
    rw [H1f 1 (by omega), H1f 2 (by omega), H2f 104 (by omega)] at eD
    have a0 : N 1 0 = M 1 0 := wN 1 0 (by omega)
    have a1 : N 1 1 = M 1 1 := wN 1 1 (by omega)
    rw [← RH.1, ← RH.2.1, ← L1] at Q2
    have Q3 := qClv.cgL (L' := N 12) (fun i i0 i1 => (L2 i i0 i1).symm) LG.symm Q2
    have ok := Q.ok
    have inn : ∀ i, 0 ≤ i → i < 192 → 0 ≤ N 12 i → gD (N 1 0) (N 1 1) i := fun i i0 i1 l => by
      apply Classical.byContradiction
      intro c
      have := ok.2.1 i i0 i1 c
      omega
    have uq := Q1.uq Q3 (fun i i0 i1 l => eD i (inn i i0 i1 l)) (fun x y => by rw [zg_cg (L' := N' 104) (by omega) eD])
    exact J.ch hv wN Q.1 ch w' ch' (fun i di => by
      rw [← a0, ← a1] at di
      have q := ok.1.2.1 i di
      exact uq i di.1 (by omega) q.1 q.2) (fun i i0 i1 di => by
      rw [← a0, ← a1] at di
      have q := ok.2.1 i i0 i1 di
      refine ⟨?_, ?_⟩
      · rw [(Q1 i i0 i1).1 (by omega), wN 2 i (by omega)]
      · rw [(Q3 i i0 i1).1 (by omega), w' 104 i (by omega), m1 104 i (by omega), wN 104 i (by omega)])
  · obtain ⟨er, e1⟩ := h.1 k
    obtain ⟨er', w'⟩ := g.1 k
    subst e1
    exact ⟨by rw [er, er'], J.q bW.r J.2.1 w'⟩
end
