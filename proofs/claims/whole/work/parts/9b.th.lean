section
variable {v r r' : Int} {M M1 M2 : zM}
theorem zJn.sw {q n : Int} (hv : v < 999999998) (J : zJn v M) (hq : 0 ≤ q ∧ q < M 103 7) (hn : 0 ≤ n ∧ n ≤ M 103 7)
    (w1 : ∀ c i, ¬ (c = 2 ∨ c = 4 ∨ c = 79 + (M 77 2 + q) % 20 ∨ (c = 1 ∧ i = 3) ∨ (c = 77 ∧ (i = 0 ∨ i = 1))) → M1 c i = M c i)
    (s2 : ∀ i, 0 ≤ i → i < 192 → M1 2 i = M (79 + (M 77 2 + q) % 20) i) (s4 : ∀ i, 0 ≤ i → i < 192 → M1 4 i = M 2 i) (sr : ∀ i, 0 ≤ i → i < 192 → M1 (79 + (M 77 2 + q) % 20) i = M 2 i)
    (s3 : M1 1 3 = M 1 3 + 1) (s5 : M1 77 0 = n) (s6 : M1 77 1 = M 103 7 - n) (er : r = zcnt (fun i => M1 4 i ≠ M1 2 i) 192)
    (er' : r' = zc (fun i => M1 106 (192 * q + i) ≠ M1 104 i) 192) (t8 : M2 103 8 = n) (t4 : ∀ i, 0 ≤ i → i < 192 → M2 104 i = M1 106 (192 * q + i)) (tr : ∀ i, 0 ≤ i → i < 192 → M2 106 (192 * q + i) = M1 104 i)
    (w2 : ∀ c i, ¬ (c = 104 ∨ (c = 106 ∧ 192 * q ≤ i ∧ i < 192 * q + 192) ∨ (c = 103 ∧ (i = 0 ∨ i = 8))) → M2 c i = M1 c i) : r = r' ∧ zJn (v + 1) M2 := by
  have hI := J.1
  have hM := J.2.2.2.1
  have R := J.2.2.2.2.1
  have v1 := J.2.2.2.2.2.1
  have v9 := J.2.2.2.2.2.2
  have D := hI.d
  have H := hI.h
  have G := hM.h
  obtain ⟨⟨R1, R2⟩, R3⟩ := R.2.2.2.1
  have w : ∀ c i, ¬ (c = 2 ∨ c = 4 ∨ c = 79 + (M 77 2 + q) % 20 ∨ (c = 1 ∧ i = 3) ∨ (c = 77 ∧ (i = 0 ∨ i = 1)) ∨ c = 104 ∨ (c = 106 ∧ 192 * q ≤ i ∧ i < 192 * q + 192) ∨ (c = 103 ∧ (i = 0 ∨ i = 8))) → M2 c i = M c i := fun c i l => by rw [w2 c i (by omega), w1 c i (by omega)]
  have m106 : ∀ i, M1 106 i = M 106 i := fun i => w1 106 i (by omega)
  have m104 : ∀ i, M1 104 i = M 104 i := fun i => w1 104 i (by omega)
  have rng := H.2.2 ((M 77 2 + q) % 20)
  refine ⟨?_, ?_⟩
  · rw [er, zcnt_zc, er']
    refine zc_c 192 (by decide) (fun i i0 i1 => ?_)
    rw [s4 i i0 i1, s2 i i0 i1, m106, m104]
    have X := R3 q hq.1 hq.2 i i0 i1
    by_cases k : gD (M 1 0) (M 1 1) i
    · rw [X.1 k, R.2.1 i k]; exact ⟨fun a b => a b.symm, fun a b => a b.symm⟩
    · rw [(X.2 k).1, (X.2 k).2]; exact ⟨fun a => (a rfl).elim, fun a => (a rfl).elim⟩
  refine J.mk (fun d i l => w1 d i (by omega)) (fun d i l => w2 d i (by omega)) (fun i => w1 75 i (by omega))
      ⟨hI.d' (fun c i k => w1 c i (by omega)), hI.t' (fun c i k => w1 c i (by omega)), by have := hI.v; rw [s3]; omega, fun i i0 i1 => by rw [s2 i i0 i1]; exact rng i (by omega) (by omega) i0 i1, hI.tn' (fun c i k => w1 c i (by omega)), ⟨by rw [s5, s6]; omega, by rw [w1 77 2 (by omega)]; exact H.2.1, fun k i k0 k1 i0 i1 => (by
      by_cases e : k = (M 77 2 + q) % 20
      · rw [e, sr i i0 i1]; exact hI.c i i0 i1
      · rw [w1 (79 + k) i (by omega)]; exact H.2.2 k i k0 k1 i0 i1)⟩, hI.i' (fun c i k => w1 c i (by omega)), hI.r' (fun c i k => w1 c i (by omega)), hI.s' (fun c i k => w1 c i (by omega))⟩
      (J.2.1.up (w1 5 1 (by omega)) (w1 17 6 (by omega)) (w1 42 3 (by omega)) s3 (fun i i0 i1 => by rw [s4 i i0 i1]; exact hI.c i i0 i1))
      (fun m => ⟨m.d' (fun c i k => w2 c i (by omega)), m.t' (fun c i k => w2 c i (by omega)), fun i i0 i1 => by rw [t4 i i0 i1, m106]; exact G.2 _ (by omega) (by omega), m.tn' (fun c i k => w2 c i (by omega)), ⟨by rw [t8, w 103 7 (by omega)]; omega, fun i i0 i1 => (by
      rw [w 103 7 (by omega)] at i1
      by_cases e : 192 * q ≤ i ∧ i < 192 * q + 192
      · rw [show i = 192 * q + (i - 192 * q) by omega, tr _ (by omega) (by omega), m104]; exact hM.c _ (by omega) (by omega)
      · rw [w 106 i (by omega)]; exact G.2 i i0 i1)⟩, m.i' (fun c i k => w2 c i (by omega)), m.r' (fun c i k => w2 c i (by omega)), m.s' (fun c i k => w2 c i (by omega))⟩)
      ⟨R.d' (fun c i k => w c i (by omega)), (by
      rw [w 1 0 (by omega), w 1 1 (by omega)]
      exact fun i k => by rw [w2 2 i (by omega), s2 i k.1 (by omega), t4 i k.1 (by omega), m106]; exact (R3 q hq.1 hq.2 i k.1 (by omega)).1 k), R.tn' (fun c i k => w c i (by omega)), (by
      rw [w 1 0 (by omega), w 1 1 (by omega), w2 77 0 (by omega), w2 77 1 (by omega), w 77 2 (by omega), t8, w 103 7 (by omega), s5, s6]
      refine ⟨⟨rfl, by omega⟩, fun k k0 k1 i i0 i1 => ?_⟩
      have X := R3 k k0 k1 i i0 i1
      have Y := R3 q hq.1 hq.2 i i0 i1
      rw [w2 2 i (by omega), s2 i i0 i1, t4 i i0 i1, m106, w2 (79 + (M 77 2 + k) % 20) i (by omega)]
      by_cases e : k = q
      · rw [e, sr i i0 i1, tr i i0 i1, m104]
        exact ⟨fun c => R.2.1 i c, fun c => ⟨(Y.2 c).1.symm, (Y.2 c).2.symm⟩⟩
      · rw [w1 (79 + (M 77 2 + k) % 20) i (by omega), w 106 (192 * k + i) (by omega)]
        exact ⟨X.1, fun c => ⟨(X.2 c).1.trans (Y.2 c).1.symm, (X.2 c).2.trans (Y.2 c).2.symm⟩⟩), R.r' hI (fun c i k => w c i (by omega)), R.i' (fun c i k => w c i (by omega)), R.s' (fun c i k => w c i (by omega))⟩
      (by rw [s3]; omega) (by rw [w1 99 3 (by omega)]; omega)
theorem zq_undo (hv : v < 999999998) (J : zJn v M) (h : po_X11_undo M r M1) (g : po_X12_undo M1 r' M2) : r = r' ∧ zJn (v + 1) M2 := by
  have hI := J.1
  have hM := J.2.2.2.1
  have R := J.2.2.2.2.1
  have v1 := J.2.2.2.2.2.1
  have v9 := J.2.2.2.2.2.2
  obtain ⟨⟨R1, R2⟩, R3⟩ := R.2.2.2.1
  have H := hI.h
  by_cases k : M 77 0 = 0
  · obtain ⟨er, e1⟩ := h.1 k
    subst e1
    obtain ⟨er', e2⟩ := g.1 (by rw [← R1]; exact k)
    subst e2
    exact ⟨by rw [er, er'], J.q bW.r J.2.1 (mW.z0 0)⟩
  · obtain ⟨f1, s2, s4, sr, s3, s5, er⟩ := h.2 k
    have w1 : ∀ c i, ¬ (c = 2 ∨ c = 4 ∨ c = 79 + (M 77 2 + (M 77 0 - 1)) % 20 ∨ (c = 1 ∧ i = 3) ∨ (c = 77 ∧ (i = 0 ∨ i = 1))) → M1 c i = M c i := fun c i l => f1 c i (by omega) (by omega) (by omega) (by omega) (by omega)
    have m8 : M1 103 8 = M 77 0 := by rw [w1 103 8 (by omega), R1]
    obtain ⟨er', t8, t4, tr, f2⟩ := g.2 (by rw [m8]; exact k)
    rw [m8] at er' t8 t4 tr f2
    exact J.sw hv (q := M 77 0 - 1) (n := M 77 0 - 1) (by omega) (by omega) w1 s2 s4 sr s3 s5.1 (by rw [s5.2]; omega) er er' t8 t4 tr (fun c i l => f2 c i (by omega) (by omega) (by omega))
theorem zq_redo (hv : v < 999999998) (J : zJn v M) (h : po_X11_redo M r M1) (g : po_X12_redo M1 r' M2) : r = r' ∧ zJn (v + 1) M2 := by
  have hI := J.1
  have hM := J.2.2.2.1
  have R := J.2.2.2.2.1
  have v1 := J.2.2.2.2.2.1
  have v9 := J.2.2.2.2.2.2
  obtain ⟨⟨R1, R2⟩, R3⟩ := R.2.2.2.1
  have H := hI.h
  by_cases k : M 77 1 = 0
  · obtain ⟨er, e1⟩ := h.1 k
    subst e1
    obtain ⟨er', e2⟩ := g.1 (by omega)
    subst e2
    exact ⟨by rw [er, er'], J.q bW.r J.2.1 (mW.z0 0)⟩
  · obtain ⟨f1, s2, s4, sr, s3, s5, er⟩ := h.2 k
    have w1 : ∀ c i, ¬ (c = 2 ∨ c = 4 ∨ c = 79 + (M 77 2 + M 77 0) % 20 ∨ (c = 1 ∧ i = 3) ∨ (c = 77 ∧ (i = 0 ∨ i = 1))) → M1 c i = M c i := fun c i l => f1 c i (by omega) (by omega) (by omega) (by omega) (by omega)
    have m8 : M1 103 8 = M 77 0 := by rw [w1 103 8 (by omega), R1]
    have m7 : M1 103 7 = M 103 7 := w1 103 7 (by omega)
    obtain ⟨er', t8, t4, tr, f2⟩ := g.2 (by omega)
    rw [m8] at er' t8 t4 tr f2
    exact J.sw hv (q := M 77 0) (n := M 77 0 + 1) (by omega) (by omega) w1 s2 s4 sr s3 s5.1 (by rw [s5.2]; omega) er er' t8 t4 tr (fun c i l => f2 c i (by omega) (by omega) (by omega))
theorem zJn.te (J : zJn v M) {d : Int} (k : bTok M d) : bTx M d = mTx M d := by
  have t := J.tx k
  unfold bTx mTx
  rw [t.2.1, gEx_cg t.2.2]
theorem zq_picture {d : Int} (hv : v < 999999998) (J : zJn v M) (h : po_X11_picture d M r M1) (g : po_X12_picture d M1 r' M2) : r = r' ∧ zJn (v + 1) M2 := by
  have hI := J.1
  have hM := J.2.2.2.1
  have R := J.2.2.2.2.1
  have v1 := J.2.2.2.2.2.1
  have v9 := J.2.2.2.2.2.2
  have tok : ∀ {A : zM}, (∀ c i, 103 ≤ c → A c i = M c i) → (mTok A d ↔ mTok M d) ∧ mTx A d = mTx M d ∧ A 134 d = M 134 d := fun f => by
    unfold mTok mTx
    rw [f 134 d (by omega), f 140 d (by omega), f 141 d (by omega), funext (fun i => f 142 i (by omega))]
    exact ⟨Iff.rfl, rfl, rfl⟩
  by_cases k : bTok M d
  · have e := J.te k
    have k2 := (J.tx k).1
    by_cases q : (bTx M d).1 = -4
    · obtain ⟨⟨er, a0, a1, a3, a7, a8⟩, aD, aP, aC, aF, aK⟩ := h.2.2 k q
      have w1 : ∀ c i, ¬ (bWk c i ∨ c = 2 ∨ (c = 1 ∧ (i = 0 ∨ i = 1 ∨ i = 3)) ∨ (c = 77 ∧ (i = 0 ∨ i = 1))) → M1 c i = M c i := fun c i l => aF c i (by omega) (by omega) (by omega) (by omega)
      have T := tok (A := M1) (fun c i l => w1 c i (by omega))
      obtain ⟨⟨er', b0, b1, b7, b8⟩, bD', bP, bC, bF⟩ := g.2.2 (T.1.2 k2) (by rw [T.2.1, ← e]; exact q)
      rw [T.2.1, ← e] at er' b0 b1 bP
      have w2 : ∀ c i, ¬ (mWk c i ∨ c = 104 ∨ (c = 103 ∧ (i = 1 ∨ i = 2 ∨ i = 7 ∨ i = 8))) → M2 c i = M1 c i := fun c i l => bF c i (by omega) (by omega) (by omega)
      have w : ∀ c i, ¬ (bWk c i ∨ c = 2 ∨ (c = 1 ∧ (i = 0 ∨ i = 1 ∨ i = 3)) ∨ (c = 77 ∧ (i = 0 ∨ i = 1)) ∨ mWk c i ∨ c = 104 ∨ (c = 103 ∧ (i = 1 ∨ i = 2 ∨ i = 7 ∨ i = 8))) → M2 c i = M c i := fun c i l => by rw [w2 c i (by omega), w1 c i (by omega)]
      have H := hI.h
      refine ⟨by rw [er, er'], J.mk (fun d i l => w1 d i (by omega)) (fun d i l => w2 d i (by omega)) (fun i => w1 75 i (by omega))
        ⟨aD, hI.t' (fun c i k => w1 c i (by omega)), by have := hI.v; rw [a3]; omega, aC, hI.tn' (fun c i k => w1 c i (by omega)), ⟨by rw [a7, a8]; decide, by rw [w1 77 2 (by omega)]; exact H.2.1, fun k i k0 k1 i0 i1 => by rw [w1 (79 + k) i (by omega)]; exact H.2.2 k i k0 k1 i0 i1⟩, hI.i' (fun c i k => w1 c i (by omega)), hI.r' (fun c i k => w1 c i (by omega)), hI.s' (fun c i k => w1 c i (by omega))⟩
        (aK)
        (fun m => ⟨bD', m.t' (fun c i k => w2 c i (by omega)), bC, m.tn' (fun c i k => w2 c i (by omega)), ⟨by rw [b7, b8]; decide, fun i i0 i1 => by rw [b7] at i1; omega⟩, m.i' (fun c i k => w2 c i (by omega)), m.r' (fun c i k => w2 c i (by omega)), m.s' (fun c i k => w2 c i (by omega))⟩)
        ⟨⟨by rw [w2 1 0 (by omega), a0, b0], by rw [w2 1 1 (by omega), a1, b1], by rw [w 1 2 (by omega), w 103 5 (by omega)]; exact R.1.2.2⟩, (by
        rw [w2 1 0 (by omega), w2 1 1 (by omega)]
        exact fun i d => by rw [w2 2 i (by omega), aP i ⟨d.1, .inl ⟨d.2.2, d.2.1⟩⟩, bP i ⟨d.1, .inl ⟨by rw [b1, ← a1]; exact d.2.2, by rw [b0, ← a0]; exact d.2.1⟩⟩]), R.tn' (fun c i k => w c i (by omega)), ⟨by rw [w2 77 0 (by omega), w2 77 1 (by omega), a7, a8, b7, b8]; exact ⟨rfl, rfl⟩, fun k k0 k1 => by rw [b7] at k1; omega⟩, R.r' hI (fun c i k => w c i (by omega)), R.i' (fun c i k => w c i (by omega)), R.s' (fun c i k => w c i (by omega))⟩
        (by rw [a3]; omega) (by rw [w1 99 3 (by omega)]; omega)⟩
    · obtain ⟨er, w1, K⟩ := h.2.1 k q
      have T := tok (A := M1) (fun c i l => w1 c i (by omega))
      obtain ⟨er', w2⟩ := g.2.1 (T.1.2 k2) (by rw [T.2.1, ← e]; exact q)
      rw [T.2.1, ← e] at er'
      exact ⟨by rw [er, er'], J.q w1 K w2⟩
  · obtain ⟨er, e1⟩ := h.1 k
    subst e1
    obtain ⟨er', w2⟩ := g.1 (fun q => k (J.tk.2 q))
    exact ⟨by rw [er, er']; exact J.rf, J.q bW.r J.2.1 w2⟩
theorem zq_image (hv : v < 999999998) (J : zJn v M) (h : po_X11_image M r M1) (g : po_X12_image M1 r' M2) : r = r' ∧ zJn (v + 1) M2 := by
  have hI := J.1
  have hM := J.2.2.2.1
  have R := J.2.2.2.2.1
  have v1 := J.2.2.2.2.2.1
  have v9 := J.2.2.2.2.2.2
  obtain ⟨er, f1, ⟨a0, a1, a2, a3, a4, a12⟩, aP, aT, aR⟩ := h
  obtain ⟨er', f2, ⟨_, b13, b14, b15, b18, b19⟩, bP, bT, bR⟩ := g
  have D := hI.d
  have w1 : ∀ c i, ¬ (c = 100 ∨ c = 101 ∨ c = 73 ∨ (c = 99 ∧ (i = 0 ∨ i = 1 ∨ i = 2 ∨ i = 3)) ∨ (c = 57 ∧ i = 4) ∨ (c = 0 ∧ i = 12)) → M1 c i = M c i := fun c i l => f1 c i (by omega) (by omega) (by omega) (by omega) (by omega) (by omega)
  have w2 : ∀ c i, ¬ (c = 110 ∨ c = 111 ∨ c = 112 ∨ (c = 103 ∧ (i = 0 ∨ i = 13 ∨ i = 14 ∨ i = 15 ∨ i = 18 ∨ i = 19))) → M2 c i = M1 c i := fun c i l => f2 c i (by omega) (by omega) (by omega) (by omega)
  have w : ∀ c i, ¬ (c = 100 ∨ c = 101 ∨ c = 73 ∨ (c = 99 ∧ (i = 0 ∨ i = 1 ∨ i = 2 ∨ i = 3)) ∨ (c = 57 ∧ i = 4) ∨ (c = 0 ∧ i = 12) ∨ c = 110 ∨ c = 111 ∨ c = 112 ∨ (c = 103 ∧ (i = 0 ∨ i = 13 ∨ i = 14 ∨ i = 15 ∨ i = 18 ∨ i = 19))) → M2 c i = M c i := fun c i l => by rw [w2 c i (by omega), w1 c i (by omega)]
  have X := R.2.2.2.2.1
  refine ⟨by rw [er, er', w1 103 1 (by omega), w1 103 2 (by omega), R.1.1, R.1.2.1], J.mk (fun d i l => w1 d i (by omega)) (fun d i l => w2 d i (by omega)) (fun i => w1 75 i (by omega))
    ⟨hI.d' (fun c i k => w1 c i (by omega)), hI.t' (fun c i k => w1 c i (by omega)), hI.v' (fun c i k => w1 c i (by omega)), hI.c' (fun c i k => w1 c i (by omega)), hI.tn' (fun c i k => w1 c i (by omega)), hI.h' (fun c i k => w1 c i (by omega)), ⟨by have := hI.i.1; rw [a3]; omega, fun _ => by rw [a0, a1]; omega, fun i i0 i1 => by rw [aP i i0 i1]; exact hI.c i i0 i1, fun i i0 i1 => by rw [aT i i0 i1]; exact hI.tn i i0 i1, by rw [a2]; exact hI.t⟩, ⟨by rw [w1 57 0 (by omega)]; exact hI.r.1, by rw [a4]; exact hI.r.1, fun i i0 i1 => by rw [w1 72 i (by omega)]; exact hI.r.2.2.1 i i0 i1, fun i i0 i1 => by rw [aR i i0 i1]; exact hI.r.2.2.1 i i0 i1, fun i i0 i1 => by rw [w1 71 i (by omega)]; exact hI.r.2.2.2.2 i i0 i1⟩, hI.s' (fun c i k => w1 c i (by omega))⟩
    (J.2.1.fr (fun d i k => w1 d i (by omega)))
    (fun m => ⟨m.d' (fun c i k => w2 c i (by omega)), m.t' (fun c i k => w2 c i (by omega)), m.c' (fun c i k => w2 c i (by omega)), m.tn' (fun c i k => w2 c i (by omega)), m.h' (fun c i k => w2 c i (by omega)), ⟨fun _ => by have := m.d; rw [b14, b15]; omega, fun i i0 i1 => by rw [bP i i0 i1]; exact m.c i i0 i1, fun i i0 i1 => by rw [bT i i0 i1]; exact m.tn i i0 i1, by rw [b18]; exact m.t⟩, ⟨by rw [w2 103 9 (by omega)]; exact m.r.1, by rw [b19]; exact m.r.1, fun i i0 i1 => by rw [w2 109 i (by omega)]; exact m.r.2.2.1 i i0 i1, fun i i0 i1 => by rw [bR i i0 i1]; exact m.r.2.2.1 i i0 i1, fun i i0 i1 => by rw [w2 108 i (by omega)]; exact m.r.2.2.2.2 i i0 i1⟩, m.s' (fun c i k => w2 c i (by omega))⟩)
    ⟨R.d' (fun c i k => w c i (by omega)), R.p' (fun c i k => w c i (by omega)), R.tn' (fun c i k => w c i (by omega)), R.h' (fun c i k => w c i (by omega)), (by
    refine ⟨by rw [w 57 0 (by omega), w2 57 4 (by omega), a4, w 103 9 (by omega)]; have := hI.r.1; exact ⟨X.1.1, Int.le_refl _, this.2⟩, fun q q0 q1 => by rw [w 72 q (by omega), w 109 q (by omega)]; exact X.2.1 q q0 q1, fun q q0 q1 => ?_⟩
    have := hI.r.1
    rw [w 57 0 (by omega)] at q1
    rw [w 71 q (by omega), w 108 q (by omega), show M2 107 = M 107 from funext fun i => w 107 i (by omega), show M2 (59 + q) = M (59 + q) from funext fun i => w (59 + q) i (by omega)]; exact X.2.2 q q0 q1), (by
    refine ⟨by rw [w2 0 12 (by omega), a12, b13], fun _ => ⟨?_, ?_, fun c c0 c1 => ?_, fun q q0 q1 => ?_⟩⟩
    · rw [w2 99 0 (by omega), w2 99 1 (by omega), w2 99 2 (by omega), w2 57 4 (by omega), a0, a1, a2, a4, b14, b15, b18, b19, w1 103 1 (by omega), w1 103 2 (by omega), w1 103 5 (by omega), w1 103 9 (by omega)]
      exact ⟨R.1.1, R.1.2.1, R.1.2.2, X.1.1⟩
    · rw [w2 99 0 (by omega), w2 99 1 (by omega), a0, a1]
      exact fun i d => by rw [w2 100 i (by omega), aP i d.1 (by omega), bP i d.1 (by omega), w1 104 i (by omega)]; exact R.2.1 i d
    · rw [w2 101 c (by omega), aT c c0 c1, bT c c0 c1, w1 105 c (by omega)]; exact R.2.2.1 c c0 c1
    · rw [w2 73 q (by omega), aR q q0 q1, bR q q0 q1, w1 109 q (by omega)]; exact X.2.1 q q0 q1), R.s' (fun c i k => w c i (by omega))⟩
    (by rw [w1 1 3 (by omega)]; omega) (by rw [a3]; omega)⟩
theorem zq_restore (hv : v < 999999998) (J : zJn v M) (h : po_X11_restore M r M1) (g : po_X12_restore M1 r' M2) : r = r' ∧ zJn (v + 1) M2 := by
  have hI := J.1
  have hM := J.2.2.2.1
  have R := J.2.2.2.2.1
  have v1 := J.2.2.2.2.2.1
  have v9 := J.2.2.2.2.2.2
  have Z := R.2.2.2.2.2.1
  have X := R.2.2.2.2.1
  by_cases k : M 0 12 = 0
  · obtain ⟨er, e1⟩ := h.1 k
    subst e1
    obtain ⟨er', e2⟩ := g.1 (Classical.byContradiction fun c => Z.1.2 c k)
    subst e2
    exact ⟨by rw [er, er'], J.q bW.r J.2.1 (mW.z0 0)⟩
  · obtain ⟨er, ⟨a0, a1, a2, a3⟩, ⟨a57, a77, a771⟩, aP, aT, aR⟩ := h.2.2 k
    have f1 := h.2.1
    have w1 : ∀ c i, ¬ (c = 2 ∨ c = 3 ∨ c = 72 ∨ (c = 1 ∧ (i = 0 ∨ i = 1 ∨ i = 2 ∨ i = 3)) ∨ (c = 57 ∧ i = 0) ∨ (c = 77 ∧ (i = 0 ∨ i = 1))) → M1 c i = M c i := fun c i l => f1 c i (by omega) (by omega) (by omega) (by omega) (by omega) (by omega)
    obtain ⟨er', ⟨_, b1, b2, b5, b9, b7, b8⟩, bP, bT, bR⟩ := g.2.2 (by rw [w1 103 13 (by omega)]; exact Z.1.1 k)
    have f2 := g.2.1
    have w2 : ∀ c i, ¬ (c = 104 ∨ c = 105 ∨ c = 109 ∨ (c = 103 ∧ (i = 0 ∨ i = 1 ∨ i = 2 ∨ i = 5 ∨ i = 7 ∨ i = 8 ∨ i = 9))) → M2 c i = M1 c i := fun c i l => f2 c i (by omega) (by omega) (by omega) (by omega)
    have w : ∀ c i, ¬ (c = 2 ∨ c = 3 ∨ c = 72 ∨ (c = 1 ∧ (i = 0 ∨ i = 1 ∨ i = 2 ∨ i = 3)) ∨ (c = 57 ∧ i = 0) ∨ (c = 77 ∧ (i = 0 ∨ i = 1)) ∨ c = 104 ∨ c = 105 ∨ c = 109 ∨ (c = 103 ∧ (i = 0 ∨ i = 1 ∨ i = 2 ∨ i = 5 ∨ i = 7 ∨ i = 8 ∨ i = 9))) → M2 c i = M c i := fun c i l => by rw [w2 c i (by omega), w1 c i (by omega)]
    obtain ⟨⟨y0, y1, y2, y4⟩, yP, yT, yR⟩ := Z.2 k
    have HI := hI.i
    have d99 := HI.2.1 k
    have H := hI.h
    refine ⟨by rw [er, er', w1 103 14 (by omega), w1 103 15 (by omega), y0, y1], J.mk (fun d i l => w1 d i (by omega)) (fun d i l => w2 d i (by omega)) (fun i => w1 75 i (by omega))
      ⟨(by unfold bDim; rw [a0, a1]; omega), by rw [a2]; exact HI.2.2.2.2, by have := hI.v; rw [a3]; omega, fun i i0 i1 => by rw [aP i i0 i1]; exact HI.2.2.1 i i0 i1, fun i i0 i1 => by rw [aT i i0 i1]; exact HI.2.2.2.1 i i0 i1, ⟨by rw [a77, a771]; decide, by rw [w1 77 2 (by omega)]; exact H.2.1, fun k i k0 k1 i0 i1 => by rw [w1 (79 + k) i (by omega)]; exact H.2.2 k i k0 k1 i0 i1⟩, hI.i' (fun c i k => w1 c i (by omega)), ⟨by rw [a57]; exact hI.r.2.1, by rw [w1 57 4 (by omega)]; exact hI.r.2.1, fun i i0 i1 => by rw [aR i i0 i1]; exact hI.r.2.2.2.1 i i0 i1, fun i i0 i1 => by rw [w1 73 i (by omega)]; exact hI.r.2.2.2.1 i i0 i1, fun i i0 i1 => by rw [w1 71 i (by omega)]; exact hI.r.2.2.2.2 i i0 i1⟩, hI.s' (fun c i k => w1 c i (by omega))⟩
      (J.2.1.up (w1 5 1 (by omega)) (w1 17 6 (by omega)) (w1 42 3 (by omega)) a3 (fun i i0 i1 => by rw [w1 4 i (by omega)]; exact J.2.1.1 i i0 i1))
      (fun m => ⟨(by have := m.i.1 (by rw [w1 103 13 (by omega)]; exact Z.1.1 k); unfold mDim; rw [b1, b2]; omega), by rw [b5]; exact m.i.2.2.2, fun i i0 i1 => by rw [bP i i0 i1]; exact m.i.2.1 i i0 i1, fun i i0 i1 => by rw [bT i i0 i1]; exact m.i.2.2.1 i i0 i1, ⟨by rw [b7, b8]; decide, fun i i0 i1 => by rw [b7] at i1; omega⟩, m.i' (fun c i k => w2 c i (by omega)), ⟨by rw [b9]; exact m.r.2.1, by rw [w2 103 19 (by omega)]; exact m.r.2.1, fun i i0 i1 => by rw [bR i i0 i1]; exact m.r.2.2.2.1 i i0 i1, fun i i0 i1 => by rw [w2 112 i (by omega)]; exact m.r.2.2.2.1 i i0 i1, fun i i0 i1 => by rw [w2 108 i (by omega)]; exact m.r.2.2.2.2 i i0 i1⟩, m.s' (fun c i k => w2 c i (by omega))⟩)
      ⟨⟨by rw [w2 1 0 (by omega), a0, b1, w1 103 14 (by omega), y0], by rw [w2 1 1 (by omega), a1, b2, w1 103 15 (by omega), y1], by rw [w2 1 2 (by omega), a2, b5, w1 103 18 (by omega), y2]⟩, (by
      rw [w2 1 0 (by omega), w2 1 1 (by omega), a0, a1]
      exact fun i d => by rw [w2 2 i (by omega), aP i d.1 (by omega), bP i d.1 (by omega), w1 110 i (by omega)]; exact yP i d), fun i i0 i1 => by rw [w2 3 i (by omega), aT i i0 i1, bT i i0 i1, w1 111 i (by omega)]; exact yT i i0 i1, ⟨by rw [w2 77 0 (by omega), w2 77 1 (by omega), a77, a771, b7, b8]; exact ⟨rfl, rfl⟩, fun k k0 k1 => by rw [b7] at k1; omega⟩, (by
      refine ⟨by rw [w2 57 0 (by omega), a57, w 57 4 (by omega), b9, w1 103 19 (by omega)]; exact ⟨y4, Int.le_refl _, hI.r.2.1.2⟩, fun q q0 q1 => by rw [w2 72 q (by omega), aR q q0 q1, bR q q0 q1, w1 112 q (by omega)]; exact yR q q0 q1, fun q q0 q1 => ?_⟩
      have := hI.r
      have := X.1
      rw [w2 57 0 (by omega), a57] at q1
      rw [w 71 q (by omega), w 108 q (by omega), show M2 107 = M 107 from funext fun i => w 107 i (by omega), show M2 (59 + q) = M (59 + q) from funext fun i => w (59 + q) i (by omega)]; exact X.2.2 q q0 (by omega)), R.i' (fun c i k => w c i (by omega)), R.s' (fun c i k => w c i (by omega))⟩
      (by rw [a3]; omega) (by rw [w1 99 3 (by omega)]; omega)⟩
end
