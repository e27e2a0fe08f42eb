abbrev zShf (M : zM) (d : Int) : Prop := (M (26 + 2 * d) 0 = M 134 d ∧ (M 134 d = 0 ∨ M 134 d = 1 ∨ M 134 d = 2)) ∧ (M 134 d = 2 → (M (26 + 2 * d) 1 = M 140 d ∧ M (26 + 2 * d) 2 = M 141 d) ∧ (∀ i, 0 ≤ i → i < 120 → M (26 + 2 * d + 1) i = M 142 (120 * d + i)) ∧ (M 140 d = 0 → ∀ i, 0 ≤ i → i < 120 → -128 ≤ M 142 (120 * d + i) ∧ M 142 (120 * d + i) ≤ 127)) ∧     (M 134 d = 1 → M (26 + 2 * d) 4 = M 135 d ∧ (0 ≤ M 135 d ∧ M 135 d ≤ 4) ∧ M (26 + 2 * d) 5 = M 136 d ∧ M (26 + 2 * d) 6 = M 137 d ∧ M (26 + 2 * d) 7 = M 138 d ∧ M (26 + 2 * d) 8 = M 139 d)
theorem zShf.t {M M' : zM} {d : Int} (H : zShf M d) (e : ∀ c i, (c = 26 + 2 * d ∨ c = 26 + 2 * d + 1 ∨ (134 ≤ c ∧ c ≤ 141 ∧ i = d) ∨ (c = 142 ∧ 120 * d ≤ i ∧ i < 120 * d + 120)) → M' c i = M c i) : zShf M' d := by
  unfold zShf
  rw [show M' (26 + 2 * d) = M (26 + 2 * d) from funext fun i => e _ i (by omega), show M' (26 + 2 * d + 1) = M (26 + 2 * d + 1) from funext fun i => e _ i (by omega), e 134 d (by omega), e 135 d (by omega), e 136 d (by omega), e 137 d (by omega), e 138 d (by omega), e 139 d (by omega), e 140 d (by omega), e 141 d (by omega)]
  refine ⟨H.1, fun k => ?_, H.2.2⟩
  have x := H.2.1 k
  exact ⟨x.1, fun i i0 i1 => by rw [e 142 _ (by omega)]; exact x.2.1 i i0 i1, fun q i i0 i1 => by rw [e 142 _ (by omega)]; exact x.2.2 q i i0 i1⟩
section
variable {v r r' : Int} {M M1 M2 : zM}
theorem zJn.rr (J : zJn v M) {d : Int} : qRr d (M (26 + 2 * d) 0) = qRr d (M 134 d) := by
  unfold qRr
  by_cases k : 0 ≤ d ∧ d < 8
  · rw [(J.2.2.2.2.1.2.2.2.2.2.2 d k.1 k.2).1.1]
  · rw [if_neg k, if_neg k]
theorem zq_tone {c x : Int} (hv : v < 999999998) (J : zJn v M) (h : po_X11_tone c x M r M1) (g : po_X12_tone c x M1 r' M2) : r = r' ∧ zJn (v + 1) M2 := by
  have hI := J.1
  have hM := J.2.2.2.1
  have R := J.2.2.2.2.1
  have v1 := J.2.2.2.2.2.1
  have v9 := J.2.2.2.2.2.2
  by_cases k : (0 ≤ c ∧ c ≤ 15) ∧ (0 ≤ x ∧ x ≤ 255)
  · obtain ⟨er, e1⟩ := h.1 k
    obtain ⟨er', e2⟩ := g.1 k
    have w1 : ∀ d i, ¬ (d = 3 ∧ i = c) → M1 d i = M d i := fun d i l => by rw [e1]; exact zset_n _ (by omega)
    have s1 : M1 3 c = x := by rw [e1]; exact zset_s _ _ _ _
    have w2 : ∀ d i, ¬ ((d = 105 ∧ i = c) ∨ (d = 103 ∧ i = 0)) → M2 d i = M1 d i := fun d i l => by rw [e2, zset_n _ (by omega), zset_n _ (by omega)]
    have s2 : M2 105 c = x := by rw [e2]; exact zset_s _ _ _ _
    have w : ∀ d i, ¬ ((d = 3 ∧ i = c) ∨ (d = 105 ∧ i = c) ∨ (d = 103 ∧ i = 0)) → M2 d i = M d i := fun d i l => by rw [w2 d i (by omega), w1 d i (by omega)]
    refine ⟨?_, J.mk (fun d i l => w1 d i (by omega)) (fun d i l => w2 d i (by omega)) (fun i => w1 75 i (by omega))
      ⟨hI.d' (fun c i k => w1 c i (by omega)), hI.t' (fun c i k => w1 c i (by omega)), hI.v' (fun c i k => w1 c i (by omega)), hI.c' (fun c i k => w1 c i (by omega)), fun i i0 i1 => (by
        by_cases q : i = c
        · rw [q, s1]; exact k.2
        · rw [w1 3 i (by omega)]; exact hI.tn i i0 i1), hI.h' (fun c i k => w1 c i (by omega)), hI.i' (fun c i k => w1 c i (by omega)), hI.r' (fun c i k => w1 c i (by omega)), hI.s' (fun c i k => w1 c i (by omega))⟩
      (J.2.1.fr (fun d i k => w1 d i (by omega)))
      (fun m => ⟨m.d' (fun c i k => w2 c i (by omega)), m.t' (fun c i k => w2 c i (by omega)), m.c' (fun c i k => w2 c i (by omega)), fun i i0 i1 => (by
        by_cases q : i = c
        · rw [q, s2]; exact k.2
        · rw [w2 105 i (by omega)]; exact m.tn i i0 i1), m.h' (fun c i k => w2 c i (by omega)), m.i' (fun c i k => w2 c i (by omega)), m.r' (fun c i k => w2 c i (by omega)), m.s' (fun c i k => w2 c i (by omega))⟩)
      ⟨R.d' (fun c i k => w c i (by omega)), R.p' (fun c i k => w c i (by omega)), fun i i0 i1 => (by
        by_cases q : i = c
        · rw [q, w2 3 c (by omega), s1, s2]
        · rw [w 3 i (by omega), w 105 i (by omega)]; exact R.2.2.1 i i0 i1), R.h' (fun c i k => w c i (by omega)), R.r' hI (fun c i k => w c i (by omega)), R.i' (fun c i k => w c i (by omega)), R.s' (fun c i k => w c i (by omega))⟩
      (by rw [w1 1 3 (by omega)]; omega) (by rw [w1 99 3 (by omega)]; omega)⟩
    rw [er, er', w1 105 c (by omega)]; exact R.2.2.1 c k.1.1 (by omega)
  · obtain ⟨er, e1⟩ := h.2 k
    obtain ⟨er', e2⟩ := g.2 k
    subst e1 e2
    exact ⟨by rw [er, er'], J.q bW.r J.2.1 (mW.z0 0)⟩
theorem zq_touch {t : Int} (hv : v < 999999998) (J : zJn v M) (h : po_X11_touch t M r M1) (g : po_X12_touch t M1 r' M2) : r = r' ∧ zJn (v + 1) M2 := by
  have hI := J.1
  have hM := J.2.2.2.1
  have R := J.2.2.2.2.1
  have v1 := J.2.2.2.2.2.1
  have v9 := J.2.2.2.2.2.2
  by_cases k : t = 0 ∨ t = 1
  · obtain ⟨er, s1, s3, e1⟩ := h.1 k
    obtain ⟨er', e2⟩ := g.1 k
    have w1 : ∀ d i, ¬ (d = 1 ∧ (i = 2 ∨ i = 3)) → M1 d i = M d i := e1
    have w2 : ∀ d i, ¬ (d = 103 ∧ (i = 0 ∨ i = 5)) → M2 d i = M1 d i := fun d i l => by rw [e2, zset_n _ (by omega), zset_n _ (by omega)]
    have s2 : M2 103 5 = t := by rw [e2]; exact zset_s _ _ _ _
    have w : ∀ d i, ¬ ((d = 1 ∧ (i = 2 ∨ i = 3)) ∨ (d = 103 ∧ (i = 0 ∨ i = 5))) → M2 d i = M d i := fun d i l => by rw [w2 d i (by omega), w1 d i (by omega)]
    refine ⟨?_, J.mk (fun d i l => w1 d i (by omega)) (fun d i l => w2 d i (by omega)) (fun i => w1 75 i (by omega))
      ⟨hI.d' (fun c i k => w1 c i (by omega)), by rw [s1]; exact k, by have := hI.v; rw [s3]; omega, hI.c' (fun c i k => w1 c i (by omega)), hI.tn' (fun c i k => w1 c i (by omega)), hI.h' (fun c i k => w1 c i (by omega)), hI.i' (fun c i k => w1 c i (by omega)), hI.r' (fun c i k => w1 c i (by omega)), hI.s' (fun c i k => w1 c i (by omega))⟩
      (J.2.1.up (w1 5 1 (by omega)) (w1 17 6 (by omega)) (w1 42 3 (by omega)) s3 (fun i i0 i1 => by rw [w1 4 i (by omega)]; exact J.2.1.1 i i0 i1))
      (fun m => ⟨m.d' (fun c i k => w2 c i (by omega)), by rw [s2]; exact k, m.c' (fun c i k => w2 c i (by omega)), m.tn' (fun c i k => w2 c i (by omega)), m.h' (fun c i k => w2 c i (by omega)), m.i' (fun c i k => w2 c i (by omega)), m.r' (fun c i k => w2 c i (by omega)), m.s' (fun c i k => w2 c i (by omega))⟩)
      ⟨⟨by rw [w 1 0 (by omega), w 103 1 (by omega)]; exact R.1.1, by rw [w 1 1 (by omega), w 103 2 (by omega)]; exact R.1.2.1, by rw [w2 1 2 (by omega), s1, s2]⟩, R.p' (fun c i k => w c i (by omega)), R.tn' (fun c i k => w c i (by omega)), R.h' (fun c i k => w c i (by omega)), R.r' hI (fun c i k => w c i (by omega)), R.i' (fun c i k => w c i (by omega)), R.s' (fun c i k => w c i (by omega))⟩
      (by rw [s3]; omega) (by rw [w1 99 3 (by omega)]; omega)⟩
    rw [er, er', w1 103 5 (by omega)]; exact R.1.2.2
  · obtain ⟨er, e1⟩ := h.2 k
    obtain ⟨er', e2⟩ := g.2 k
    subst e1 e2
    exact ⟨by rw [er, er'], J.q bW.r J.2.1 (mW.z0 0)⟩
theorem zq_tell {q x : Int} (hx : x = 0 ∨ x = 1) (J : zJn v M) (h : po_X11_tell q x M r M1) (g : po_X12_tell q x M1 r' M2) : r = r' ∧ zJn (v + 1) M2 := by
  have hI := J.1
  have hM := J.2.2.2.1
  have R := J.2.2.2.2.1
  have v1 := J.2.2.2.2.2.1
  have v9 := J.2.2.2.2.2.2
  have X := R.2.2.2.2.1
  have rg := hI.r.1
  by_cases k : 0 ≤ q ∧ q < M 57 0
  · obtain ⟨er, e1⟩ := h.2 k
    have w1 : ∀ d i, ¬ (d = 72 ∧ i = q) → M1 d i = M d i := fun d i l => by rw [e1]; exact zset_n _ (by omega)
    have s1 : M1 72 q = x := by rw [e1]; exact zset_s _ _ _ _
    obtain ⟨er', e2⟩ := g.2 (by rw [w1 103 9 (by omega), ← X.1.1]; exact k)
    have w2 : ∀ d i, ¬ ((d = 109 ∧ i = q) ∨ (d = 103 ∧ i = 0)) → M2 d i = M1 d i := fun d i l => by rw [e2, zset_n _ (by omega), zset_n _ (by omega)]
    have s2 : M2 109 q = x := by rw [e2]; exact zset_s _ _ _ _
    have w : ∀ d i, ¬ ((d = 72 ∧ i = q) ∨ (d = 109 ∧ i = q) ∨ (d = 103 ∧ i = 0)) → M2 d i = M d i := fun d i l => by rw [w2 d i (by omega), w1 d i (by omega)]
    refine ⟨?_, J.mk (fun d i l => w1 d i (by omega)) (fun d i l => w2 d i (by omega)) (fun i => w1 75 i (by omega))
      ⟨hI.d' (fun c i k => w1 c i (by omega)), hI.t' (fun c i k => w1 c i (by omega)), hI.v' (fun c i k => w1 c i (by omega)), hI.c' (fun c i k => w1 c i (by omega)), hI.tn' (fun c i k => w1 c i (by omega)), hI.h' (fun c i k => w1 c i (by omega)), hI.i' (fun c i k => w1 c i (by omega)), ⟨by rw [w1 57 0 (by omega)]; exact hI.r.1, by rw [w1 57 4 (by omega)]; exact hI.r.2.1, fun i i0 i1 => (by
        by_cases e : i = q
        · rw [e, s1]; exact hx
        · rw [w1 72 i (by omega)]; exact hI.r.2.2.1 i i0 i1), fun i i0 i1 => by rw [w1 73 i (by omega)]; exact hI.r.2.2.2.1 i i0 i1, fun i i0 i1 => by rw [w1 71 i (by omega)]; exact hI.r.2.2.2.2 i i0 i1⟩, hI.s' (fun c i k => w1 c i (by omega))⟩
      (J.2.1.fr (fun d i k => w1 d i (by omega)))
      (fun m => ⟨m.d' (fun c i k => w2 c i (by omega)), m.t' (fun c i k => w2 c i (by omega)), m.c' (fun c i k => w2 c i (by omega)), m.tn' (fun c i k => w2 c i (by omega)), m.h' (fun c i k => w2 c i (by omega)), m.i' (fun c i k => w2 c i (by omega)), ⟨by rw [w2 103 9 (by omega)]; exact m.r.1, by rw [w2 103 19 (by omega)]; exact m.r.2.1, fun i i0 i1 => (by
        by_cases e : i = q
        · rw [e, s2]; exact hx
        · rw [w2 109 i (by omega)]; exact m.r.2.2.1 i i0 i1), fun i i0 i1 => by rw [w2 112 i (by omega)]; exact m.r.2.2.2.1 i i0 i1, fun i i0 i1 => by rw [w2 108 i (by omega)]; exact m.r.2.2.2.2 i i0 i1⟩, m.s' (fun c i k => w2 c i (by omega))⟩)
      ⟨R.d' (fun c i k => w c i (by omega)), R.p' (fun c i k => w c i (by omega)), R.tn' (fun c i k => w c i (by omega)), R.h' (fun c i k => w c i (by omega)), ⟨by rw [w 57 0 (by omega), w 57 4 (by omega), w 103 9 (by omega)]; exact X.1, fun i i0 i1 => (by
        by_cases e : i = q
        · rw [e, w2 72 q (by omega), s1, s2]
        · rw [w 72 i (by omega), w 109 i (by omega)]; exact X.2.1 i i0 i1), fun i i0 i1 => (by
        rw [w 57 0 (by omega)] at i1
        rw [w 71 i (by omega), w 108 i (by omega), show M2 107 = M 107 from funext fun j => w 107 j (by omega), show M2 (59 + i) = M (59 + i) from funext fun j => w (59 + i) j (by omega)]; exact X.2.2 i i0 i1)⟩, R.i' (fun c i k => w c i (by omega)), R.s' (fun c i k => w c i (by omega))⟩
      (by rw [w1 1 3 (by omega)]; omega) (by rw [w1 99 3 (by omega)]; omega)⟩
    rw [er, er', w1 109 q (by omega), X.2.1 q k.1 (by omega)]
  · obtain ⟨er, e1⟩ := h.1 k
    subst e1
    obtain ⟨er', e2⟩ := g.1 (by rw [← X.1.1]; exact k)
    subst e2
    exact ⟨by rw [er, er'], J.q bW.r J.2.1 (mW.z0 0)⟩
theorem zq_row {d s n : Int} (J : zJn v M) (h : po_X11_row d s n M r M1) (g : po_X12_row d s n M1 r' M2) : r = r' ∧ zJn (v + 1) M2 := by
  have hI := J.1
  have hM := J.2.2.2.1
  have R := J.2.2.2.2.1
  have v1 := J.2.2.2.2.2.1
  have v9 := J.2.2.2.2.2.2
  by_cases k : (0 ≤ d ∧ d < 8) ∧ (0 ≤ s ∧ s ≤ 2) ∧ n ≤ 120
  · by_cases k2 : n < 0
    · obtain ⟨er, e1⟩ := h.2.1 k k2
      obtain ⟨er', e2⟩ := g.2.1 k k2
      subst e1 e2
      exact ⟨by rw [er, er'], J.q bW.r J.2.1 (mW.z0 0)⟩
    · obtain ⟨er, z1, z2, z3, z4, f1⟩ := h.2.2 k (by omega)
      obtain ⟨er', ⟨y2, y3, y4⟩, y1, f2⟩ := g.2.2 k (by omega)
      have w1 : ∀ c i, ¬ ((c = 26 + 2 * d ∧ 0 ≤ i ∧ i ≤ 2) ∨ c = 26 + 2 * d + 1) → M1 c i = M c i := fun c i l => f1 c i (by omega) (by omega)
      have w2 : ∀ c i, ¬ (((c = 134 ∨ c = 140 ∨ c = 141) ∧ i = d) ∨ (c = 142 ∧ 120 * d ≤ i ∧ i < 120 * d + 120) ∨ (c = 103 ∧ i = 0)) → M2 c i = M1 c i := fun c i l => f2 c i (by omega) (by omega) (by omega)
      have w : ∀ c i, ¬ ((c = 26 + 2 * d ∧ 0 ≤ i ∧ i ≤ 2) ∨ c = 26 + 2 * d + 1 ∨ ((c = 134 ∨ c = 140 ∨ c = 141) ∧ i = d) ∨ (c = 142 ∧ 120 * d ≤ i ∧ i < 120 * d + 120) ∨ (c = 103 ∧ i = 0)) → M2 c i = M c i := fun c i l => by rw [w2 c i (by omega), w1 c i (by omega)]
      refine ⟨by rw [er, er'], J.mk (fun d i l => w1 d i (by omega)) (fun d i l => w2 d i (by omega)) (fun i => w1 75 i (by omega))
        ⟨hI.d' (fun c i k => w1 c i (by omega)), hI.t' (fun c i k => w1 c i (by omega)), hI.v' (fun c i k => w1 c i (by omega)), hI.c' (fun c i k => w1 c i (by omega)), hI.tn' (fun c i k => w1 c i (by omega)), hI.h' (fun c i k => w1 c i (by omega)), hI.i' (fun c i k => w1 c i (by omega)), hI.r' (fun c i k => w1 c i (by omega)), fun d' d0 d1 => (by
        have S := hI.s d' d0 d1
        rw [w1 (26 + 2 * d') 5 (by omega), w1 (26 + 2 * d') 6 (by omega), w1 (26 + 2 * d') 7 (by omega), w1 (26 + 2 * d') 8 (by omega)]
        refine ⟨?_, S.2⟩
        by_cases e : d' = d
        · rw [e, z4]; omega
        · rw [w1 (26 + 2 * d') 2 (by omega)]; exact S.1)⟩
        (J.2.1.fr (fun d i k => w1 d i (by omega)))
        (fun m => ⟨m.d' (fun c i k => w2 c i (by omega)), m.t' (fun c i k => w2 c i (by omega)), m.c' (fun c i k => w2 c i (by omega)), m.tn' (fun c i k => w2 c i (by omega)), m.h' (fun c i k => w2 c i (by omega)), m.i' (fun c i k => w2 c i (by omega)), m.r' (fun c i k => w2 c i (by omega)), fun d' d0 d1 => (by
        have S := m.s d' d0 d1
        rw [w2 136 d' (by omega), w2 137 d' (by omega), w2 138 d' (by omega), w2 139 d' (by omega)]
        refine ⟨?_, S.2⟩
        by_cases e : d' = d
        · rw [e, y4]; omega
        · rw [w2 141 d' (by omega)]; exact S.1)⟩)
        ⟨R.d' (fun c i k => w c i (by omega)), R.p' (fun c i k => w c i (by omega)), R.tn' (fun c i k => w c i (by omega)), R.h' (fun c i k => w c i (by omega)), R.r' hI (fun c i k => w c i (by omega)), R.i' (fun c i k => w c i (by omega)), fun d' d0 d1 => (by
        by_cases e : d' = d
        · subst e
          refine ⟨?_, fun _ => ?_, fun q => ?_⟩
          · rw [w2 (26 + 2 * d') 0 (by omega), z2, y2]; exact ⟨rfl, .inr (.inr rfl)⟩
          · refine ⟨?_, fun i i0 i1 => ?_, fun _ i i0 i1 => ?_⟩
            · rw [w2 (26 + 2 * d') 1 (by omega), w2 (26 + 2 * d') 2 (by omega), z3, z4, y3, y4]; exact ⟨rfl, rfl⟩
            · rw [w2 (26 + 2 * d' + 1) i (by omega), z1 i i0 i1, y1 i i0 i1]
            · rw [y1 i i0 i1]; decide
          · rw [y2] at q; omega
        · exact zShf.t (R.2.2.2.2.2.2 d' d0 d1) (fun c i l => w c i (by omega)))⟩
        (by rw [w1 1 3 (by omega)]; omega) (by rw [w1 99 3 (by omega)]; omega)⟩
  · obtain ⟨er, e1⟩ := h.1 k
    obtain ⟨er', e2⟩ := g.1 k
    subst e1 e2
    exact ⟨by rw [er, er'], J.q bW.r J.2.1 (mW.z0 0)⟩
theorem zq_put {d i x : Int} (J : zJn v M) (h : po_X11_put d i x M r M1) (g : po_X12_put d i x M1 r' M2) : r = r' ∧ zJn (v + 1) M2 := by
  have hI := J.1
  have hM := J.2.2.2.1
  have R := J.2.2.2.2.1
  have v1 := J.2.2.2.2.2.1
  have v9 := J.2.2.2.2.2.2
  by_cases k : (0 ≤ d ∧ d < 8) ∧ M (26 + 2 * d) 0 = 2
  · have S := R.2.2.2.2.2.2 d k.1.1 k.1.2
    have e2 : M 134 d = 2 := by rw [← S.1.1]; exact k.2
    obtain ⟨⟨S1, S2⟩, S3, S4⟩ := S.2.1 e2
    have B := hI.s d k.1.1 k.1.2
    by_cases k2 : 0 ≤ i ∧ i < M (26 + 2 * d) 2
    · obtain ⟨er, e1⟩ := h.2.2 k k2
      have w1 : ∀ c j, ¬ (c = 26 + 2 * d + 1 ∧ j = i) → M1 c j = M c j := fun c j l => by rw [e1]; exact zset_n _ (by omega)
      obtain ⟨er', e3⟩ := g.2.2 ⟨k.1, by rw [w1 134 d (by omega)]; exact e2⟩ (by rw [w1 141 d (by omega), ← S2]; exact k2)
      rw [w1 140 d (by omega), ← S1] at e3
      have w2 : ∀ c j, ¬ ((c = 142 ∧ j = 120 * d + i) ∨ (c = 103 ∧ j = 0)) → M2 c j = M1 c j := fun c j l => by rw [e3, zset_n _ (by omega), zset_n _ (by omega)]
      have w : ∀ c j, ¬ ((c = 26 + 2 * d + 1 ∧ j = i) ∨ (c = 142 ∧ j = 120 * d + i) ∨ (c = 103 ∧ j = 0)) → M2 c j = M c j := fun c j l => by rw [w2 c j (by omega), w1 c j (by omega)]
      refine ⟨by rw [er, er'], J.mk (fun d i l => w1 d i (by omega)) (fun d i l => w2 d i (by omega)) (fun i => w1 75 i (by omega))
        ⟨hI.d' (fun c i k => w1 c i (by omega)), hI.t' (fun c i k => w1 c i (by omega)), hI.v' (fun c i k => w1 c i (by omega)), hI.c' (fun c i k => w1 c i (by omega)), hI.tn' (fun c i k => w1 c i (by omega)), hI.h' (fun c i k => w1 c i (by omega)), hI.i' (fun c i k => w1 c i (by omega)), hI.r' (fun c i k => w1 c i (by omega)), fun d' d0 d1 => (by
        have S := hI.s d' d0 d1
        rw [w1 (26 + 2 * d') 2 (by omega), w1 (26 + 2 * d') 5 (by omega), w1 (26 + 2 * d') 6 (by omega), w1 (26 + 2 * d') 7 (by omega), w1 (26 + 2 * d') 8 (by omega)]
        exact S)⟩
        (J.2.1.fr (fun d i k => w1 d i (by omega)))
        (fun m => ⟨m.d' (fun c i k => w2 c i (by omega)), m.t' (fun c i k => w2 c i (by omega)), m.c' (fun c i k => w2 c i (by omega)), m.tn' (fun c i k => w2 c i (by omega)), m.h' (fun c i k => w2 c i (by omega)), m.i' (fun c i k => w2 c i (by omega)), m.r' (fun c i k => w2 c i (by omega)), m.s' (fun c i k => w2 c i (by omega))⟩)
        ⟨R.d' (fun c i k => w c i (by omega)), R.p' (fun c i k => w c i (by omega)), R.tn' (fun c i k => w c i (by omega)), R.h' (fun c i k => w c i (by omega)), R.r' hI (fun c i k => w c i (by omega)), R.i' (fun c i k => w c i (by omega)), fun d' d0 d1 => (by
        by_cases e : d' = d
        · subst e
          refine ⟨?_, fun _ => ?_, fun q => ?_⟩
          · rw [w (26 + 2 * d') 0 (by omega), w 134 d' (by omega)]; exact S.1
          · refine ⟨?_, fun j j0 j1 => ?_, fun q j j0 j1 => ?_⟩
            · rw [w (26 + 2 * d') 1 (by omega), w (26 + 2 * d') 2 (by omega), w 140 d' (by omega), w 141 d' (by omega)]; exact ⟨S1, S2⟩
            · by_cases f : j = i
              · rw [f, w2 (26 + 2 * d' + 1) i (by omega), e1, zset_s, e3, zset_s]
              · rw [w (26 + 2 * d' + 1) j (by omega), w 142 (120 * d' + j) (by omega)]; exact S3 j j0 j1
            · rw [w 140 d' (by omega)] at q
              by_cases f : j = i
              · rw [f, e3, zset_s, if_pos (by rw [S1]; exact q)]
                have := @Int.le_bmod x 256 (by decide)
                have := @Int.bmod_lt x 256 (by decide)
                omega
              · rw [w 142 (120 * d' + j) (by omega)]; exact S4 q j j0 j1
          · rw [w 134 d' (by omega)] at q; omega
        · exact zShf.t (R.2.2.2.2.2.2 d' d0 d1) (fun c i l => w c i (by omega)))⟩
        (by rw [w1 1 3 (by omega)]; omega) (by rw [w1 99 3 (by omega)]; omega)⟩
    · obtain ⟨er, e1⟩ := h.2.1 k k2
      subst e1
      obtain ⟨er', e3⟩ := g.2.1 ⟨k.1, e2⟩ (by rw [← S2]; exact k2)
      subst e3
      exact ⟨by rw [er, er'], J.q bW.r J.2.1 (mW.z0 0)⟩
  · obtain ⟨er, e1⟩ := h.1 k
    subst e1
    obtain ⟨er', e3⟩ := g.1 (fun q => k ⟨q.1, by rw [(R.2.2.2.2.2.2 d q.1.1 q.1.2).1.1]; exact q.2⟩)
    subst e3
    exact ⟨by rw [er, er']; exact J.rr, J.q bW.r J.2.1 (mW.z0 0)⟩
theorem zq_copy {d i e j n : Int} (J : zJn v M) (h : po_X11_copy d i e j n M r M1) (g : po_X12_copy d i e j n M1 r' M2) : r = r' ∧ zJn (v + 1) M2 := by
  have hI := J.1
  have hM := J.2.2.2.1
  have R := J.2.2.2.2.1
  have v1 := J.2.2.2.2.2.1
  have v9 := J.2.2.2.2.2.2
  have T : ∀ a, 0 ≤ a → a < 8 → zShf M a := R.2.2.2.2.2.2
  have co : (((0 ≤ d ∧ d < 8) ∧ (0 ≤ e ∧ e < 8)) ∧ (M (26 + 2 * d) 0 = 2 ∧ M (26 + 2 * e) 0 = 2 ∧ M (26 + 2 * d) 1 = M (26 + 2 * e) 1) ∧ 0 ≤ n ∧ (0 ≤ i ∧ i + n ≤ M (26 + 2 * d) 2) ∧ (0 ≤ j ∧ j + n ≤ M (26 + 2 * e) 2)) ↔ (((0 ≤ d ∧ d < 8) ∧ (0 ≤ e ∧ e < 8)) ∧ (M 134 d = 2 ∧ M 134 e = 2 ∧ M 140 d = M 140 e) ∧ 0 ≤ n ∧ (0 ≤ i ∧ i + n ≤ M 141 d) ∧ (0 ≤ j ∧ j + n ≤ M 141 e)) := by
    constructor
    · rintro ⟨p, ⟨a, b, c⟩, q⟩
      have Td := T d p.1.1 p.1.2
      have Te := T e p.2.1 p.2.2
      have a' : M 134 d = 2 := by rw [← Td.1.1]; exact a
      have b' : M 134 e = 2 := by rw [← Te.1.1]; exact b
      have Ud := (Td.2.1 a').1
      have Ue := (Te.2.1 b').1
      rw [Ud.1, Ue.1] at c
      rw [Ud.2, Ue.2] at q
      exact ⟨p, ⟨a', b', c⟩, q⟩
    · rintro ⟨p, ⟨a', b', c⟩, q⟩
      have Td := T d p.1.1 p.1.2
      have Te := T e p.2.1 p.2.2
      have Ud := (Td.2.1 a').1
      have Ue := (Te.2.1 b').1
      rw [← Ud.1, ← Ue.1] at c
      rw [← Ud.2, ← Ue.2] at q
      exact ⟨p, ⟨by rw [Td.1.1]; exact a', by rw [Te.1.1]; exact b', c⟩, q⟩
  by_cases k : ((0 ≤ d ∧ d < 8) ∧ (0 ≤ e ∧ e < 8)) ∧ (M (26 + 2 * d) 0 = 2 ∧ M (26 + 2 * e) 0 = 2 ∧ M (26 + 2 * d) 1 = M (26 + 2 * e) 1) ∧ 0 ≤ n ∧ (0 ≤ i ∧ i + n ≤ M (26 + 2 * d) 2) ∧ (0 ≤ j ∧ j + n ≤ M (26 + 2 * e) 2)
  · obtain ⟨er, e1⟩ := h.2 k
    have k' := co.1 k
    have w1 : ∀ c q, ¬ (c = 26 + 2 * e + 1) → M1 c q = M c q := fun c q l => by rw [e1]; exact zcpy_n _ (by omega)
    obtain ⟨er', e3, f2⟩ := g.2 (by rw [w1 134 d (by omega), w1 134 e (by omega), w1 140 d (by omega), w1 140 e (by omega), w1 141 d (by omega), w1 141 e (by omega)]; exact k')
    have w2 : ∀ c q, ¬ ((c = 142 ∧ 120 * e + j ≤ q ∧ q < 120 * e + j + n) ∨ mWk c q) → M2 c q = M1 c q := fun c q l => f2 c q (by omega) (by omega)
    have w : ∀ c q, ¬ (c = 26 + 2 * e + 1 ∨ (c = 142 ∧ 120 * e + j ≤ q ∧ q < 120 * e + j + n) ∨ mWk c q) → M2 c q = M c q := fun c q l => by rw [w2 c q (by omega), w1 c q (by omega)]
    have Bd := hI.s d k.1.1.1 k.1.1.2
    have Be := hI.s e k.1.2.1 k.1.2.2
    have Td := T d k.1.1.1 k.1.1.2
    have Te := T e k.1.2.1 k.1.2.2
    refine ⟨by rw [er, er'], J.mk (fun d i l => w1 d i (by omega)) (fun d i l => w2 d i (by omega)) (fun i => w1 75 i (by omega))
      ⟨hI.d' (fun c i k => w1 c i (by omega)), hI.t' (fun c i k => w1 c i (by omega)), hI.v' (fun c i k => w1 c i (by omega)), hI.c' (fun c i k => w1 c i (by omega)), hI.tn' (fun c i k => w1 c i (by omega)), hI.h' (fun c i k => w1 c i (by omega)), hI.i' (fun c i k => w1 c i (by omega)), hI.r' (fun c i k => w1 c i (by omega)), fun d' d0 d1 => (by
        have S := hI.s d' d0 d1
        rw [w1 (26 + 2 * d') 2 (by omega), w1 (26 + 2 * d') 5 (by omega), w1 (26 + 2 * d') 6 (by omega), w1 (26 + 2 * d') 7 (by omega), w1 (26 + 2 * d') 8 (by omega)]
        exact S)⟩
      (J.2.1.fr (fun d i k => w1 d i (by omega)))
      (fun m => ⟨m.d' (fun c i k => w2 c i (by omega)), m.t' (fun c i k => w2 c i (by omega)), m.c' (fun c i k => w2 c i (by omega)), m.tn' (fun c i k => w2 c i (by omega)), m.h' (fun c i k => w2 c i (by omega)), m.i' (fun c i k => w2 c i (by omega)), m.r' (fun c i k => w2 c i (by omega)), m.s' (fun c i k => w2 c i (by omega))⟩)
      ⟨R.d' (fun c i k => w c i (by omega)), R.p' (fun c i k => w c i (by omega)), R.tn' (fun c i k => w c i (by omega)), R.h' (fun c i k => w c i (by omega)), R.r' hI (fun c i k => w c i (by omega)), R.i' (fun c i k => w c i (by omega)), fun d' d0 d1 => (by
        by_cases ed : d' = e
        · subst ed
          refine ⟨?_, fun _ => ?_, fun q => ?_⟩
          · rw [w (26 + 2 * d') 0 (by omega), w 134 d' (by omega)]; exact Te.1
          · have Ue := Te.2.1 k'.2.1.2.1
            have Ud := Td.2.1 k'.2.1.1
            refine ⟨?_, fun q q0 q1 => ?_, fun z q q0 q1 => ?_⟩
            · rw [w (26 + 2 * d') 1 (by omega), w (26 + 2 * d') 2 (by omega), w 140 d' (by omega), w 141 d' (by omega)]; exact Ue.1
            · by_cases f : j ≤ q ∧ q < j + n
              · rw [w2 (26 + 2 * d' + 1) q (by omega), e1, zcpy_s _ (by omega), show 120 * d' + q = 120 * d' + j + (q - j) by omega, e3 (q - j) (by omega) (by omega), w1 142 _ (by omega), show 120 * d + i + (q - j) = 120 * d + (i + (q - j)) by omega]
                exact Ud.2.1 _ (by omega) (by omega)
              · rw [w2 (26 + 2 * d' + 1) q (by omega), e1, zcpy_n _ (by omega), w 142 (120 * d' + q) (by omega)]; exact Ue.2.1 q q0 q1
            · rw [w 140 d' (by omega)] at z
              by_cases f : j ≤ q ∧ q < j + n
              · rw [show 120 * d' + q = 120 * d' + j + (q - j) by omega, e3 (q - j) (by omega) (by omega), w1 142 _ (by omega), show 120 * d + i + (q - j) = 120 * d + (i + (q - j)) by omega]
                exact Ud.2.2 (by omega) _ (by omega) (by omega)
              · rw [w 142 (120 * d' + q) (by omega)]; exact Ue.2.2 z q q0 q1
          · rw [w 134 d' (by omega)] at q; omega
        · exact zShf.t (T d' d0 d1) (fun c i l => w c i (by omega)))⟩
      (by rw [w1 1 3 (by omega)]; omega) (by rw [w1 99 3 (by omega)]; omega)⟩
  · obtain ⟨er, e1⟩ := h.1 k
    subst e1
    obtain ⟨er', w2⟩ := g.1 (fun q => k (co.2 q))
    refine ⟨?_, J.q bW.r J.2.1 w2⟩
    rw [er, er']
    unfold qCc
    by_cases p : (0 ≤ d ∧ d < 8) ∧ (0 ≤ e ∧ e < 8)
    · rw [if_pos p, if_pos p]
      have Td := T d p.1.1 p.1.2
      have Te := T e p.2.1 p.2.2
      rw [Td.1.1, Te.1.1]
      by_cases x : M1 134 d = 2
      · by_cases y : M1 134 e = 2
        · rw [(Td.2.1 x).1.1, (Te.2.1 y).1.1]
        · rw [if_neg (c := M1 134 d = 2 ∧ M1 134 e = 2 ∧ M1 (26 + 2 * d) 1 = M1 (26 + 2 * e) 1) (fun z => y z.2.1), if_neg (c := M1 134 d = 2 ∧ M1 134 e = 2 ∧ M1 140 d = M1 140 e) (fun z => y z.2.1)]
      · rw [if_neg (c := M1 134 d = 2 ∧ M1 134 e = 2 ∧ M1 (26 + 2 * d) 1 = M1 (26 + 2 * e) 1) (fun z => x z.1), if_neg (c := M1 134 d = 2 ∧ M1 134 e = 2 ∧ M1 140 d = M1 140 e) (fun z => x z.1)]
    · rw [if_neg p, if_neg p]
end
