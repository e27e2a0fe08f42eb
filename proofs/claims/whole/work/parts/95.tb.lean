theorem zJn.L {v : Int} {M M1 M2 : zM} (J : zJn v M) (w : bW M M1) (Q : bQ M1) (g : mW M1 M2) (F : mFok M2) : zJn (v + 1) M2 ∧ zL M2 ∧ bVe M1 M2 ∧ (M2 1 0 = M2 103 1 ∧ M2 1 1 = M2 103 2 ∧ M2 1 2 = M2 103 5) ∧ bDim M2 ∧ (∀ i, gD (M2 1 0) (M2 1 1) i → M2 2 i = M2 104 i) := by
  have J2 := J.q w Q.1 g
  exact ⟨J2, zL.of J2.1 J2.2.2.2.2.1 (Q.m g).ok F, bVe.of (fun c i k => g c i (by omega)), J2.2.2.2.2.1.1, J2.1.d, J2.2.2.2.2.1.2.1⟩
theorem zL.D {M : zM} (h : zL M) (hd : bDim M) : ∀ i, gD (M 1 0) (M 1 1) i → M 12 i = M 115 i := fun i d => h.2.1 i d.1 (by omega)
theorem zL.G {M : zM} (h : zL M) (r : M 1 0 = M 103 1 ∧ M 1 1 = M 103 2 ∧ M 1 2 = M 103 5) : zg (M 1 0) (M 1 1) (M 12) = zg (M 1 0) (M 1 1) (M 115) := by
  have := h.2.2.2.1
  rw [← r.1, ← r.2.1] at this; exact this
section
variable {v r r' : Int} {M M1 M2 : zM}
theorem zq_face {f k : Int} (J : zJn v M) (h : po_X11_face f k M r M1) (g : po_X12_face f k M1 r' M2) : r = r' ∧ zJn (v + 1) M2 := by
  obtain ⟨w, Q, a⟩ := h
  obtain ⟨w', F, b⟩ := g
  obtain ⟨J2, L, ⟨v0, v1, v2, v3, v4, v5, v6⟩, R, d, eD⟩ := J.L w Q w' F
  refine ⟨?_, J2⟩
  rw [← v0, ← v1, ← v2, ← v3, ← v4, ← v5, ← v6] at a
  rw [← R.1, ← R.2.1, ← R.2.2, ← L.1] at b
  refine a.eq b Iff.rfl (fun p x y => ?_)
  exact qFa.uq x ((qFa_cg (by omega) (L.G R) (L.D d) L.2.1 eD L.2.2.1 (L.2.2.2.2 f p.1.1 p.1.2) p.1).2 y)
theorem zq_pair {a b k : Int} (J : zJn v M) (h : po_X11_pair a b k M r M1) (g : po_X12_pair a b k M1 r' M2) : r = r' ∧ zJn (v + 1) M2 := by
  obtain ⟨w, Q, x⟩ := h
  obtain ⟨w', F, y⟩ := g
  obtain ⟨J2, L, ⟨v0, v1, v2, v3, v4, v5, v6⟩, R, d, eD⟩ := J.L w Q w' F
  refine ⟨?_, J2⟩
  rw [← v0, ← v1, ← v2, ← v4, ← v5, ← v6] at x
  rw [← R.1, ← R.2.1, ← R.2.2, ← L.1] at y
  refine x.eq y Iff.rfl (fun p s t => s.eq t ?_)
  by_cases k0 : k = 0
  · rw [if_pos k0, if_pos k0]; exact gNB_cg (L.G R) (L.D d)
  · rw [if_neg k0, if_neg k0]; exact gLies_cg (L.G R) (L.D d) (L.2.2.1 a p.1.1 p.1.2)
theorem zq_faceOf {a : Int} (J : zJn v M) (h : po_X11_faceOf a M r M1) (g : po_X12_faceOf a M1 r' M2) : r = r' ∧ zJn (v + 1) M2 := by
  obtain ⟨hn, hy⟩ := h
  obtain ⟨w', F, b⟩ := g
  by_cases c : gD (M 1 0) (M 1 1) a
  · obtain ⟨w, Q, x⟩ := hy c
    obtain ⟨J2, L, ⟨v0, v1, v2, v3, v4, v5, v6⟩, R, d, eD⟩ := J.L w Q w' F
    refine ⟨?_, J2⟩
    have e0 := w 1 0 (by omega)
    have e1 := w 1 1 (by omega)
    have R' := J.2.2.2.2.1.1
    have f1 := w 103 1 (by omega)
    have f2 := w 103 2 (by omega)
    have D := J.1.d
    rw [if_pos (by rw [f1, f2, ← R'.1, ← R'.2.1]; exact c)] at b
    rw [x, b, ← v4]
    exact L.2.1 a c.1 (by omega)
  · obtain ⟨x, e⟩ := hn c
    subst e
    have R' := J.2.2.2.2.1.1
    rw [if_neg (by rw [← R'.1, ← R'.2.1]; exact c)] at b
    exact ⟨by rw [x, b], J.q bW.r J.2.1 w'⟩
theorem zq_step {f i k : Int} (J : zJn v M) (h : po_X11_step f i k M r M1) (g : po_X12_step f i k M1 r' M2) : r = r' ∧ zJn (v + 1) M2 := by
  obtain ⟨w, Q, x⟩ := h
  obtain ⟨w', F, y⟩ := g
  obtain ⟨J2, L, ⟨v0, v1, v2, v3, v4, v5, v6⟩, R, d, eD⟩ := J.L w Q w' F
  refine ⟨?_, J2⟩
  rw [← v0, ← v1, ← v2, ← v4, ← v5, ← v6] at x
  rw [← L.2.2.2.1, ← R.2.2, ← L.1] at y
  refine x.eq y Iff.rfl (fun p s t => ?_)
  rw [← L.2.2.1 f p.1.1 p.1.2] at t
  exact s.uq t
theorem zq_corners {f k : Int} (J : zJn v M) (h : po_X11_corners f k M r M1) (g : po_X12_corners f k M1 r' M2) : r = r' ∧ zJn (v + 1) M2 := by
  obtain ⟨w, Q, x⟩ := h
  obtain ⟨w', F, y⟩ := g
  obtain ⟨J2, L, ⟨v0, v1, v2, v3, v4, v5, v6⟩, R, d, eD⟩ := J.L w Q w' F
  refine ⟨?_, J2⟩
  rw [← v0, ← v1, ← v2, ← v4, ← v5, ← v6] at x
  rw [← L.2.2.2.1, ← R.2.2, ← L.1] at y
  refine x.eq y Iff.rfl (fun p s t => ?_)
  rw [← L.2.2.1 f p.1.1 p.1.2] at t
  exact s.uq t
theorem zq_cornered {f k i : Int} (J : zJn v M) (h : po_X11_cornered f k i M r M1) (g : po_X12_cornered f k i M1 r' M2) : r = r' ∧ zJn (v + 1) M2 := by
  obtain ⟨w, Q, x⟩ := h
  obtain ⟨w', F, y⟩ := g
  obtain ⟨J2, L, ⟨v0, v1, v2, v3, v4, v5, v6⟩, R, d, eD⟩ := J.L w Q w' F
  refine ⟨?_, J2⟩
  rw [← v0, ← v1, ← v2, ← v4, ← v5, ← v6] at x
  rw [← L.2.2.2.1, ← R.2.2, ← L.1] at y
  refine x.eq y Iff.rfl (fun p s t => ?_)
  rw [← L.2.2.1 f p.1.1 p.1.2] at t
  exact s.uq t
theorem zq_inBand {f i j k : Int} (J : zJn v M) (h : po_X11_inBand f i j k M r M1) (g : po_X12_inBand f i j k M1 r' M2) : r = r' ∧ zJn (v + 1) M2 := by
  obtain ⟨w, Q, x⟩ := h
  obtain ⟨w', F, y⟩ := g
  obtain ⟨J2, L, ⟨v0, v1, v2, v3, v4, v5, v6⟩, R, d, eD⟩ := J.L w Q w' F
  refine ⟨?_, J2⟩
  rw [← v0, ← v1, ← v2, ← v4, ← v5, ← v6] at x
  rw [← L.2.2.2.1, ← R.2.2, ← L.1] at y
  refine x.eq y Iff.rfl (fun p s t => ?_)
  rw [← L.2.2.1 f p.1.1 p.1.2] at t
  exact s.uq t
theorem zq_fewest {f m i : Int} (J : zJn v M) (h : po_X11_fewest f m i M r M1) (g : po_X12_fewest f m i M1 r' M2) : r = r' ∧ zJn (v + 1) M2 := by
  obtain ⟨w, Q, x⟩ := h
  obtain ⟨w', F, y⟩ := g
  obtain ⟨J2, L, ⟨v0, v1, v2, v3, v4, v5, v6⟩, R, d, eD⟩ := J.L w Q w' F
  refine ⟨?_, J2⟩
  rw [← v0, ← v1, ← v2, ← v4, ← v5, ← v6] at x
  rw [← L.2.2.2.1, ← R.2.2, ← L.1] at y
  refine x.eq y Iff.rfl (fun p s t => ?_)
  rw [← L.2.2.1 f p.1.1 p.1.2] at t
  exact s.uq t
theorem zq_drawn {f m a : Int} (J : zJn v M) (h : po_X11_drawn f m a M r M1) (g : po_X12_drawn f m a M1 r' M2) : r = r' ∧ zJn (v + 1) M2 := by
  obtain ⟨w, Q, x⟩ := h
  obtain ⟨w', F, y⟩ := g
  obtain ⟨J2, L, ⟨v0, v1, v2, v3, v4, v5, v6⟩, R, d, eD⟩ := J.L w Q w' F
  refine ⟨?_, J2⟩
  rw [← v0, ← v1, ← v2, ← v4, ← v5, ← v6] at x
  rw [← L.2.2.2.1, ← R.2.2, ← L.1, ← R.1, ← R.2.1] at y
  refine x.eq y Iff.rfl (fun p s t => ?_)
  rw [← L.2.2.1 f p.1.1 p.1.2] at t
  exact s.uq t
theorem zq_differ {f m : Int} (J : zJn v M) (h : po_X11_differ f m M r M1) (g : po_X12_differ f m M1 r' M2) : r = r' ∧ zJn (v + 1) M2 := by
  obtain ⟨w, Q, x⟩ := h
  obtain ⟨w', F, y⟩ := g
  obtain ⟨J2, L, ⟨v0, v1, v2, v3, v4, v5, v6⟩, R, d, eD⟩ := J.L w Q w' F
  refine ⟨?_, J2⟩
  rw [← v0, ← v1, ← v2, ← v4, ← v5, ← v6] at x
  rw [← R.2.2, ← L.1, ← R.1, ← R.2.1] at y
  refine x.eq y Iff.rfl (fun p s t => ?_)
  have t2 : qDif (M2 1 0) (M2 1 1) (M2 1 2) (M2 12) (M2 7) f m r' := by
    obtain ⟨n, P, b, X, Y, Q, K, c1, c2, c3⟩ := t
    rw [← L.G R, ← L.2.2.1 f p.1.1 p.1.2] at c1
    refine ⟨n, P, b, X, Y, Q, K, c1, (gHo_cg (L.G R)).2 c2, c3.trans (zc_c 192 (by decide) (fun i i0 i1 => ?_))⟩
    rw [L.2.1 i i0 i1]
  exact s.uq (by omega) t2
theorem zq_breadth {a k : Int} (J : zJn v M) (h : po_X11_breadth a k M r M1) (g : po_X12_breadth a k M1 r' M2) : r = r' ∧ zJn (v + 1) M2 := by
  obtain ⟨hn, hy⟩ := h
  obtain ⟨gn, gy⟩ := g
  have R' := J.2.2.2.2.1.1
  by_cases c : gD (M 1 0) (M 1 1) a ∧ 0 ≤ k ∧ k ≤ 1
  · obtain ⟨w, Q, x⟩ := hy c
    have f1 := w 103 1 (by omega)
    have f2 := w 103 2 (by omega)
    obtain ⟨w', F, y⟩ := gy (by rw [f1, f2, ← R'.1, ← R'.2.1]; exact c)
    obtain ⟨J2, L, ⟨v0, v1, v2, v3, v4, v5, v6⟩, R, d, eD⟩ := J.L w Q w' F
    refine ⟨?_, J2⟩
    have D := J.1.d
    rw [← v0, ← v1, ← v4] at x
    rw [← L.2.2.2.1, ← L.2.1 a c.1.1 (by omega)] at y
    by_cases k0 : k = 0
    · rw [if_pos k0] at x y; exact x.uq y
    · rw [if_neg k0] at x y; exact x.eq y Iff.rfl
  · obtain ⟨x, e⟩ := hn c
    subst e
    obtain ⟨y, w'⟩ := gn (by rw [← R'.1, ← R'.2.1]; exact c)
    exact ⟨by rw [x, y], J.q bW.r J.2.1 w'⟩
theorem zq_stroke {f n : Int} (J : zJn v M) (h : po_X11_stroke f n M r M1) (g : po_X12_stroke f n M1 r' M2) : r = r' ∧ zJn (v + 1) M2 := by
  obtain ⟨w, Q, x⟩ := h
  obtain ⟨w', F, y⟩ := g
  obtain ⟨J2, L, ⟨v0, v1, v2, v3, v4, v5, v6⟩, R, d, eD⟩ := J.L w Q w' F
  refine ⟨?_, J2⟩
  rw [← v0, ← v1, ← v4, ← v6] at x
  rw [← L.1, ← R.1, ← R.2.1] at y
  refine x.eq y Iff.rfl (fun p s t => ?_)
  have t2 : qStk (M2 1 0) (M2 1 1) (M2 12) f n r' := by
    obtain ⟨g, l, rr, u, b, c1, c2, c3⟩ := t
    exact ⟨g, l, rr, u, b, by rw [L.G R]; exact c1, (gBox_cg (L.D d)).2 c2, c3⟩
  exact s.uq t2
theorem zq_like {a b : Int} (J : zJn v M) (h : po_X11_like a b M r M1) (g : po_X12_like a b M1 r' M2) : r = r' ∧ zJn (v + 1) M2 := by
  obtain ⟨w, Q, x⟩ := h
  obtain ⟨w', F, y⟩ := g
  obtain ⟨J2, L, ⟨v0, v1, v2, v3, v4, v5, v6⟩, R, d, eD⟩ := J.L w Q w' F
  refine ⟨?_, J2⟩
  rw [← v0, ← v1, ← v4, ← v6] at x
  rw [← L.1, ← R.1, ← R.2.1] at y
  exact x.eq y Iff.rfl (fun p s t => s.eq t (gLk_cg (L.G R) (L.D d) L.2.1))
theorem zq_butFor {a b : Int} (J : zJn v M) (h : po_X11_butFor a b M r M1) (g : po_X12_butFor a b M1 r' M2) : r = r' ∧ zJn (v + 1) M2 := by
  obtain ⟨w, Q, x⟩ := h
  obtain ⟨w', F, y⟩ := g
  obtain ⟨J2, L, ⟨v0, v1, v2, v3, v4, v5, v6⟩, R, d, eD⟩ := J.L w Q w' F
  refine ⟨?_, J2⟩
  rw [← v0, ← v1, ← v4, ← v6] at x
  rw [← L.1, ← R.1, ← R.2.1] at y
  refine x.eq y Iff.rfl (fun p s t => ?_)
  have t2 : qBut (M2 1 0) (M2 1 1) (M2 12) a b r' := by
    obtain ⟨la, ra, ua, ba, lb, rb, ub, bb, c1, c2, c3⟩ := t
    exact ⟨la, ra, ua, ba, lb, rb, ub, bb, (gBox_cg (L.D d)).2 c1, (gBox_cg (L.D d)).2 c2, by rw [L.G R]; exact c3⟩
  exact s.uq t2
theorem zq_leader {f : Int} (J : zJn v M) (h : po_X11_leader f M r M1) (g : po_X12_leader f M1 r' M2) : r = r' ∧ zJn (v + 1) M2 := by
  obtain ⟨w, Q, x⟩ := h
  obtain ⟨w', F, y⟩ := g
  obtain ⟨J2, L, ⟨v0, v1, v2, v3, v4, v5, v6⟩, R, d, eD⟩ := J.L w Q w' F
  refine ⟨?_, J2⟩
  rw [← v0, ← v1, ← v4, ← v6] at x
  rw [← L.1, ← R.1, ← R.2.1] at y
  exact x.eq y Iff.rfl (fun p s t => s.uq ((gLd_cg (L.G R) (L.D d) L.2.1).2 t))
end
theorem gNb_t {T T' : Int → Int} {set c : Int} (e : ∀ c, 0 ≤ c → c < 16 → T c = T' c) (c0 : 0 ≤ c) (c1 : c < 16) : ∀ k : Nat, k ≤ 16 → gNb T set c k = gNb T' set c k
  | 0, _ => rfl
  | k + 1, h => by
    have ih := gNb_t (set := set) e c0 c1 k (by omega)
    have b := @gNb_b T set c k
    unfold gNb
    rw [ih] at b ⊢
    by_cases z : gNb T' set c k < 0
    · simp only [z, true_or, and_true]
    · rw [e k (by omega) (by omega), e c c0 c1, e (gNb T' set c k) (by omega) (by omega)]
theorem gNe_t {T T' : Int → Int} {set c : Int} (e : ∀ c, 0 ≤ c → c < 16 → T c = T' c) (c0 : 0 ≤ c) (c1 : c < 16) : gNe T set c 16 = gNe T' set c 16 := gNb_t e c0 c1 16 (by decide)
theorem gSm_t {many T T' : Int → Int} {set : Int} (e : ∀ c, 0 ≤ c → c < 16 → T c = T' c) (hs : ∃ k, 0 ≤ k ∧ k < 16 ∧ zbt set k) : ∀ k : Nat, k ≤ 16 → gSmN many T set k = gSmN many T' set k
  | 0, _ => rfl
  | k + 1, h => by
    have n0 := gNe_0 (tone := T) (c := (k : Int)) hs
    have n1 := @gNe_b T set (k : Int) 16 (by decide)
    unfold gSmN
    rw [gSm_t e hs k (by omega)]
    rw [gNe_t e (show 0 ≤ (k : Int) by omega) (show (k : Int) < 16 by omega)] at n0 n1 ⊢
    rw [e _ n0 (by omega), e (k : Int) (by omega) (by omega)]
theorem gFw_t {many T T' : Int → Int} {k l s : Int} (e : ∀ c, 0 ≤ c → c < 16 → T c = T' c) (h : gFw many T k l s) : gFw many T' k l s := by
  obtain ⟨h1, h2, h3, h4, h5⟩ := h
  have q : ∀ S, 1 ≤ S → S < 65536 → gSm many T S 16 = gSm many T' S 16 := fun S a b => gSm_t e (zbt_ne a b) 16 (by decide)
  refine ⟨h1, h2, h3, by rw [← q s h1.1 h1.2]; exact h4, fun S a b c d => ?_⟩
  rw [← q S a b]; exact h5 S a b c d
section
variable {v r r' : Int} {M M1 M2 : zM}
theorem zJn.cn (J : zJn v M) : gCn (M 1 0) (M 1 1) (M 2) = gCn (M 103 1) (M 103 2) (M 104) := by
  have R := J.2.2.2.2.1
  have d := J.1.d
  rw [← R.1.1, ← R.1.2.1]
  exact funext fun c => gCn_cg (by omega) R.2.1 c
theorem zq_few {k what : Int} (J : zJn v M) (h : po_X11_few k what M r M1) (g : po_X12_few k what M1 r' M2) : r = r' ∧ zJn (v + 1) M2 := by
  obtain ⟨w, K, x⟩ := h
  obtain ⟨w', y⟩ := g
  refine ⟨?_, J.q w K w'⟩
  rw [w 103 1 (by omega), w 103 2 (by omega), show M1 104 = M 104 from funext fun i => w 104 i (by omega), show M1 105 = M 105 from funext fun i => w 105 i (by omega)] at y
  refine x.eq y Iff.rfl (fun _ s t => ?_)
  have R := J.2.2.2.2.1
  unfold qFw at s t
  rw [J.cn] at s
  rcases s with ⟨a, b⟩ | ⟨a, l, s, b, c⟩
  · rcases t with ⟨a', b'⟩ | ⟨a', _⟩
    · rw [b, b']
    · omega
  · rcases t with ⟨a', b'⟩ | ⟨a', l', s', b', c'⟩
    · omega
    · obtain ⟨e1, e2⟩ := (gFw_t R.2.2.1 b).uq b'
      rw [c, c', e1, e2]
end
