theorem gCo2_t {D D' : Int → Int → Int} {n : Int} {σ : Int → Int} (e : ∀ i j, -1 ≤ i → i < n → 0 ≤ j → j < n → D i j = D' i j) (hs : ∀ i, 0 ≤ i → i < n → 0 ≤ σ i ∧ σ i < n) : ∀ k : Nat, (k : Int) ≤ n → gCo2 D σ k = gCo2 D' σ k
  | 0, _ => rfl
  | k + 1, h => by
    have ih := gCo2_t e hs k (by omega)
    have a := hs k (by omega) (by omega)
    unfold gCo2
    rw [ih, e (gPv σ k) (σ k) ?_ ?_ a.1 a.2]
    · unfold gPv; split
      · omega
      · have := hs ((k : Int) - 1) (by omega) (by omega); omega
    · unfold gPv; split
      · omega
      · have := hs ((k : Int) - 1) (by omega) (by omega); omega
theorem gPn_t {D D' : Int → Int → Int} {n l : Int} {σ : Int → Int} (hn : 0 ≤ n) (e : ∀ i j, -1 ≤ i → i < n → 0 ≤ j → j < n → D i j = D' i j) (h : gPn D n l σ) : gPn D' n l σ := by
  obtain ⟨a, b, c⟩ := h
  refine ⟨a, ?_, fun τ p => ?_⟩
  · rw [← gCo2_t e a.1 n.toNat (by omega)]; exact b
  · have q := c τ p
    rw [gCo2_t e p.1 n.toNat (by omega)] at q
    exact q
theorem qPen_t {D F D' F' : Int → Int} {N c i r : Int} (hN : 0 ≤ N) (eF : ∀ k, 0 ≤ k → k < N → F k = F' k) (eD : ∀ k, 0 ≤ k → k < N → D (F k) = D' (F' k)) (h : qPen D F N c i r) : qPen D' F' N c i r := by
  have z : ∀ m, 0 ≤ m → m ≤ N → zc (fun f => D (F f) = c) m = zc (fun f => D' (F' f) = c) m := fun m m0 m1 => zc_c m m0 (fun j j0 j1 => by rw [eD j j0 (by omega)])
  rcases h with ⟨a, b⟩ | ⟨a, b, d⟩ | ⟨n, a, b, d, S, σ, l, s1, s2, s3⟩
  · exact .inl ⟨by rw [← z N hN (Int.le_refl _)]; exact a, b⟩
  · exact .inr (.inl ⟨by rw [← z N hN (Int.le_refl _)]; exact a, by rw [← z N hN (Int.le_refl _)]; exact b, d⟩)
  · refine .inr (.inr ⟨n, by rw [← z N hN (Int.le_refl _)]; exact a, b, d, S, σ, l, fun t t0 t1 => ?_, gPn_t (by omega) (fun i j i0 i1 j0 j1 => ?_) s2, s3⟩)
    · have q := s1 t t0 t1
      exact ⟨q.1, q.2.1, by rw [← eD _ q.1 q.2.1]; exact q.2.2.1, by rw [← z _ q.1 (by omega)]; exact q.2.2.2⟩
    · have qj := s1 j j0 j1
      unfold gPd
      rw [eF _ qj.1 qj.2.1]
      by_cases k : i < 0
      · rw [if_pos k, if_pos k]
      · have qi := s1 i (by omega) i1
        rw [if_neg k, if_neg k, eF _ qi.1 qi.2.1]
theorem qPen.uq {D F : Int → Int} {N c i r r' : Int} (hi : i ≤ 6) (h : qPen D F N c i r) (g : qPen D F N c i r') : r = r' := by
  rcases h with ⟨a, b⟩ | ⟨a, b, d⟩ | ⟨n, a, b, d, S, σ, l, s1, s2, s3⟩ <;> rcases g with ⟨a', b'⟩ | ⟨a', b', d'⟩ | ⟨n', a', b', d', S', σ', l', s1', s2', s3'⟩
  · rw [b, b']
  · omega
  · omega
  · omega
  · rw [d, d']
  · omega
  · omega
  · omega
  · have e : n = n' := by omega
    subst e
    have eS : ∀ t, 0 ≤ t → t < n → S t = S' t := fun t t0 t1 => by
      have q := s1 t t0 t1
      have q' := s1' t t0 t1
      apply Classical.byContradiction
      intro k
      rcases Int.lt_or_gt_of_ne k with k | k
      · have := zc_lt2 (p := fun f => D (F f) = c) q.1 k q.2.2.1
        omega
      · have := zc_lt2 (p := fun f => D (F f) = c) q'.1 k q'.2.2.1
        omega
    have s2b := gPn_t (D' := gPd F S') (by omega) (fun i j i0 i1 j0 j1 => by
      unfold gPd
      rw [eS j j0 j1]
      by_cases k : i < 0
      · rw [if_pos k, if_pos k]
      · rw [if_neg k, if_neg k, eS i (by omega) i1]) s2
    obtain ⟨u1, u2⟩ := gPn.uq (by omega) s2b s2'
    rw [s3, s3', u1]
    by_cases k : i < 0
    · rw [if_pos k, if_pos k]
    · have q := s2b.1.1 i (by omega) d
      rw [if_neg k, if_neg k, eS _ q.1 q.2, u2 i (by omega) d]
theorem qSr_t {num : Int} {told told' : Int → Int} {TT TT' : Int → Int → Int} {nn nn' : Int → Int} {φ : Int → Int} {r r' : Int} (et : ∀ q, 0 ≤ q → q < num → told q = told' q ∧ nn q = nn' q ∧ gSx (TT q) (TT' q) (nn q)) (h : qSr num told TT nn φ r) (g : qSr num told' TT' nn' φ r') : r = r' := by
  have tr : ∀ q, 0 ≤ q → q < num → ∀ v, gRy (TT' q) (nn' q) φ v ↔ gRy (TT q) (nn q) φ v := fun q q0 q1 v => by
    have e := et q q0 q1
    rw [← e.2.1]; exact (gRy_e e.2.2).symm
  rcases h with ⟨q, a, b, c, d, f⟩ | ⟨d, f⟩ <;> rcases g with ⟨q', a', b', c', d', f'⟩ | ⟨d', f'⟩
  · rw [tr q' a'.1 a'.2] at c'
    have e : q = q' := by
      apply Classical.byContradiction
      intro k
      rcases Int.lt_or_gt_of_ne k with k | k
      · have x := f' q a.1 k (by rw [← (et q a.1 a.2).1]; exact b)
        rw [tr q a.1 a.2] at x
        have := c.uq x; omega
      · have x := f q' a'.1 k (by rw [(et q' a'.1 a'.2).1]; exact b')
        have := c'.uq x; omega
    subst e
    rw [d, d']
    have n0 := c.1
    have i := gBy_i (T := TT q) (n := nn q) (p := 0) (by omega)
    have s := (et q a.1 a.2).2.2 0 (by omega) (by omega)
    have e0 : gBy (TT q) (nn q) 0 = TT q 0 := if_pos (by omega)
    rcases s with s | s
    · exact s
    · omega
  · have x := f' q a.1 a.2 (by rw [← (et q a.1 a.2).1]; exact b)
    rw [tr q a.1 a.2] at x
    have := c.uq x; omega
  · have x := f q' a'.1 a'.2 (by rw [(et q' a'.1 a'.2).1]; exact b')
    rw [tr q' a'.1 a'.2] at c'
    have := c'.uq x; omega
  · rw [d, d']
section
variable {v r r' : Int} {M M1 M2 : zM}
theorem zq_pen {c i : Int} (J : zJn v M) (h : po_X11_pen c i M r M1) (g : po_X12_pen c i M1 r' M2) : r = r' ∧ zJn (v + 1) M2 := by
  obtain ⟨hn, hy⟩ := h
  obtain ⟨w', gy, gn⟩ := g
  by_cases k : (0 ≤ c ∧ c ≤ 15) ∧ -1 ≤ i ∧ i ≤ 6
  · obtain ⟨w, Q, x⟩ := hy k
    obtain ⟨F, y⟩ := gy k
    obtain ⟨J2, L, ⟨v0, v1, v2, v3, v4, v5, v6⟩, R, d, eD⟩ := J.L w Q w' F
    refine ⟨?_, J2⟩
    rw [← v3, ← v5, ← v6] at x
    rw [← L.1] at y
    have N := (Q.m w').N J2.1
    exact (qPen_t N.1 L.2.2.1 (fun k k0 k1 => by rw [← L.2.2.1 k k0 k1]; exact eD _ (L.2.2.2.2 k k0 k1)) x).uq k.2.2 y
  · obtain ⟨x, e⟩ := hn k
    subst e
    exact ⟨by rw [x, gn k], J.q bW.r J.2.1 w'⟩
theorem zq_count {k : Int} (J : zJn v M) (h : po_X11_count k M r M1) (g : po_X12_count k M1 r' M2) : r = r' ∧ zJn (v + 1) M2 := by
  obtain ⟨w, Q, x⟩ := h
  obtain ⟨w', F, y⟩ := g
  obtain ⟨J2, L, ⟨v0, v1, v2, v3, v4, v5, v6⟩, R, d, eD⟩ := J.L w Q w' F
  refine ⟨?_, J2⟩
  have N := (Q.m w').N J2.1
  have RR := J2.2.2.2.2.1
  have hr := J2.1.r
  have e57 : M2 57 0 = M1 57 0 := w' 57 0 (by omega)
  have e77 : M2 77 0 = M1 77 0 := w' 77 0 (by omega)
  have e72 : M2 72 = M1 72 := funext fun i => w' 72 i (by omega)
  unfold qCnt at x y
  rw [← v0, ← v1, ← v3, ← v4, ← v6, ← e57, ← e77, ← e72] at x
  rw [← R.1, ← R.2.1, ← L.1, ← RR.2.2.2.2.1.1.1, ← RR.2.2.2.1.1.1] at y
  have z3 : zc (fun c => 0 < gCn (M2 1 0) (M2 1 1) (M2 2) c) 16 = zc (fun c => 0 < gCn (M2 1 0) (M2 1 1) (M2 104) c) 16 := by rw [funext fun c => gCn_cg (by omega) eD c]
  have z4 : zc (fun g => gLd (M2 1 0) (M2 1 1) (M2 12) g g) (M2 5 2) = zc (fun g => gLd (M2 1 0) (M2 1 1) (M2 115) g g) (M2 5 2) := zc_c _ N.1 (fun i i0 i1 => gLd_cg (L.G R) (L.D d) L.2.1)
  have z6 : zc (fun k => M2 72 k ≠ 0) (M2 57 0) = zc (fun k => M2 109 k ≠ 0) (M2 57 0) := zc_c _ hr.1.1 (fun i i0 i1 => by rw [RR.2.2.2.2.1.2.1 i i0 (by omega)])
  have z8 : zc (qUn (M2 1 0) (M2 1 1) (M2 2)) 384 = zc (qUn (M2 1 0) (M2 1 1) (M2 104)) 384 := zc_c 384 (by decide) (fun i i0 i1 => by
    unfold qUn
    constructor
    · rintro ⟨a, ⟨b, c, e⟩ | ⟨b, c, e⟩⟩
      · exact ⟨a, .inl ⟨b, c, by rw [← eD _ a, ← eD _ (by omega)]; exact e⟩⟩
      · exact ⟨a, .inr ⟨b, c, by rw [← eD _ a, ← eD _ (by omega)]; exact e⟩⟩
    · rintro ⟨a, ⟨b, c, e⟩ | ⟨b, c, e⟩⟩
      · exact ⟨a, .inl ⟨b, c, by rw [eD _ a, eD _ (by omega)]; exact e⟩⟩
      · exact ⟨a, .inr ⟨b, c, by rw [eD _ a, eD _ (by omega)]; exact e⟩⟩)
  rw [z3, z4, z6, z8] at x
  exact x.trans y.symm
theorem zJn.tx (J : zJn v M) {d : Int} (k : bTok M d) : mTok M d ∧ M (26 + 2 * d) 2 = M 141 d ∧ gSx (M (26 + 2 * d + 1)) (fun i => zland (M 142 (120 * d + i)) 255) (M 141 d) := by
  have R := J.2.2.2.2.1.2.2.2.2.2.2 d k.1.1 k.1.2
  have h2 : M 134 d = 2 := by omega
  obtain ⟨⟨a, b⟩, c, e⟩ := R.2.1 h2
  have sz := (J.1.s d k.1.1 k.1.2).1
  have s0 : M 140 d = 0 := by have := k.2.2; omega
  refine ⟨⟨k.1, h2, s0⟩, b, fun i i0 i1 => ?_⟩
  rw [c i i0 (by omega)]
  exact gSb_of (e s0 i i0 (by omega))
theorem zJn.tk (J : zJn v M) {d : Int} : bTok M d ↔ mTok M d := by
  refine ⟨fun k => (J.tx k).1, fun k => ?_⟩
  have R := J.2.2.2.2.1.2.2.2.2.2.2 d k.1.1 k.1.2
  obtain ⟨⟨a, b⟩, c, e⟩ := R.2.1 k.2.1
  exact ⟨k.1, by rw [R.1.1]; exact k.2.1, by rw [a]; exact k.2.2⟩
theorem zJn.rf (J : zJn v M) {d : Int} : qRf d (M (26 + 2 * d) 0) = qRf d (M 134 d) := by
  unfold qRf
  by_cases k : 0 ≤ d ∧ d < 8
  · rw [(J.2.2.2.2.1.2.2.2.2.2.2 d k.1 k.2).1.1]
  · rw [if_neg k, if_neg k]
theorem zJn.rp (J : zJn v M) {d : Int} : qRp d (M (26 + 2 * d) 0) = qRp d (M 134 d) := by
  unfold qRp
  by_cases k : 0 ≤ d ∧ d < 8
  · rw [(J.2.2.2.2.1.2.2.2.2.2.2 d k.1 k.2).1.1]
  · rw [if_neg k, if_neg k]
theorem bW.tok {d : Int} (w : bW M M1) : mTok M1 d ↔ mTok M d := by unfold mTok; rw [w 134 d (by omega), w 140 d (by omega)]
theorem zq_fault {d : Int} (J : zJn v M) (h : po_X11_fault d M r M1) (g : po_X12_fault d M1 r' M2) : r = r' ∧ zJn (v + 1) M2 := by
  obtain ⟨w, K, hn, hy⟩ := h
  obtain ⟨w', gn, gy⟩ := g
  refine ⟨?_, J.q w K w'⟩
  by_cases k : bTok M d
  · have t := J.tx k
    rw [hy k, gy (w.tok.2 t.1)]
    unfold bTx mTx
    rw [w 141 d (by omega), show M1 142 = M 142 from funext fun i => w 142 i (by omega), t.2.1, gEx_cg t.2.2]
  · rw [hn k, gn (fun q => k (J.tk.2 (w.tok.1 q))), w 134 d (by omega)]
    exact J.rf
theorem zq_ruleFault {d : Int} (J : zJn v M) (h : po_X11_ruleFault d M r M1) (g : po_X12_ruleFault d M1 r' M2) : r = r' ∧ zJn (v + 1) M2 := by
  obtain ⟨w, K, hn, hy⟩ := h
  obtain ⟨w', gn, gy⟩ := g
  refine ⟨?_, J.q w K w'⟩
  by_cases k : bTok M d
  · have t := J.tx k
    have x := hy k
    have y := gy (w.tok.2 t.1) (fun _ => 0) (fun _ => rfl)
    rw [w 141 d (by omega), show M1 142 = M 142 from funext fun i => w 142 i (by omega)] at y
    rw [t.2.1] at x
    rcases x with ⟨a, u, b⟩ | ⟨a, b⟩
    · rcases y with ⟨a', u', _, b'⟩ | ⟨a', b'⟩
      · rw [a, a']
      · obtain ⟨z, _, c⟩ := gRy_c b (fun _ => 0)
        exact (b'.no ((gRy_e t.2.2).1 c)).elim
    · rcases y with ⟨a', u', _, b'⟩ | ⟨a', b'⟩
      · obtain ⟨z, _, c⟩ := gRy_c b' (M 75)
        exact (b.no ((gRy_e t.2.2).2 c)).elim
      · exact ((gRb_e t.2.2).1 (gRb_c b)).uq b'
  · rw [hn k, gn (fun q => k (J.tk.2 (w.tok.1 q))), w 134 d (by omega)]
    exact J.rf
theorem zq_reach {d : Int} (J : zJn v M) (h : po_X11_reach d M r M1) (g : po_X12_reach d M1 r' M2) : r = r' ∧ zJn (v + 1) M2 := by
  obtain ⟨e, hn, hy⟩ := h
  subst e
  obtain ⟨w', gn, gy⟩ := g
  refine ⟨?_, J.q bW.r J.2.1 w'⟩
  by_cases k : (0 ≤ d ∧ d < 8) ∧ M1 (26 + 2 * d) 0 = 1
  · have R := J.2.2.2.2.1.2.2.2.2.2.2 d k.1.1 k.1.2
    have e1 : M1 134 d = 1 := by rw [← R.1.1]; exact k.2
    obtain ⟨p1, p2, p3, p4, p5, p6⟩ := R.2.2 e1
    have x := hy k
    rw [p1, p4, p5, p6] at x
    exact x.uq (gy ⟨k.1, e1⟩ p2)
  · rw [hn k, gn (fun q => k ⟨q.1, by rw [(J.2.2.2.2.1.2.2.2.2.2.2 d q.1.1 q.1.2).1.1]; exact q.2⟩)]
    exact J.rp
theorem zq_toss {d : Int} (J : zJn v M) (h : po_X11_toss d M r M1) (g : po_X12_toss d M1 r' M2) : r = r' ∧ zJn (v + 1) M2 := by
  obtain ⟨e, hn, hy⟩ := h
  subst e
  obtain ⟨w', gn, gy⟩ := g
  refine ⟨?_, J.q bW.r J.2.1 w'⟩
  by_cases k : (0 ≤ d ∧ d < 8) ∧ M1 (26 + 2 * d) 0 = 1
  · have R := J.2.2.2.2.1.2.2.2.2.2.2 d k.1.1 k.1.2
    have e1 : M1 134 d = 1 := by rw [← R.1.1]; exact k.2
    obtain ⟨p1, p2, p3, p4, p5, p6⟩ := R.2.2 e1
    rw [hy k, gy ⟨k.1, e1⟩, p1, p3, p4, p5, p6]
  · rw [hn k, gn (fun q => k ⟨q.1, by rw [(J.2.2.2.2.1.2.2.2.2.2.2 d q.1.1 q.1.2).1.1]; exact q.2⟩)]
    exact J.rp
theorem mW.z0 (x : Int) : mW M (zset M 103 0 x) := fun c i k => zset_n _ (by omega)
theorem zq_dot {a : Int} (J : zJn v M) (h : po_X11_dot a M r M1) (g : po_X12_dot a M1 r' M2) : r = r' ∧ zJn (v + 1) M2 := by
  obtain ⟨e, x⟩ := h
  subst e
  obtain ⟨e, y⟩ := g
  subst e
  refine ⟨?_, J.q bW.r J.2.1 (mW.z0 0)⟩
  have R := J.2.2.2.2.1
  rw [x, y, ← R.1.1, ← R.1.2.1]
  by_cases k : gD (M1 1 0) (M1 1 1) a
  · rw [if_pos k, if_pos k]; exact R.2.1 a k
  · rw [if_neg k, if_neg k]
theorem zq_sign {f : Int} (J : zJn v M) (h : po_X11_sign f M r M1) (g : po_X12_sign f M1 r' M2) : r = r' ∧ zJn (v + 1) M2 := by
  obtain ⟨w, Q, Fd, x⟩ := h
  obtain ⟨w', F, gn, gy⟩ := g
  obtain ⟨j1, j2, j3, j4, j5, j6, j7⟩ := J
  have co : zCo M M2 := fun c i k1 k2 k3 => (w' c i k2).trans (w c i k1 k3)
  have J2 : zJn (v + 1) M2 := by
    refine ⟨(j1.f5 (fun c i a _ b => w c i a b)).m w', Q.1.m w', Fd.m w', (j4.fr (fun c i a b => w c i (by omega) (by omega))).w w', j5.co co, ?_, ?_⟩
    · rw [w' 1 3 (by omega), w 1 3 (by omega) (by decide)]; omega
    · rw [w' 99 3 (by omega), w 99 3 (by omega) (by decide)]; omega
  refine ⟨?_, J2⟩
  have L := zL.of J2.1 J2.2.2.2.2.1 (Q.m w').ok F
  have R := J2.2.2.2.2.1.1
  have d := J2.1.d
  have eD := J2.2.2.2.2.1.2.1
  obtain ⟨v0, v1, v2, v3, v4, v5, v6⟩ := bVe.of (M := M1) (M' := M2) (fun c i k => w' c i (by omega))
  rw [← v0, ← v1, ← v2, ← v3, ← v4, ← v5, ← v6] at x
  rw [← L.1, ← R.1, ← R.2.1, ← R.2.2] at gy
  rw [← L.1] at gn
  have k9 : M1 103 9 = M 57 0 := by rw [w 103 9 (by omega) (by decide)]; exact j5.2.2.2.2.1.1.1.symm
  have hr := j1.r
  have et : ∀ q, 0 ≤ q → q < M 57 0 → M 72 q = M1 109 q ∧ M 71 q = M1 108 q ∧ gSx (M (59 + q)) (fun i => M1 107 (120 * q + i)) (M 71 q) := fun q q0 q1 => by
    have z := j5.2.2.2.2.1.2.2 q q0 q1
    rw [w 109 q (by omega) (by decide), w 108 q (by omega) (by decide), show M1 107 = M 107 from funext fun i => w 107 i (by omega) (by decide)]
    exact ⟨j5.2.2.2.2.1.2.1 q q0 (by omega), z.1, z.2.1⟩
  rcases x with ⟨p, φ, hφ, hs⟩ | ⟨p, e⟩
  · have tr : ∀ k r, qFa (M2 1 0) (M2 1 1) (M2 1 2) (M2 2) (M2 12) (M2 7) (M2 5 2) f k r ↔ qFa (M2 1 0) (M2 1 1) (M2 1 2) (M2 104) (M2 115) (M2 116) (M2 5 2) f k r := fun k r => qFa_cg (by omega) (L.G R) (L.D d) L.2.1 eD L.2.2.1 (L.2.2.2.2 f p.1 p.2) p
    have N := (Q.m w').N J2.1
    have q := gy p φ ⟨fun k r k0 k1 hq => ((tr k r).2 hq).uq (hφ.1 k k0 k1), by rw [hφ.2]; exact zc_c _ N.1 (fun i i0 i1 => gLk_cg (L.G R) (L.D d) L.2.1)⟩ (fun q q0 q1 => by
      rw [k9] at q1
      have z := j5.2.2.2.2.1.2.2 q q0 q1
      have e := et q q0 q1
      rw [← e.2.1]
      obtain ⟨u, u1, u2⟩ := z.2.2 φ
      exact ⟨u, u1, (gRy_e e.2.2).1 u2⟩)
    rw [k9] at q
    exact qSr_t et hs q
  · rw [e, gn p]
end
