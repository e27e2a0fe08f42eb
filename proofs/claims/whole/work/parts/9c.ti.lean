section
variable {v r r' : Int} {M M1 M2 : zM}
theorem zq_keep {d what k f told : Int} (J : zJn v M) (h : po_X11_keep d what k f told M r M1) (g : po_X12_keep d what k f told M1 r' M2) : r = r' ∧ zJn (v + 1) M2 := by
  have hI := J.1
  have hM := J.2.2.2.1
  have R := J.2.2.2.2.1
  have v1 := J.2.2.2.2.2.1
  have v9 := J.2.2.2.2.2.2
  have D := hI.d
  have T : ∀ a, 0 ≤ a → a < 8 → zShf M a := R.2.2.2.2.2.2
  by_cases hd : (0 ≤ d ∧ d < 8) ∧ 0 ≤ what ∧ what ≤ 1
  · by_cases h0 : what = 0
    · obtain ⟨er, e1⟩ := h.2.1 hd.1 h0
      obtain ⟨er', e2⟩ := g.2.1 hd.1 h0
      have w1 : ∀ c i, ¬ (c = 26 + 2 * d ∧ (i = 0 ∨ i = 2)) → M1 c i = M c i := fun c i l => by rw [e1, zset_n _ (by omega), zset_n _ (by omega)]
      have s0 : M1 (26 + 2 * d) 0 = 0 := by rw [e1, zset_n _ (by omega), zset_s]
      have s2 : M1 (26 + 2 * d) 2 = 0 := by rw [e1, zset_s]
      have w2 : ∀ c i, ¬ ((c = 134 ∧ i = d) ∨ (c = 103 ∧ i = 0)) → M2 c i = M1 c i := fun c i l => by rw [e2, zset_n _ (by omega), zset_n _ (by omega)]
      have t0 : M2 134 d = 0 := by rw [e2, zset_s]
      have w : ∀ c i, ¬ ((c = 26 + 2 * d ∧ (i = 0 ∨ i = 2)) ∨ (c = 134 ∧ i = d) ∨ (c = 103 ∧ i = 0)) → M2 c i = M c i := fun c i l => by rw [w2 c i (by omega), w1 c i (by omega)]
      refine ⟨by rw [er, er'], J.mk (fun d i l => w1 d i (by omega)) (fun d i l => w2 d i (by omega)) (fun i => w1 75 i (by omega))
        ⟨hI.d' (fun c i k => w1 c i (by omega)), hI.t' (fun c i k => w1 c i (by omega)), hI.v' (fun c i k => w1 c i (by omega)), hI.c' (fun c i k => w1 c i (by omega)), hI.tn' (fun c i k => w1 c i (by omega)), hI.h' (fun c i k => w1 c i (by omega)), hI.i' (fun c i k => w1 c i (by omega)), hI.r' (fun c i k => w1 c i (by omega)), fun d' d0 d1 => (by
        have S := hI.s d' d0 d1
        rw [w1 (26 + 2 * d') 5 (by omega), w1 (26 + 2 * d') 6 (by omega), w1 (26 + 2 * d') 7 (by omega), w1 (26 + 2 * d') 8 (by omega)]
        refine ⟨?_, S.2⟩
        by_cases e : d' = d
        · rw [e, s2]; decide
        · rw [w1 (26 + 2 * d') 2 (by omega)]; exact S.1)⟩
        (J.2.1.fr (fun d i k => w1 d i (by omega)))
        (fun m => ⟨m.d' (fun c i k => w2 c i (by omega)), m.t' (fun c i k => w2 c i (by omega)), m.c' (fun c i k => w2 c i (by omega)), m.tn' (fun c i k => w2 c i (by omega)), m.h' (fun c i k => w2 c i (by omega)), m.i' (fun c i k => w2 c i (by omega)), m.r' (fun c i k => w2 c i (by omega)), m.s' (fun c i k => w2 c i (by omega))⟩)
        ⟨R.d' (fun c i k => w c i (by omega)), R.p' (fun c i k => w c i (by omega)), R.tn' (fun c i k => w c i (by omega)), R.h' (fun c i k => w c i (by omega)), R.r' hI (fun c i k => w c i (by omega)), R.i' (fun c i k => w c i (by omega)), fun d' d0 d1 => (by
        by_cases e : d' = d
        · subst e
          refine ⟨?_, fun q => ?_, fun q => ?_⟩
          · rw [w2 (26 + 2 * d') 0 (by omega), s0, t0]; exact ⟨rfl, .inl rfl⟩
          · rw [t0] at q; omega
          · rw [t0] at q; omega
        · exact zShf.t (T d' d0 d1) (fun c i l => w c i (by omega)))⟩
        (by rw [w1 1 3 (by omega)]; omega) (by rw [w1 99 3 (by omega)]; omega)⟩
    · by_cases hk : 0 ≤ k ∧ k ≤ 4
      · obtain ⟨N, wN, Q, nn, yy⟩ := h.2.2.2 hd.1 (by omega) hk
        obtain ⟨N', w', F, nn', yy'⟩ := g.2.2.2 hd.1 (by omega) hk
        -- the class left all but the shelf as it stands in N
        have near : ∀ c i, 103 ≤ c → M1 c i = N c i := by
          by_cases a : (0 ≤ f ∧ f < N 5 2) ∧ 0 ≤ told
          · obtain ⟨n, _, p, q⟩ := yy a
            by_cases b : told / 1000 ≤ n ∧ told % 1000 ≤ n
            · obtain ⟨_, gg, x, y, _, _, _, _, _, _, e1⟩ := q b
              exact fun c i l => by rw [e1, zset_n _ (by omega), zset_n _ (by omega), zset_n _ (by omega), zset_n _ (by omega), zset_n _ (by omega), zset_n _ (by omega), zset_n _ (by omega)]
            · rw [(p b).2]; exact fun _ _ _ => rfl
          · rw [(nn a).2]; exact fun _ _ _ => rfl
        let H : zM := fun c i => if c ≤ 102 then N c i else N' c i
        have H1 : ∀ c i, c ≤ 102 → H c i = N c i := fun c i l => if_pos l
        have H2 : ∀ c i, 103 ≤ c → H c i = N' c i := fun c i l => if_neg (by omega)
        have wH : mW N H := fun c i l => by
          by_cases q : c ≤ 102
          · exact H1 c i q
          · rw [H2 c i (by omega), w' c i l, near c i (by omega)]
        have H2f : ∀ c, 103 ≤ c → H c = N' c := fun c l => funext fun i => H2 c i l
        have H1f : ∀ c, c ≤ 102 → H c = N c := fun c l => funext fun i => H1 c i l
        have FH : mFok H := by
          unfold mFok
          rw [H2f 103 (by omega), H2f 104 (by omega), H2f 115 (by omega), H2f 116 (by omega)]
          exact F
        obtain ⟨J2, L, _, RH, dd, eD⟩ := J.L wN Q wH FH
        have LG := L.G RH
        have L1 := L.1
        have L3 := L.2.2.1
        rw [H1f 12 (by omega), H1f 1 (by omega), H2f 115 (by omega)] at LG
        rw [H1f 5 (by omega), H2f 103 (by omega)] at L1
        rw [H1f 5 (by omega), H1f 7 (by omega), H2f 116 (by omega)] at L3
        rw [H1f 1 (by omega), H2f 103 (by omega)] at RH
        by_cases a : (0 ≤ f ∧ f < N 5 2) ∧ 0 ≤ told
        · have a' : (0 ≤ f ∧ f < N' 103 30) ∧ 0 ≤ told := by rw [← L1]; exact a
          obtain ⟨n, P, p, q⟩ := yy a
          obtain ⟨n', P', p', q'⟩ := yy' a'
          have q'' : told / 1000 ≤ n' ∧ told % 1000 ≤ n' → _ := q'
          rw [← RH.1, ← RH.2.1, ← RH.2.2, ← LG, ← L3 f a.1.1 a.1.2] at P' q''
          have en := P.uq P'
          subst en
          by_cases b : told / 1000 ≤ n ∧ told % 1000 ≤ n
          · obtain ⟨er, gg, x, y, G1, ex, ey, gb, xb, fb, e1⟩ := q b
            obtain ⟨er', gg', x', y', G1', ex', ey', e2⟩ := q'' b
            have eg := G1.uq G1'
            subst eg
            have xx : max x' (-x') = max x (-x) := by omega
            have yy2 : max y' (-y') = max y (-y) := by omega
            rw [xx, yy2] at e2
            have x0 : 0 ≤ max x (-x) ∧ 0 ≤ max y (-y) := by omega
            generalize max x (-x) = ax at e1 e2 xb x0
            generalize max y (-y) = ay at e1 e2 xb x0
            have w1 : ∀ c i, ¬ (bWk c i ∨ (c = 26 + 2 * d ∧ (i = 0 ∨ i = 2 ∨ (4 ≤ i ∧ i ≤ 8)))) → M1 c i = M c i := fun c i l => by rw [e1, zset_n _ (by omega), zset_n _ (by omega), zset_n _ (by omega), zset_n _ (by omega), zset_n _ (by omega), zset_n _ (by omega), zset_n _ (by omega), wN c i (by omega)]
            have w1N : ∀ c i, c ≠ 26 + 2 * d → M1 c i = N c i := fun c i l => by rw [e1, zset_n _ (by omega), zset_n _ (by omega), zset_n _ (by omega), zset_n _ (by omega), zset_n _ (by omega), zset_n _ (by omega), zset_n _ (by omega)]
            have c8 : M1 (26 + 2 * d) 8 = gg := by rw [e1, zset_s]
            have c7 : M1 (26 + 2 * d) 7 = ay := by rw [e1, zset_n _ (by omega), zset_s]
            have c6 : M1 (26 + 2 * d) 6 = ax := by rw [e1, zset_n _ (by omega), zset_n _ (by omega), zset_s]
            have c5 : M1 (26 + 2 * d) 5 = f := by rw [e1, zset_n _ (by omega), zset_n _ (by omega), zset_n _ (by omega), zset_s]
            have c4 : M1 (26 + 2 * d) 4 = k := by rw [e1, zset_n _ (by omega), zset_n _ (by omega), zset_n _ (by omega), zset_n _ (by omega), zset_s]
            have c2 : M1 (26 + 2 * d) 2 = 0 := by rw [e1, zset_n _ (by omega), zset_n _ (by omega), zset_n _ (by omega), zset_n _ (by omega), zset_n _ (by omega), zset_s]
            have c0 : M1 (26 + 2 * d) 0 = 1 := by rw [e1, zset_n _ (by omega), zset_n _ (by omega), zset_n _ (by omega), zset_n _ (by omega), zset_n _ (by omega), zset_n _ (by omega), zset_s]
            have w2 : ∀ c i, ¬ (mWk c i ∨ (134 ≤ c ∧ c ≤ 139 ∧ i = d)) → M2 c i = M1 c i := fun c i l => by rw [e2, zset_n _ (by omega), zset_n _ (by omega), zset_n _ (by omega), zset_n _ (by omega), zset_n _ (by omega), zset_n _ (by omega), w' c i (by omega)]
            have b4 : M2 134 d = 1 := by rw [e2, zset_s]
            have b9 : M2 139 d = gg := by rw [e2, zset_n _ (by omega), zset_s]
            have b8 : M2 138 d = ay := by rw [e2, zset_n _ (by omega), zset_n _ (by omega), zset_s]
            have b7 : M2 137 d = ax := by rw [e2, zset_n _ (by omega), zset_n _ (by omega), zset_n _ (by omega), zset_s]
            have b6 : M2 136 d = f := by rw [e2, zset_n _ (by omega), zset_n _ (by omega), zset_n _ (by omega), zset_n _ (by omega), zset_s]
            have b5 : M2 135 d = k := by rw [e2, zset_n _ (by omega), zset_n _ (by omega), zset_n _ (by omega), zset_n _ (by omega), zset_n _ (by omega), zset_s]
            have w : ∀ c i, ¬ (bWk c i ∨ (c = 26 + 2 * d ∧ (i = 0 ∨ i = 2 ∨ (4 ≤ i ∧ i ≤ 8))) ∨ mWk c i ∨ (134 ≤ c ∧ c ≤ 139 ∧ i = d)) → M2 c i = M c i := fun c i l => by rw [w2 c i (by omega), w1 c i (by omega)]
            refine ⟨by rw [er, er'], J.mk (fun d i l => w1 d i (by omega)) (fun d i l => w2 d i (by omega)) (fun i => w1 75 i (by omega))
              ⟨hI.d' (fun c i k => w1 c i (by omega)), hI.t' (fun c i k => w1 c i (by omega)), hI.v' (fun c i k => w1 c i (by omega)), hI.c' (fun c i k => w1 c i (by omega)), hI.tn' (fun c i k => w1 c i (by omega)), hI.h' (fun c i k => w1 c i (by omega)), hI.i' (fun c i k => w1 c i (by omega)), hI.r' (fun c i k => w1 c i (by omega)), fun d' d0 d1 => (by
              have S := hI.s d' d0 d1
              by_cases e : d' = d
              · rw [e, c2, c5, c6, c7, c8]; exact ⟨by decide, ⟨x0.1, xb.1⟩, ⟨x0.2, xb.2⟩, gb, a.1.1, fb⟩
              · rw [w1 (26 + 2 * d') 2 (by omega), w1 (26 + 2 * d') 5 (by omega), w1 (26 + 2 * d') 6 (by omega), w1 (26 + 2 * d') 7 (by omega), w1 (26 + 2 * d') 8 (by omega)]; exact S)⟩
              (Q.1.fr (fun c i k => w1N c i (by omega)))
              (fun m => ⟨m.d' (fun c i k => w2 c i (by omega)), m.t' (fun c i k => w2 c i (by omega)), m.c' (fun c i k => w2 c i (by omega)), m.tn' (fun c i k => w2 c i (by omega)), m.h' (fun c i k => w2 c i (by omega)), m.i' (fun c i k => w2 c i (by omega)), m.r' (fun c i k => w2 c i (by omega)), fun d' d0 d1 => (by
              have S := m.s d' d0 d1
              by_cases e : d' = d
              · rw [e, b6, b7, b8, b9, w2 141 d (by omega)]; exact ⟨by rw [← e]; exact S.1, ⟨x0.1, xb.1⟩, ⟨x0.2, xb.2⟩, gb, a.1.1, fb⟩
              · rw [w2 141 d' (by omega), w2 136 d' (by omega), w2 137 d' (by omega), w2 138 d' (by omega), w2 139 d' (by omega)]; exact S)⟩)
              ⟨R.d' (fun c i k => w c i (by omega)), R.p' (fun c i k => w c i (by omega)), R.tn' (fun c i k => w c i (by omega)), R.h' (fun c i k => w c i (by omega)), R.r' hI (fun c i k => w c i (by omega)), R.i' (fun c i k => w c i (by omega)), fun d' d0 d1 => (by
              by_cases e : d' = d
              · subst e
                refine ⟨?_, fun q => ?_, fun q => ?_⟩
                · rw [w2 (26 + 2 * d') 0 (by omega), c0, b4]; exact ⟨rfl, .inr (.inl rfl)⟩
                · rw [b4] at q; omega
                · rw [w2 (26 + 2 * d') 4 (by omega), w2 (26 + 2 * d') 5 (by omega), w2 (26 + 2 * d') 6 (by omega), w2 (26 + 2 * d') 7 (by omega), w2 (26 + 2 * d') 8 (by omega), c4, c5, c6, c7, c8, b5, b6, b7, b8, b9]
                  exact ⟨rfl, hk, rfl, rfl, rfl, rfl⟩
              · exact zShf.t (T d' d0 d1) (fun c i l => w c i (by omega)))⟩
              (by rw [w1 1 3 (by omega)]; omega) (by rw [w1 99 3 (by omega)]; omega)⟩
          · obtain ⟨er, e1⟩ := p b
            obtain ⟨er', e2⟩ := p' b
            subst e1 e2
            exact ⟨by rw [er, er'], J.q wN Q.1 w'⟩
        · obtain ⟨er, e1⟩ := nn a
          obtain ⟨er', e2⟩ := nn' (by rw [← L1]; exact a)
          subst e1 e2
          exact ⟨by rw [er, er'], J.q wN Q.1 w'⟩
      · obtain ⟨er, e1⟩ := h.2.2.1 hd.1 (by omega) hk
        subst e1
        obtain ⟨er', w'⟩ := g.2.2.1 hd.1 (by omega) hk
        exact ⟨by rw [er, er'], J.q bW.r J.2.1 w'⟩
  · obtain ⟨er, e1⟩ := h.1 hd
    subst e1
    obtain ⟨er', w'⟩ := g.1 hd
    exact ⟨by rw [er, er'], J.q bW.r J.2.1 w'⟩
end
