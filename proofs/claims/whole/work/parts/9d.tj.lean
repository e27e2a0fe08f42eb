section
variable {v r r' : Int} {M M1 M2 : zM}
theorem zq_rule {d : Int} (J : zJn v M) (h : po_X11_rule d M r M1) (g : po_X12_rule d M1 r' M2) : r = r' ∧ zJn (v + 1) M2 := by
  have hI := J.1
  have hM := J.2.2.2.1
  have R := J.2.2.2.2.1
  have v1 := J.2.2.2.2.2.1
  have v9 := J.2.2.2.2.2.2
  have X := R.2.2.2.2.1
  have rg := hI.r.1
  by_cases hd : 0 ≤ d ∧ d < 8
  · by_cases k12 : M 57 0 = 12
    · obtain ⟨er, e1⟩ := h.2.1 hd k12
      subst e1
      obtain ⟨er', w'⟩ := g.2.1 hd (by rw [← X.1.1]; exact k12)
      exact ⟨by rw [er, er'], J.q bW.r J.2.1 w'⟩
    · by_cases k : bTok M d
      · have t := J.tx k
        have B := hI.s d hd.1 hd.2
        have cl := h.2.2.2 k (by omega)
        have m1 : ∀ c i, 103 ≤ c → M1 c i = M c i := by
          rcases cl with ⟨q, _, _, w, _⟩ | ⟨_, _, _, _, f, _⟩
          · exact fun c i l => w c i (by omega)
          · exact fun c i l => f c i (by omega) (by omega) (by omega) (by omega) (by omega)
        have m9 : M1 103 9 = M 57 0 := by rw [m1 103 9 (by omega), X.1.1]
        have tok : mTok M1 d := by unfold mTok; rw [m1 134 d (by omega), m1 140 d (by omega)]; exact t.1
        have re := g.2.2.2 tok (by omega) (fun _ => 0) (fun _ => rfl)
        rw [m1 141 d (by omega), show M1 142 = M 142 from funext fun i => m1 142 i (by omega), m9, ← t.2.1] at re
        have tx := t.2.2
        rw [← t.2.1] at tx
        rcases cl with ⟨q, a, er, w, K⟩ | ⟨⟨u, a⟩, er, ⟨s0, s71, s72⟩, sT, f1, K⟩
        · rcases re with ⟨q', a', er', w'⟩ | ⟨⟨u', _, a'⟩, _⟩
          · exact ⟨by rw [er, er', ((gRb_e tx).1 (gRb_c a)).uq a'], J.q w K w'⟩
          · obtain ⟨z, _, c⟩ := gRy_c a' (M 75)
            exact (a.no ((gRy_e tx).2 c)).elim
        · rcases re with ⟨q', a', er', w'⟩ | ⟨⟨u', _, a'⟩, er', ⟨y0, y8, y9⟩, yT, f2⟩
          · obtain ⟨z, _, c⟩ := gRy_c a (fun _ => 0)
            exact (a'.no ((gRy_e tx).1 c)).elim
          · have w1 : ∀ c i, ¬ (bWk c i ∨ (c = 57 ∧ i = 0) ∨ (c = 71 ∧ i = M 57 0) ∨ (c = 72 ∧ i = M 57 0) ∨ (c = 59 + M 57 0 ∧ 0 ≤ i ∧ i < M (26 + 2 * d) 2)) → M1 c i = M c i := fun c i l => f1 c i (by omega) (by omega) (by omega) (by omega) (by omega)
            have w2 : ∀ c i, ¬ (mWk c i ∨ (c = 103 ∧ i = 9) ∨ (c = 108 ∧ i = M 57 0) ∨ (c = 109 ∧ i = M 57 0) ∨ (c = 107 ∧ 120 * M 57 0 ≤ i ∧ i < 120 * M 57 0 + M (26 + 2 * d) 2)) → M2 c i = M1 c i := fun c i l => f2 c i (by omega) (by omega) (by omega) (by omega) (by omega)
            have w : ∀ c i, ¬ ((bWk c i ∨ (c = 57 ∧ i = 0) ∨ (c = 71 ∧ i = M 57 0) ∨ (c = 72 ∧ i = M 57 0) ∨ (c = 59 + M 57 0 ∧ 0 ≤ i ∧ i < M (26 + 2 * d) 2)) ∨ (mWk c i ∨ (c = 103 ∧ i = 9) ∨ (c = 108 ∧ i = M 57 0) ∨ (c = 109 ∧ i = M 57 0) ∨ (c = 107 ∧ 120 * M 57 0 ≤ i ∧ i < 120 * M 57 0 + M (26 + 2 * d) 2))) → M2 c i = M c i := fun c i l => by rw [w2 c i (fun q => l (.inr q)), w1 c i (fun q => l (.inl q))]
            clear f1 f2
            refine ⟨by rw [er, er'], J.mk (fun d i l => w1 d i (by omega)) (fun d i l => w2 d i (by omega)) (fun i => w1 75 i (by omega))
              ⟨hI.d' (fun c i k => w1 c i (by omega)), hI.t' (fun c i k => w1 c i (by omega)), hI.v' (fun c i k => w1 c i (by omega)), hI.c' (fun c i k => w1 c i (by omega)), hI.tn' (fun c i k => w1 c i (by omega)), hI.h' (fun c i k => w1 c i (by omega)), hI.i' (fun c i k => w1 c i (by omega)), ⟨by rw [s0]; omega, by rw [w1 57 4 (by omega)]; exact hI.r.2.1, fun i i0 i1 => (by
              by_cases e : i = M 57 0
              · rw [e, s72]; exact .inr rfl
              · rw [w1 72 i (by omega)]; exact hI.r.2.2.1 i i0 i1), fun i i0 i1 => by rw [w1 73 i (by omega)]; exact hI.r.2.2.2.1 i i0 i1, fun i i0 i1 => (by
              by_cases e : i = M 57 0
              · rw [e, s71]; exact B.1
              · rw [w1 71 i (by omega)]; exact hI.r.2.2.2.2 i i0 i1)⟩, hI.s' (fun c i k => w1 c i (by omega))⟩
              (K)
              (fun m => ⟨m.d' (fun c i k => w2 c i (by omega)), m.t' (fun c i k => w2 c i (by omega)), m.c' (fun c i k => w2 c i (by omega)), m.tn' (fun c i k => w2 c i (by omega)), m.h' (fun c i k => w2 c i (by omega)), m.i' (fun c i k => w2 c i (by omega)), ⟨by rw [y0]; omega, by rw [w2 103 19 (by omega)]; exact m.r.2.1, fun i i0 i1 => (by
              by_cases e : i = M 57 0
              · rw [e, y9]; exact .inr rfl
              · rw [w2 109 i (by omega)]; exact m.r.2.2.1 i i0 i1), fun i i0 i1 => by rw [w2 112 i (by omega)]; exact m.r.2.2.2.1 i i0 i1, fun i i0 i1 => (by
              by_cases e : i = M 57 0
              · rw [e, y8]; exact B.1
              · rw [w2 108 i (by omega)]; exact m.r.2.2.2.2 i i0 i1)⟩, m.s' (fun c i k => w2 c i (by omega))⟩)
              ⟨R.d' (fun c i k => w c i (by omega)), R.p' (fun c i k => w c i (by omega)), R.tn' (fun c i k => w c i (by omega)), R.h' (fun c i k => w c i (by omega)), (by
              refine ⟨by rw [w2 57 0 (by omega), s0, w 57 4 (by omega), y0]; exact ⟨rfl, by omega, by omega⟩, fun q q0 q1 => ?_, fun q q0 q1 => ?_⟩
              · by_cases e : q = M 57 0
                · rw [e, w2 72 _ (by omega), s72, y9]
                · rw [w 72 q (by omega), w 109 q (by omega)]; exact X.2.1 q q0 q1
              · rw [w2 57 0 (by omega), s0] at q1
                by_cases e : q = M 57 0
                · subst e
                  have z1 : ∀ i, 0 ≤ i → i < M (26 + 2 * d) 2 → M2 (59 + M 57 0) i = M (26 + 2 * d + 1) i := fun i i0 i1 => by rw [w2 (59 + M 57 0) i (by omega), sT i i0 i1]
                  rw [w2 71 _ (by omega), s71, y8]
                  refine ⟨rfl, fun i i0 i1 => ?_, ?_⟩
                  · rw [z1 i i0 i1]
                    show gSb (M (26 + 2 * d + 1) i) (M2 107 (120 * M 57 0 + i))
                    rw [yT i i0 i1]
                    exact tx i i0 i1
                  · exact (gRv_e (T := M2 (59 + M 57 0)) (T' := M (26 + 2 * d + 1)) (fun i i0 i1 => .inl (z1 i i0 i1))).2 (gRy_c a)
                · have Y := X.2.2 q q0 (by omega)
                  have bq := hI.r.2.2.2.2 q q0 (by omega)
                  rw [w 71 q (by omega), w 108 q (by omega), show M2 (59 + q) = M (59 + q) from funext fun i => w (59 + q) i (by omega)]
                  refine ⟨Y.1, fun i i0 i1 => ?_, Y.2.2⟩
                  show gSb (M (59 + q) i) (M2 107 (120 * q + i))
                  rw [w 107 (120 * q + i) (by omega)]
                  exact Y.2.1 i i0 i1), R.i' (fun c i k => w c i (by omega)), R.s' (fun c i k => w c i (by omega))⟩
              (by rw [w1 1 3 (by omega)]; omega) (by rw [w1 99 3 (by omega)]; omega)⟩
      · obtain ⟨er, e1⟩ := h.2.2.1 hd (by omega) k
        subst e1
        obtain ⟨er', w'⟩ := g.2.2.1 hd (by rw [← X.1.1]; omega) (fun q => k (J.tk.2 q))
        exact ⟨by rw [er, er']; exact J.rf, J.q bW.r J.2.1 w'⟩
  · obtain ⟨er, e1⟩ := h.1 hd
    subst e1
    obtain ⟨er', w'⟩ := g.1 hd
    exact ⟨by rw [er, er'], J.q bW.r J.2.1 w'⟩
end
