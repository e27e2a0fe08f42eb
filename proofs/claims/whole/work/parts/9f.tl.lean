section
variable {v r r' : Int} {M M1 M2 : zM}
theorem kp_fault {d : Int} (h : po_X11_fault d M r M1) : ∀ c i, 103 ≤ c → M1 c i = M c i := by
  exact fun c i l => h.1 c i (by omega)
theorem pq_fault {d : Int} (J : zJn v M) : pr_X11_fault d M := ⟨J.1, J.2.1⟩
theorem pk_fault {d : Int} (J : zJn v M) (h : po_X11_fault d M r M1) : pr_X12_fault d M1 := by
  have e := kp_fault h
  have m := J.2.2.2.1.fr (M' := M1) (fun c i _ l => e c i l)
  exact m
theorem kp_picture {d : Int} (h : po_X11_picture d M r M1) : ∀ c i, 103 ≤ c → M1 c i = M c i := by
  by_cases kk : bTok M d
  · by_cases q : (bTx M d).1 = -4
    · exact fun c i l => (h.2.2 kk q).2.2.2.2.1 c i (by omega) (by omega) (by omega) (by omega)
    · exact fun c i l => (h.2.1 kk q).2.1 c i (by omega)
  · rw [(h.1 kk).2]; exact fun _ _ _ => rfl
theorem pq_picture {d : Int} (J : zJn v M) : pr_X11_picture d M := ⟨J.1, J.2.1⟩
theorem pk_picture {d : Int} (J : zJn v M) (h : po_X11_picture d M r M1) : pr_X12_picture d M1 := by
  have e := kp_picture h
  have m := J.2.2.2.1.fr (M' := M1) (fun c i _ l => e c i l)
  exact m
theorem kp_dot {a : Int} (h : po_X11_dot a M r M1) : ∀ c i, 103 ≤ c → M1 c i = M c i := by
  rw [h.1]; exact fun _ _ _ => rfl
theorem pq_dot {a : Int} (J : zJn v M) : pr_X11_dot a M := J.1.d
theorem pk_dot {a : Int} (J : zJn v M) (h : po_X11_dot a M r M1) : pr_X12_dot a M1 := by
  have e := kp_dot h
  have m := J.2.2.2.1.fr (M' := M1) (fun c i _ l => e c i l)
  exact m.d
theorem kp_paint {a c : Int} (h : po_X11_paint a c M r M1) : ∀ c i, 103 ≤ c → M1 c i = M c i := by
  by_cases kk : (gD (M 1 0) (M 1 1) a ∧ 0 ≤ c ∧ c ≤ 15)
  · obtain ⟨_, N, q, _, f, ch⟩ := h.2 kk
    exact fun c' i' l => by rw [ch.2.2.1 c' i' (by omega) (by omega) (by omega) (by omega), f c' i' (by omega)]
  · rw [(h.1 kk).2]; exact fun _ _ _ => rfl
theorem pq_paint {a c : Int} (J : zJn v M) : pr_X11_paint a c M := ⟨J.1.d, by have := J.1.h; omega, J.1.h.2.1, J.1.v, J.1.c⟩
theorem pk_paint {a c : Int} (J : zJn v M) (h : po_X11_paint a c M r M1) : pr_X12_paint a c M1 := by
  have e := kp_paint h
  have m := J.2.2.2.1.fr (M' := M1) (fun c i _ l => e c i l)
  exact ⟨m.d, by have := m.h.1; omega⟩
theorem kp_tone {c v' : Int} (h : po_X11_tone c v' M r M1) : ∀ c i, 103 ≤ c → M1 c i = M c i := by
  by_cases kk : (0 ≤ c ∧ c ≤ 15) ∧ (0 ≤ v' ∧ v' ≤ 255)
  · rw [(h.1 kk).2]; exact fun c' i' l => zset_n _ (by omega)
  · rw [(h.2 kk).2]; exact fun _ _ _ => rfl
theorem pq_tone {c v' : Int} (J : zJn v M) : pr_X11_tone c v' M := trivial
theorem pk_tone {c v' : Int} (J : zJn v M) (h : po_X11_tone c v' M r M1) : pr_X12_tone c v' M1 := by
  have e := kp_tone h
  have m := J.2.2.2.1.fr (M' := M1) (fun c i _ l => e c i l)
  exact trivial
theorem kp_touch {t : Int} (h : po_X11_touch t M r M1) : ∀ c i, 103 ≤ c → M1 c i = M c i := by
  by_cases kk : t = 0 ∨ t = 1
  · exact fun c i l => (h.1 kk).2.2.2 c i (by omega)
  · rw [(h.2 kk).2]; exact fun _ _ _ => rfl
theorem pq_touch {t : Int} (J : zJn v M) : pr_X11_touch t M := J.1.v
theorem pk_touch {t : Int} (J : zJn v M) (h : po_X11_touch t M r M1) : pr_X12_touch t M1 := by
  have e := kp_touch h
  have m := J.2.2.2.1.fr (M' := M1) (fun c i _ l => e c i l)
  exact trivial
theorem kp_clean {n : Int} (h : po_X11_clean n M r M1) : ∀ c i, 103 ≤ c → M1 c i = M c i := by
  by_cases kk : (1 ≤ n ∧ n ≤ 20)
  · obtain ⟨N, _, w, _, ch⟩ := h.2 kk
    exact fun c' i' l => by rw [ch.2.2.1 c' i' (by omega) (by omega) (by omega) (by omega), w c' i' (by omega)]
  · rw [(h.1 kk).2]; exact fun _ _ _ => rfl
theorem pq_clean {n : Int} (J : zJn v M) : pr_X11_clean n M := ⟨J.1, J.2.1⟩
theorem pk_clean {n : Int} (J : zJn v M) (h : po_X11_clean n M r M1) : pr_X12_clean n M1 := by
  have e := kp_clean h
  have m := J.2.2.2.1.fr (M' := M1) (fun c i _ l => e c i l)
  exact m
theorem kp_faceOf {a : Int} (h : po_X11_faceOf a M r M1) : ∀ c i, 103 ≤ c → M1 c i = M c i := by
  by_cases kk : gD (M 1 0) (M 1 1) a
  · exact fun c i l => (h.2 kk).1 c i (by omega)
  · rw [(h.1 kk).2]; exact fun _ _ _ => rfl
theorem pq_faceOf {a : Int} (J : zJn v M) : pr_X11_faceOf a M := ⟨J.1, J.2.1⟩
theorem pk_faceOf {a : Int} (J : zJn v M) (h : po_X11_faceOf a M r M1) : pr_X12_faceOf a M1 := by
  have e := kp_faceOf h
  have m := J.2.2.2.1.fr (M' := M1) (fun c i _ l => e c i l)
  exact m
theorem kp_face {f k : Int} (h : po_X11_face f k M r M1) : ∀ c i, 103 ≤ c → M1 c i = M c i := by
  exact fun c i l => h.1 c i (by omega)
theorem pq_face {f k : Int} (J : zJn v M) : pr_X11_face f k M := ⟨J.1, J.2.1⟩
theorem pk_face {f k : Int} (J : zJn v M) (h : po_X11_face f k M r M1) : pr_X12_face f k M1 := by
  have e := kp_face h
  have m := J.2.2.2.1.fr (M' := M1) (fun c i _ l => e c i l)
  exact m
theorem kp_pair {a b k : Int} (h : po_X11_pair a b k M r M1) : ∀ c i, 103 ≤ c → M1 c i = M c i := by
  exact fun c i l => h.1 c i (by omega)
theorem pq_pair {a b k : Int} (J : zJn v M) : pr_X11_pair a b k M := ⟨J.1, J.2.1⟩
theorem pk_pair {a b k : Int} (J : zJn v M) (h : po_X11_pair a b k M r M1) : pr_X12_pair a b k M1 := by
  have e := kp_pair h
  have m := J.2.2.2.1.fr (M' := M1) (fun c i _ l => e c i l)
  exact m
theorem kp_step {f i k : Int} (h : po_X11_step f i k M r M1) : ∀ c i, 103 ≤ c → M1 c i = M c i := by
  exact fun c i l => h.1 c i (by omega)
theorem pq_step {f i k : Int} (J : zJn v M) : pr_X11_step f i k M := ⟨J.1, J.2.1⟩
theorem pk_step {f i k : Int} (J : zJn v M) (h : po_X11_step f i k M r M1) : pr_X12_step f i k M1 := by
  have e := kp_step h
  have m := J.2.2.2.1.fr (M' := M1) (fun c i _ l => e c i l)
  exact m
theorem kp_corners {f k : Int} (h : po_X11_corners f k M r M1) : ∀ c i, 103 ≤ c → M1 c i = M c i := by
  exact fun c i l => h.1 c i (by omega)
theorem pq_corners {f k : Int} (J : zJn v M) : pr_X11_corners f k M := ⟨J.1, J.2.1⟩
theorem pk_corners {f k : Int} (J : zJn v M) (h : po_X11_corners f k M r M1) : pr_X12_corners f k M1 := by
  have e := kp_corners h
  have m := J.2.2.2.1.fr (M' := M1) (fun c i _ l => e c i l)
  exact m
theorem kp_cornered {f k i : Int} (h : po_X11_cornered f k i M r M1) : ∀ c i, 103 ≤ c → M1 c i = M c i := by
  exact fun c i l => h.1 c i (by omega)
theorem pq_cornered {f k i : Int} (J : zJn v M) : pr_X11_cornered f k i M := ⟨J.1, J.2.1⟩
theorem pk_cornered {f k i : Int} (J : zJn v M) (h : po_X11_cornered f k i M r M1) : pr_X12_cornered f k i M1 := by
  have e := kp_cornered h
  have m := J.2.2.2.1.fr (M' := M1) (fun c i _ l => e c i l)
  exact m
theorem kp_inBand {f i j k : Int} (h : po_X11_inBand f i j k M r M1) : ∀ c i, 103 ≤ c → M1 c i = M c i := by
  exact fun c i l => h.1 c i (by omega)
theorem pq_inBand {f i j k : Int} (J : zJn v M) : pr_X11_inBand f i j k M := ⟨J.1, J.2.1⟩
theorem pk_inBand {f i j k : Int} (J : zJn v M) (h : po_X11_inBand f i j k M r M1) : pr_X12_inBand f i j k M1 := by
  have e := kp_inBand h
  have m := J.2.2.2.1.fr (M' := M1) (fun c i _ l => e c i l)
  exact m
theorem kp_fewest {f m i : Int} (h : po_X11_fewest f m i M r M1) : ∀ c i, 103 ≤ c → M1 c i = M c i := by
  exact fun c i l => h.1 c i (by omega)
theorem pq_fewest {f m i : Int} (J : zJn v M) : pr_X11_fewest f m i M := ⟨J.1, J.2.1⟩
theorem pk_fewest {f m i : Int} (J : zJn v M) (h : po_X11_fewest f m i M r M1) : pr_X12_fewest f m i M1 := by
  have e := kp_fewest h
  have m := J.2.2.2.1.fr (M' := M1) (fun c i _ l => e c i l)
  exact m
theorem kp_drawn {f m a : Int} (h : po_X11_drawn f m a M r M1) : ∀ c i, 103 ≤ c → M1 c i = M c i := by
  exact fun c i l => h.1 c i (by omega)
theorem pq_drawn {f m a : Int} (J : zJn v M) : pr_X11_drawn f m a M := ⟨J.1, J.2.1⟩
theorem pk_drawn {f m a : Int} (J : zJn v M) (h : po_X11_drawn f m a M r M1) : pr_X12_drawn f m a M1 := by
  have e := kp_drawn h
  have m := J.2.2.2.1.fr (M' := M1) (fun c i _ l => e c i l)
  exact m
theorem kp_differ {f m : Int} (h : po_X11_differ f m M r M1) : ∀ c i, 103 ≤ c → M1 c i = M c i := by
  exact fun c i l => h.1 c i (by omega)
theorem pq_differ {f m : Int} (J : zJn v M) : pr_X11_differ f m M := ⟨J.1, J.2.1⟩
theorem pk_differ {f m : Int} (J : zJn v M) (h : po_X11_differ f m M r M1) : pr_X12_differ f m M1 := by
  have e := kp_differ h
  have m := J.2.2.2.1.fr (M' := M1) (fun c i _ l => e c i l)
  exact m
theorem kp_breadth {a k : Int} (h : po_X11_breadth a k M r M1) : ∀ c i, 103 ≤ c → M1 c i = M c i := by
  by_cases kk : (gD (M 1 0) (M 1 1) a ∧ 0 ≤ k ∧ k ≤ 1)
  · exact fun c i l => (h.2 kk).1 c i (by omega)
  · rw [(h.1 kk).2]; exact fun _ _ _ => rfl
theorem pq_breadth {a k : Int} (J : zJn v M) : pr_X11_breadth a k M := ⟨J.1, J.2.1⟩
theorem pk_breadth {a k : Int} (J : zJn v M) (h : po_X11_breadth a k M r M1) : pr_X12_breadth a k M1 := by
  have e := kp_breadth h
  have m := J.2.2.2.1.fr (M' := M1) (fun c i _ l => e c i l)
  exact m
theorem kp_stroke {f n : Int} (h : po_X11_stroke f n M r M1) : ∀ c i, 103 ≤ c → M1 c i = M c i := by
  exact fun c i l => h.1 c i (by omega)
theorem pq_stroke {f n : Int} (J : zJn v M) : pr_X11_stroke f n M := ⟨J.1, J.2.1⟩
theorem pk_stroke {f n : Int} (J : zJn v M) (h : po_X11_stroke f n M r M1) : pr_X12_stroke f n M1 := by
  have e := kp_stroke h
  have m := J.2.2.2.1.fr (M' := M1) (fun c i _ l => e c i l)
  exact m
theorem kp_like {a b : Int} (h : po_X11_like a b M r M1) : ∀ c i, 103 ≤ c → M1 c i = M c i := by
  exact fun c i l => h.1 c i (by omega)
theorem pq_like {a b : Int} (J : zJn v M) : pr_X11_like a b M := ⟨J.1, J.2.1⟩
theorem pk_like {a b : Int} (J : zJn v M) (h : po_X11_like a b M r M1) : pr_X12_like a b M1 := by
  have e := kp_like h
  have m := J.2.2.2.1.fr (M' := M1) (fun c i _ l => e c i l)
  exact m
theorem kp_butFor {a b : Int} (h : po_X11_butFor a b M r M1) : ∀ c i, 103 ≤ c → M1 c i = M c i := by
  exact fun c i l => h.1 c i (by omega)
theorem pq_butFor {a b : Int} (J : zJn v M) : pr_X11_butFor a b M := ⟨J.1, J.2.1⟩
theorem pk_butFor {a b : Int} (J : zJn v M) (h : po_X11_butFor a b M r M1) : pr_X12_butFor a b M1 := by
  have e := kp_butFor h
  have m := J.2.2.2.1.fr (M' := M1) (fun c i _ l => e c i l)
  exact m
theorem kp_leader {f : Int} (h : po_X11_leader f M r M1) : ∀ c i, 103 ≤ c → M1 c i = M c i := by
  exact fun c i l => h.1 c i (by omega)
theorem pq_leader {f : Int} (J : zJn v M) : pr_X11_leader f M := ⟨J.1, J.2.1⟩
theorem pk_leader {f : Int} (J : zJn v M) (h : po_X11_leader f M r M1) : pr_X12_leader f M1 := by
  have e := kp_leader h
  have m := J.2.2.2.1.fr (M' := M1) (fun c i _ l => e c i l)
  exact m
theorem kp_few {k what : Int} (h : po_X11_few k what M r M1) : ∀ c i, 103 ≤ c → M1 c i = M c i := by
  exact fun c i l => h.1 c i (by omega)
theorem pq_few {k what : Int} (J : zJn v M) : pr_X11_few k what M := ⟨J.1, J.2.1⟩
theorem pk_few {k what : Int} (J : zJn v M) (h : po_X11_few k what M r M1) : pr_X12_few k what M1 := by
  have e := kp_few h
  have m := J.2.2.2.1.fr (M' := M1) (fun c i _ l => e c i l)
  exact m
theorem kp_makeFew {k : Int} (h : po_X11_makeFew k M r M1) : ∀ c i, 103 ≤ c → M1 c i = M c i := by
  by_cases kk : (1 ≤ k ∧ k ≤ 4)
  · by_cases k8 : zc (fun c => 0 < gCn (M 1 0) (M 1 1) (M 2) c) 16 ≤ 8
    · obtain ⟨N, _, _, _, _, w, _, ch⟩ := h.2.2 kk k8
      exact fun c' i' l => by rw [ch.2.2.1 c' i' (by omega) (by omega) (by omega) (by omega), w c' i' (by omega)]
    · exact fun c i l => (h.2.1 kk (by omega)).2.1 c i (by omega)
  · rw [(h.1 kk).2]; exact fun _ _ _ => rfl
theorem pq_makeFew {k : Int} (J : zJn v M) : pr_X11_makeFew k M := ⟨J.1, J.2.1⟩
theorem pk_makeFew {k : Int} (J : zJn v M) (h : po_X11_makeFew k M r M1) : pr_X12_makeFew k M1 := by
  have e := kp_makeFew h
  have m := J.2.2.2.1.fr (M' := M1) (fun c i _ l => e c i l)
  exact m
theorem kp_pen {c i : Int} (h : po_X11_pen c i M r M1) : ∀ c i, 103 ≤ c → M1 c i = M c i := by
  by_cases kk : ((0 ≤ c ∧ c ≤ 15) ∧ -1 ≤ i ∧ i ≤ 6)
  · exact fun c i l => (h.2 kk).1 c i (by omega)
  · rw [(h.1 kk).2]; exact fun _ _ _ => rfl
theorem pq_pen {c i : Int} (J : zJn v M) : pr_X11_pen c i M := ⟨J.1, J.2.1⟩
theorem pk_pen {c i : Int} (J : zJn v M) (h : po_X11_pen c i M r M1) : pr_X12_pen c i M1 := by
  have e := kp_pen h
  have m := J.2.2.2.1.fr (M' := M1) (fun c i _ l => e c i l)
  exact m
theorem kp_ruleFault {d : Int} (h : po_X11_ruleFault d M r M1) : ∀ c i, 103 ≤ c → M1 c i = M c i := by
  exact fun c i l => h.1 c i (by omega)
theorem pq_ruleFault {d : Int} (J : zJn v M) : pr_X11_ruleFault d M := ⟨J.1, J.2.1, J.2.2.1⟩
theorem pk_ruleFault {d : Int} (J : zJn v M) (h : po_X11_ruleFault d M r M1) : pr_X12_ruleFault d M1 := by
  have e := kp_ruleFault h
  have m := J.2.2.2.1.fr (M' := M1) (fun c i _ l => e c i l)
  exact m
theorem kp_rule {d : Int} (b12 : 0 ≤ M 57 0 ∧ M 57 0 ≤ 12) (h : po_X11_rule d M r M1) : ∀ c i, 103 ≤ c → M1 c i = M c i := by
  by_cases hd : 0 ≤ d ∧ d < 8
  · by_cases k12 : M 57 0 = 12
    · rw [(h.2.1 hd k12).2]; exact fun _ _ _ => rfl
    · by_cases kk : bTok M d
      · rcases h.2.2.2 kk (by omega) with ⟨q, _, _, w, _⟩ | ⟨_, _, _, _, f, _⟩
        · exact fun c i l => w c i (by omega)
        · exact fun c i l => f c i (by omega) (by omega) (by omega) (by omega) (by omega)
      · rw [(h.2.2.1 hd (by omega) kk).2]; exact fun _ _ _ => rfl
  · rw [(h.1 hd).2]; exact fun _ _ _ => rfl
theorem pq_rule {d : Int} (J : zJn v M) : pr_X11_rule d M := ⟨J.1, J.2.1, J.2.2.1⟩
theorem pk_rule {d : Int} (J : zJn v M) (h : po_X11_rule d M r M1) : pr_X12_rule d M1 := by
  have e := kp_rule J.1.r.1 h
  have m := J.2.2.2.1.fr (M' := M1) (fun c i _ l => e c i l)
  exact m
theorem kp_tell {q v' : Int} (h : po_X11_tell q v' M r M1) : ∀ c i, 103 ≤ c → M1 c i = M c i := by
  by_cases kk : (0 ≤ q ∧ q < M 57 0)
  · rw [(h.2 kk).2]; exact fun c' i' l => zset_n _ (by omega)
  · rw [(h.1 kk).2]; exact fun _ _ _ => rfl
theorem pq_tell {q v' : Int} (hx : v' = 0 ∨ v' = 1) (J : zJn v M) : pr_X11_tell q v' M := ⟨J.1, hx⟩
theorem pk_tell {q v' : Int} (hx : v' = 0 ∨ v' = 1) (J : zJn v M) (h : po_X11_tell q v' M r M1) : pr_X12_tell q v' M1 := by
  have e := kp_tell h
  have m := J.2.2.2.1.fr (M' := M1) (fun c i _ l => e c i l)
  exact ⟨m, hx⟩
theorem kp_sign {f : Int} (h : po_X11_sign f M r M1) : ∀ c i, 103 ≤ c → M1 c i = M c i := by
  exact fun c i l => h.1 c i (by omega) (by omega)
theorem pq_sign {f : Int} (J : zJn v M) : pr_X11_sign f M := ⟨J.1, J.2.1, J.2.2.1, fun q q0 q1 => (J.2.2.2.2.1.2.2.2.2.1.2.2 q q0 q1).2.2⟩
theorem pk_sign {f : Int} (J : zJn v M) (h : po_X11_sign f M r M1) : pr_X12_sign f M1 := by
  have e := kp_sign h
  have m := J.2.2.2.1.fr (M' := M1) (fun c i _ l => e c i l)
  exact m
theorem kp_undo (h : po_X11_undo M r M1) : ∀ c i, 103 ≤ c → M1 c i = M c i := by
  by_cases kk : M 77 0 = 0
  · rw [(h.1 kk).2]; exact fun _ _ _ => rfl
  · exact fun c i l => (h.2 kk).1 c i (by omega) (by omega) (by omega) (by omega) (by omega)
theorem pq_undo (J : zJn v M) : pr_X11_undo M := ⟨by have := J.1.h; omega, by have := J.1.h; omega, J.1.h.2.1, J.1.v, J.1.c, J.1.h.2.2⟩
theorem pk_undo (J : zJn v M) (h : po_X11_undo M r M1) : pr_X12_undo M1 := by
  have e := kp_undo h
  have m := J.2.2.2.1.fr (M' := M1) (fun c i _ l => e c i l)
  exact by have := m.h.1; omega
theorem kp_redo (h : po_X11_redo M r M1) : ∀ c i, 103 ≤ c → M1 c i = M c i := by
  by_cases kk : M 77 1 = 0
  · rw [(h.1 kk).2]; exact fun _ _ _ => rfl
  · exact fun c i l => (h.2 kk).1 c i (by omega) (by omega) (by omega) (by omega) (by omega)
theorem pq_redo (J : zJn v M) : pr_X11_redo M := ⟨by have := J.1.h; omega, by have := J.1.h; omega, J.1.h.2.1, J.1.v, J.1.c, J.1.h.2.2⟩
theorem pk_redo (J : zJn v M) (h : po_X11_redo M r M1) : pr_X12_redo M1 := by
  have e := kp_redo h
  have m := J.2.2.2.1.fr (M' := M1) (fun c i _ l => e c i l)
  exact m.h.1
theorem kp_image (h : po_X11_image M r M1) : ∀ c i, 103 ≤ c → M1 c i = M c i := by
  exact fun c i l => h.2.1 c i (by omega) (by omega) (by omega) (by omega) (by omega) (by omega)
theorem pq_image (J : zJn v M) : pr_X11_image M := ⟨J.1.d, J.1.i.1, J.1.c, J.1.r.2.2.1⟩
theorem pk_image (J : zJn v M) (h : po_X11_image M r M1) : pr_X12_image M1 := by
  have e := kp_image h
  have m := J.2.2.2.1.fr (M' := M1) (fun c i _ l => e c i l)
  exact ⟨m.d, m.r.2.2.1⟩
theorem kp_restore (h : po_X11_restore M r M1) : ∀ c i, 103 ≤ c → M1 c i = M c i := by
  exact fun c i l => h.2.1 c i (by omega) (by omega) (by omega) (by omega) (by omega) (by omega)
theorem pq_restore (J : zJn v M) : pr_X11_restore M := ⟨J.1.i.2.1, J.1.v, J.1.i.2.2.1, J.1.r.2.2.2.1⟩
theorem pk_restore (J : zJn v M) (h : po_X11_restore M r M1) : pr_X12_restore M1 := by
  have e := kp_restore h
  have m := J.2.2.2.1.fr (M' := M1) (fun c i _ l => e c i l)
  exact ⟨m.i.1, m.r.2.2.2.1⟩
theorem kp_count {k : Int} (h : po_X11_count k M r M1) : ∀ c i, 103 ≤ c → M1 c i = M c i := by
  exact fun c i l => h.1 c i (by omega)
theorem pq_count {k : Int} (J : zJn v M) : pr_X11_count k M := ⟨J.1, J.2.1⟩
theorem pk_count {k : Int} (J : zJn v M) (h : po_X11_count k M r M1) : pr_X12_count k M1 := by
  have e := kp_count h
  have m := J.2.2.2.1.fr (M' := M1) (fun c i _ l => e c i l)
  exact m
theorem kp_keep {d what k f told : Int} (h : po_X11_keep d what k f told M r M1) : ∀ c i, 103 ≤ c → M1 c i = M c i := by
  by_cases hd : (0 ≤ d ∧ d < 8) ∧ 0 ≤ what ∧ what ≤ 1
  · by_cases h0 : what = 0
    · rw [(h.2.1 hd.1 h0).2]; exact fun c i l => by rw [zset_n _ (by omega), zset_n _ (by omega)]
    · by_cases hk : 0 ≤ k ∧ k ≤ 4
      · obtain ⟨N, wN, _, nn, yy⟩ := h.2.2.2 hd.1 (by omega) hk
        have near : ∀ c i, 103 ≤ c → M1 c i = N c i := by
          by_cases a : (0 ≤ f ∧ f < N 5 2) ∧ 0 ≤ told
          · obtain ⟨n, _, p, q⟩ := yy a
            by_cases b : told / 1000 ≤ n ∧ told % 1000 ≤ n
            · obtain ⟨_, gg, x, y, _, _, _, _, _, _, e1⟩ := q b
              exact fun c i l => by rw [e1, zset_n _ (by omega), zset_n _ (by omega), zset_n _ (by omega), zset_n _ (by omega), zset_n _ (by omega), zset_n _ (by omega), zset_n _ (by omega)]
            · rw [(p b).2]; exact fun _ _ _ => rfl
          · rw [(nn a).2]; exact fun _ _ _ => rfl
        exact fun c i l => by rw [near c i l, wN c i (by omega)]
      · rw [(h.2.2.1 hd.1 (by omega) hk).2]; exact fun _ _ _ => rfl
  · rw [(h.1 hd).2]; exact fun _ _ _ => rfl
theorem pq_keep {d what k f told : Int} (J : zJn v M) : pr_X11_keep d what k f told M := ⟨J.1, J.2.1⟩
theorem pk_keep {d what k f told : Int} (J : zJn v M) (h : po_X11_keep d what k f told M r M1) : pr_X12_keep d what k f told M1 := by
  have e := kp_keep h
  have m := J.2.2.2.1.fr (M' := M1) (fun c i _ l => e c i l)
  exact m
theorem kp_row {d s n : Int} (h : po_X11_row d s n M r M1) : ∀ c i, 103 ≤ c → M1 c i = M c i := by
  by_cases kk : ((0 ≤ d ∧ d < 8) ∧ (0 ≤ s ∧ s ≤ 2) ∧ n ≤ 120)
  · by_cases k2 : n < 0
    · rw [(h.2.1 kk k2).2]; exact fun _ _ _ => rfl
    · obtain ⟨_, _, _, _, _, f⟩ := h.2.2 kk (by omega)
      exact fun c' i' l => f c' i' (by omega) (by omega)
  · rw [(h.1 kk).2]; exact fun _ _ _ => rfl
theorem pq_row {d s n : Int} (J : zJn v M) : pr_X11_row d s n M := J.1
theorem pk_row {d s n : Int} (J : zJn v M) (h : po_X11_row d s n M r M1) : pr_X12_row d s n M1 := by
  have e := kp_row h
  have m := J.2.2.2.1.fr (M' := M1) (fun c i _ l => e c i l)
  exact m
theorem kp_put {d i v' : Int} (h : po_X11_put d i v' M r M1) : ∀ c i, 103 ≤ c → M1 c i = M c i := by
  by_cases kk : ((0 ≤ d ∧ d < 8) ∧ M (26 + 2 * d) 0 = 2)
  · by_cases k2 : 0 ≤ i ∧ i < M (26 + 2 * d) 2
    · rw [(h.2.2 kk k2).2]; exact fun c' i' l => zset_n _ (by omega)
    · rw [(h.2.1 kk k2).2]; exact fun _ _ _ => rfl
  · rw [(h.1 kk).2]; exact fun _ _ _ => rfl
theorem pq_put {d i v' : Int} (J : zJn v M) : pr_X11_put d i v' M := J.1
theorem pk_put {d i v' : Int} (J : zJn v M) (h : po_X11_put d i v' M r M1) : pr_X12_put d i v' M1 := by
  have e := kp_put h
  have m := J.2.2.2.1.fr (M' := M1) (fun c i _ l => e c i l)
  exact m
theorem kp_copy {d i e j n : Int} (h : po_X11_copy d i e j n M r M1) : ∀ c i, 103 ≤ c → M1 c i = M c i := by
  by_cases kk : (((0 ≤ d ∧ d < 8) ∧ (0 ≤ e ∧ e < 8)) ∧ (M (26 + 2 * d) 0 = 2 ∧ M (26 + 2 * e) 0 = 2 ∧ M (26 + 2 * d) 1 = M (26 + 2 * e) 1) ∧ 0 ≤ n ∧ (0 ≤ i ∧ i + n ≤ M (26 + 2 * d) 2) ∧ (0 ≤ j ∧ j + n ≤ M (26 + 2 * e) 2))
  · rw [(h.2 kk).2]; exact fun c' i' l => zcpy_n _ (by omega)
  · rw [(h.1 kk).2]; exact fun _ _ _ => rfl
theorem pq_copy {d i e j n : Int} (J : zJn v M) : pr_X11_copy d i e j n M := J.1
theorem pk_copy {d i e j n : Int} (J : zJn v M) (h : po_X11_copy d i e j n M r M1) : pr_X12_copy d i e j n M1 := by
  have e := kp_copy h
  have m := J.2.2.2.1.fr (M' := M1) (fun c i _ l => e c i l)
  exact m
theorem kp_reach {d : Int} (h : po_X11_reach d M r M1) : ∀ c i, 103 ≤ c → M1 c i = M c i := by
  rw [h.1]; exact fun _ _ _ => rfl
theorem pq_reach {d : Int} (J : zJn v M) : pr_X11_reach d M := J.1
theorem pk_reach {d : Int} (J : zJn v M) (h : po_X11_reach d M r M1) : pr_X12_reach d M1 := by
  have e := kp_reach h
  have m := J.2.2.2.1.fr (M' := M1) (fun c i _ l => e c i l)
  exact ⟨m, fun d0 d1 => by rw [e 134 d (by omega)]; exact (J.2.2.2.2.1.2.2.2.2.2.2 d d0 d1).1.2⟩
theorem kp_toss {d : Int} (h : po_X11_toss d M r M1) : ∀ c i, 103 ≤ c → M1 c i = M c i := by
  rw [h.1]; exact fun _ _ _ => rfl
theorem pq_toss {d : Int} (J : zJn v M) : pr_X11_toss d M := J.1
theorem pk_toss {d : Int} (J : zJn v M) (h : po_X11_toss d M r M1) : pr_X12_toss d M1 := by
  have e := kp_toss h
  have m := J.2.2.2.1.fr (M' := M1) (fun c i _ l => e c i l)
  exact ⟨m, fun d0 d1 => by rw [e 134 d (by omega)]; exact (J.2.2.2.2.1.2.2.2.2.2.2 d d0 d1).1.2⟩
end
