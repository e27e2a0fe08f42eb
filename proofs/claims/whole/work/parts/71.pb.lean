def qI (p q : Prop) (r : Int) : Prop := (p ∧ q) ∨ (¬ p ∧ r = -1)
theorem qI.y {p q : Prop} {r : Int} (a : p) (b : q) : qI p q r := .inl ⟨a, b⟩
theorem qI.n {p q : Prop} (a : ¬ p) : qI p q (-1) := .inr ⟨a, rfl⟩
theorem qI.eq {p q p' q' : Prop} {r r' : Int} (h : qI p q r) (g : qI p' q' r') (e : p ↔ p') (u : p → q → q' → r = r') : r = r' := by
  rcases h with ⟨a, b⟩ | ⟨a, b⟩
  · rcases g with ⟨c, d⟩ | ⟨c, d⟩
    · exact u a b d
    · exact absurd (e.1 a) c
  · rcases g with ⟨c, d⟩ | ⟨c, d⟩
    · exact absurd (e.2 c) a
    · rw [b, d]
def qFa (w h t : Int) (D L F : Int → Int) (N f k r : Int) : Prop :=
  if k = 0 then r = zc (fun i => L i = f) 192 else if k = 1 then r = D (F f) else if k = 2 then r = F f else
  if k = 3 ∨ k = 4 ∨ k = 5 ∨ k = 6 then ∃ l rr u b, gBox (gD w h) L f l rr u b ∧ r = (if k = 3 then l else if k = 4 then u else if k = 5 then rr - l + 1 else b - u + 1) else
  if k = 7 then ∃ Q, gHo w h t L f Q (r + 1) else if k = 8 then r = zc (fun o => o ≠ f ∧ gNB w h L f o) N else if k = 9 then r = zc (fun o => o ≠ f ∧ gLies w h t L F f o) N else
  if k = 10 then gGb (zg w h L) f r else gPer (zg w h L) f t (gS0 (F f)) r
theorem qFa_box {w h t : Int} {D L F : Int → Int} {N f k r l rr u b : Int} (hk : k = 3 ∨ k = 4 ∨ k = 5 ∨ k = 6) (H : gBox (gD w h) L f l rr u b) (e : r = (if k = 3 then l else if k = 4 then u else if k = 5 then rr - l + 1 else b - u + 1)) : qFa w h t D L F N f k r := by
  unfold qFa
  rw [if_neg (by omega), if_neg (by omega), if_neg (by omega), if_pos hk]
  exact ⟨l, rr, u, b, H, e⟩
theorem bQ.N {M : zM} (H : bQ M) (hI : bI M) : 0 ≤ M 5 2 ∧ M 5 2 ≤ 192 := H.ok.N hI.d
theorem bQ.bx {M : zM} (H : bQ M) (hI : bI M) {f : Int} (ha : 0 ≤ f ∧ f < M 5 2) : gBox (gD (M 1 0) (M 1 1)) (M 12) f (M 8 f) (M 10 f) (M 9 f) (M 11 f) ∧ 0 ≤ M 8 f ∧ M 8 f ≤ M 10 f ∧ M 10 f < 16 ∧ 0 ≤ M 9 f ∧ M 9 f ≤ M 11 f ∧ M 11 f < 12 := by
  have hd := hI.d
  have b := H.ok.2.2 f ha.1 ha.2
  have := (b.box (by omega) (by omega)).2
  exact ⟨b.2, by omega, by omega, by omega, by omega, by omega, by omega⟩
theorem bQ.F {M : zM} (H : bQ M) (hI : bI M) {f : Int} (ha : 0 ≤ f ∧ f < M 5 2) : gD (M 1 0) (M 1 1) (M 7 f) ∧ M 12 (M 7 f) = f := H.ok.1.fst f ha.1 ha.2
abbrev pr_X11_isPoint (f : Int) (i : Int) (M : zM) : Prop := (bI M) ∧ (bK M)
abbrev po_X11_isPoint (f : Int) (i : Int) (M : zM) (r : Int) (M' : zM) : Prop := (∀ c i, ¬ (5 ≤ c ∧ c ≤ 24) → M' c i = M c i) ∧ (bQ M') ∧ ((r = 1 ∧ (0 ≤ f ∧ f < M' 5 2) ∧ (0 ≤ i ∧ i < M' 17 1) ∧ bBk M' f) ∨ (r = 0 ∧ (¬ (0 ≤ f ∧ f < M' 5 2) ∨ ((0 ≤ f ∧ f < M' 5 2) ∧ bBk M' f ∧ ¬ (0 ≤ i ∧ i < M' 17 1)))))
set_option maxHeartbeats 1000000 in
theorem ok_X11_isPoint : zSnd zS 145 0 0 yX11_isPoint cX11_isPoint 3 (some .boolean) 5 [2, 0, 0] (F_X11_isPoint pr_X11_isPoint po_X11_isPoint) := by
  refine (sn_X11_isPoint ok_X11_isFace ok_X1_trace).mono ?_
  rintro xs P M hz hR ⟨f, i, rfl, ⟨hI, hK⟩, hP⟩
  refine ⟨_, _, rfl, ?_⟩
  have z_f := zall_h (zall_t hz) (by decide)
  have z_i := zall_h (zall_t (zall_t hz)) (by decide)
  change vc_X11_isPoint pr_X11_isFace po_X11_isFace pr_X1_trace po_X1_trace f i P M
  unfold vc_X11_isPoint
  have gc1 : pr_X11_isFace f M := by
    refine ⟨?_, ?_⟩
    · show bI M  -- c1.hI
      exact hI
    · show bK M  -- c1.hK
      exact hK
  refine ⟨gc1, ?_⟩
  rintro r1 M2 ⟨pc1_hf, pc1_hQ, pc1_hs, pc1_hr⟩ z_r1 z_M2
  have I2 := hI.face pc1_hf
  have N2 := pc1_hQ.N I2
  refine ⟨fun b1 => ?_, fun b1 => ?_⟩
  · -- b1.1
    have ha := pc1_hr.ne.1 b1
    have gc2 : pr_X1_trace f M2 := by
      refine ⟨?_, ?_, ?_, ?_, ?_⟩
      · show bDim M2  -- c2.hd
        exact I2.d
      · show M2 1 2 = 0 ∨ M2 1 2 = 1  -- c2.ht
        exact I2.t
      · show bFok M2  -- c2.hF
        exact pc1_hQ.ok
      · show 0 ≤ f ∧ f < M2 5 2  -- c2.ha
        exact ha
      · show M2 17 6 = M2 5 1 → M2 17 7 = f → bBk M2 f  -- c2.hk
        exact pc1_hQ.bk
    refine ⟨gc2, ?_⟩
    rintro M8 ⟨pc2_hf, pc2_h6, pc2_h7, pc2_hB⟩ z_M8
    have Q8 := pc1_hQ.trace pc2_hf pc2_h6 pc2_h7 pc2_hB
    have w8 : ∀ c i, ¬ (5 ≤ c ∧ c ≤ 24) → M8 c i = M c i := fun c i k => by rw [pc2_hf c i (by omega) (by omega) (by omega) (by omega) (by omega), pc1_hf c i (by omega) (by omega)]
    have n8 : M8 5 2 = M2 5 2 := pc2_hf 5 2 (by omega) (by omega) (by omega) (by omega) (by omega)
    refine ⟨fun b2 => ?_, fun b2 => ?_⟩
    · -- b2.1
      refine hP _ _ ⟨?_, ?_, ?_⟩
      · show ∀ c i, ¬ (5 ≤ c ∧ c ≤ 24) → M8 c i = M c i  -- p1.hw
        exact w8
      · show bQ M8  -- p1.hQ
        exact Q8
      · show (0 = 1 ∧ (0 ≤ f ∧ f < M8 5 2) ∧ (0 ≤ i ∧ i < M8 17 1) ∧ bBk M8 f) ∨ (0 = 0 ∧ (¬ (0 ≤ f ∧ f < M8 5 2) ∨ ((0 ≤ f ∧ f < M8 5 2) ∧ bBk M8 f ∧ ¬ (0 ≤ i ∧ i < M8 17 1))))  -- p1.hr
        exact .inr ⟨rfl, .inr ⟨by omega, pc2_hB, by omega⟩⟩
    · -- b2.2
      refine ⟨fun b3 => ?_, fun b3 => ?_⟩
      · -- b3.1
        refine hP _ _ ⟨?_, ?_, ?_⟩
        · show ∀ c i, ¬ (5 ≤ c ∧ c ≤ 24) → M8 c i = M c i  -- p2.hw
          exact w8
        · show bQ M8  -- p2.hQ
          exact Q8
        · show (0 = 1 ∧ (0 ≤ f ∧ f < M8 5 2) ∧ (0 ≤ i ∧ i < M8 17 1) ∧ bBk M8 f) ∨ (0 = 0 ∧ (¬ (0 ≤ f ∧ f < M8 5 2) ∨ ((0 ≤ f ∧ f < M8 5 2) ∧ bBk M8 f ∧ ¬ (0 ≤ i ∧ i < M8 17 1))))  -- p2.hr
          exact .inr ⟨rfl, .inr ⟨by omega, pc2_hB, by omega⟩⟩
      · -- b3.2
        refine hP _ _ ⟨?_, ?_, ?_⟩
        · show ∀ c i, ¬ (5 ≤ c ∧ c ≤ 24) → M8 c i = M c i  -- p3.hw
          exact w8
        · show bQ M8  -- p3.hQ
          exact Q8
        · show (1 = 1 ∧ (0 ≤ f ∧ f < M8 5 2) ∧ (0 ≤ i ∧ i < M8 17 1) ∧ bBk M8 f) ∨ (1 = 0 ∧ (¬ (0 ≤ f ∧ f < M8 5 2) ∨ ((0 ≤ f ∧ f < M8 5 2) ∧ bBk M8 f ∧ ¬ (0 ≤ i ∧ i < M8 17 1))))  -- p3.hr
          exact .inl ⟨rfl, by omega, by omega, pc2_hB⟩
  · -- b1.2
    refine hP _ _ ⟨?_, ?_, ?_⟩
    · show ∀ c i, ¬ (5 ≤ c ∧ c ≤ 24) → M2 c i = M c i  -- p4.hw
      intro c i k; exact pc1_hf c i (by omega) (by omega)
    · show bQ M2  -- p4.hQ
      exact pc1_hQ
    · show (0 = 1 ∧ (0 ≤ f ∧ f < M2 5 2) ∧ (0 ≤ i ∧ i < M2 17 1) ∧ bBk M2 f) ∨ (0 = 0 ∧ (¬ (0 ≤ f ∧ f < M2 5 2) ∨ ((0 ≤ f ∧ f < M2 5 2) ∧ bBk M2 f ∧ ¬ (0 ≤ i ∧ i < M2 17 1))))  -- p4.hr
      exact .inr ⟨rfl, .inl (pc1_hr.z.1 b1)⟩

abbrev pr_X11_measure (f : Int) (k : Int) (M : zM) : Prop := (bI M) ∧ (bQ M) ∧ (0 ≤ f ∧ f < M 5 2) ∧ (0 ≤ k ∧ k < 12)
abbrev po_X11_measure (f : Int) (k : Int) (M : zM) (r : Int) (M' : zM) : Prop := (∀ c i, ¬ (13 ≤ c ∧ c ≤ 24) → ¬ (48 ≤ c ∧ c ≤ 49) → ¬ (c = 5 ∧ 14 ≤ i) → M' c i = M c i) ∧ (bQ M') ∧ (qFa (M 1 0) (M 1 1) (M 1 2) (M 2) (M 12) (M 7) (M 5 2) f k r)
set_option maxHeartbeats 1000000 in
theorem ok_X11_measure : zSnd zS 145 0 0 yX11_measure cX11_measure 3 (some .int) 5 [2, 0, 0] (F_X11_measure pr_X11_measure po_X11_measure) := by
  refine (sn_X11_measure ok_X2_colour ok_X2_width ok_X2_height ok_X2_markHoles ok_X2_countBeside ok_X2_depth ok_X9_greatestBreadth ok_X1_trace).mono ?_
  rintro xs P M hz hR ⟨f, k, rfl, ⟨hI, hQ, ha, hk⟩, hP⟩
  refine ⟨_, _, rfl, ?_⟩
  have z_f := zall_h (zall_t hz) (by decide)
  have z_k := zall_h (zall_t (zall_t hz)) (by decide)
  change vc_X11_measure pr_X2_colour po_X2_colour pr_X2_width po_X2_width pr_X2_height po_X2_height pr_X2_markHoles po_X2_markHoles pr_X2_countBeside po_X2_countBeside pr_X2_depth po_X2_depth pr_X9_greatestBreadth po_X9_greatestBreadth pr_X1_trace po_X1_trace f k P M
  unfold vc_X11_measure
  have hN := hQ.N hI
  have hB := hQ.bx hI ha
  have hF := hQ.F hI ha
  have hd := hI.d
  refine ⟨fun b1 => ?_, fun b1 => ?_⟩
  · -- b1.1
    have o1 : ((0 : Int) ≤ f ∧ f < 192) := by
      first | with_reducible assumption | omega | exact trivial | with_reducible rfl  -- o1
    refine ⟨o1, ?_⟩
    refine hP _ _ ⟨?_, ?_, ?_⟩
    · show ∀ c i, ¬ (13 ≤ c ∧ c ≤ 24) → ¬ (48 ≤ c ∧ c ≤ 49) → ¬ (c = 5 ∧ 14 ≤ i) → M c i = M c i  -- p1.hf
      intro c i _ _ _; rfl
    · show bQ M  -- p1.hQ
      exact hQ
    · show qFa (M 1 0) (M 1 1) (M 1 2) (M 2) (M 12) (M 7) (M 5 2) f k (M 6 f)  -- p1.hr
      unfold qFa; rw [if_pos b1]; exact (hQ.ok.2.2 f ha.1 ha.2).1
  · -- b1.2
    refine ⟨fun b2 => ?_, fun b2 => ?_⟩
    · -- b2.1
      have gc1 : pr_X2_colour f M := by
        refine ⟨?_, ?_, ?_⟩
        · show bDim M  -- c1.hd
          exact hI.d
        · show 0 ≤ f ∧ f < 192  -- c1.hf
          omega
        · show gD (M 1 0) (M 1 1) (M 7 f)  -- c1.hF
          exact hF.1
      refine ⟨gc1, ?_⟩
      rintro r2 M3 ⟨q_rfl, e_r2⟩ z_r2 z_M3
      have q_rfl := q_rfl.symm
      subst q_rfl
      refine hP _ _ ⟨?_, ?_, ?_⟩
      · show ∀ c i, ¬ (13 ≤ c ∧ c ≤ 24) → ¬ (48 ≤ c ∧ c ≤ 49) → ¬ (c = 5 ∧ 14 ≤ i) → M c i = M c i  -- p2.hf
        intro c i _ _ _; rfl
      · show bQ M  -- p2.hQ
        exact hQ
      · show qFa (M 1 0) (M 1 1) (M 1 2) (M 2) (M 12) (M 7) (M 5 2) f k r2  -- p2.hr
        unfold qFa; rw [if_neg b1, if_pos b2]; exact e_r2
    · -- b2.2
      refine ⟨fun b3 => ?_, fun b3 => ?_⟩
      · -- b3.1
        have o2 : ((0 : Int) ≤ f ∧ f < 192) := by
          first | with_reducible assumption | omega | exact trivial | with_reducible rfl  -- o2
        refine ⟨o2, ?_⟩
        refine hP _ _ ⟨?_, ?_, ?_⟩
        · show ∀ c i, ¬ (13 ≤ c ∧ c ≤ 24) → ¬ (48 ≤ c ∧ c ≤ 49) → ¬ (c = 5 ∧ 14 ≤ i) → M c i = M c i  -- p3.hf
          intro c i _ _ _; rfl
        · show bQ M  -- p3.hQ
          exact hQ
        · show qFa (M 1 0) (M 1 1) (M 1 2) (M 2) (M 12) (M 7) (M 5 2) f k (M 7 f)  -- p3.hr
          unfold qFa; rw [if_neg b1, if_neg b2, if_pos b3]
      · -- b3.2
        refine ⟨fun b4 => ?_, fun b4 => ?_⟩
        · -- b4.1
          have o3 : ((0 : Int) ≤ f ∧ f < 192) := by
            first | with_reducible assumption | omega | exact trivial | with_reducible rfl  -- o3
          refine ⟨o3, ?_⟩
          refine hP _ _ ⟨?_, ?_, ?_⟩
          · show ∀ c i, ¬ (13 ≤ c ∧ c ≤ 24) → ¬ (48 ≤ c ∧ c ≤ 49) → ¬ (c = 5 ∧ 14 ≤ i) → M c i = M c i  -- p4.hf
            intro c i _ _ _; rfl
          · show bQ M  -- p4.hQ
            exact hQ
          · show qFa (M 1 0) (M 1 1) (M 1 2) (M 2) (M 12) (M 7) (M 5 2) f k (M 8 f)  -- p4.hr
            exact qFa_box (by omega) hB.1 (by rw [if_pos b4])
        · -- b4.2
          refine ⟨fun b5 => ?_, fun b5 => ?_⟩
          · -- b5.1
            have o4 : ((0 : Int) ≤ f ∧ f < 192) := by
              first | with_reducible assumption | omega | exact trivial | with_reducible rfl  -- o4
            refine ⟨o4, ?_⟩
            refine hP _ _ ⟨?_, ?_, ?_⟩
            · show ∀ c i, ¬ (13 ≤ c ∧ c ≤ 24) → ¬ (48 ≤ c ∧ c ≤ 49) → ¬ (c = 5 ∧ 14 ≤ i) → M c i = M c i  -- p5.hf
              intro c i _ _ _; rfl
            · show bQ M  -- p5.hQ
              exact hQ
            · show qFa (M 1 0) (M 1 1) (M 1 2) (M 2) (M 12) (M 7) (M 5 2) f k (M 9 f)  -- p5.hr
              exact qFa_box (by omega) hB.1 (by rw [if_neg b4, if_pos b5])
          · -- b5.2
            refine ⟨fun b6 => ?_, fun b6 => ?_⟩
            · -- b6.1
              have gc2 : pr_X2_width f M := by
                refine ⟨?_, ?_⟩
                · show 0 ≤ f ∧ f < 192  -- c2.hf
                  omega
                · show 0 ≤ M 8 f ∧ M 8 f ≤ M 10 f ∧ M 10 f < 16  -- c2.hb
                  omega
              refine ⟨gc2, ?_⟩
              rintro r11 M12 ⟨q_rfl, e_r11⟩ z_r11 z_M12
              have q_rfl := q_rfl.symm
              subst q_rfl
              refine hP _ _ ⟨?_, ?_, ?_⟩
              · show ∀ c i, ¬ (13 ≤ c ∧ c ≤ 24) → ¬ (48 ≤ c ∧ c ≤ 49) → ¬ (c = 5 ∧ 14 ≤ i) → M c i = M c i  -- p6.hf
                intro c i _ _ _; rfl
              · show bQ M  -- p6.hQ
                exact hQ
              · show qFa (M 1 0) (M 1 1) (M 1 2) (M 2) (M 12) (M 7) (M 5 2) f k r11  -- p6.hr
                exact qFa_box (by omega) hB.1 (by rw [if_neg b4, if_neg b5, if_pos b6]; exact e_r11)
            · -- b6.2
              refine ⟨fun b7 => ?_, fun b7 => ?_⟩
              · -- b7.1
                have gc3 : pr_X2_height f M := by
                  refine ⟨?_, ?_⟩
                  · show 0 ≤ f ∧ f < 192  -- c3.hf
                    omega
                  · show 0 ≤ M 9 f ∧ M 9 f ≤ M 11 f ∧ M 11 f < 12  -- c3.hb
                    omega
                refine ⟨gc3, ?_⟩
                rintro r17 M18 ⟨q_rfl, e_r17⟩ z_r17 z_M18
                have q_rfl := q_rfl.symm
                subst q_rfl
                refine hP _ _ ⟨?_, ?_, ?_⟩
                · show ∀ c i, ¬ (13 ≤ c ∧ c ≤ 24) → ¬ (48 ≤ c ∧ c ≤ 49) → ¬ (c = 5 ∧ 14 ≤ i) → M c i = M c i  -- p7.hf
                  intro c i _ _ _; rfl
                · show bQ M  -- p7.hQ
                  exact hQ
                · show qFa (M 1 0) (M 1 1) (M 1 2) (M 2) (M 12) (M 7) (M 5 2) f k r17  -- p7.hr
                  exact qFa_box (by omega) hB.1 (by rw [if_neg b4, if_neg b5, if_neg b6]; exact e_r17)
              · -- b7.2
                refine ⟨fun b8 => ?_, fun b8 => ?_⟩
                · -- b8.1
                  have gc4 : pr_X2_markHoles f M := by
                    refine ⟨?_, ?_, ?_, ?_⟩
                    · show bDim M  -- c4.hd
                      exact hI.d
                    · show M 1 2 = 0 ∨ M 1 2 = 1  -- c4.ht
                      exact hI.t
                    · show bFok M  -- c4.hF
                      exact hQ.ok
                    · show 0 ≤ f ∧ f < M 5 2  -- c4.ha
                      exact ha
                  refine ⟨gc4, ?_⟩
                  rintro r23 M24 ⟨pc4_hf, pc4_h14, pc4_h15, pc4_h16, pc4_h17, pc4_hL⟩ z_r23 z_M24
                  refine hP _ _ ⟨?_, ?_, ?_⟩
                  · show ∀ c i, ¬ (13 ≤ c ∧ c ≤ 24) → ¬ (48 ≤ c ∧ c ≤ 49) → ¬ (c = 5 ∧ 14 ≤ i) → M24 c i = M c i  -- p8.hf
                    intro c i k1 k2 k3; exact pc4_hf c i (by omega) (by omega) (by omega)
                  · show bQ M24  -- p8.hQ
                    exact hQ.fr (fun c i k1 => pc4_hf c i (by omega) (by omega) (by omega))
                  · show qFa (M 1 0) (M 1 1) (M 1 2) (M 2) (M 12) (M 7) (M 5 2) f k r23  -- p8.hr
                    unfold qFa; rw [if_neg b1, if_neg b2, if_neg b3, if_neg (by omega), if_pos b8]; exact ⟨_, pc4_hL⟩
                · -- b8.2
                  refine ⟨fun b9 => ?_, fun b9 => ?_⟩
                  · -- b9.1
                    have gc5 : pr_X2_countBeside f M := by
                      refine ⟨?_, ?_, ?_⟩
                      · show bDim M  -- c5.hd
                        exact hI.d
                      · show bFok M  -- c5.hF
                        exact hQ.ok
                      · show 0 ≤ f ∧ f < M 5 2  -- c5.ha
                        exact ha
                    refine ⟨gc5, ?_⟩
                    rintro r29 M30 ⟨pc5_hf, pc5_hr⟩ z_r29 z_M30
                    refine hP _ _ ⟨?_, ?_, ?_⟩
                    · show ∀ c i, ¬ (13 ≤ c ∧ c ≤ 24) → ¬ (48 ≤ c ∧ c ≤ 49) → ¬ (c = 5 ∧ 14 ≤ i) → M30 c i = M c i  -- p9.hf
                      intro c i k1 k2 k3; exact pc5_hf c i (by omega)
                    · show bQ M30  -- p9.hQ
                      exact hQ.fr (fun c i k1 => pc5_hf c i (by omega))
                    · show qFa (M 1 0) (M 1 1) (M 1 2) (M 2) (M 12) (M 7) (M 5 2) f k r29  -- p9.hr
                      unfold qFa; rw [if_neg b1, if_neg b2, if_neg b3, if_neg (by omega), if_neg b8, if_pos b9]; exact pc5_hr
                  · -- b9.2
                    refine ⟨fun b10 => ?_, fun b10 => ?_⟩
                    · -- b10.1
                      have gc6 : pr_X2_depth f M := by
                        refine ⟨?_, ?_, ?_, ?_⟩
                        · show bDim M  -- c6.hd
                          exact hI.d
                        · show M 1 2 = 0 ∨ M 1 2 = 1  -- c6.ht
                          exact hI.t
                        · show bFok M  -- c6.hF
                          exact hQ.ok
                        · show 0 ≤ f ∧ f < M 5 2  -- c6.ha
                          exact ha
                      refine ⟨gc6, ?_⟩
                      rintro r35 M36 ⟨pc6_hf, pc6_hr⟩ z_r35 z_M36
                      refine hP _ _ ⟨?_, ?_, ?_⟩
                      · show ∀ c i, ¬ (13 ≤ c ∧ c ≤ 24) → ¬ (48 ≤ c ∧ c ≤ 49) → ¬ (c = 5 ∧ 14 ≤ i) → M36 c i = M c i  -- p10.hf
                        intro c i k1 k2 k3; exact pc6_hf c i (by omega) (by omega) (by omega)
                      · show bQ M36  -- p10.hQ
                        exact hQ.fr (fun c i k1 => pc6_hf c i (by omega) (by omega) (by omega))
                      · show qFa (M 1 0) (M 1 1) (M 1 2) (M 2) (M 12) (M 7) (M 5 2) f k r35  -- p10.hr
                        unfold qFa; rw [if_neg b1, if_neg b2, if_neg b3, if_neg (by omega), if_neg b8, if_neg b9, if_pos b10]; exact pc6_hr
                    · -- b10.2
                      refine ⟨fun b11 => ?_, fun b11 => ?_⟩
                      · -- b11.1
                        have gc7 : pr_X9_greatestBreadth f M := by
                          refine ⟨?_, ?_⟩
                          · show bDim M  -- c7.hd
                            exact hI.d
                          · show 0 ≤ f  -- c7.hf0
                            omega
                        refine ⟨gc7, ?_⟩
                        rintro r41 M42 ⟨pc7_hf, pc7_hr, pc7_hb⟩ z_r41 z_M42
                        refine hP _ _ ⟨?_, ?_, ?_⟩
                        · show ∀ c i, ¬ (13 ≤ c ∧ c ≤ 24) → ¬ (48 ≤ c ∧ c ≤ 49) → ¬ (c = 5 ∧ 14 ≤ i) → M42 c i = M c i  -- p11.hf
                          intro c i k1 k2 k3; exact pc7_hf c i (by omega) (by omega)
                        · show bQ M42  -- p11.hQ
                          exact hQ.fr (fun c i k1 => pc7_hf c i (by omega) (by omega))
                        · show qFa (M 1 0) (M 1 1) (M 1 2) (M 2) (M 12) (M 7) (M 5 2) f k r41  -- p11.hr
                          unfold qFa; rw [if_neg b1, if_neg b2, if_neg b3, if_neg (by omega), if_neg b8, if_neg b9, if_neg b10, if_pos b11]; exact pc7_hr
                      · -- b11.2
                        have gc8 : pr_X1_trace f M := by
                          refine ⟨?_, ?_, ?_, ?_, ?_⟩
                          · show bDim M  -- c8.hd
                            exact hI.d
                          · show M 1 2 = 0 ∨ M 1 2 = 1  -- c8.ht
                            exact hI.t
                          · show bFok M  -- c8.hF
                            exact hQ.ok
                          · show 0 ≤ f ∧ f < M 5 2  -- c8.ha
                            exact ha
                          · show M 17 6 = M 5 1 → M 17 7 = f → bBk M f  -- c8.hk
                            exact hQ.bk
                        refine ⟨gc8, ?_⟩
                        rintro M47 ⟨pc8_hf, pc8_h6, pc8_h7, pc8_hB⟩ z_M47
                        refine hP _ _ ⟨?_, ?_, ?_⟩
                        · show ∀ c i, ¬ (13 ≤ c ∧ c ≤ 24) → ¬ (48 ≤ c ∧ c ≤ 49) → ¬ (c = 5 ∧ 14 ≤ i) → M47 c i = M c i  -- p12.hf
                          intro c i k1 k2 k3; exact pc8_hf c i (by omega) (by omega) (by omega) (by omega) (by omega)
                        · show bQ M47  -- p12.hQ
                          exact hQ.trace pc8_hf pc8_h6 pc8_h7 pc8_hB
                        · show qFa (M 1 0) (M 1 1) (M 1 2) (M 2) (M 12) (M 7) (M 5 2) f k (M47 17 1)  -- p12.hr
                          unfold qFa; rw [if_neg b1, if_neg b2, if_neg b3, if_neg (by omega), if_neg b8, if_neg b9, if_neg b10, if_neg b11]
                          have H := pc8_hB.1
                          rw [pc8_hf 1 0 (by omega) (by omega) (by omega) (by omega) (by omega), pc8_hf 1 1 (by omega) (by omega) (by omega) (by omega) (by omega), pc8_hf 1 2 (by omega) (by omega) (by omega) (by omega) (by omega), pc8_hf 7 f (by omega) (by omega) (by omega) (by omega) (by omega), show M47 12 = M 12 from funext fun i => pc8_hf 12 i (by omega) (by omega) (by omega) (by omega) (by omega)] at H
                          exact H

abbrev pr_X11_face (f : Int) (k : Int) (M : zM) : Prop := (bI M) ∧ (bK M)
abbrev po_X11_face (f : Int) (k : Int) (M : zM) (r : Int) (M' : zM) : Prop := (bW M M') ∧ (bQ M') ∧ (qI ((0 ≤ f ∧ f < M' 5 2) ∧ 0 ≤ k ∧ k < 12) (qFa (M' 1 0) (M' 1 1) (M' 1 2) (M' 2) (M' 12) (M' 7) (M' 5 2) f k r) r)
set_option maxHeartbeats 1000000 in
theorem ok_X11_face : zSnd zS 145 0 0 yX11_face cX11_face 3 (some .int) 6 [2, 0, 0] (F_X11_face pr_X11_face po_X11_face) := by
  refine (sn_X11_face ok_X11_isFace ok_X11_measure).mono ?_
  rintro xs P M hz hR ⟨f, k, rfl, ⟨hI, hK⟩, hP⟩
  refine ⟨_, _, rfl, ?_⟩
  have z_f := zall_h (zall_t hz) (by decide)
  have z_k := zall_h (zall_t (zall_t hz)) (by decide)
  change vc_X11_face pr_X11_isFace po_X11_isFace pr_X11_measure po_X11_measure f k P M
  unfold vc_X11_face
  have gc1 : pr_X11_isFace f M := by
    refine ⟨?_, ?_⟩
    · show bI M  -- c1.hI
      exact hI
    · show bK M  -- c1.hK
      exact hK
  refine ⟨gc1, ?_⟩
  rintro r1 M2 ⟨pc1_hf, pc1_hQ, pc1_hs, pc1_hr⟩ z_r1 z_M2
  have I2 := hI.face pc1_hf
  have w2 : bW M M2 := fun c i k => pc1_hf c i (by omega) (by omega)
  refine ⟨fun b1 => ?_, fun b1 => ?_⟩
  · -- b1.1
    refine hP _ _ ⟨?_, ?_, ?_⟩
    · show bW M M2  -- p1.hw
      exact w2
    · show bQ M2  -- p1.hQ
      exact pc1_hQ
    · show qI ((0 ≤ f ∧ f < M2 5 2) ∧ 0 ≤ k ∧ k < 12) (qFa (M2 1 0) (M2 1 1) (M2 1 2) (M2 2) (M2 12) (M2 7) (M2 5 2) f k (-1)) (-1)  -- p1.hr
      exact qI.n (fun k => pc1_hr.z.1 b1 k.1)
  · -- b1.2
    have ha := pc1_hr.ne.1 b1
    refine ⟨fun b2 => ?_, fun b2 => ?_⟩
    · -- b2.1
      refine hP _ _ ⟨?_, ?_, ?_⟩
      · show bW M M2  -- p2.hw
        exact w2
      · show bQ M2  -- p2.hQ
        exact pc1_hQ
      · show qI ((0 ≤ f ∧ f < M2 5 2) ∧ 0 ≤ k ∧ k < 12) (qFa (M2 1 0) (M2 1 1) (M2 1 2) (M2 2) (M2 12) (M2 7) (M2 5 2) f k (-1)) (-1)  -- p2.hr
        exact qI.n (fun k => by omega)
    · -- b2.2
      refine ⟨fun b3 => ?_, fun b3 => ?_⟩
      · -- b3.1
        have gc2 : pr_X11_measure f k M2 := by
          refine ⟨?_, ?_, ?_, ?_⟩
          · show bI M2  -- c2.hI
            exact I2
          · show bQ M2  -- c2.hQ
            exact pc1_hQ
          · show 0 ≤ f ∧ f < M2 5 2  -- c2.ha
            exact ha
          · show 0 ≤ k ∧ k < 12  -- c2.hk
            first | with_reducible assumption | omega | exact trivial | with_reducible rfl
        refine ⟨gc2, ?_⟩
        rintro r10 M11 ⟨pc2_hf, pc2_hQ, pc2_hr⟩ z_r10 z_M11
        refine hP _ _ ⟨?_, ?_, ?_⟩
        · show bW M M11  -- p3.hw
          exact w2.tr (fun c i k => pc2_hf c i (by omega) (by omega) (by omega))
        · show bQ M11  -- p3.hQ
          exact pc2_hQ
        · show qI ((0 ≤ f ∧ f < M11 5 2) ∧ 0 ≤ k ∧ k < 12) (qFa (M11 1 0) (M11 1 1) (M11 1 2) (M11 2) (M11 12) (M11 7) (M11 5 2) f k r10) r10  -- p3.hr
          rw [pc2_hf 1 0 (by omega) (by omega) (by omega), pc2_hf 1 1 (by omega) (by omega) (by omega), pc2_hf 1 2 (by omega) (by omega) (by omega), pc2_hf 5 2 (by omega) (by omega) (by omega), show M11 2 = M2 2 from funext fun i => pc2_hf 2 i (by omega) (by omega) (by omega), show M11 12 = M2 12 from funext fun i => pc2_hf 12 i (by omega) (by omega) (by omega), show M11 7 = M2 7 from funext fun i => pc2_hf 7 i (by omega) (by omega) (by omega)]
          exact qI.y ⟨ha, by omega⟩ pc2_hr
      · -- b3.2
        refine hP _ _ ⟨?_, ?_, ?_⟩
        · show bW M M2  -- p4.hw
          exact w2
        · show bQ M2  -- p4.hQ
          exact pc1_hQ
        · show qI ((0 ≤ f ∧ f < M2 5 2) ∧ 0 ≤ k ∧ k < 12) (qFa (M2 1 0) (M2 1 1) (M2 1 2) (M2 2) (M2 12) (M2 7) (M2 5 2) f k (-1)) (-1)  -- p4.hr
          exact qI.n (fun k => by omega)

abbrev pr_X11_pair (a : Int) (b : Int) (k : Int) (M : zM) : Prop := (bI M) ∧ (bK M)
abbrev po_X11_pair (a : Int) (b : Int) (k : Int) (M : zM) (r : Int) (M' : zM) : Prop := (bW M M') ∧ (bQ M') ∧ (qI ((0 ≤ a ∧ a < M' 5 2) ∧ (0 ≤ b ∧ b < M' 5 2) ∧ a ≠ b ∧ 0 ≤ k ∧ k ≤ 1) (zB r (if k = 0 then gNB (M' 1 0) (M' 1 1) (M' 12) a b else gLies (M' 1 0) (M' 1 1) (M' 1 2) (M' 12) (M' 7) a b)) r)
set_option maxHeartbeats 1000000 in
theorem ok_X11_pair : zSnd zS 145 0 0 yX11_pair cX11_pair 4 (some .int) 5 [2, 0, 0, 0] (F_X11_pair pr_X11_pair po_X11_pair) := by
  refine (sn_X11_pair ok_X11_isFace ok_X2_liesIn ok_X11_asNumber ok_X2_areBeside).mono ?_
  rintro xs P M hz hR ⟨a, b, k, rfl, ⟨hI, hK⟩, hP⟩
  refine ⟨_, _, _, rfl, ?_⟩
  have z_a := zall_h (zall_t hz) (by decide)
  have z_b := zall_h (zall_t (zall_t hz)) (by decide)
  have z_k := zall_h (zall_t (zall_t (zall_t hz))) (by decide)
  change vc_X11_pair pr_X11_isFace po_X11_isFace pr_X2_liesIn po_X2_liesIn pr_X11_asNumber po_X11_asNumber pr_X2_areBeside po_X2_areBeside a b k P M
  unfold vc_X11_pair
  have gc1 : pr_X11_isFace a M := by
    refine ⟨?_, ?_⟩
    · show bI M  -- c1.hI
      exact hI
    · show bK M  -- c1.hK
      exact hK
  refine ⟨gc1, ?_⟩
  rintro r1 M2 ⟨pc1_hf, pc1_hQ, pc1_hs, pc1_hr⟩ z_r1 z_M2
  have I2 := hI.face pc1_hf
  have w2 : bW M M2 := fun c i k => pc1_hf c i (by omega) (by omega)
  refine ⟨fun b1 => ?_, fun b1 => ?_⟩
  · -- b1.1
    refine hP _ _ ⟨?_, ?_, ?_⟩
    · show bW M M2  -- p1.hw
      exact w2
    · show bQ M2  -- p1.hQ
      exact pc1_hQ
    · show qI ((0 ≤ a ∧ a < M2 5 2) ∧ (0 ≤ b ∧ b < M2 5 2) ∧ a ≠ b ∧ 0 ≤ k ∧ k ≤ 1) (zB (-1) (if k = 0 then gNB (M2 1 0) (M2 1 1) (M2 12) a b else gLies (M2 1 0) (M2 1 1) (M2 1 2) (M2 12) (M2 7) a b)) (-1)  -- p1.hr
      exact qI.n (fun k => pc1_hr.z.1 b1 k.1)
  · -- b1.2
    have ha := pc1_hr.ne.1 b1
    have gc2 : pr_X11_isFace b M2 := by
      refine ⟨?_, ?_⟩
      · show bI M2  -- c2.hI
        exact I2
      · show bK M2  -- c2.hK
        exact pc1_hQ.1
    refine ⟨gc2, ?_⟩
    rintro r8 M9 ⟨pc2_hf, pc2_hQ, pc2_hs, pc2_hr⟩ z_r8 z_M9
    have eM := pc2_hs pc1_hQ
    subst eM
    refine ⟨fun b2 => ?_, fun b2 => ?_⟩
    · -- b2.1
      refine hP _ _ ⟨?_, ?_, ?_⟩
      · show bW M M9  -- p2.hw
        exact w2
      · show bQ M9  -- p2.hQ
        exact pc1_hQ
      · show qI ((0 ≤ a ∧ a < M9 5 2) ∧ (0 ≤ b ∧ b < M9 5 2) ∧ a ≠ b ∧ 0 ≤ k ∧ k ≤ 1) (zB (-1) (if k = 0 then gNB (M9 1 0) (M9 1 1) (M9 12) a b else gLies (M9 1 0) (M9 1 1) (M9 1 2) (M9 12) (M9 7) a b)) (-1)  -- p2.hr
        exact qI.n (fun k => pc2_hr.z.1 b2 k.2.1)
    · -- b2.2
      have hb' := pc2_hr.ne.1 b2
      refine ⟨fun b3 => ?_, fun b3 => ?_⟩
      · -- b3.1
        refine hP _ _ ⟨?_, ?_, ?_⟩
        · show bW M M9  -- p3.hw
          exact w2
        · show bQ M9  -- p3.hQ
          exact pc1_hQ
        · show qI ((0 ≤ a ∧ a < M9 5 2) ∧ (0 ≤ b ∧ b < M9 5 2) ∧ a ≠ b ∧ 0 ≤ k ∧ k ≤ 1) (zB (-1) (if k = 0 then gNB (M9 1 0) (M9 1 1) (M9 12) a b else gLies (M9 1 0) (M9 1 1) (M9 1 2) (M9 12) (M9 7) a b)) (-1)  -- p3.hr
          exact qI.n (fun k => k.2.2.1 b3)
      · -- b3.2
        refine ⟨fun b4 => ?_, fun b4 => ?_⟩
        · -- b4.1
          refine hP _ _ ⟨?_, ?_, ?_⟩
          · show bW M M9  -- p4.hw
            exact w2
          · show bQ M9  -- p4.hQ
            exact pc1_hQ
          · show qI ((0 ≤ a ∧ a < M9 5 2) ∧ (0 ≤ b ∧ b < M9 5 2) ∧ a ≠ b ∧ 0 ≤ k ∧ k ≤ 1) (zB (-1) (if k = 0 then gNB (M9 1 0) (M9 1 1) (M9 12) a b else gLies (M9 1 0) (M9 1 1) (M9 1 2) (M9 12) (M9 7) a b)) (-1)  -- p4.hr
            exact qI.n (fun k => by omega)
        · -- b4.2
          refine ⟨fun b5 => ?_, fun b5 => ?_⟩
          · -- b5.1
            refine ⟨fun b6 => ?_, fun b6 => ?_⟩
            · -- b6.1
              have gc3 : pr_X2_liesIn a b M9 := by
                refine ⟨?_, ?_, ?_, ?_, ?_, ?_⟩
                · show bDim M9  -- c3.hd
                  exact I2.d
                · show M9 1 2 = 0 ∨ M9 1 2 = 1  -- c3.ht
                  exact I2.t
                · show bFok M9  -- c3.hF
                  exact pc1_hQ.ok
                · show 0 ≤ a ∧ a < M9 5 2  -- c3.ha
                  exact ha
                · show 0 ≤ b ∧ b < M9 5 2  -- c3.hb0
                  exact hb'
                · show a ≠ b  -- c3.hne
                  exact b3
              refine ⟨gc3, ?_⟩
              rintro r19 M20 ⟨pc3_hf, pc3_hr⟩ z_r19 z_M20
              have gc4 : pr_X11_asNumber r19 M20 := by
                show r19 = 0 ∨ r19 = 1
                exact pc3_hr.b
              refine ⟨gc4, ?_⟩
              rintro r25 M26 ⟨q_rfl, e_r25⟩ z_r25 z_M26
              have q_rfl := q_rfl.symm
              subst q_rfl
              refine hP _ _ ⟨?_, ?_, ?_⟩
              · show bW M M20  -- p5.hw
                exact w2.tr (fun c i k => pc3_hf c i (by omega) (by omega) (by omega))
              · show bQ M20  -- p5.hQ
                exact pc1_hQ.fr (fun c i k => pc3_hf c i (by omega) (by omega) (by omega))
              · show qI ((0 ≤ a ∧ a < M20 5 2) ∧ (0 ≤ b ∧ b < M20 5 2) ∧ a ≠ b ∧ 0 ≤ k ∧ k ≤ 1) (zB r25 (if k = 0 then gNB (M20 1 0) (M20 1 1) (M20 12) a b else gLies (M20 1 0) (M20 1 1) (M20 1 2) (M20 12) (M20 7) a b)) r25  -- p5.hr
                rw [pc3_hf 1 0 (by omega) (by omega) (by omega), pc3_hf 1 1 (by omega) (by omega) (by omega), pc3_hf 1 2 (by omega) (by omega) (by omega), pc3_hf 5 2 (by omega) (by omega) (by omega), show M20 12 = M9 12 from funext fun i => pc3_hf 12 i (by omega) (by omega) (by omega), show M20 7 = M9 7 from funext fun i => pc3_hf 7 i (by omega) (by omega) (by omega), e_r25]
                exact qI.y ⟨ha, hb', b3, by omega⟩ (by rw [if_neg b6]; exact pc3_hr)
            · -- b6.2
              have gc5 : pr_X2_areBeside a b M9 := by
                refine ⟨?_, ?_, ?_⟩
                · show bDim M9  -- c5.hd
                  exact I2.d
                · show bFok M9  -- c5.hF
                  exact pc1_hQ.ok
                · show 0 ≤ a ∧ a < M9 5 2  -- c5.ha
                  exact ha
              refine ⟨gc5, ?_⟩
              rintro r31 M32 ⟨q_rfl, pc5_pb⟩ z_r31 z_M32
              have q_rfl := q_rfl.symm
              subst q_rfl
              have gc6 : pr_X11_asNumber r31 M9 := by
                show r31 = 0 ∨ r31 = 1
                exact pc5_pb.b
              refine ⟨gc6, ?_⟩
              rintro r37 M38 ⟨q_rfl, e_r37⟩ z_r37 z_M38
              have q_rfl := q_rfl.symm
              subst q_rfl
              refine hP _ _ ⟨?_, ?_, ?_⟩
              · show bW M M9  -- p6.hw
                exact w2
              · show bQ M9  -- p6.hQ
                exact pc1_hQ
              · show qI ((0 ≤ a ∧ a < M9 5 2) ∧ (0 ≤ b ∧ b < M9 5 2) ∧ a ≠ b ∧ 0 ≤ k ∧ k ≤ 1) (zB r37 (if k = 0 then gNB (M9 1 0) (M9 1 1) (M9 12) a b else gLies (M9 1 0) (M9 1 1) (M9 1 2) (M9 12) (M9 7) a b)) r37  -- p6.hr
                rw [e_r37]
                exact qI.y ⟨ha, hb', b3, by omega⟩ (by rw [if_pos b6]; exact pc5_pb)
          · -- b5.2
            refine hP _ _ ⟨?_, ?_, ?_⟩
            · show bW M M9  -- p7.hw
              exact w2
            · show bQ M9  -- p7.hQ
              exact pc1_hQ
            · show qI ((0 ≤ a ∧ a < M9 5 2) ∧ (0 ≤ b ∧ b < M9 5 2) ∧ a ≠ b ∧ 0 ≤ k ∧ k ≤ 1) (zB (-1) (if k = 0 then gNB (M9 1 0) (M9 1 1) (M9 12) a b else gLies (M9 1 0) (M9 1 1) (M9 1 2) (M9 12) (M9 7) a b)) (-1)  -- p7.hr
              exact qI.n (fun k => by omega)

abbrev pr_X11_faceOf (a : Int) (M : zM) : Prop := (bI M) ∧ (bK M)
abbrev po_X11_faceOf (a : Int) (M : zM) (r : Int) (M' : zM) : Prop := (¬ gD (M 1 0) (M 1 1) a → r = -1 ∧ M' = M) ∧ (gD (M 1 0) (M 1 1) a → bW M M' ∧ bQ M' ∧ r = M' 12 a)
set_option maxHeartbeats 1000000 in
theorem ok_X11_faceOf : zSnd zS 145 0 0 yX11_faceOf cX11_faceOf 2 (some .int) 4 [2, 0] (F_X11_faceOf pr_X11_faceOf po_X11_faceOf) := by
  refine (sn_X11_faceOf ok_X0_isDot ok_X2_refresh ok_X2_faceAt).mono ?_
  rintro xs P M hz hR ⟨a, rfl, ⟨hI, hK⟩, hP⟩
  refine ⟨_, rfl, ?_⟩
  have z_a := zall_h (zall_t hz) (by decide)
  change vc_X11_faceOf pr_X0_isDot po_X0_isDot pr_X2_refresh po_X2_refresh pr_X2_faceAt po_X2_faceAt a P M
  unfold vc_X11_faceOf
  have gc1 : pr_X0_isDot a M := by
    show bDim M
    exact hI.d
  refine ⟨gc1, ?_⟩
  rintro r1 M2 ⟨q_rfl, e_r1⟩ z_r1 z_M2
  have q_rfl := q_rfl.symm
  subst q_rfl
  have zr := zif01 e_r1
  have hd := hI.d
  refine ⟨fun b1 => ?_, fun b1 => ?_⟩
  · -- b1.1
    have y : gD (M 1 0) (M 1 1) a := zr.ne.1 b1
    have gc2 : pr_X2_refresh M := by
      refine ⟨?_, ?_, ?_, ?_⟩
      · show bDim M  -- c2.hd
        exact hI.d
      · show M 1 2 = 0 ∨ M 1 2 = 1  -- c2.ht
        exact hI.t
      · show ∀ i, gD (M 1 0) (M 1 1) i → 0 ≤ M 2 i  -- c2.hc
        intro i d; exact (hI.c i d.1 (by omega)).1
      · show M 5 1 = M 1 3 → bFok M  -- c2.hk
        exact hK.2.2.1
    refine ⟨gc2, ?_⟩
    rintro M8 ⟨pc2_hf, pc2_h51, pc2_hok, pc2_hs⟩ z_M8
    have o1 : 0 ≤ a := by
      first | with_reducible assumption | omega | exact trivial | with_reducible rfl  -- o1
    refine ⟨o1, ?_⟩
    have gc3 : pr_X2_faceAt (a % 16) (a / 16) M8 := by
      show bDim M8
      rw [show bDim M8 ↔ bDim M by unfold bDim; rw [pc2_hf 1 0 (by omega) (by omega), pc2_hf 1 1 (by omega) (by omega)]]; exact hI.d
    refine ⟨gc3, ?_⟩
    rintro r14 M15 ⟨q_rfl, e_r14⟩ z_r14 z_M15
    have q_rfl := q_rfl.symm
    subst q_rfl
    refine hP _ _ ⟨?_, ?_⟩
    · show ¬ gD (M 1 0) (M 1 1) a → r14 = -1 ∧ M8 = M  -- p1.hn
      intro h; exact absurd y h
    · show gD (M 1 0) (M 1 1) a → bW M M8 ∧ bQ M8 ∧ r14 = M8 12 a  -- p1.hy
      intro _; refine ⟨fun c i k => pc2_hf c i (by omega) (by omega), hK.refresh pc2_hf pc2_h51 pc2_hok pc2_hs, ?_⟩
      have q0 := pc2_hf 1 0 (by omega) (by omega)
      have q1 := pc2_hf 1 1 (by omega) (by omega)
      rw [if_pos (by omega)] at e_r14
      rw [e_r14]
      congr 1; omega
  · -- b1.2
    refine hP _ _ ⟨?_, ?_⟩
    · show ¬ gD (M 1 0) (M 1 1) a → (-1) = -1 ∧ M = M  -- p2.hn
      intro _; exact ⟨rfl, rfl⟩
    · show gD (M 1 0) (M 1 1) a → bW M M ∧ bQ M ∧ (-1) = M 12 a  -- p2.hy
      intro h; exact absurd h (zr.z.1 b1)

