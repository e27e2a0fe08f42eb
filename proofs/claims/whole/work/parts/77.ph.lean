def qClv (w h : Int) (D L : Int → Int) (n v : Int) (E : Int → Int) : Prop := ∀ i, 0 ≤ i → i < 192 →
  (¬ (0 ≤ L i ∧ L i < v) → E i = D i) ∧ (0 ≤ L i ∧ L i < v → n < zc (fun j => L j = L i) 192 → E i = D i) ∧
  (0 ≤ L i ∧ L i < v → zc (fun j => L j = L i) 192 ≤ n → ∃ e, gMost (fun c => zc (gSd w h L D (L i) c) 768) e ∧ E i = if 0 ≤ e then e else D i)
theorem qClv.skip {w h n v : Int} {D L E : Int → Int} (H : qClv w h D L n v E) (v0 : 0 ≤ v) (k : n < zc (fun j => L j = v) 192) : qClv w h D L n (v + 1) E := by
  intro i i0 i1
  obtain ⟨a, b, c⟩ := H i i0 i1
  by_cases e : L i = v
  · have x := a (by omega)
    refine ⟨fun q => x, fun _ _ => x, fun _ q => ?_⟩
    rw [e] at q; omega
  · exact ⟨fun q => a (by omega), fun q => b (by omega), fun q => c (by omega)⟩
theorem qClv.paint {w h n v e : Int} {D L E E' : Int → Int} (H : qClv w h D L n v E) (v0 : 0 ≤ v) (k : zc (fun j => L j = v) 192 ≤ n) (hm : gMost (fun c => zc (gSd w h L D v c) 768) e) (hE : ∀ i, 0 ≤ i → i < 192 → E' i = if 0 ≤ e ∧ L i = v then e else E i) : qClv w h D L n (v + 1) E' := by
  intro i i0 i1
  obtain ⟨a, b, c⟩ := H i i0 i1
  have x := hE i i0 i1
  by_cases l : L i = v
  · have y := a (by omega)
    refine ⟨fun q => absurd ⟨by omega, by omega⟩ q, fun _ q => ?_, fun _ _ => ?_⟩
    · rw [l] at q; omega
    · rw [l]
      refine ⟨e, hm, ?_⟩
      rw [x, y]
      by_cases g : 0 ≤ e
      · rw [if_pos ⟨g, l⟩, if_pos g]
      · rw [if_neg (fun q => g q.1), if_neg g]
  · rw [if_neg (fun q => l q.2)] at x
    rw [x]
    exact ⟨fun q => a (by omega), fun q => b (by omega), fun q => c (by omega)⟩
theorem qClv.uq {w h n v : Int} {D L E D' E' : Int → Int} (H : qClv w h D L n v E) (H' : qClv w h D' L n v E') (eD : ∀ i, 0 ≤ i → i < 192 → 0 ≤ L i → D i = D' i) (eG : ∀ x y, zg w h D x y = zg w h D' x y) : ∀ i, 0 ≤ i → i < 192 → 0 ≤ L i → L i < v → E i = E' i := by
  intro i i0 i1 l0 l1
  obtain ⟨a, b, c⟩ := H i i0 i1
  obtain ⟨a', b', c'⟩ := H' i i0 i1
  by_cases k : zc (fun j => L j = L i) 192 ≤ n
  · obtain ⟨e, m, x⟩ := c ⟨l0, l1⟩ k
    obtain ⟨e', m', x'⟩ := c' ⟨l0, l1⟩ k
    have : gSd w h L D' (L i) = gSd w h L D (L i) := by
      funext c q; unfold gSd; rw [eG]
    rw [this] at m'
    have := m.uq m'
    subst this
    rw [x, x', eD i i0 i1 l0]
  · rw [b ⟨l0, l1⟩ (by omega), b' ⟨l0, l1⟩ (by omega), eD i i0 i1 l0]
theorem gMost.le {n : Int → Int} {r : Int} (h : gMost n r) : -1 ≤ r ∧ r ≤ 15 := by
  rcases h with ⟨a, _⟩ | ⟨a, b, _⟩ <;> omega
abbrev pr_X11_clean (n : Int) (M : zM) : Prop := (bI M) ∧ (bK M)
abbrev po_X11_clean (n : Int) (M : zM) (r : Int) (M' : zM) : Prop := (¬ (1 ≤ n ∧ n ≤ 20) → r = -1 ∧ M' = M) ∧ (1 ≤ n ∧ n ≤ 20 → ∃ N, qClv (N 1 0) (N 1 1) (N 2) (N 12) n (N 5 2) (N 4) ∧ bW M N ∧ bQ N ∧ po_X11_changeToDraft N r M')
set_option maxHeartbeats 1000000 in
theorem ok_X11_clean : zSnd zS 145 0 0 yX11_clean cX11_clean 3 (some .int) 4 [2, 0] (F_X11_clean pr_X11_clean po_X11_clean) := by
  refine (sn_X11_clean ok_X2_refresh ok_X0_startDraft ok_X11_changeToDraft ok_X2_colourMostBeside ok_X2_paintDraft).mono ?_
  rintro xs P M hz hR ⟨n, rfl, ⟨hI, hK⟩, hP⟩
  refine ⟨_, rfl, ?_⟩
  have z_n := zall_h (zall_t hz) (by decide)
  change vc_X11_clean pr_X2_refresh po_X2_refresh pr_X0_startDraft po_X0_startDraft pr_X11_changeToDraft po_X11_changeToDraft pr_X2_colourMostBeside po_X2_colourMostBeside pr_X2_paintDraft po_X2_paintDraft n P M
  unfold vc_X11_clean
  refine ⟨fun b1 => ?_, fun b1 => ?_⟩
  · -- b1.1
    refine hP _ _ ⟨?_, ?_⟩
    · show ¬ (1 ≤ n ∧ n ≤ 20) → (-1) = -1 ∧ M = M  -- p1.hn
      intro _; exact ⟨rfl, rfl⟩
    · show 1 ≤ n ∧ n ≤ 20 → ∃ N, qClv (N 1 0) (N 1 1) (N 2) (N 12) n (N 5 2) (N 4) ∧ bW M N ∧ bQ N ∧ po_X11_changeToDraft N (-1) M  -- p1.hy
      intro h; omega
  · -- b1.2
    refine ⟨fun b2 => ?_, fun b2 => ?_⟩
    · -- b2.1
      have gc1 : pr_X2_refresh M := by
        refine ⟨?_, ?_, ?_, ?_⟩
        · show bDim M  -- c1.hd
          exact hI.d
        · show M 1 2 = 0 ∨ M 1 2 = 1  -- c1.ht
          exact hI.t
        · show ∀ i, gD (M 1 0) (M 1 1) i → 0 ≤ M 2 i  -- c1.hc
          intro i d; have := hI.d; exact (hI.c i d.1 (by omega)).1
        · show M 5 1 = M 1 3 → bFok M  -- c1.hk
          exact hK.2.2.1
      refine ⟨gc1, ?_⟩
      rintro M3 ⟨pc1_hf, pc1_h51, pc1_hok, pc1_hs⟩ z_M3
      have I1 := hI.face pc1_hf
      have Q1 := hK.refresh pc1_hf pc1_h51 pc1_hok pc1_hs
      have w1 : bW M M3 := fun c i k => pc1_hf c i (by omega) (by omega)
      have gc2 : pr_X0_startDraft M3 := by
        show ∀ i, 0 ≤ i → i < 192 → 0 ≤ M3 2 i ∧ M3 2 i ≤ 15
        exact I1.c
      refine ⟨gc2, ?_⟩
      rintro M8 pc2_e z_M8
      have g4 : ∀ i, 0 ≤ i → i < 192 → M8 4 i = M3 2 i := fun i i0 i1 => by rw [pc2_e, zcpy_s _ (by omega), show 0 + (i - 0) = i by omega]
      have gn : ∀ d i, d ≠ 4 → M8 d i = M3 d i := fun d i k => by rw [pc2_e, zcpy_n _ (by omega)]
      have Nb := Q1.N I1
      refine ⟨fun v13 M15 n17 => (n17 : Int) = (200 - v13) ∧ (0 ≤ v13 ∧ v13 ≤ M3 5 2) ∧ (∀ c i, c ≠ 4 → c ≠ 15 → M15 c i = M3 c i) ∧ (∀ i, 0 ≤ i → i < 192 → 0 ≤ M15 4 i ∧ M15 4 i ≤ 15) ∧ (qClv (M3 1 0) (M3 1 1) (M3 2) (M3 12) n v13 (M15 4)), ⟨Int.toNat (200 - 0), by omega, ?_, ?_, ?_, ?_⟩, ?_⟩
      · show 0 ≤ 0 ∧ 0 ≤ M3 5 2  -- I29.0.hv
        first | with_reducible assumption | omega | exact trivial | with_reducible rfl
      · show ∀ c i, c ≠ 4 → c ≠ 15 → M8 c i = M3 c i  -- I29.0.hf
        intro c i k1 k2; exact gn c i k1
      · show ∀ i, 0 ≤ i → i < 192 → 0 ≤ M8 4 i ∧ M8 4 i ≤ 15  -- I29.0.h4
        intro i i0 i1; rw [g4 i i0 i1]; exact I1.c i i0 i1
      · show qClv (M3 1 0) (M3 1 1) (M3 2) (M3 12) n 0 (M8 4)  -- I29.0.hc
        intro i i0 i1; exact ⟨fun _ => g4 i i0 i1, fun q => by omega, fun q => by omega⟩
      rintro v13 M15 n17 ⟨h_n17, hv, hf, h4, hc⟩ z_v13 z_M15
      have I3 : bI M15 := I1.fr (fun c i k _ => hf c i (by omega) (by omega))
      have Q3 : bQ M15 := Q1.d4 (fun c i k q => hf c i q (by omega)) h4
      obtain ⟨v0, v1, v2, v3, v4, v5, v6⟩ := bVe.of (M := M3) (M' := M15) (fun c i k => hf c i (by omega) (by omega))
      refine ⟨fun b3 => ?_, fun b3 => ?_⟩
      · -- b3.1
        have gc3 : pr_X11_changeToDraft M15 := by
          refine ⟨?_, ?_, ?_, ?_, ?_⟩
          · show 0 ≤ M15 77 0 ∧ M15 77 0 ≤ 20  -- c3.hu
            have := I3.h.1; omega
          · show 0 ≤ M15 77 2 ∧ M15 77 2 < 20  -- c3.ho
            exact I3.h.2.1
          · show 0 ≤ M15 1 3 ∧ M15 1 3 < 1000000000  -- c3.hv
            exact I3.v
          · show ∀ i, 0 ≤ i → i < 192 → 0 ≤ M15 2 i ∧ M15 2 i ≤ 15  -- c3.hc
            exact I3.c
          · show ∀ i, 0 ≤ i → i < 192 → 0 ≤ M15 4 i ∧ M15 4 i ≤ 15  -- c3.hq
            exact h4
        refine ⟨gc3, ?_⟩
        rintro r25 M26 ⟨pc3_hr, pc3_hs, pc3_hf, pc3_hd⟩ z_r25 z_M26
        refine hP _ _ ⟨?_, ?_⟩
        · show ¬ (1 ≤ n ∧ n ≤ 20) → r25 = -1 ∧ M26 = M  -- p2.hn
          intro h; omega
        · show 1 ≤ n ∧ n ≤ 20 → ∃ N, qClv (N 1 0) (N 1 1) (N 2) (N 12) n (N 5 2) (N 4) ∧ bW M N ∧ bQ N ∧ po_X11_changeToDraft N r25 M26  -- p2.hy
          intro _
          refine ⟨M15, ?_, w1.tr (fun c i k => hf c i (by omega) (by omega)), Q3, pc3_hr, pc3_hs, pc3_hf, pc3_hd⟩
          rw [v0, v1, v3, v4, v6]
          have : v13 = M3 5 2 := by omega
          rw [← this]; exact hc
      · -- b3.2
        have ha : 0 ≤ v13 ∧ v13 < M15 5 2 := by omega
        have sz : M15 6 v13 = zc (fun j => M3 12 j = v13) 192 := by
          have := (Q3.ok.2.2 v13 ha.1 ha.2).1
          rw [v4] at this; exact this
        have o1 : ((0 : Int) ≤ v13 ∧ v13 < 192) := by
          omega
        refine ⟨o1, ?_⟩
        refine ⟨fun b4 => ?_, fun b4 => ?_⟩
        · -- b4.1
          have o2 : zin (v13 + 1) := by
            first | with_reducible assumption | omega | exact trivial | with_reducible rfl  -- o2
          refine ⟨o2, ?_⟩
          refine ⟨Int.toNat (200 - (v13 + 1)), by omega, by omega, ?_, ?_, ?_, ?_⟩
          · show 0 ≤ (v13 + 1) ∧ (v13 + 1) ≤ M3 5 2  -- I29.1.hv
            first | with_reducible assumption | omega | exact trivial | with_reducible rfl
          · show ∀ c i, c ≠ 4 → c ≠ 15 → M15 c i = M3 c i  -- I29.1.hf
            first | with_reducible assumption | omega | exact trivial | with_reducible rfl
          · show ∀ i, 0 ≤ i → i < 192 → 0 ≤ M15 4 i ∧ M15 4 i ≤ 15  -- I29.1.h4
            first | with_reducible assumption | omega | exact trivial | with_reducible rfl
          · show qClv (M3 1 0) (M3 1 1) (M3 2) (M3 12) n (v13 + 1) (M15 4)  -- I29.1.hc
            exact hc.skip hv.1 (by omega)
        · -- b4.2
          have gc4 : pr_X2_colourMostBeside v13 M15 := by
            refine ⟨?_, ?_, ?_⟩
            · show bDim M15  -- c4.hd
              exact I3.d
            · show bFok M15  -- c4.hF
              exact Q3.ok
            · show 0 ≤ v13 ∧ v13 < M15 5 2  -- c4.ha
              exact ha
          refine ⟨gc4, ?_⟩
          rintro r37 M38 ⟨pc4_hf, pc4_hr⟩ z_r37 z_M38
          have I4 : bI M38 := I3.fr (fun c i k _ => pc4_hf c i (by omega))
          have Q4 : bQ M38 := Q3.fr (fun c i k => pc4_hf c i (by omega))
          have le := pc4_hr.le
          obtain ⟨u0, u1, u2, u3, u4, u5, u6⟩ := bVe.of (M := M15) (M' := M38) (fun c i k => pc4_hf c i (by omega))
          have gc5 : pr_X2_paintDraft v13 r37 M38 := by
            refine ⟨?_, ?_, ?_, ?_⟩
            · show bDim M38  -- c5.hd
              exact I4.d
            · show bFok M38  -- c5.hF
              exact Q4.ok
            · show 0 ≤ v13 ∧ v13 < M38 5 2  -- c5.ha
              omega
            · show r37 ≤ 15  -- c5.he
              omega
          refine ⟨gc5, ?_⟩
          rintro M43 ⟨pc5_hf, pc5_hp⟩ z_M43
          have o3 : zin (v13 + 1) := by
            first | with_reducible assumption | omega | exact trivial | with_reducible rfl  -- o3
          refine ⟨o3, ?_⟩
          refine ⟨Int.toNat (200 - (v13 + 1)), by omega, by omega, ?_, ?_, ?_, ?_⟩
          · show 0 ≤ (v13 + 1) ∧ (v13 + 1) ≤ M3 5 2  -- I29.2.hv
            first | with_reducible assumption | omega | exact trivial | with_reducible rfl
          · show ∀ c i, c ≠ 4 → c ≠ 15 → M43 c i = M3 c i  -- I29.2.hf
            intro c i k1 k2; rw [pc5_hf c i k1, pc4_hf c i k2]; exact hf c i k1 k2
          · show ∀ i, 0 ≤ i → i < 192 → 0 ≤ M43 4 i ∧ M43 4 i ≤ 15  -- I29.2.h4
            intro i i0 i1; rw [pc5_hp i i0 i1, pc4_hf 4 i (by decide)]; have := h4 i i0 i1; split <;> omega
          · show qClv (M3 1 0) (M3 1 1) (M3 2) (M3 12) n (v13 + 1) (M43 4)  -- I29.2.hc
            refine hc.paint hv.1 (by omega) (e := r37) ?_ (fun i i0 i1 => ?_)
            · rw [v0, v1, v3, v4] at pc4_hr; exact pc4_hr
            · rw [pc5_hp i i0 i1, pc4_hf 4 i (by decide), u4, v4]
    · -- b2.2
      refine hP _ _ ⟨?_, ?_⟩
      · show ¬ (1 ≤ n ∧ n ≤ 20) → (-1) = -1 ∧ M = M  -- p3.hn
        intro _; exact ⟨rfl, rfl⟩
      · show 1 ≤ n ∧ n ≤ 20 → ∃ N, qClv (N 1 0) (N 1 1) (N 2) (N 12) n (N 5 2) (N 4) ∧ bW M N ∧ bQ N ∧ po_X11_changeToDraft N (-1) M  -- p3.hy
        intro h; omega

