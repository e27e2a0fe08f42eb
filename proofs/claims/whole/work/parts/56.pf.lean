/-- where the reading of a picture's text is, between two lines; e: what the whole text gives -/
def pS (T : Int → Int) (n b : Int) (e : Int × Int × Int × (Int → Int)) (N : zM) (more : Int) : Prop := (more = 1 ∧ mLi N ∧ ∃ f D, mH N f D ∧ e = mE N f D) ∨ (N 103 24 = 1 ∧ 0 ≤ N 103 23 ∧ e.1 = N 103 23) ∨ (more = 0 ∧ N 103 24 = 0 ∧ n ≤ N 103 23 ∧ (1 ≤ N 103 26 ∧ N 103 26 ≤ 16) ∧ (1 ≤ N 103 27 ∧ N 103 27 ≤ 12) ∧ ∃ D, e = (-4, N 103 26, N 103 27, D) ∧ ∀ i, gDo (N 103 26) 0 (N 103 27) i → N 113 i = D i ∧ 0 ≤ D i ∧ D i ≤ 15)
def pF (b n : Int) (T : Int → Int) (N : zM) : Prop := N 103 21 = b ∧ N 103 22 = n ∧ mT N = T
theorem pS_bad {T : Int → Int} {n b v : Int} {e : Int × Int × Int × (Int → Int)} {N Q : zM} (hL : mLi N) {f : Nat} {D : Int → Int} (hf : mH N f D) (he : e = mE N f D) (o : mLo N Q) (q : Q 103 24 ≠ 0) : pS T n b e Q v := by
  rcases o with ⟨a, _, a2, a3⟩ | ⟨a, _⟩
  · exact .inr (.inl ⟨a, a2, by rw [he]; exact a3 f D hf⟩)
  · exact absurd a q
theorem pS_end {T : Int → Int} {n b : Int} {e : Int × Int × Int × (Int → Int)} {N Q : zM} (hF : pF b n T N) (hL : mLi N) {f : Nat} {D : Int → Int} (hf : mH N f D) (he : e = mE N f D) (o : mLo N Q) (q : Q 103 24 = 0) (k : gBy T n (Q 103 23) ≠ 47) : pS T n b e Q 0 := by
  obtain ⟨_, hn, hT⟩ := hF
  rcases o with ⟨a, _⟩ | ⟨_, a2, a3, a4, a5⟩
  · omega
  · rw [hn, hT] at a4
    have le : n ≤ Q 103 23 := by
      rcases a4 with c | c
      · exact c
      · exact absurd c k
    obtain ⟨f', D', c1, c2, c3⟩ := a5 f D hf
    rw [hn] at c3
    have y := hL.2.2.2.2.1
    rw [← a2] at c2
    have c4 := c3.1 le
    rw [← a2] at c4
    exact .inr (.inr ⟨rfl, q, le, a3, by omega, D', by rw [he]; exact c4, c2⟩)
theorem pS_next {T : Int → Int} {n b : Int} {e : Int × Int × Int × (Int → Int)} {N Q R : zM} (hF : pF b n T N) (hL : mLi N) {f : Nat} {D : Int → Int} (hf : mH N f D) (he : e = mE N f D) (o : mLo N Q) (q : Q 103 24 = 0) (k : gBy T n (Q 103 23) = 47) (fq : Q 103 21 = N 103 21 ∧ Q 103 22 = N 103 22 ∧ Q 142 = N 142) (k12 : Q 103 27 ≠ 12) (eR : R = zset (zset Q 103 24 0) 103 23 (Q 103 23 + 1)) : pS T n b e R 1 := by
  obtain ⟨_, hn, hT⟩ := hF
  have pin := gBy_i (T := T) (n := n) (p := Q 103 23) (by omega)
  rcases o with ⟨a, _⟩ | ⟨_, a2, a3, a4, a5⟩
  · omega
  · obtain ⟨f', D', c1, c2, c3⟩ := a5 f D hf
    rw [hn] at c3 c1
    have c4 := c3.2 pin.2
    have y := hL.2.2.2.2.1
    have r21 : R 103 21 = N 103 21 := by rw [eR, zset_n _ (by omega), zset_n _ (by omega)]; exact fq.1
    have r22 : R 103 22 = N 103 22 := by rw [eR, zset_n _ (by omega), zset_n _ (by omega)]; exact fq.2.1
    have r23 : R 103 23 = Q 103 23 + 1 := by rw [eR, zset_s]
    have r24 : R 103 24 = 0 := by rw [eR, zset_n _ (by omega), zset_s]
    have r26 : R 103 26 = Q 103 26 := by rw [eR, zset_n _ (by omega), zset_n _ (by omega)]
    have r27 : R 103 27 = N 103 27 + 1 := by rw [eR, zset_n _ (by omega), zset_n _ (by omega)]; exact a2
    have r113 : R 113 = Q 113 := by rw [eR, zset_c (by decide), zset_c (by decide)]
    have r142 : R 142 = N 142 := by rw [eR, zset_c (by decide), zset_c (by decide)]; exact fq.2.2
    have rT : mT R = mT N := mT_c r142 r21
    have rL : mL R = Q 103 26 := by unfold mL; rw [if_neg (by omega), r26]
    refine .inl ⟨rfl, ⟨by rw [r21]; exact hL.1, by rw [r22]; exact hL.2.1, by omega, r24, by omega, fun _ => by omega⟩, f', D', ⟨by omega, by rw [rL, r27, r113]; exact c2⟩, ?_⟩
    rw [he, c4.2.2 (by omega)]
    unfold mE
    rw [rT, r22, rL, r23, r27, hn]
theorem pS_12 {T : Int → Int} {n b v : Int} {e : Int × Int × Int × (Int → Int)} {N Q R : zM} (hF : pF b n T N) (hL : mLi N) {f : Nat} {D : Int → Int} (hf : mH N f D) (he : e = mE N f D) (o : mLo N Q) (q : Q 103 24 = 0) (k : gBy T n (Q 103 23) = 47) (k12 : Q 103 27 = 12) (eR : R = zset (zset Q 103 24 1) 103 23 (Q 103 23 + 0)) : pS T n b e R v := by
  obtain ⟨_, hn, hT⟩ := hF
  have pin := gBy_i (T := T) (n := n) (p := Q 103 23) (by omega)
  rcases o with ⟨a, _⟩ | ⟨_, a2, a3, a4, a5⟩
  · omega
  · obtain ⟨f', D', c1, c2, c3⟩ := a5 f D hf
    rw [hn] at c3
    have c4 := c3.2 pin.2
    have r23 : R 103 23 = Q 103 23 := by rw [eR, zset_s]; omega
    exact .inr (.inl ⟨by rw [eR, zset_n _ (by omega), zset_s], by omega, by rw [he, r23]; exact c4.2.1 (by omega)⟩)
abbrev pr_X12_pictureFault (d : Int) (M : zM) : Prop := (0 ≤ d ∧ d < 8) ∧ (0 ≤ M 141 d ∧ M 141 d ≤ 120)
abbrev po_X12_pictureFault (d : Int) (M : zM) (r : Int) (M' : zM) : Prop := (∀ c i, c ≠ 113 → ¬ (c = 103 ∧ (i = 21 ∨ i = 22 ∨ i = 23 ∨ i = 24 ∨ i = 26 ∨ i = 27)) → M' c i = M c i) ∧ (((gEx (fun i => zland (M 142 (120 * d + i)) 255) (M 141 d) (M 141 d + 1).toNat 16 0 0 0 (fun _ => 0)).1 = r ∧ 0 ≤ r) ∨ (r = -1 ∧ (1 ≤ M' 103 26 ∧ M' 103 26 ≤ 16) ∧ (1 ≤ M' 103 27 ∧ M' 103 27 ≤ 12) ∧ ∃ D, gEx (fun i => zland (M 142 (120 * d + i)) 255) (M 141 d) (M 141 d + 1).toNat 16 0 0 0 (fun _ => 0) = (-4, M' 103 26, M' 103 27, D) ∧ ∀ i, gDo (M' 103 26) 0 (M' 103 27) i → M' 113 i = D i ∧ 0 ≤ D i ∧ D i ≤ 15))
set_option maxHeartbeats 1000000 in
theorem ok_X12_pictureFault : zSnd zS 145 0 0 yX12_pictureFault cX12_pictureFault 3 (some .int) 4 [2, 0] (F_X12_pictureFault pr_X12_pictureFault po_X12_pictureFault) := by
  refine (sn_X12_pictureFault ok_X12_readLine ok_X12_here).mono ?_
  rintro xs P M hz hR ⟨d, rfl, ⟨hd, hn⟩, hP⟩
  refine ⟨_, rfl, ?_⟩
  have z_d := zall_h (zall_t hz) (by decide)
  change vc_X12_pictureFault pr_X12_readLine po_X12_readLine pr_X12_here po_X12_here d P M
  unfold vc_X12_pictureFault
  have o1 : zin (120 * d) := by
    first | with_reducible assumption | omega | exact trivial | with_reducible rfl  -- o1
  refine ⟨o1, ?_⟩
  intro M2 e_M2
  have o2 : ((0 : Int) ≤ d ∧ d < 8) := by
    first | with_reducible assumption | omega | exact trivial | with_reducible rfl  -- o2
  refine ⟨o2, ?_⟩
  intro M6 e_M6
  intro M9 e_M9
  intro M12 e_M12
  intro M15 e_M15
  intro M18 e_M18
  have z21 : M18 103 21 = 120 * d := by rw [e_M18, zset_n _ (by omega), e_M15, zset_n _ (by omega), e_M12, zset_n _ (by omega), e_M9, zset_n _ (by omega), e_M6, zset_n _ (by omega), e_M2, zset_s]
  have z22 : M18 103 22 = M 141 d := by rw [e_M18, zset_n _ (by omega), e_M15, zset_n _ (by omega), e_M12, zset_n _ (by omega), e_M9, zset_n _ (by omega), e_M6, zset_s, e_M2, zset_n _ (by omega)]
  have z23 : M18 103 23 = 0 := by rw [e_M18, zset_n _ (by omega), e_M15, zset_n _ (by omega), e_M12, zset_n _ (by omega), e_M9, zset_s]
  have z24 : M18 103 24 = 0 := by rw [e_M18, zset_n _ (by omega), e_M15, zset_n _ (by omega), e_M12, zset_s]
  have z27 : M18 103 27 = 0 := by rw [e_M18, zset_s]
  have zf : ∀ c i, ¬ (c = 103 ∧ (i = 21 ∨ i = 22 ∨ i = 23 ∨ i = 24 ∨ i = 26 ∨ i = 27)) → M18 c i = M c i := fun c i k => by rw [e_M18, zset_n _ (by omega), e_M15, zset_n _ (by omega), e_M12, zset_n _ (by omega), e_M9, zset_n _ (by omega), e_M6, zset_n _ (by omega), e_M2, zset_n _ (by omega)]
  have zT : mT M18 = fun i => zland (M 142 (120 * d + i)) 255 := by
    unfold mT; rw [z21, show M18 142 = M 142 from funext fun i => zf 142 i (by omega)]
  have zL : mL M18 = 16 := by unfold mL; exact if_pos z27
  refine ⟨fun v21 M23 n25 => (n25 : Int) = (13 - M23 103 27 + v21) ∧ (v21 = 0 ∨ v21 = 1) ∧ (0 ≤ M23 103 27 ∧ M23 103 27 ≤ 12) ∧ (∀ c i, c ≠ 113 → ¬ (c = 103 ∧ (i = 23 ∨ i = 24 ∨ i = 26 ∨ i = 27)) → M23 c i = M18 c i) ∧ (pS (fun i => zland (M 142 (120 * d + i)) 255) (M 141 d) (120 * d) (gEx (fun i => zland (M 142 (120 * d + i)) 255) (M 141 d) (M 141 d + 1).toNat 16 0 0 0 (fun _ => 0)) M23 v21), ⟨Int.toNat (13 - M18 103 27 + 1), by omega, ?_, ?_, ?_, ?_⟩, ?_⟩
  · show 1 = 0 ∨ 1 = 1  -- I40.0.hv
    first | with_reducible assumption | omega | exact trivial | with_reducible rfl
  · show 0 ≤ M18 103 27 ∧ M18 103 27 ≤ 12  -- I40.0.hy
    first | with_reducible assumption | omega | exact trivial | with_reducible rfl
  · show ∀ c i, c ≠ 113 → ¬ (c = 103 ∧ (i = 23 ∨ i = 24 ∨ i = 26 ∨ i = 27)) → M18 c i = M18 c i  -- I40.0.hfr
    first | with_reducible assumption | omega | exact trivial | with_reducible rfl
  · show pS (fun i => zland (M 142 (120 * d + i)) 255) (M 141 d) (120 * d) (gEx (fun i => zland (M 142 (120 * d + i)) 255) (M 141 d) (M 141 d + 1).toNat 16 0 0 0 (fun _ => 0)) M18 1  -- I40.0.hs
    refine .inl ⟨rfl, ⟨by omega, by omega, by omega, z24, by omega, fun k => absurd z27 k⟩, (M 141 d + 1).toNat, fun _ => 0, ⟨by omega, fun i hi => ?_⟩, ?_⟩
    · unfold gDo at hi; omega
    · unfold mE; rw [zT, z22, z23, z27, zL]
  rintro v21 M23 n25 ⟨h_n25, hv, hy, hfr, hs⟩ z_v21 z_M23
  intro K123 h_K123
  have k_K123 : (M23 103 24 ≠ 0 ∨ (v21 = 0 ∧ M23 103 24 = 0)) → K123  := by
    intro  hz
    refine h_K123 ?_
    intro K147 h_K147
    have k_K147 : ∀ (v32 : Int), ((v32 = 1 ∧ M23 103 24 ≠ 0) ∨ (v32 = 0 ∧ M23 103 24 = 0 ∧ v21 = 0)) → K147 v32 := by
      intro v32 k47
      refine h_K147 _ ?_
      intro z_v32
      have o3 : (v32 = 0 ∨ v32 = 1) := by
        first | with_reducible assumption | omega | exact trivial | with_reducible rfl  -- o3
      refine ⟨o3, ?_⟩
      intro M35 e_M35
      have q35 : ∀ c i, ¬ (c = 103 ∧ i = 24) → M35 c i = M23 c i := fun c i k => by rw [e_M35, zset_n _ (by omega)]
      have q24 : M35 103 24 = v32 := by rw [e_M35, zset_s]
      refine ⟨fun b1 => ?_, fun b1 => ?_⟩
      · -- b1.1
        refine hP _ _ ⟨?_, ?_⟩
        · show ∀ c i, c ≠ 113 → ¬ (c = 103 ∧ (i = 21 ∨ i = 22 ∨ i = 23 ∨ i = 24 ∨ i = 26 ∨ i = 27)) → M35 c i = M c i  -- p1.hf
          intro c i c1 c2; rw [q35 c i (by omega), hfr c i c1 (by omega)]; exact zf c i c2
        · show ((gEx (fun i => zland (M 142 (120 * d + i)) 255) (M 141 d) (M 141 d + 1).toNat 16 0 0 0 (fun _ => 0)).1 = (-1) ∧ 0 ≤ (-1)) ∨ ((-1) = -1 ∧ (1 ≤ M35 103 26 ∧ M35 103 26 ≤ 16) ∧ (1 ≤ M35 103 27 ∧ M35 103 27 ≤ 12) ∧ ∃ D, gEx (fun i => zland (M 142 (120 * d + i)) 255) (M 141 d) (M 141 d + 1).toNat 16 0 0 0 (fun _ => 0) = (-4, M35 103 26, M35 103 27, D) ∧ ∀ i, gDo (M35 103 26) 0 (M35 103 27) i → M35 113 i = D i ∧ 0 ≤ D i ∧ D i ≤ 15)  -- p1.hr
          rcases hs with ⟨a, _⟩ | ⟨a, _⟩ | ⟨_, _, _, a1, a2, D, a3, a4⟩
          · omega
          · omega
          · refine .inr ⟨rfl, ?_⟩
            rw [q35 103 26 (by omega), q35 103 27 (by omega), show M35 113 = M23 113 from funext fun i => q35 113 i (by omega)]
            exact ⟨a1, a2, D, a3, a4⟩
      · -- b1.2
        refine hP _ _ ⟨?_, ?_⟩
        · show ∀ c i, c ≠ 113 → ¬ (c = 103 ∧ (i = 21 ∨ i = 22 ∨ i = 23 ∨ i = 24 ∨ i = 26 ∨ i = 27)) → M35 c i = M c i  -- p2.hf
          intro c i c1 c2; rw [q35 c i (by omega), hfr c i c1 (by omega)]; exact zf c i c2
        · show ((gEx (fun i => zland (M 142 (120 * d + i)) 255) (M 141 d) (M 141 d + 1).toNat 16 0 0 0 (fun _ => 0)).1 = (M35 103 23) ∧ 0 ≤ (M35 103 23)) ∨ ((M35 103 23) = -1 ∧ (1 ≤ M35 103 26 ∧ M35 103 26 ≤ 16) ∧ (1 ≤ M35 103 27 ∧ M35 103 27 ≤ 12) ∧ ∃ D, gEx (fun i => zland (M 142 (120 * d + i)) 255) (M 141 d) (M 141 d + 1).toNat 16 0 0 0 (fun _ => 0) = (-4, M35 103 26, M35 103 27, D) ∧ ∀ i, gDo (M35 103 26) 0 (M35 103 27) i → M35 113 i = D i ∧ 0 ≤ D i ∧ D i ≤ 15)  -- p2.hr
          rcases hs with ⟨_, a, _⟩ | ⟨_, a, b⟩ | ⟨_, a, _⟩
          · have := a.2.2.2.1; omega
          · rw [q35 103 23 (by omega)]; exact .inl ⟨b, a⟩
          · omega
    intro K142 h_K142
    have k_K142 : (M23 103 24 ≠ 0) → K142  := by
      intro  k42
      refine h_K142 ?_
      refine k_K147 _ ?_
      · show (1 = 1 ∧ M23 103 24 ≠ 0) ∨ (1 = 0 ∧ M23 103 24 = 0 ∧ v21 = 0)  -- K147.1.k47
        first | with_reducible assumption | omega | exact trivial | with_reducible rfl
    refine ⟨fun b2 => ?_, fun b2 => ?_⟩
    · -- b2.1
      refine k_K142 ?_
      · show M23 103 24 ≠ 0  -- K142.1.k42
        first | with_reducible assumption | omega | exact trivial | with_reducible rfl
    · -- b2.2
      refine ⟨fun b3 => ?_, fun b3 => ?_⟩
      · -- b3.1
        refine k_K147 _ ?_
        · show (0 = 1 ∧ M23 103 24 ≠ 0) ∨ (0 = 0 ∧ M23 103 24 = 0 ∧ v21 = 0)  -- K147.2.k47
          first | with_reducible assumption | omega | exact trivial | with_reducible rfl
      · -- b3.2
        exact absurd b3 (by
          rcases hs with ⟨a, _⟩ | ⟨a, _⟩ | ⟨_, _, a, _⟩
          · omega
          · omega
          · have := hfr 103 22 (by decide) (by omega); omega)
  refine ⟨fun b4 => ?_, fun b4 => ?_⟩
  · -- b4.1
    refine k_K123 ?_
    · show M23 103 24 ≠ 0 ∨ (v21 = 0 ∧ M23 103 24 = 0)  -- K123.1.hz
      first | with_reducible assumption | omega | exact trivial | with_reducible rfl
  · -- b4.2
    refine ⟨fun b5 => ?_, fun b5 => ?_⟩
    · -- b5.1
      refine k_K123 ?_
      · show M23 103 24 ≠ 0 ∨ (v21 = 0 ∧ M23 103 24 = 0)  -- K123.2.hz
        first | with_reducible assumption | omega | exact trivial | with_reducible rfl
    · -- b5.2
      have hs1 : v21 = 1 ∧ mLi M23 ∧ ∃ f D, mH M23 f D ∧ (gEx (fun i => zland (M 142 (120 * d + i)) 255) (M 141 d) (M 141 d + 1).toNat 16 0 0 0 (fun _ => 0)) = mE M23 f D := by
        rcases hs with a | ⟨a, _⟩ | ⟨a, _⟩
        · exact a
        · omega
        · omega
      obtain ⟨h1, hL, f, D, hmH, hE⟩ := hs1
      have f21 : M23 103 21 = 120 * d := (hfr 103 21 (by decide) (by omega)).trans z21
      have f22 : M23 103 22 = M 141 d := (hfr 103 22 (by decide) (by omega)).trans z22
      have f142 : M23 142 = M 142 := funext fun i => (hfr 142 i (by decide) (by omega)).trans (zf 142 i (by omega))
      have fT : mT M23 = fun i => zland (M 142 (120 * d + i)) 255 := by unfold mT; rw [f21, f142]
      have hF : pF (120 * d) (M 141 d) (fun i => zland (M 142 (120 * d + i)) 255) M23 := ⟨f21, f22, fT⟩
      have gc1 : pr_X12_readLine M23 := by
        show mLi M23
        exact hL
      refine ⟨gc1, ?_⟩
      rintro M43 ⟨pc1_hf, pc1_ho⟩ z_M43
      have g21 : M43 103 21 = 120 * d := (pc1_hf 103 21 (by decide) (by omega)).trans f21
      have g22 : M43 103 22 = M 141 d := (pc1_hf 103 22 (by decide) (by omega)).trans f22
      have g142 : M43 142 = M 142 := funext fun i => (congrFun f142 i ▸ pc1_hf 142 i (by decide) (by omega))
      have gT : mT M43 = fun i => zland (M 142 (120 * d + i)) 255 := by unfold mT; rw [g21, g142]
      have gfr : ∀ c i, c ≠ 113 → ¬ (c = 103 ∧ (i = 23 ∨ i = 24 ∨ i = 26 ∨ i = 27)) → M43 c i = M18 c i := fun c i c1 c2 => (pc1_hf c i c1 c2).trans (hfr c i c1 c2)
      have g27 : M43 103 24 ≠ 0 ∧ M43 103 27 = M23 103 27 ∨ M43 103 24 = 0 ∧ M43 103 27 = M23 103 27 + 1 := by
        rcases pc1_ho with ⟨a, b, _⟩ | ⟨a, b, _⟩
        · exact .inl ⟨by omega, b⟩
        · exact .inr ⟨a, b⟩
      have y12 := hL.2.2.2.2.1
      intro K76 h_K76
      have k_K76 : ∀ (v48 : Int) (M50 : zM), ((v48 = 0 ∧ pS (fun i => zland (M 142 (120 * d + i)) 255) (M 141 d) (120 * d) (gEx (fun i => zland (M 142 (120 * d + i)) 255) (M 141 d) (M 141 d + 1).toNat 16 0 0 0 (fun _ => 0)) M50 0) ∨ (v48 = 1 ∧ M43 103 24 = 0 ∧ gBy (fun i => zland (M 142 (120 * d + i)) 255) (M 141 d) (M43 103 23) = 47)) → (M50 = M43) → K76 v48 M50 := by
        intro v48 M50 k76 rfl
        refine h_K76 _ _ ?_
        intro z_v48 z_M50
        refine ⟨fun b6 => ?_, fun b6 => ?_⟩
        · -- b6.1
          refine ⟨Int.toNat (13 - M50 103 27 + v48), by omega, by omega, ?_, ?_, ?_, ?_⟩
          · show v48 = 0 ∨ v48 = 1  -- I40.1.hv
            first | with_reducible assumption | omega | exact trivial | with_reducible rfl
          · show 0 ≤ M50 103 27 ∧ M50 103 27 ≤ 12  -- I40.1.hy
            first | with_reducible assumption | omega | exact trivial | with_reducible rfl
          · show ∀ c i, c ≠ 113 → ¬ (c = 103 ∧ (i = 23 ∨ i = 24 ∨ i = 26 ∨ i = 27)) → M50 c i = M18 c i  -- I40.1.hfr
            exact gfr
          · show pS (fun i => zland (M 142 (120 * d + i)) 255) (M 141 d) (120 * d) (gEx (fun i => zland (M 142 (120 * d + i)) 255) (M 141 d) (M 141 d + 1).toNat 16 0 0 0 (fun _ => 0)) M50 v48  -- I40.1.hs
            rcases k76 with ⟨_, a⟩ | ⟨a, _⟩
            · rw [b6]; exact a
            · omega
        · -- b6.2
          have kk : v48 = 1 ∧ M50 103 24 = 0 ∧ gBy (fun i => zland (M 142 (120 * d + i)) 255) (M 141 d) (M50 103 23) = 47 := by
            rcases k76 with ⟨a, _⟩ | a
            · omega
            · exact a
          have pin := gBy_i (T := fun i => zland (M 142 (120 * d + i)) 255) (n := M 141 d) (p := M50 103 23) (by rw [kk.2.2]; decide)
          intro K96 h_K96
          have k_K96 : ∀ (v56 : Int), ((v56 = 0 ∧ M50 103 27 ≠ 12) ∨ (v56 = 1 ∧ M50 103 27 = 12)) → K96 v56 := by
            intro v56 k96
            refine h_K96 _ ?_
            intro z_v56
            have o4 : (v56 = 0 ∨ v56 = 1) := by
              first | with_reducible assumption | omega | exact trivial | with_reducible rfl  -- o4
            refine ⟨o4, ?_⟩
            intro M59 e_M59
            have w24 : M59 103 24 = v56 := by rw [e_M59, zset_s]
            have w23 : M59 103 23 = M50 103 23 := by rw [e_M59, zset_n _ (by omega)]
            refine ⟨fun b7 => ?_, fun b7 => ?_⟩
            · -- b7.1
              have o5 : zin ((M59 103 23) + 1) := by
                first | with_reducible assumption | omega | exact trivial | with_reducible rfl  -- o5
              refine ⟨o5, ?_⟩
              intro M64 e_M64
              have w64 : M64 = zset (zset M50 103 24 0) 103 23 (M50 103 23 + 1) := by rw [e_M64, w23, e_M59, show v56 = 0 by omega]
              have w27 : M64 103 27 = M50 103 27 := by rw [w64, zset_n _ (by omega), zset_n _ (by omega)]
              refine ⟨Int.toNat (13 - M64 103 27 + v48), by omega, by omega, ?_, ?_, ?_, ?_⟩
              · show v48 = 0 ∨ v48 = 1  -- I40.2.hv
                first | with_reducible assumption | omega | exact trivial | with_reducible rfl
              · show 0 ≤ M64 103 27 ∧ M64 103 27 ≤ 12  -- I40.2.hy
                first | with_reducible assumption | omega | exact trivial | with_reducible rfl
              · show ∀ c i, c ≠ 113 → ¬ (c = 103 ∧ (i = 23 ∨ i = 24 ∨ i = 26 ∨ i = 27)) → M64 c i = M18 c i  -- I40.2.hfr
                intro c i c1 c2; rw [w64, zset_n _ (by omega), zset_n _ (by omega)]; exact gfr c i c1 c2
              · show pS (fun i => zland (M 142 (120 * d + i)) 255) (M 141 d) (120 * d) (gEx (fun i => zland (M 142 (120 * d + i)) 255) (M 141 d) (M 141 d + 1).toNat 16 0 0 0 (fun _ => 0)) M64 v48  -- I40.2.hs
                rw [kk.1]
                exact pS_next hF hL hmH hE pc1_ho kk.2.1 kk.2.2 ⟨g21.trans f21.symm, g22.trans f22.symm, g142.trans f142.symm⟩ (by omega) w64
            · -- b7.2
              have o6 : zin ((M59 103 23) + 0) := by
                first | with_reducible assumption | omega | exact trivial | with_reducible rfl  -- o6
              refine ⟨o6, ?_⟩
              intro M71 e_M71
              have w71 : M71 = zset (zset M50 103 24 1) 103 23 (M50 103 23 + 0) := by rw [e_M71, w23, e_M59, show v56 = 1 by omega]
              have w27 : M71 103 27 = M50 103 27 := by rw [w71, zset_n _ (by omega), zset_n _ (by omega)]
              refine ⟨Int.toNat (13 - M71 103 27 + v48), by omega, by omega, ?_, ?_, ?_, ?_⟩
              · show v48 = 0 ∨ v48 = 1  -- I40.3.hv
                first | with_reducible assumption | omega | exact trivial | with_reducible rfl
              · show 0 ≤ M71 103 27 ∧ M71 103 27 ≤ 12  -- I40.3.hy
                first | with_reducible assumption | omega | exact trivial | with_reducible rfl
              · show ∀ c i, c ≠ 113 → ¬ (c = 103 ∧ (i = 23 ∨ i = 24 ∨ i = 26 ∨ i = 27)) → M71 c i = M18 c i  -- I40.3.hfr
                intro c i c1 c2; rw [w71, zset_n _ (by omega), zset_n _ (by omega)]; exact gfr c i c1 c2
              · show pS (fun i => zland (M 142 (120 * d + i)) 255) (M 141 d) (120 * d) (gEx (fun i => zland (M 142 (120 * d + i)) 255) (M 141 d) (M 141 d + 1).toNat 16 0 0 0 (fun _ => 0)) M71 v48  -- I40.3.hs
                exact pS_12 hF hL hmH hE pc1_ho kk.2.1 kk.2.2 (by omega) w71
          refine ⟨fun b8 => ?_, fun b8 => ?_⟩
          · -- b8.1
            refine k_K96 _ ?_
            · show (0 = 0 ∧ M50 103 27 ≠ 12) ∨ (0 = 1 ∧ M50 103 27 = 12)  -- K96.1.k96
              first | with_reducible assumption | omega | exact trivial | with_reducible rfl
          · -- b8.2
            refine k_K96 _ ?_
            · show (1 = 0 ∧ M50 103 27 ≠ 12) ∨ (1 = 1 ∧ M50 103 27 = 12)  -- K96.2.k96
              first | with_reducible assumption | omega | exact trivial | with_reducible rfl
      intro K75 h_K75
      have k_K75 : ∀ (M78 : zM), (pS (fun i => zland (M 142 (120 * d + i)) 255) (M 141 d) (120 * d) (gEx (fun i => zland (M 142 (120 * d + i)) 255) (M 141 d) (M 141 d + 1).toNat 16 0 0 0 (fun _ => 0)) M78 0) → (M78 = M43) → K75 M78 := by
        intro M78 k75 k78
        refine h_K75 _ ?_
        intro z_M78
        refine k_K76 _ _ ?_ ?_
        · show (0 = 0 ∧ pS (fun i => zland (M 142 (120 * d + i)) 255) (M 141 d) (120 * d) (gEx (fun i => zland (M 142 (120 * d + i)) 255) (M 141 d) (M 141 d + 1).toNat 16 0 0 0 (fun _ => 0)) M78 0) ∨ (0 = 1 ∧ M43 103 24 = 0 ∧ gBy (fun i => zland (M 142 (120 * d + i)) 255) (M 141 d) (M43 103 23) = 47)  -- K76.1.k76
          exact .inl ⟨rfl, k75⟩
        · show M78 = M43  -- K76.1.rfl
          exact k78
      refine ⟨fun b9 => ?_, fun b9 => ?_⟩
      · -- b9.1
        refine k_K75 _ ?_ ?_
        · show pS (fun i => zland (M 142 (120 * d + i)) 255) (M 141 d) (120 * d) (gEx (fun i => zland (M 142 (120 * d + i)) 255) (M 141 d) (M 141 d + 1).toNat 16 0 0 0 (fun _ => 0)) M43 0  -- K75.1.k75
          exact pS_bad hL hmH hE pc1_ho b9
        · show M43 = M43  -- K75.1.k78
          rfl
      · -- b9.2
        have g23 : 0 ≤ M43 103 23 := by
          rcases pc1_ho with ⟨a, _⟩ | ⟨_, _, _, a, _⟩
          · omega
          · rw [f22, fT] at a
            rcases a with a | a
            · omega
            · exact (gBy_i (by rw [a]; decide)).1
        have gc2 : pr_X12_here M43 := by
          show (0 ≤ M43 103 21 ∧ M43 103 21 ≤ 840) ∧ M43 103 22 ≤ 120 ∧ 0 ≤ M43 103 23
          rw [g21, g22]; exact ⟨by omega, hn.2, g23⟩
        refine ⟨gc2, ?_⟩
        rintro r81 M82 ⟨q_rfl, e_r81⟩ z_r81 z_M82
        have q_rfl := q_rfl.symm
        subst q_rfl
        rw [gT, g22] at e_r81
        refine ⟨fun b10 => ?_, fun b10 => ?_⟩
        · -- b10.1
          refine k_K75 _ ?_ ?_
          · show pS (fun i => zland (M 142 (120 * d + i)) 255) (M 141 d) (120 * d) (gEx (fun i => zland (M 142 (120 * d + i)) 255) (M 141 d) (M 141 d + 1).toNat 16 0 0 0 (fun _ => 0)) M43 0  -- K75.2.k75
            exact pS_end hF hL hmH hE pc1_ho b9 (by rw [← e_r81]; exact b10)
          · show M43 = M43  -- K75.2.k78
            rfl
        · -- b10.2
          refine k_K76 _ _ ?_ ?_
          · show (1 = 0 ∧ pS (fun i => zland (M 142 (120 * d + i)) 255) (M 141 d) (120 * d) (gEx (fun i => zland (M 142 (120 * d + i)) 255) (M 141 d) (M 141 d + 1).toNat 16 0 0 0 (fun _ => 0)) M43 0) ∨ (1 = 1 ∧ M43 103 24 = 0 ∧ gBy (fun i => zland (M 142 (120 * d + i)) 255) (M 141 d) (M43 103 23) = 47)  -- K76.2.k76
            exact .inr ⟨rfl, b9, by rw [← e_r81]; exact b10⟩
          · show M43 = M43  -- K76.2.rfl
            first | with_reducible assumption | omega | exact trivial | with_reducible rfl

