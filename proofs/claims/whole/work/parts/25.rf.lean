/-- what the class knows of the faces is so -/
def bFok (M : zM) : Prop := gLab (gD (M 1 0) (M 1 1)) (gA (M 1 2) (M 2)) (M 12) (M 5 2) (M 7) ∧ (∀ i, 0 ≤ i → i < 192 → ¬ gD (M 1 0) (M 1 1) i → M 12 i = -1) ∧ ∀ k, 0 ≤ k → k < M 5 2 → bFI (M 1 0) (M 1 1) M k
theorem bFI.mem {w h : Int} {M M' : zM} {k : Int} (H : bFI w h M k) (e : ∀ c i, 6 ≤ c → c ≤ 12 → M' c i = M c i) : bFI w h M' k := by
  obtain ⟨a, b⟩ := H
  have e12 : M' 12 = M 12 := funext fun i => e 12 i (by decide) (by decide)
  refine ⟨?_, ?_⟩
  · rw [e 6 k (by decide) (by decide), e12]; exact a
  · rw [e 8 k (by decide) (by decide), e 9 k (by decide) (by decide), e 10 k (by decide) (by decide), e 11 k (by decide) (by decide), e12]; exact b
theorem gPar.to {D : Int → Prop} {A : Int → Int → Prop} {L : Int → Int} {N : Int} {F : Int → Int} {a b : Int} (h : gPar D A L N F a) (le : a ≤ b) (e : ∀ x, D x → a ≤ x → ¬ x < b) : gPar D A L N F b :=
  ⟨h.nn, h.rng, h.adj, fun k k1 k2 => by have := h.fst k k1 k2; exact ⟨this.1, this.2.1, by omega⟩, h.low, h.con, h.inc, fun x d l => h.don x d (by
    apply Classical.byContradiction
    intro c
    exact e x d (by omega) l)⟩
abbrev pr_X2_refresh (M : zM) : Prop := (bDim M) ∧ (M 1 2 = 0 ∨ M 1 2 = 1) ∧ (∀ i, gD (M 1 0) (M 1 1) i → 0 ≤ M 2 i) ∧ (M 5 1 = M 1 3 → bFok M)
abbrev po_X2_refresh (M : zM) (M' : zM) : Prop := (∀ c i, ¬ (6 ≤ c ∧ c ≤ 13) → ¬ (c = 5 ∧ (i = 1 ∨ i = 2)) → M' c i = M c i) ∧ (M' 5 1 = M 1 3) ∧ (bFok M') ∧ (M 5 1 = M 1 3 → M' = M)
set_option maxHeartbeats 1000000 in
theorem ok_X2_refresh : zSnd zS 145 0 0 yX2_refresh cX2_refresh 3 none 3 [2] (F_X2_refresh pr_X2_refresh po_X2_refresh) := by
  refine (sn_X2_refresh ok_J7_fill_53178 ok_X2_faceAt ok_X2_spread).mono ?_
  rintro xs P M hz hR ⟨rfl, ⟨hd, ht, hc, hk⟩, hP⟩
  refine ⟨rfl, ?_⟩
  change vc_X2_refresh pr_J7_fill_53178 po_J7_fill_53178 pr_X2_faceAt po_X2_faceAt pr_X2_spread po_X2_spread P M
  unfold vc_X2_refresh
  refine ⟨fun b1 => ?_, fun b1 => ?_⟩
  · -- b1.1
    intro M2 e_M2
    intro M5 e_M5
    have q : ∀ c i, ¬ (c = 5 ∧ (i = 1 ∨ i = 2)) → M5 c i = M c i := fun c i k => by
      rw [e_M5, zset_n _ (by omega), e_M2, zset_n _ (by omega)]
    have q1 : M5 5 1 = M 1 3 := by rw [e_M5, zset_n _ (by omega), e_M2, zset_s]
    have q2 : M5 5 2 = 0 := by rw [e_M5, zset_s]
    have gc1 : pr_J7_fill_53178 12 (-1) M5 := by
      refine ⟨?_, ?_⟩
      · show zia 12  -- c1.ha
        exact (zia_k (c := 12) (by decide +kernel))
      · show zin (-1)  -- c1.hv
        decide
    refine ⟨gc1, ?_⟩
    rintro M8 ⟨pc1_hi, pc1_hf⟩ z_M8
    have e12 : zlni 12 = 192 := rfl
    rw [e12] at pc1_hi pc1_hf
    have r : ∀ c i, c ≠ 12 → ¬ (c = 5 ∧ (i = 1 ∨ i = 2)) → M8 c i = M c i := fun c i k1 k2 => by rw [pc1_hf c i (.inl k1)]; exact q c i k2
    refine ⟨fun v13 M15 n17 => (n17 : Int) = (M 1 1 - v13) ∧ (0 ≤ v13 ∧ v13 ≤ M 1 1) ∧ (∀ c i, ¬ (6 ≤ c ∧ c ≤ 13) → ¬ (c = 5 ∧ (i = 1 ∨ i = 2)) → M15 c i = M c i) ∧ (M15 5 1 = M 1 3) ∧ (gPar (gD (M 1 0) (M 1 1)) (gA (M 1 2) (M 2)) (M15 12) (M15 5 2) (M15 7) (16 * v13)) ∧ (∀ i, 0 ≤ i → i < 192 → ¬ gD (M 1 0) (M 1 1) i → M15 12 i = -1) ∧ (∀ k, 0 ≤ k → k < M15 5 2 → bFI (M 1 0) (M 1 1) M15 k), ⟨Int.toNat (M 1 1 - 0), by omega, ?_, ?_, ?_, ?_, ?_, ?_⟩, ?_⟩
    · show 0 ≤ 0 ∧ 0 ≤ M 1 1  -- I41.0.hv
      first | with_reducible assumption | omega | exact trivial | with_reducible rfl
    · show ∀ c i, ¬ (6 ≤ c ∧ c ≤ 13) → ¬ (c = 5 ∧ (i = 1 ∨ i = 2)) → M8 c i = M c i  -- I41.0.hf
      intro c i k1 k2; exact r c i (by omega) k2
    · show M8 5 1 = M 1 3  -- I41.0.h51
      rw [pc1_hf _ _ (.inl (by decide))]; exact q1
    · show gPar (gD (M 1 0) (M 1 1)) (gA (M 1 2) (M 2)) (M8 12) (M8 5 2) (M8 7) (16 * 0)  -- I41.0.hp
      rw [pc1_hf 5 2 (.inl (by decide)), q2]; exact gPar.nil (fun x d => pc1_hi x d.1 (by omega)) (fun x d => d.1)
    · show ∀ i, 0 ≤ i → i < 192 → ¬ gD (M 1 0) (M 1 1) i → M8 12 i = -1  -- I41.0.hn
      intro i i0 i1 _; exact pc1_hi i i0 i1
    · show ∀ k, 0 ≤ k → k < M8 5 2 → bFI (M 1 0) (M 1 1) M8 k  -- I41.0.hi
      rw [pc1_hf 5 2 (.inl (by decide)), q2]; intro k k1 k2; omega
    rintro v13 M15 n17 ⟨h_n17, hv, hf, h51, hp, hn, hi⟩ z_v13 z_M15
    have w0 := hf 1 0 (by decide) (by decide)
    have w1 := hf 1 1 (by decide) (by decide)
    have w2 := hf 1 2 (by decide) (by decide)
    have w3 : M15 2 = M 2 := funext fun i => hf 2 i (by decide) (by omega)
    refine ⟨fun b2 => ?_, fun b2 => ?_⟩
    · -- b2.1
      refine hP _ ⟨?_, ?_, ?_, ?_⟩
      · show ∀ c i, ¬ (6 ≤ c ∧ c ≤ 13) → ¬ (c = 5 ∧ (i = 1 ∨ i = 2)) → M15 c i = M c i  -- p1.hf
        first | with_reducible assumption | omega | exact trivial | with_reducible rfl
      · show M15 5 1 = M 1 3  -- p1.h51
        first | with_reducible assumption | omega | exact trivial | with_reducible rfl
      · show bFok M15  -- p1.hok
        refine ⟨?_, ?_, ?_⟩
        · rw [w0, w1, w2, w3]; exact hp.lab (fun x d => by have := d.2.2; omega)
        · rw [w0, w1]; exact hn
        · rw [w0, w1]; exact hi
      · show M 5 1 = M 1 3 → M15 = M  -- p1.hs
        intro e; exact absurd e b1
    · -- b2.2
      refine ⟨fun v25 M27 n29 => (n29 : Int) = (M 1 0 - v25) ∧ (0 ≤ v25 ∧ v25 ≤ M 1 0) ∧ (∀ c i, ¬ (6 ≤ c ∧ c ≤ 13) → ¬ (c = 5 ∧ (i = 1 ∨ i = 2)) → M27 c i = M c i) ∧ (M27 5 1 = M 1 3) ∧ (gPar (gD (M 1 0) (M 1 1)) (gA (M 1 2) (M 2)) (M27 12) (M27 5 2) (M27 7) (16 * v13 + v25)) ∧ (∀ i, 0 ≤ i → i < 192 → ¬ gD (M 1 0) (M 1 1) i → M27 12 i = -1) ∧ (∀ k, 0 ≤ k → k < M27 5 2 → bFI (M 1 0) (M 1 1) M27 k), ⟨Int.toNat (M 1 0 - 0), by omega, ?_, ?_, ?_, ?_, ?_, ?_⟩, ?_⟩
      · show 0 ≤ 0 ∧ 0 ≤ M 1 0  -- I54.0.hv2
        first | with_reducible assumption | omega | exact trivial | with_reducible rfl
      · show ∀ c i, ¬ (6 ≤ c ∧ c ≤ 13) → ¬ (c = 5 ∧ (i = 1 ∨ i = 2)) → M15 c i = M c i  -- I54.0.hf2
        first | with_reducible assumption | omega | exact trivial | with_reducible rfl
      · show M15 5 1 = M 1 3  -- I54.0.h512
        first | with_reducible assumption | omega | exact trivial | with_reducible rfl
      · show gPar (gD (M 1 0) (M 1 1)) (gA (M 1 2) (M 2)) (M15 12) (M15 5 2) (M15 7) (16 * v13 + 0)  -- I54.0.hp2
        rw [show 16 * v13 + 0 = 16 * v13 by omega]; exact hp
      · show ∀ i, 0 ≤ i → i < 192 → ¬ gD (M 1 0) (M 1 1) i → M15 12 i = -1  -- I54.0.hn2
        first | with_reducible assumption | omega | exact trivial | with_reducible rfl
      · show ∀ k, 0 ≤ k → k < M15 5 2 → bFI (M 1 0) (M 1 1) M15 k  -- I54.0.hi2
        first | with_reducible assumption | omega | exact trivial | with_reducible rfl
      rintro v25 M27 n29 ⟨h_n29, hv2, hf2, h512, hp2, hn2, hi2⟩ z_v25 z_M27
      have y0 := hf2 1 0 (by decide) (by decide)
      have y1 := hf2 1 1 (by decide) (by decide)
      have y2 := hf2 1 2 (by decide) (by decide)
      have y3 : M27 2 = M 2 := funext fun i => hf2 2 i (by decide) (by omega)
      refine ⟨fun b3 => ?_, fun b3 => ?_⟩
      · -- b3.1
        have o1 : zin (v13 + 1) := by
          first | with_reducible assumption | omega | exact trivial | with_reducible rfl  -- o1
        refine ⟨o1, ?_⟩
        refine ⟨Int.toNat (M 1 1 - (v13 + 1)), by omega, by omega, ?_, ?_, ?_, ?_, ?_, ?_⟩
        · show 0 ≤ (v13 + 1) ∧ (v13 + 1) ≤ M 1 1  -- I41.1.hv
          first | with_reducible assumption | omega | exact trivial | with_reducible rfl
        · show ∀ c i, ¬ (6 ≤ c ∧ c ≤ 13) → ¬ (c = 5 ∧ (i = 1 ∨ i = 2)) → M27 c i = M c i  -- I41.1.hf
          first | with_reducible assumption | omega | exact trivial | with_reducible rfl
        · show M27 5 1 = M 1 3  -- I41.1.h51
          first | with_reducible assumption | omega | exact trivial | with_reducible rfl
        · show gPar (gD (M 1 0) (M 1 1)) (gA (M 1 2) (M 2)) (M27 12) (M27 5 2) (M27 7) (16 * (v13 + 1))  -- I41.1.hp
          exact hp2.to (by omega) (fun x d l1 l2 => by omega)
        · show ∀ i, 0 ≤ i → i < 192 → ¬ gD (M 1 0) (M 1 1) i → M27 12 i = -1  -- I41.1.hn
          first | with_reducible assumption | omega | exact trivial | with_reducible rfl
        · show ∀ k, 0 ≤ k → k < M27 5 2 → bFI (M 1 0) (M 1 1) M27 k  -- I41.1.hi
          first | with_reducible assumption | omega | exact trivial | with_reducible rfl
      · -- b3.2
        have gc2 : pr_X2_faceAt v25 v13 M27 := by
          show bDim M27
          unfold bDim; omega
        refine ⟨gc2, ?_⟩
        rintro r41 M42 ⟨q_rfl, e_r41⟩ z_r41 z_M42
        have q_rfl := q_rfl.symm
        subst q_rfl
        rw [y0, y1, if_pos (by omega)] at e_r41
        have dd : gD (M 1 0) (M 1 1) (16 * v13 + v25) := by omega
        refine ⟨fun b4 => ?_, fun b4 => ?_⟩
        · -- b4.1
          have o2 : zin (v25 + 1) := by
            first | with_reducible assumption | omega | exact trivial | with_reducible rfl  -- o2
          refine ⟨o2, ?_⟩
          refine ⟨Int.toNat (M 1 0 - (v25 + 1)), by omega, by omega, ?_, ?_, ?_, ?_, ?_, ?_⟩
          · show 0 ≤ (v25 + 1) ∧ (v25 + 1) ≤ M 1 0  -- I54.1.hv2
            first | with_reducible assumption | omega | exact trivial | with_reducible rfl
          · show ∀ c i, ¬ (6 ≤ c ∧ c ≤ 13) → ¬ (c = 5 ∧ (i = 1 ∨ i = 2)) → M27 c i = M c i  -- I54.1.hf2
            first | with_reducible assumption | omega | exact trivial | with_reducible rfl
          · show M27 5 1 = M 1 3  -- I54.1.h512
            first | with_reducible assumption | omega | exact trivial | with_reducible rfl
          · show gPar (gD (M 1 0) (M 1 1)) (gA (M 1 2) (M 2)) (M27 12) (M27 5 2) (M27 7) (16 * v13 + (v25 + 1))  -- I54.1.hp2
            rw [show 16 * v13 + (v25 + 1) = 16 * v13 + v25 + 1 by omega]; exact hp2.skip (fun _ => by omega)
          · show ∀ i, 0 ≤ i → i < 192 → ¬ gD (M 1 0) (M 1 1) i → M27 12 i = -1  -- I54.1.hn2
            first | with_reducible assumption | omega | exact trivial | with_reducible rfl
          · show ∀ k, 0 ≤ k → k < M27 5 2 → bFI (M 1 0) (M 1 1) M27 k  -- I54.1.hi2
            first | with_reducible assumption | omega | exact trivial | with_reducible rfl
        · -- b4.2
          have gc3 : pr_X2_spread v25 v13 (M27 5 2) M27 := by
            refine ⟨?_, ?_, ?_, ?_, ?_, ?_, ?_, ?_, ?_⟩
            · show bDim M27  -- c3.hd
              unfold bDim; omega
            · show M27 1 2 = 0 ∨ M27 1 2 = 1  -- c3.ht
              omega
            · show 0 ≤ v25 ∧ v25 < M27 1 0  -- c3.hx
              omega
            · show 0 ≤ v13 ∧ v13 < M27 1 1  -- c3.hy
              omega
            · show ∀ i, gD (M27 1 0) (M27 1 1) i → 0 ≤ M27 2 i  -- c3.hc
              rw [y0, y1, y3]; exact hc
            · show gPar (gD (M27 1 0) (M27 1 1)) (gA (M27 1 2) (M27 2)) (M27 12) (M27 5 2) (M27 7) (16 * v13 + v25)  -- c3.hp
              rw [y0, y1, y2, y3]; exact hp2
            · show M27 12 (16 * v13 + v25) = -1  -- c3.hu
              have := hp2.rng _ dd; omega
            · show ∀ i, 0 ≤ i → i < 192 → ¬ gD (M27 1 0) (M27 1 1) i → M27 12 i = -1  -- c3.hn
              rw [y0, y1]; exact hn2
            · show ∀ k, 0 ≤ k → k < (M27 5 2) → bFI (M27 1 0) (M27 1 1) M27 k  -- c3.hi
              rw [y0, y1]; exact hi2
          refine ⟨gc3, ?_⟩
          rintro M52 ⟨pc3_hf, pc3_hp, pc3_hn, pc3_hi⟩ z_M52
          rw [y0, y1, y2, y3] at pc3_hp
          rw [y0, y1] at pc3_hn pc3_hi
          have eN := pc3_hf 5 2 (by decide)
          have nle := hp2.le (fun x d => d.1) (by omega)
          have nn := hp2.nn
          have o3 : zin ((M52 5 2) + 1) := by
            omega
          refine ⟨o3, ?_⟩
          intro M58 e_M58
          have z : ∀ c i, ¬ (c = 5 ∧ i = 2) → M58 c i = M52 c i := fun c i k => by rw [e_M58, zset_n _ (by omega)]
          have z52 : M58 5 2 = M27 5 2 + 1 := by rw [e_M58, zset_s, eN]
          have z12 : M58 12 = M52 12 := funext fun i => z 12 i (by omega)
          have z7 : M58 7 = M52 7 := funext fun i => z 7 i (by omega)
          have o4 : zin (v25 + 1) := by
            first | with_reducible assumption | omega | exact trivial | with_reducible rfl  -- o4
          refine ⟨o4, ?_⟩
          refine ⟨Int.toNat (M 1 0 - (v25 + 1)), by omega, by omega, ?_, ?_, ?_, ?_, ?_, ?_⟩
          · show 0 ≤ (v25 + 1) ∧ (v25 + 1) ≤ M 1 0  -- I54.2.hv2
            first | with_reducible assumption | omega | exact trivial | with_reducible rfl
          · show ∀ c i, ¬ (6 ≤ c ∧ c ≤ 13) → ¬ (c = 5 ∧ (i = 1 ∨ i = 2)) → M58 c i = M c i  -- I54.2.hf2
            intro c i k1 k2; rw [z c i (by omega), pc3_hf c i k1]; exact hf2 c i k1 k2
          · show M58 5 1 = M 1 3  -- I54.2.h512
            rw [z 5 1 (by decide), pc3_hf 5 1 (by decide)]; exact h512
          · show gPar (gD (M 1 0) (M 1 1)) (gA (M 1 2) (M 2)) (M58 12) (M58 5 2) (M58 7) (16 * v13 + (v25 + 1))  -- I54.2.hp2
            rw [z52, z12, z7, show 16 * v13 + (v25 + 1) = 16 * v13 + v25 + 1 by omega]; exact pc3_hp
          · show ∀ i, 0 ≤ i → i < 192 → ¬ gD (M 1 0) (M 1 1) i → M58 12 i = -1  -- I54.2.hn2
            rw [z12]; exact pc3_hn
          · show ∀ k, 0 ≤ k → k < M58 5 2 → bFI (M 1 0) (M 1 1) M58 k  -- I54.2.hi2
            rw [z52]; intro k k1 k2
            exact (pc3_hi k k1 k2).mem (fun c i c1 c2 => z c i (by omega))
  · -- b1.2
    refine hP _ ⟨?_, ?_, ?_, ?_⟩
    · show ∀ c i, ¬ (6 ≤ c ∧ c ≤ 13) → ¬ (c = 5 ∧ (i = 1 ∨ i = 2)) → M c i = M c i  -- p2.hf
      intro c i _ _; rfl
    · show M 5 1 = M 1 3  -- p2.h51
      exact b1
    · show bFok M  -- p2.hok
      exact hk b1
    · show M 5 1 = M 1 3 → M = M  -- p2.hs
      intro _; rfl

abbrev pr_X2_colour (f : Int) (M : zM) : Prop := (bDim M) ∧ (0 ≤ f ∧ f < 192) ∧ (gD (M 1 0) (M 1 1) (M 7 f))
abbrev po_X2_colour (f : Int) (M : zM) (r : Int) (M' : zM) : Prop := M' = M ∧ r = M 2 (M 7 f)
set_option maxHeartbeats 1000000 in
theorem ok_X2_colour : zSnd zS 145 0 0 yX2_colour cX2_colour 2 (some .int) 1 [2, 0] (F_X2_colour pr_X2_colour po_X2_colour) := by
  refine (sn_X2_colour ok_X0_colourAt).mono ?_
  rintro xs P M hz hR ⟨f, rfl, ⟨hd, hf, hF⟩, hP⟩
  refine ⟨_, rfl, ?_⟩
  have z_f := zall_h (zall_t hz) (by decide)
  change vc_X2_colour pr_X0_colourAt po_X0_colourAt f P M
  unfold vc_X2_colour
  have o1 : ((0 : Int) ≤ f ∧ f < 192) := by
    first | with_reducible assumption | omega | exact trivial | with_reducible rfl  -- o1
  refine ⟨o1, ?_⟩
  have o2 : 0 ≤ (M 7 f) := by
    first | with_reducible assumption | omega | exact trivial | with_reducible rfl  -- o2
  refine ⟨o2, ?_⟩
  have gc1 : pr_X0_colourAt ((M 7 f) % 16) ((M 7 f) / 16) M := by
    show bDim M
    first | with_reducible assumption | omega | exact trivial | with_reducible rfl  -- c1.hd
  refine ⟨gc1, ?_⟩
  rintro r3 M4 ⟨q_rfl, e_r3⟩ z_r3 z_M4
  have q_rfl := q_rfl.symm
  subst q_rfl
  refine hP _ _ ⟨rfl, ?_⟩
  · rw [e_r3]; unfold bCol; rw [if_pos (by omega), show 16 * (M 7 f / 16) + M 7 f % 16 = M 7 f by omega]  -- p1

abbrev pr_X2_width (f : Int) (M : zM) : Prop := (0 ≤ f ∧ f < 192) ∧ (0 ≤ M 8 f ∧ M 8 f ≤ M 10 f ∧ M 10 f < 16)
abbrev po_X2_width (f : Int) (M : zM) (r : Int) (M' : zM) : Prop := M' = M ∧ r = M 10 f - M 8 f + 1
set_option maxHeartbeats 1000000 in
theorem ok_X2_width : zSnd zS 145 0 0 yX2_width cX2_width 2 (some .int) 0 [2, 0] (F_X2_width pr_X2_width po_X2_width) := by
  refine (sn_X2_width).mono ?_
  rintro xs P M hz hR ⟨f, rfl, ⟨hf, hb⟩, hP⟩
  refine ⟨_, rfl, ?_⟩
  have z_f := zall_h (zall_t hz) (by decide)
  change vc_X2_width f P M
  unfold vc_X2_width
  have o1 : ((0 : Int) ≤ f ∧ f < 192) := by
    first | with_reducible assumption | omega | exact trivial | with_reducible rfl  -- o1
  refine ⟨o1, ?_⟩
  have o2 : zin (((M 10 f) - (M 8 f)) + 1) := by
    first | with_reducible assumption | omega | exact trivial | with_reducible rfl  -- o2
  refine ⟨o2, ?_⟩
  refine hP _ _ ⟨rfl, ?_⟩
  · first | with_reducible assumption | omega | exact trivial | with_reducible rfl  -- p1

abbrev pr_X2_height (f : Int) (M : zM) : Prop := (0 ≤ f ∧ f < 192) ∧ (0 ≤ M 9 f ∧ M 9 f ≤ M 11 f ∧ M 11 f < 12)
abbrev po_X2_height (f : Int) (M : zM) (r : Int) (M' : zM) : Prop := M' = M ∧ r = M 11 f - M 9 f + 1
set_option maxHeartbeats 1000000 in
theorem ok_X2_height : zSnd zS 145 0 0 yX2_height cX2_height 2 (some .int) 0 [2, 0] (F_X2_height pr_X2_height po_X2_height) := by
  refine (sn_X2_height).mono ?_
  rintro xs P M hz hR ⟨f, rfl, ⟨hf, hb⟩, hP⟩
  refine ⟨_, rfl, ?_⟩
  have z_f := zall_h (zall_t hz) (by decide)
  change vc_X2_height f P M
  unfold vc_X2_height
  have o1 : ((0 : Int) ≤ f ∧ f < 192) := by
    first | with_reducible assumption | omega | exact trivial | with_reducible rfl  -- o1
  refine ⟨o1, ?_⟩
  have o2 : zin (((M 11 f) - (M 9 f)) + 1) := by
    first | with_reducible assumption | omega | exact trivial | with_reducible rfl  -- o2
  refine ⟨o2, ?_⟩
  refine hP _ _ ⟨rfl, ?_⟩
  · first | with_reducible assumption | omega | exact trivial | with_reducible rfl  -- p1

