abbrev pr_X12_isOutside (f : Int) (c : Int) (M : zM) : Prop := (mDim M) ∧ (0 ≤ f) ∧ (0 ≤ c ∧ c < 252)
abbrev po_X12_isOutside (f : Int) (c : Int) (M : zM) (r : Int) (M' : zM) : Prop := (M' = M) ∧ (zB r (zg (M 103 1) (M 103 2) (M 115) (c % 18 - 1) (c / 18 - 1) ≠ f))
set_option maxHeartbeats 1000000 in
theorem ok_X12_isOutside : zSnd zS 145 0 0 yX12_isOutside cX12_isOutside 3 (some .boolean) 1 [2, 0, 0] (F_X12_isOutside pr_X12_isOutside po_X12_isOutside) := by
  refine (sn_X12_isOutside ok_X12_isOf).mono ?_
  rintro xs P M hz hR ⟨f, c, rfl, ⟨hd, hf, hc⟩, hP⟩
  refine ⟨_, _, rfl, ?_⟩
  have z_f := zall_h (zall_t hz) (by decide)
  have z_c := zall_h (zall_t (zall_t hz)) (by decide)
  change vc_X12_isOutside pr_X12_isOf po_X12_isOf f c P M
  unfold vc_X12_isOutside
  have o1 : 0 ≤ c := by
    first | with_reducible assumption | omega | exact trivial | with_reducible rfl  -- o1
  refine ⟨o1, ?_⟩
  have o2 : zin ((c / 18) - 1) := by
    first | with_reducible assumption | omega | exact trivial | with_reducible rfl  -- o2
  refine ⟨o2, ?_⟩
  have o3 : zin ((c % 18) - 1) := by
    first | with_reducible assumption | omega | exact trivial | with_reducible rfl  -- o3
  refine ⟨o3, ?_⟩
  have gc1 : pr_X12_isOf f ((c % 18) - 1) ((c / 18) - 1) M := by
    show mDim M
    first | with_reducible assumption | omega | exact trivial | with_reducible rfl  -- c1.hd
  refine ⟨gc1, ?_⟩
  rintro r4 M5 ⟨q_rfl, e_r4⟩ z_r4 z_M5
  have q_rfl := q_rfl.symm
  subst q_rfl
  have B := zif01 e_r4
  have E : mOf M f (c % 18 - 1) (c / 18 - 1) ↔ zg (M 103 1) (M 103 2) (M 115) (c % 18 - 1) (c / 18 - 1) = f := by
    constructor
    · rintro ⟨a1, a2, a3, a4, a5⟩; rw [zg_i ⟨a1, a2, a3, a4⟩]; exact a5
    · intro e; have g := zg_ge e hf; exact g
  refine ⟨fun b1 => ?_, fun b1 => ?_⟩
  · -- b1.1
    refine hP _ _ ⟨?_, ?_⟩
    · show M = M  -- p1.rfl
      first | with_reducible assumption | omega | exact trivial | with_reducible rfl
    · show zB 0 (zg (M 103 1) (M 103 2) (M 115) (c % 18 - 1) (c / 18 - 1) ≠ f)  -- p1.pb
      exact zB.f (fun h => h (E.1 (B.ne.1 b1)))
  · -- b1.2
    refine hP _ _ ⟨?_, ?_⟩
    · show M = M  -- p2.rfl
      first | with_reducible assumption | omega | exact trivial | with_reducible rfl
    · show zB 1 (zg (M 103 1) (M 103 2) (M 115) (c % 18 - 1) (c / 18 - 1) ≠ f)  -- p2.pb
      exact zB.t (fun h => B.z.1 b1 (E.2 h))

/-- the reference's search for one part of what isn't in face f, under way -/
def mHF (M M0 : zM) (f a : Int) (F : Int → Int) (M' : zM) : Prop :=
  (∀ c i, c ≠ 117 → ¬ (c = 103 ∧ i = 37) → M' c i = M c i) ∧ M' 103 37 = M0 103 37 ∧
  gGro (hD (M 103 1) (M 103 2) (M 115) f) (hA (M 103 5)) (M0 117) (M0 103 37) F a (M' 117) ∧ (∀ i, 0 ≤ i → i < 252 → ¬ hD (M 103 1) (M 103 2) (M 115) f i → M' 117 i = -1)
theorem mHF.set {M M0 : zM} {f a : Int} {F : Int → Int} {M' : zM} (h : mHF M M0 f a F M') {x y : Int} (dx : hD (M 103 1) (M 103 2) (M 115) f x) (dy : hD (M 103 1) (M 103 2) (M 115) f y) (p : hA (M 103 5) x y) (lx : M' 117 x = M0 103 37) (ly : M' 117 y < 0) : mHF M M0 f a F (zset M' 117 y (M0 103 37)) := by
  obtain ⟨h1, h2, h5, h6⟩ := h
  refine ⟨?_, ?_, ?_, ?_⟩
  · intro c i a1 a3
    rw [zset_n _ (.inl a1)]
    exact h1 c i a1 a3
  · rw [zset_n _ (.inl (by decide))]; exact h2
  · exact h5.more dx dy p lx ly (fun z _ hz => zset_n _ (.inr hz)) (zset_s _ _ _ _)
  · intro i i0 i1 hi
    rw [zset_n _ (.inr (fun e => hi (by rw [e]; exact dy)))]
    exact h6 i i0 i1 hi
theorem gOff_h {t d : Int} (h0 : 0 ≤ d) (h : d < (if t = 0 then 8 else 4)) : gOff (if t = 0 then 1 else 0) (zdx d) (zdy d) := by
  refine gOff_m h0 ?_
  split at h
  · rename_i c; rw [if_pos c]; exact h
  · rename_i c; rw [if_neg c]; exact h
theorem gOff_h' {t dx dy : Int} (h : gOff (if t = 0 then 1 else 0) dx dy) : ∃ d, 0 ≤ d ∧ d < (if t = 0 then 8 else 4) ∧ zdx d = dx ∧ zdy d = dy := by
  obtain ⟨d, d0, d1, d2, d3⟩ := gOff_m' h
  refine ⟨d, d0, ?_, d2, d3⟩
  split
  · rename_i c; rw [if_pos c] at d1; exact d1
  · rename_i c; rw [if_neg c] at d1; exact d1
theorem gOff_hb {t d : Int} (h0 : 0 ≤ d) (h : d < (if t = 0 then 8 else 4)) : gOff (if t = 0 then 1 else 0) (zac d.toNat) (zdn d.toNat) := by
  refine gOff_b h0 ?_
  split at h
  · rename_i c; rw [if_pos c]; exact h
  · rename_i c; rw [if_neg c]; exact h
theorem gOff_hb' {t dx dy : Int} (h : gOff (if t = 0 then 1 else 0) dx dy) : ∃ d : Int, 0 ≤ d ∧ d < (if t = 0 then 8 else 4) ∧ zac d.toNat = dx ∧ zdn d.toNat = dy := by
  obtain ⟨d, d0, d1, d2, d3⟩ := gOff_b' h
  refine ⟨d, d0, ?_, d2, d3⟩
  split
  · rename_i c; rw [if_pos c] at d1; exact d1
  · rename_i c; rw [if_neg c] at d1; exact d1
theorem gGro.fs {D : Int → Prop} {A : Int → Int → Prop} {L0 : Int → Int} {N : Int} {F : Int → Int} {a : Int} {L : Int → Int} (h : gGro D A L0 N F a L) (sym : ∀ x y, A x y → A y x) (cl : ∀ x y, D x → D y → A x y → L x = N → 0 ≤ L y) : ∃ F', gPar D A L (N + 1) F' (a + 1) := by
  obtain ⟨F', f0, f1⟩ : ∃ F' : Int → Int, F' N = a ∧ ∀ k, k ≠ N → F' k = F k := ⟨fun k => if k = N then a else F k, if_pos rfl, fun k hk => if_neg hk⟩
  exact ⟨F', h.done sym cl (fun k _ k2 => f1 k (by omega)) f0⟩
abbrev pr_X12_findHoles (f : Int) (M : zM) : Prop := (mDim M) ∧ (M 103 5 = 0 ∨ M 103 5 = 1) ∧ (0 ≤ f)
abbrev po_X12_findHoles (f : Int) (M : zM) (M' : zM) : Prop := (∀ c i, c ≠ 117 → ¬ (c = 103 ∧ i = 37) → M' c i = M c i) ∧ (gHo (M 103 1) (M 103 2) (M 103 5) (M 115) f (M' 117) (M' 103 37)) ∧ (∀ i, 0 ≤ i → i < 252 → ¬ hD (M 103 1) (M 103 2) (M 115) f i → M' 117 i = -1)
set_option maxHeartbeats 4000000 in
theorem ok_X12_findHoles : zSnd zS 145 0 0 yX12_findHoles cX12_findHoles 11 none 2 [2, 0] (F_X12_findHoles pr_X12_findHoles po_X12_findHoles) := by
  refine (sn_X12_findHoles ok_X12_isOutside ok_X12_dx ok_X12_dy).mono ?_
  rintro xs P M hz hR ⟨f, rfl, ⟨hd, ht, hf0⟩, hP⟩
  refine ⟨_, rfl, ?_⟩
  have z_f := zall_h (zall_t hz) (by decide)
  change vc_X12_findHoles pr_X12_isOutside po_X12_isOutside pr_X12_dx po_X12_dx pr_X12_dy po_X12_dy f P M
  unfold vc_X12_findHoles
  have hDb : ∀ i, hD (M 103 1) (M 103 2) (M 115) f i → 0 ≤ i ∧ i < 18 * (M 103 2 + 2) ∧ i % 18 < M 103 1 + 2 := fun i h => ⟨h.1, by have := h.1; have := h.2.2.1; omega, h.2.1⟩
  intro M1 e_M1
  refine ⟨fun v4 M6 n8 => (n8 : Int) = (252 - v4) ∧ (0 ≤ v4 ∧ v4 ≤ 252) ∧ (∀ c i, c ≠ 117 → ¬ (c = 103 ∧ i = 37) → M6 c i = M c i) ∧ (M6 103 37 = 0) ∧ (∀ i, 0 ≤ i → i < v4 → M6 117 i = -1), ⟨Int.toNat (252 - 0), by omega, ?_, ?_, ?_, ?_⟩, ?_⟩
  · show 0 ≤ 0 ∧ 0 ≤ 252  -- I17.0.hv4
    first | with_reducible assumption | omega | exact trivial | with_reducible rfl
  · show ∀ c i, c ≠ 117 → ¬ (c = 103 ∧ i = 37) → M1 c i = M c i  -- I17.0.hf
    intro c i q1 q2; rw [e_M1, zset_n _ (by omega)]
  · show M1 103 37 = 0  -- I17.0.h37
    rw [e_M1, zset_s]
  · show ∀ i, 0 ≤ i → i < 0 → M1 117 i = -1  -- I17.0.h5
    first | with_reducible assumption | omega | exact trivial | with_reducible rfl
  rintro v4 M6 n8 ⟨h_n8, hv4, hf, h37, h5⟩ z_v4 z_M6
  refine ⟨fun b1 => ?_, fun b1 => ?_⟩
  · -- b1.1
    refine ⟨fun v16 M18 n20 => (n20 : Int) = (18 * (M 103 2 + 2) - v16) ∧ (0 ≤ v16 ∧ v16 ≤ 18 * (M 103 2 + 2)) ∧ (∀ c i, c ≠ 117 → ¬ (c = 103 ∧ i = 37) → M18 c i = M c i) ∧ (∃ F, gPar (hD (M 103 1) (M 103 2) (M 115) f) (hA (M 103 5)) (M18 117) (M18 103 37) F v16) ∧ (∀ i, 0 ≤ i → i < 252 → ¬ hD (M 103 1) (M 103 2) (M 115) f i → M18 117 i = -1), ⟨Int.toNat (18 * (M 103 2 + 2) - 0), by omega, ?_, ?_, ?_, ?_⟩, ?_⟩
    · show 0 ≤ 0 ∧ 0 ≤ 18 * (M 103 2 + 2)  -- I39.0.hv16
      first | with_reducible assumption | omega | exact trivial | with_reducible rfl
    · show ∀ c i, c ≠ 117 → ¬ (c = 103 ∧ i = 37) → M6 c i = M c i  -- I39.0.hf2
      intro c i q1 q2; exact hf c i q1 q2
    · show ∃ F, gPar (hD (M 103 1) (M 103 2) (M 115) f) (hA (M 103 5)) (M6 117) (M6 103 37) F 0  -- I39.0.hp
      rw [h37]; exact ⟨fun _ => 0, gPar.nil (fun x d => h5 x d.1 (by have := hDb x d; omega)) (fun x d => d.1)⟩
    · show ∀ i, 0 ≤ i → i < 252 → ¬ hD (M 103 1) (M 103 2) (M 115) f i → M6 117 i = -1  -- I39.0.hn
      intro i q1 q2 _; exact h5 i q1 (by omega)
    rintro v16 M18 n20 ⟨h_n20, hv16, hf2, hp, hn⟩ z_v16 z_M18
    have w1 := hf2 103 1 (by decide) (by decide)
    have w2 := hf2 103 2 (by decide) (by decide)
    have w5 := hf2 103 5 (by decide) (by decide)
    have w115 : M18 115 = M 115 := funext fun i => hf2 115 i (by decide) (by omega)
    obtain ⟨F, hpF⟩ := id hp
    have nle := hpF.le (fun x d => d.1) hv16.1
    have nn := hpF.nn
    have o1 : zin (18 * ((M 103 2) + 2)) := by
      first | with_reducible assumption | omega | exact trivial | with_reducible rfl  -- o1
    refine ⟨o1, ?_⟩
    refine ⟨fun b2 => ?_, fun b2 => ?_⟩
    · -- b2.1
      refine hP _ ⟨?_, ?_, ?_⟩
      · show ∀ c i, c ≠ 117 → ¬ (c = 103 ∧ i = 37) → M18 c i = M c i  -- p1.hf
        first | with_reducible assumption | omega | exact trivial | with_reducible rfl
      · show gHo (M 103 1) (M 103 2) (M 103 5) (M 115) f (M18 117) (M18 103 37)  -- p1.hL
        exact ⟨F, hpF.lab (fun x d => by have := hDb x d; omega)⟩
      · show ∀ i, 0 ≤ i → i < 252 → ¬ hD (M 103 1) (M 103 2) (M 115) f i → M18 117 i = -1  -- p1.hn
        first | with_reducible assumption | omega | exact trivial | with_reducible rfl
    · -- b2.2
      have o2 : 0 ≤ v16 := by
        first | with_reducible assumption | omega | exact trivial | with_reducible rfl  -- o2
      refine ⟨o2, ?_⟩
      have o3 : zin ((M18 103 1) + 2) := by
        first | with_reducible assumption | omega | exact trivial | with_reducible rfl  -- o3
      refine ⟨o3, ?_⟩
      refine ⟨fun b3 => ?_, fun b3 => ?_⟩
      · -- b3.1
        have o4 : zin (v16 + 1) := by
          first | with_reducible assumption | omega | exact trivial | with_reducible rfl  -- o4
        refine ⟨o4, ?_⟩
        refine ⟨Int.toNat (18 * (M 103 2 + 2) - (v16 + 1)), by omega, by omega, ?_, ?_, ?_, ?_⟩
        · show 0 ≤ (v16 + 1) ∧ (v16 + 1) ≤ 18 * (M 103 2 + 2)  -- I39.1.hv16
          first | with_reducible assumption | omega | exact trivial | with_reducible rfl
        · show ∀ c i, c ≠ 117 → ¬ (c = 103 ∧ i = 37) → M18 c i = M c i  -- I39.1.hf2
          first | with_reducible assumption | omega | exact trivial | with_reducible rfl
        · show ∃ F, gPar (hD (M 103 1) (M 103 2) (M 115) f) (hA (M 103 5)) (M18 117) (M18 103 37) F (v16 + 1)  -- I39.1.hp
          exact ⟨F, hpF.skip (fun d => by have := hDb _ d; omega)⟩
        · show ∀ i, 0 ≤ i → i < 252 → ¬ hD (M 103 1) (M 103 2) (M 115) f i → M18 117 i = -1  -- I39.1.hn
          first | with_reducible assumption | omega | exact trivial | with_reducible rfl
      · -- b3.2
        have o5 : ((0 : Int) ≤ v16 ∧ v16 < 252) := by
          first | with_reducible assumption | omega | exact trivial | with_reducible rfl  -- o5
        refine ⟨o5, ?_⟩
        refine ⟨fun b4 => ?_, fun b4 => ?_⟩
        · -- b4.1
          have o6 : zin (v16 + 1) := by
            first | with_reducible assumption | omega | exact trivial | with_reducible rfl  -- o6
          refine ⟨o6, ?_⟩
          refine ⟨Int.toNat (18 * (M 103 2 + 2) - (v16 + 1)), by omega, by omega, ?_, ?_, ?_, ?_⟩
          · show 0 ≤ (v16 + 1) ∧ (v16 + 1) ≤ 18 * (M 103 2 + 2)  -- I39.2.hv16
            first | with_reducible assumption | omega | exact trivial | with_reducible rfl
          · show ∀ c i, c ≠ 117 → ¬ (c = 103 ∧ i = 37) → M18 c i = M c i  -- I39.2.hf2
            first | with_reducible assumption | omega | exact trivial | with_reducible rfl
          · show ∃ F, gPar (hD (M 103 1) (M 103 2) (M 115) f) (hA (M 103 5)) (M18 117) (M18 103 37) F (v16 + 1)  -- I39.2.hp
            exact ⟨F, hpF.skip (fun _ => b4)⟩
          · show ∀ i, 0 ≤ i → i < 252 → ¬ hD (M 103 1) (M 103 2) (M 115) f i → M18 117 i = -1  -- I39.2.hn
            first | with_reducible assumption | omega | exact trivial | with_reducible rfl
        · -- b4.2
          have gc1 : pr_X12_isOutside f v16 M18 := by
            refine ⟨?_, ?_, ?_⟩
            · show mDim M18  -- c1.hd
              unfold mDim; omega
            · show 0 ≤ f  -- c1.hf
              first | with_reducible assumption | omega | exact trivial | with_reducible rfl
            · show 0 ≤ v16 ∧ v16 < 252  -- c1.hc
              first | with_reducible assumption | omega | exact trivial | with_reducible rfl
          refine ⟨gc1, ?_⟩
          rintro r42 M43 ⟨q_rfl, pc1_pb⟩ z_r42 z_M43
          have q_rfl := q_rfl.symm
          subst q_rfl
          rw [w1, w2, w115] at pc1_pb
          refine ⟨fun b5 => ?_, fun b5 => ?_⟩
          · -- b5.1
            have o7 : zin (v16 + 1) := by
              first | with_reducible assumption | omega | exact trivial | with_reducible rfl  -- o7
            refine ⟨o7, ?_⟩
            refine ⟨Int.toNat (18 * (M 103 2 + 2) - (v16 + 1)), by omega, by omega, ?_, ?_, ?_, ?_⟩
            · show 0 ≤ (v16 + 1) ∧ (v16 + 1) ≤ 18 * (M 103 2 + 2)  -- I39.3.hv16
              first | with_reducible assumption | omega | exact trivial | with_reducible rfl
            · show ∀ c i, c ≠ 117 → ¬ (c = 103 ∧ i = 37) → M18 c i = M c i  -- I39.3.hf2
              first | with_reducible assumption | omega | exact trivial | with_reducible rfl
            · show ∃ F, gPar (hD (M 103 1) (M 103 2) (M 115) f) (hA (M 103 5)) (M18 117) (M18 103 37) F (v16 + 1)  -- I39.3.hp
              exact ⟨F, hpF.skip (fun d => absurd d.2.2.2 (pc1_pb.z.1 b5))⟩
            · show ∀ i, 0 ≤ i → i < 252 → ¬ hD (M 103 1) (M 103 2) (M 115) f i → M18 117 i = -1  -- I39.3.hn
              first | with_reducible assumption | omega | exact trivial | with_reducible rfl
          · -- b5.2
            have dv : hD (M 103 1) (M 103 2) (M 115) f v16 := ⟨hv16.1, by omega, by omega, pc1_pb.ne.1 b5⟩
            have lv : M18 117 v16 = -1 := by have := hpF.rng v16 dv; omega
            intro M53 e_M53
            have hU0 := zc_b (fun i => M53 117 i < 0) 252 (by decide)
            refine ⟨fun v56 M58 n60 => (n60 : Int) = (2 * zc (fun i => M58 117 i < 0) 252 + v56) ∧ (v56 = 0 ∨ v56 = 1) ∧ (mHF M M18 f v16 F M58) ∧ (v56 = 0 → ∀ x y, hD (M 103 1) (M 103 2) (M 115) f x → hD (M 103 1) (M 103 2) (M 115) f y → hA (M 103 5) x y → M58 117 x = M18 103 37 → 0 ≤ M58 117 y), ⟨Int.toNat (2 * zc (fun i => M53 117 i < 0) 252 + 1), by omega, ?_, ?_, ?_⟩, ?_⟩
            · show 1 = 0 ∨ 1 = 1  -- I88.0.h01
              first | with_reducible assumption | omega | exact trivial | with_reducible rfl
            · show mHF M M18 f v16 F M53  -- I88.0.hg
              refine ⟨?_, ?_, ?_, ?_⟩
              · intro c i q1 q3
                rw [e_M53, zset_n _ (.inl q1)]; exact hf2 c i q1 q3
              · rw [e_M53, zset_n _ (.inl (by decide))]
              · refine hpF.start dv lv ?_ ?_
                · intro x dx nx; rw [e_M53, zset_n _ (.inr nx)]
                · rw [e_M53, zset_s]
              · intro i q1 q2 q3
                rw [e_M53, zset_n _ (.inr (fun e => q3 (by rw [e]; exact dv)))]
                exact hn i q1 q2 q3
            · show 1 = 0 → ∀ x y, hD (M 103 1) (M 103 2) (M 115) f x → hD (M 103 1) (M 103 2) (M 115) f y → hA (M 103 5) x y → M53 117 x = M18 103 37 → 0 ≤ M53 117 y  -- I88.0.hcl
              first | with_reducible assumption | omega | exact trivial | with_reducible rfl
            rintro v56 M58 n60 ⟨h_n60, h01, hg, hcl⟩ z_v56 z_M58
            have hU := zc_b (fun i => M58 117 i < 0) 252 (by decide)
            obtain ⟨f1, f2, f5, f6⟩ := id hg
            refine ⟨fun b6 => ?_, fun b6 => ?_⟩
            · -- b6.1
              have o8 : zin ((M58 103 37) + 1) := by
                first | with_reducible assumption | omega | exact trivial | with_reducible rfl  -- o8
              refine ⟨o8, ?_⟩
              intro M69 e_M69
              have o9 : zin (v16 + 1) := by
                first | with_reducible assumption | omega | exact trivial | with_reducible rfl  -- o9
              refine ⟨o9, ?_⟩
              refine ⟨Int.toNat (18 * (M 103 2 + 2) - (v16 + 1)), by omega, by omega, ?_, ?_, ?_, ?_⟩
              · show 0 ≤ (v16 + 1) ∧ (v16 + 1) ≤ 18 * (M 103 2 + 2)  -- I39.4.hv16
                first | with_reducible assumption | omega | exact trivial | with_reducible rfl
              · show ∀ c i, c ≠ 117 → ¬ (c = 103 ∧ i = 37) → M69 c i = M c i  -- I39.4.hf2
                intro c i q1 q3; rw [e_M69, zset_n _ (by omega)]; exact f1 c i q1 q3
              · show ∃ F, gPar (hD (M 103 1) (M 103 2) (M 115) f) (hA (M 103 5)) (M69 117) (M69 103 37) F (v16 + 1)  -- I39.4.hp
                rw [e_M69, zset_s, f2]
                obtain ⟨F', g⟩ := f5.fs hA.sym (hcl b6)
                exact ⟨F', g.cong (fun x _ => zset_n _ (.inl (by decide))) (fun _ _ _ => rfl)⟩
              · show ∀ i, 0 ≤ i → i < 252 → ¬ hD (M 103 1) (M 103 2) (M 115) f i → M69 117 i = -1  -- I39.4.hn
                intro i q1 q2 q3; rw [e_M69, zset_n _ (.inl (by decide))]; exact f6 i q1 q2 q3
            · -- b6.2
              refine ⟨fun v76 v77 M80 n82 => (n82 : Int) = (18 * (M 103 2 + 2) - v77) ∧ (v76 = 0 ∨ v76 = 1) ∧ (0 ≤ v77 ∧ v77 ≤ 18 * (M 103 2 + 2)) ∧ (mHF M M18 f v16 F M80) ∧ ((v76 = 0 ∧ M80 = M58) ∨ (v76 = 1 ∧ zc (fun i => M80 117 i < 0) 252 < zc (fun i => M58 117 i < 0) 252)) ∧ (v76 = 0 → ∀ x y, hD (M 103 1) (M 103 2) (M 115) f x → x < v77 → hD (M 103 1) (M 103 2) (M 115) f y → hA (M 103 5) x y → M80 117 x = M18 103 37 → 0 ≤ M80 117 y), ⟨Int.toNat (18 * (M 103 2 + 2) - 0), by omega, ?_, ?_, ?_, ?_, ?_⟩, ?_⟩
              · show 0 = 0 ∨ 0 = 1  -- I99.0.h01
                first | with_reducible assumption | omega | exact trivial | with_reducible rfl
              · show 0 ≤ 0 ∧ 0 ≤ 18 * (M 103 2 + 2)  -- I99.0.hv74
                first | with_reducible assumption | omega | exact trivial | with_reducible rfl
              · show mHF M M18 f v16 F M58  -- I99.0.hg2
                first | with_reducible assumption | omega | exact trivial | with_reducible rfl
              · show (0 = 0 ∧ M58 = M58) ∨ (0 = 1 ∧ zc (fun i => M58 117 i < 0) 252 < zc (fun i => M58 117 i < 0) 252)  -- I99.0.hs
                exact .inl ⟨rfl, rfl⟩
              · show 0 = 0 → ∀ x y, hD (M 103 1) (M 103 2) (M 115) f x → x < 0 → hD (M 103 1) (M 103 2) (M 115) f y → hA (M 103 5) x y → M58 117 x = M18 103 37 → 0 ≤ M58 117 y  -- I99.0.hcl2
                intro _ x y d l; have := d.1; omega
              rintro v76 v77 M80 n82 ⟨h_n82, h01, hv74, hg2, hs, hcl2⟩ z_v76 z_v77 z_M80
              obtain ⟨j1, j2, j5, j6⟩ := id hg2
              have y1 := j1 103 1 (by decide) (by decide)
              have y2 := j1 103 2 (by decide) (by decide)
              have y5 := j1 103 5 (by decide) (by decide)
              have hU2 := zc_b (fun i => M80 117 i < 0) 252 (by decide)
              refine ⟨fun b7 => ?_, fun b7 => ?_⟩
              · -- b7.1
                have hs' : (v76 = 0 ∧ zc (fun i => M80 117 i < 0) 252 = zc (fun i => M58 117 i < 0) 252) ∨ (v76 = 1 ∧ zc (fun i => M80 117 i < 0) 252 < zc (fun i => M58 117 i < 0) 252) := by
                  rcases hs with ⟨a, b⟩ | h
                  · exact .inl ⟨a, by rw [b]⟩
                  · exact .inr h
                refine ⟨Int.toNat (2 * zc (fun i => M80 117 i < 0) 252 + v76), by omega, by omega, ?_, ?_, ?_⟩
                · show v76 = 0 ∨ v76 = 1  -- I88.1.h01
                  first | with_reducible assumption | omega | exact trivial | with_reducible rfl
                · show mHF M M18 f v16 F M80  -- I88.1.hg
                  first | with_reducible assumption | omega | exact trivial | with_reducible rfl
                · show v76 = 0 → ∀ x y, hD (M 103 1) (M 103 2) (M 115) f x → hD (M 103 1) (M 103 2) (M 115) f y → hA (M 103 5) x y → M80 117 x = M18 103 37 → 0 ≤ M80 117 y  -- I88.1.hcl
                  intro q x y dx dy p l; exact hcl2 q x y dx (by have := hDb x dx; omega) dy p l
              · -- b7.2
                refine ⟨fun v93 v94 M97 n99 => (n99 : Int) = (8 - v94) ∧ (v93 = 0 ∨ v93 = 1) ∧ (0 ≤ v94 ∧ v94 ≤ 8) ∧ (mHF M M18 f v16 F M97) ∧ ((v93 = 0 ∧ M97 = M58) ∨ (v93 = 1 ∧ zc (fun i => M97 117 i < 0) 252 < zc (fun i => M58 117 i < 0) 252)) ∧ (v93 = 0 → ∀ x y, hD (M 103 1) (M 103 2) (M 115) f x → x < v77 → hD (M 103 1) (M 103 2) (M 115) f y → hA (M 103 5) x y → M97 117 x = M18 103 37 → 0 ≤ M97 117 y) ∧ (v93 = 0 → M97 117 v77 = M18 103 37 → ∀ d, 0 ≤ d → d < v94 → hD (M 103 1) (M 103 2) (M 115) f (18 * (v77 / 18 + zdy d) + (v77 % 18 + zdx d)) → (18 * (v77 / 18 + zdy d) + (v77 % 18 + zdx d)) % 18 = v77 % 18 + zdx d → 0 ≤ M97 117 (18 * (v77 / 18 + zdy d) + (v77 % 18 + zdx d))), ⟨Int.toNat (8 - 0), by omega, ?_, ?_, ?_, ?_, ?_, ?_⟩, ?_⟩
                · show v76 = 0 ∨ v76 = 1  -- I108.0.h01
                  first | with_reducible assumption | omega | exact trivial | with_reducible rfl
                · show 0 ≤ 0 ∧ 0 ≤ 8  -- I108.0.hv109
                  first | with_reducible assumption | omega | exact trivial | with_reducible rfl
                · show mHF M M18 f v16 F M80  -- I108.0.hg3
                  first | with_reducible assumption | omega | exact trivial | with_reducible rfl
                · show (v76 = 0 ∧ M80 = M58) ∨ (v76 = 1 ∧ zc (fun i => M80 117 i < 0) 252 < zc (fun i => M58 117 i < 0) 252)  -- I108.0.hs3
                  first | with_reducible assumption | omega | exact trivial | with_reducible rfl
                · show v76 = 0 → ∀ x y, hD (M 103 1) (M 103 2) (M 115) f x → x < v77 → hD (M 103 1) (M 103 2) (M 115) f y → hA (M 103 5) x y → M80 117 x = M18 103 37 → 0 ≤ M80 117 y  -- I108.0.hcl3
                  first | with_reducible assumption | omega | exact trivial | with_reducible rfl
                · show v76 = 0 → M80 117 v77 = M18 103 37 → ∀ d, 0 ≤ d → d < 0 → hD (M 103 1) (M 103 2) (M 115) f (18 * (v77 / 18 + zdy d) + (v77 % 18 + zdx d)) → (18 * (v77 / 18 + zdy d) + (v77 % 18 + zdx d)) % 18 = v77 % 18 + zdx d → 0 ≤ M80 117 (18 * (v77 / 18 + zdy d) + (v77 % 18 + zdx d))  -- I108.0.hcd
                  first | with_reducible assumption | omega | exact trivial | with_reducible rfl
                rintro v93 v94 M97 n99 ⟨h_n99, h01, hv109, hg3, hs3, hcl3, hcd⟩ z_v93 z_v94 z_M97
                obtain ⟨k1, k2, k5, k6⟩ := id hg3
                have x1 := k1 103 1 (by decide) (by decide)
                have x2 := k1 103 2 (by decide) (by decide)
                have x5 := k1 103 5 (by decide) (by decide)
                have x115 : M97 115 = M 115 := funext fun i => k1 115 i (by decide) (by omega)
                intro K123 h_K123
                have k_K123 : ∀ (v106 : Int), (v106 = (if M 103 5 = 0 then 8 else 4)) → K123 v106 := by
                  intro v106 hk
                  refine h_K123 _ ?_
                  intro z_v106
                  refine ⟨fun b8 => ?_, fun b8 => ?_⟩
                  · -- b8.1
                    have o10 : zin (v77 + 1) := by
                      first | with_reducible assumption | omega | exact trivial | with_reducible rfl  -- o10
                    refine ⟨o10, ?_⟩
                    refine ⟨Int.toNat (18 * (M 103 2 + 2) - (v77 + 1)), by omega, by omega, ?_, ?_, ?_, ?_, ?_⟩
                    · show v93 = 0 ∨ v93 = 1  -- I99.1.h01
                      first | with_reducible assumption | omega | exact trivial | with_reducible rfl
                    · show 0 ≤ (v77 + 1) ∧ (v77 + 1) ≤ 18 * (M 103 2 + 2)  -- I99.1.hv74
                      first | with_reducible assumption | omega | exact trivial | with_reducible rfl
                    · show mHF M M18 f v16 F M97  -- I99.1.hg2
                      first | with_reducible assumption | omega | exact trivial | with_reducible rfl
                    · show (v93 = 0 ∧ M97 = M58) ∨ (v93 = 1 ∧ zc (fun i => M97 117 i < 0) 252 < zc (fun i => M58 117 i < 0) 252)  -- I99.1.hs
                      first | with_reducible assumption | omega | exact trivial | with_reducible rfl
                    · show v93 = 0 → ∀ x y, hD (M 103 1) (M 103 2) (M 115) f x → x < (v77 + 1) → hD (M 103 1) (M 103 2) (M 115) f y → hA (M 103 5) x y → M97 117 x = M18 103 37 → 0 ≤ M97 117 y  -- I99.1.hcl2
                      intro q x y dx lx dy p l
                      by_cases c : x = v77
                      · subst c
                        obtain ⟨d, d1, d2, d3, d4⟩ := gOff_h' p
                        have e : 18 * (x / 18 + zdy d) + (x % 18 + zdx d) = y := by omega
                        have := hcd q l d d1 (by omega) (by rw [e]; exact dy) (by rw [e]; omega)
                        rw [e] at this
                        exact this
                      · exact hcl3 q x y dx (by omega) dy p l
                  · -- b8.2
                    have o11 : ((0 : Int) ≤ v77 ∧ v77 < 252) := by
                      first | with_reducible assumption | omega | exact trivial | with_reducible rfl  -- o11
                    refine ⟨o11, ?_⟩
                    refine ⟨fun b9 => ?_, fun b9 => ?_⟩
                    · -- b9.1
                      have o12 : zin (v77 + 1) := by
                        first | with_reducible assumption | omega | exact trivial | with_reducible rfl  -- o12
                      refine ⟨o12, ?_⟩
                      refine ⟨Int.toNat (18 * (M 103 2 + 2) - (v77 + 1)), by omega, by omega, ?_, ?_, ?_, ?_, ?_⟩
                      · show v93 = 0 ∨ v93 = 1  -- I99.2.h01
                        first | with_reducible assumption | omega | exact trivial | with_reducible rfl
                      · show 0 ≤ (v77 + 1) ∧ (v77 + 1) ≤ 18 * (M 103 2 + 2)  -- I99.2.hv74
                        first | with_reducible assumption | omega | exact trivial | with_reducible rfl
                      · show mHF M M18 f v16 F M97  -- I99.2.hg2
                        first | with_reducible assumption | omega | exact trivial | with_reducible rfl
                      · show (v93 = 0 ∧ M97 = M58) ∨ (v93 = 1 ∧ zc (fun i => M97 117 i < 0) 252 < zc (fun i => M58 117 i < 0) 252)  -- I99.2.hs
                        first | with_reducible assumption | omega | exact trivial | with_reducible rfl
                      · show v93 = 0 → ∀ x y, hD (M 103 1) (M 103 2) (M 115) f x → x < (v77 + 1) → hD (M 103 1) (M 103 2) (M 115) f y → hA (M 103 5) x y → M97 117 x = M18 103 37 → 0 ≤ M97 117 y  -- I99.2.hcl2
                        intro q x y dx lx dy p l
                        by_cases c : x = v77
                        · subst c; omega
                        · exact hcl3 q x y dx (by omega) dy p l
                    · -- b9.2
                      have dw : hD (M 103 1) (M 103 2) (M 115) f v77 := by
                        apply Classical.byContradiction
                        intro c
                        have := k6 v77 o11.1 o11.2 c
                        omega
                      have o13 : 0 ≤ v77 := by
                        first | with_reducible assumption | omega | exact trivial | with_reducible rfl  -- o13
                      refine ⟨o13, ?_⟩
                      have gc2 : pr_X12_dx v94 M97 := trivial
                      refine ⟨gc2, ?_⟩
                      rintro r120 M121 ⟨q_rfl, e_r120⟩ z_r120 z_M121
                      have q_rfl := q_rfl.symm
                      subst q_rfl
                      have gc3 : pr_X12_dy v94 M97 := trivial
                      refine ⟨gc3, ?_⟩
                      rintro r126 M127 ⟨q_rfl, e_r126⟩ z_r126 z_M127
                      have q_rfl := q_rfl.symm
                      subst q_rfl
                      have zb := zdx_b v94
                      rw [← e_r120, ← e_r126] at zb
                      intro K213 h_K213
                      have k_K213 : ∀ (v132 : Int), (zB v132 (0 ≤ v77 % 18 + r120 ∧ v77 % 18 + r120 < M 103 1 + 2 ∧ 0 ≤ v77 / 18 + r126 ∧ v77 / 18 + r126 < M 103 2 + 2)) → K213 v132 := by
                        intro v132 hk2
                        refine h_K213 _ ?_
                        intro z_v132
                        refine ⟨fun b10 => ?_, fun b10 => ?_⟩
                        · -- b10.1
                          have o14 : zin (v94 + 1) := by
                            first | with_reducible assumption | omega | exact trivial | with_reducible rfl  -- o14
                          refine ⟨o14, ?_⟩
                          refine ⟨Int.toNat (8 - (v94 + 1)), by omega, by omega, ?_, ?_, ?_, ?_, ?_, ?_⟩
                          · show v93 = 0 ∨ v93 = 1  -- I108.1.h01
                            first | with_reducible assumption | omega | exact trivial | with_reducible rfl
                          · show 0 ≤ (v94 + 1) ∧ (v94 + 1) ≤ 8  -- I108.1.hv109
                            first | with_reducible assumption | omega | exact trivial | with_reducible rfl
                          · show mHF M M18 f v16 F M97  -- I108.1.hg3
                            first | with_reducible assumption | omega | exact trivial | with_reducible rfl
                          · show (v93 = 0 ∧ M97 = M58) ∨ (v93 = 1 ∧ zc (fun i => M97 117 i < 0) 252 < zc (fun i => M58 117 i < 0) 252)  -- I108.1.hs3
                            first | with_reducible assumption | omega | exact trivial | with_reducible rfl
                          · show v93 = 0 → ∀ x y, hD (M 103 1) (M 103 2) (M 115) f x → x < v77 → hD (M 103 1) (M 103 2) (M 115) f y → hA (M 103 5) x y → M97 117 x = M18 103 37 → 0 ≤ M97 117 y  -- I108.1.hcl3
                            first | with_reducible assumption | omega | exact trivial | with_reducible rfl
                          · show v93 = 0 → M97 117 v77 = M18 103 37 → ∀ d, 0 ≤ d → d < (v94 + 1) → hD (M 103 1) (M 103 2) (M 115) f (18 * (v77 / 18 + zdy d) + (v77 % 18 + zdx d)) → (18 * (v77 / 18 + zdy d) + (v77 % 18 + zdx d)) % 18 = v77 % 18 + zdx d → 0 ≤ M97 117 (18 * (v77 / 18 + zdy d) + (v77 % 18 + zdx d))  -- I108.1.hcd
                            intro q l d d1 d2 d3 d4
                            by_cases c : d = v94
                            · subst c
                              rw [← e_r120, ← e_r126] at d3 d4
                              have := hDb _ d3
                              refine absurd ?_ (hk2.z.1 b10)
                              omega
                            · exact hcd q l d d1 (by omega) d3 d4
                        · -- b10.2
                          have hin := hk2.ne.1 b10
                          have o15 : ((0 : Int) ≤ ((18 * ((v77 / 18) + r126)) + ((v77 % 18) + r120)) ∧ ((18 * ((v77 / 18) + r126)) + ((v77 % 18) + r120)) < 252) := by
                            first | with_reducible assumption | omega | exact trivial | with_reducible rfl  -- o15
                          refine ⟨o15, ?_⟩
                          refine ⟨fun b11 => ?_, fun b11 => ?_⟩
                          · -- b11.1
                            have o16 : zin (v94 + 1) := by
                              first | with_reducible assumption | omega | exact trivial | with_reducible rfl  -- o16
                            refine ⟨o16, ?_⟩
                            refine ⟨Int.toNat (8 - (v94 + 1)), by omega, by omega, ?_, ?_, ?_, ?_, ?_, ?_⟩
                            · show v93 = 0 ∨ v93 = 1  -- I108.2.h01
                              first | with_reducible assumption | omega | exact trivial | with_reducible rfl
                            · show 0 ≤ (v94 + 1) ∧ (v94 + 1) ≤ 8  -- I108.2.hv109
                              first | with_reducible assumption | omega | exact trivial | with_reducible rfl
                            · show mHF M M18 f v16 F M97  -- I108.2.hg3
                              first | with_reducible assumption | omega | exact trivial | with_reducible rfl
                            · show (v93 = 0 ∧ M97 = M58) ∨ (v93 = 1 ∧ zc (fun i => M97 117 i < 0) 252 < zc (fun i => M58 117 i < 0) 252)  -- I108.2.hs3
                              first | with_reducible assumption | omega | exact trivial | with_reducible rfl
                            · show v93 = 0 → ∀ x y, hD (M 103 1) (M 103 2) (M 115) f x → x < v77 → hD (M 103 1) (M 103 2) (M 115) f y → hA (M 103 5) x y → M97 117 x = M18 103 37 → 0 ≤ M97 117 y  -- I108.2.hcl3
                              first | with_reducible assumption | omega | exact trivial | with_reducible rfl
                            · show v93 = 0 → M97 117 v77 = M18 103 37 → ∀ d, 0 ≤ d → d < (v94 + 1) → hD (M 103 1) (M 103 2) (M 115) f (18 * (v77 / 18 + zdy d) + (v77 % 18 + zdx d)) → (18 * (v77 / 18 + zdy d) + (v77 % 18 + zdx d)) % 18 = v77 % 18 + zdx d → 0 ≤ M97 117 (18 * (v77 / 18 + zdy d) + (v77 % 18 + zdx d))  -- I108.2.hcd
                              intro q l d d1 d2 d3 d4
                              by_cases c : d = v94
                              · subst c; rw [← e_r120, ← e_r126]; exact b11
                              · exact hcd q l d d1 (by omega) d3 d4
                          · -- b11.2
                            have o17 : zin ((18 * ((v77 / 18) + r126)) + ((v77 % 18) + r120)) := by
                              first | with_reducible assumption | omega | exact trivial | with_reducible rfl  -- o17
                            refine ⟨o17, ?_⟩
                            have gc4 : pr_X12_isOutside f ((18 * ((v77 / 18) + r126)) + ((v77 % 18) + r120)) M97 := by
                              refine ⟨?_, ?_, ?_⟩
                              · show mDim M97  -- c4.hd
                                unfold mDim; omega
                              · show 0 ≤ f  -- c4.hf
                                first | with_reducible assumption | omega | exact trivial | with_reducible rfl
                              · show 0 ≤ ((18 * ((v77 / 18) + r126)) + ((v77 % 18) + r120)) ∧ ((18 * ((v77 / 18) + r126)) + ((v77 % 18) + r120)) < 252  -- c4.hc
                                first | with_reducible assumption | omega | exact trivial | with_reducible rfl
                            refine ⟨gc4, ?_⟩
                            rintro r146 M147 ⟨q_rfl, pc4_pb⟩ z_r146 z_M147
                            have q_rfl := q_rfl.symm
                            subst q_rfl
                            rw [x1, x2, x115] at pc4_pb
                            refine ⟨fun b12 => ?_, fun b12 => ?_⟩
                            · -- b12.1
                              have o18 : zin (v94 + 1) := by
                                first | with_reducible assumption | omega | exact trivial | with_reducible rfl  -- o18
                              refine ⟨o18, ?_⟩
                              refine ⟨Int.toNat (8 - (v94 + 1)), by omega, by omega, ?_, ?_, ?_, ?_, ?_, ?_⟩
                              · show v93 = 0 ∨ v93 = 1  -- I108.3.h01
                                first | with_reducible assumption | omega | exact trivial | with_reducible rfl
                              · show 0 ≤ (v94 + 1) ∧ (v94 + 1) ≤ 8  -- I108.3.hv109
                                first | with_reducible assumption | omega | exact trivial | with_reducible rfl
                              · show mHF M M18 f v16 F M97  -- I108.3.hg3
                                first | with_reducible assumption | omega | exact trivial | with_reducible rfl
                              · show (v93 = 0 ∧ M97 = M58) ∨ (v93 = 1 ∧ zc (fun i => M97 117 i < 0) 252 < zc (fun i => M58 117 i < 0) 252)  -- I108.3.hs3
                                first | with_reducible assumption | omega | exact trivial | with_reducible rfl
                              · show v93 = 0 → ∀ x y, hD (M 103 1) (M 103 2) (M 115) f x → x < v77 → hD (M 103 1) (M 103 2) (M 115) f y → hA (M 103 5) x y → M97 117 x = M18 103 37 → 0 ≤ M97 117 y  -- I108.3.hcl3
                                first | with_reducible assumption | omega | exact trivial | with_reducible rfl
                              · show v93 = 0 → M97 117 v77 = M18 103 37 → ∀ d, 0 ≤ d → d < (v94 + 1) → hD (M 103 1) (M 103 2) (M 115) f (18 * (v77 / 18 + zdy d) + (v77 % 18 + zdx d)) → (18 * (v77 / 18 + zdy d) + (v77 % 18 + zdx d)) % 18 = v77 % 18 + zdx d → 0 ≤ M97 117 (18 * (v77 / 18 + zdy d) + (v77 % 18 + zdx d))  -- I108.3.hcd
                                intro q l d d1 d2 d3 d4
                                by_cases c : d = v94
                                · subst c
                                  rw [← e_r120, ← e_r126] at d3
                                  exact absurd d3.2.2.2 (pc4_pb.z.1 b12)
                                · exact hcd q l d d1 (by omega) d3 d4
                            · -- b12.2
                              have em : (18 * (v77 / 18 + r126) + (v77 % 18 + r120)) % 18 = v77 % 18 + r120 := by omega
                              have ed : (18 * (v77 / 18 + r126) + (v77 % 18 + r120)) / 18 = v77 / 18 + r126 := by omega
                              have dn : hD (M 103 1) (M 103 2) (M 115) f (18 * (v77 / 18 + r126) + (v77 % 18 + r120)) := ⟨o15.1, by omega, by omega, pc4_pb.ne.1 b12⟩
                              have hAA : hA (M 103 5) v77 (18 * (v77 / 18 + r126) + (v77 % 18 + r120)) := by
                                unfold hA
                                rw [em, ed, show v77 % 18 + r120 - v77 % 18 = zdx v94 by omega, show v77 / 18 + r126 - v77 / 18 = zdy v94 by omega]
                                exact gOff_h hv109.1 (by omega)
                              intro M157 e_M157
                              rw [k2] at e_M157
                              have hlt : zc (fun i => M157 117 i < 0) 252 < zc (fun i => M97 117 i < 0) 252 := by
                                refine zc_lt (y := 18 * (v77 / 18 + r126) + (v77 % 18 + r120)) o15.2 o15.1 ?_ ?_ ?_
                                · rw [e_M157, zset_s]; omega
                                · omega
                                · intro i _ _ q
                                  rw [e_M157] at q
                                  by_cases c : i = 18 * (v77 / 18 + r126) + (v77 % 18 + r120)
                                  · rw [c, zset_s] at q; omega
                                  · rw [zset_n _ (.inr c)] at q; exact q
                              have o19 : zin (v94 + 1) := by
                                first | with_reducible assumption | omega | exact trivial | with_reducible rfl  -- o19
                              refine ⟨o19, ?_⟩
                              refine ⟨Int.toNat (8 - (v94 + 1)), by omega, by omega, ?_, ?_, ?_, ?_, ?_, ?_⟩
                              · show 1 = 0 ∨ 1 = 1  -- I108.4.h01
                                first | with_reducible assumption | omega | exact trivial | with_reducible rfl
                              · show 0 ≤ (v94 + 1) ∧ (v94 + 1) ≤ 8  -- I108.4.hv109
                                first | with_reducible assumption | omega | exact trivial | with_reducible rfl
                              · show mHF M M18 f v16 F M157  -- I108.4.hg3
                                rw [e_M157]; exact hg3.set dw dn hAA (by omega) (by omega)
                              · show (1 = 0 ∧ M157 = M58) ∨ (1 = 1 ∧ zc (fun i => M157 117 i < 0) 252 < zc (fun i => M58 117 i < 0) 252)  -- I108.4.hs3
                                refine .inr ⟨rfl, ?_⟩
                                rcases hs3 with ⟨_, q⟩ | ⟨_, q⟩
                                · rw [q] at hlt; exact hlt
                                · omega
                              · show 1 = 0 → ∀ x y, hD (M 103 1) (M 103 2) (M 115) f x → x < v77 → hD (M 103 1) (M 103 2) (M 115) f y → hA (M 103 5) x y → M157 117 x = M18 103 37 → 0 ≤ M157 117 y  -- I108.4.hcl3
                                first | with_reducible assumption | omega | exact trivial | with_reducible rfl
                              · show 1 = 0 → M157 117 v77 = M18 103 37 → ∀ d, 0 ≤ d → d < (v94 + 1) → hD (M 103 1) (M 103 2) (M 115) f (18 * (v77 / 18 + zdy d) + (v77 % 18 + zdx d)) → (18 * (v77 / 18 + zdy d) + (v77 % 18 + zdx d)) % 18 = v77 % 18 + zdx d → 0 ≤ M157 117 (18 * (v77 / 18 + zdy d) + (v77 % 18 + zdx d))  -- I108.4.hcd
                                first | with_reducible assumption | omega | exact trivial | with_reducible rfl
                      intro K212 h_K212
                      have k_K212 : (¬ (0 ≤ v77 % 18 + r120 ∧ v77 % 18 + r120 < M 103 1 + 2 ∧ 0 ≤ v77 / 18 + r126 ∧ v77 / 18 + r126 < M 103 2 + 2)) → K212  := by
                        intro  hq
                        refine h_K212 ?_
                        refine k_K213 _ ?_
                        · show zB 0 (0 ≤ v77 % 18 + r120 ∧ v77 % 18 + r120 < M 103 1 + 2 ∧ 0 ≤ v77 / 18 + r126 ∧ v77 / 18 + r126 < M 103 2 + 2)  -- K213.1.hk2
                          exact zB.f hq
                      have o20 : zin ((v77 % 18) + r120) := by
                        first | with_reducible assumption | omega | exact trivial | with_reducible rfl  -- o20
                      refine ⟨o20, ?_⟩
                      refine ⟨fun b13 => ?_, fun b13 => ?_⟩
                      · -- b13.1
                        refine k_K212 ?_
                        · show ¬ (0 ≤ v77 % 18 + r120 ∧ v77 % 18 + r120 < M 103 1 + 2 ∧ 0 ≤ v77 / 18 + r126 ∧ v77 / 18 + r126 < M 103 2 + 2)  -- K212.1.hq
                          first | with_reducible assumption | omega | exact trivial | with_reducible rfl
                      · -- b13.2
                        have o21 : zin ((M97 103 1) + 2) := by
                          first | with_reducible assumption | omega | exact trivial | with_reducible rfl  -- o21
                        refine ⟨o21, ?_⟩
                        refine ⟨fun b14 => ?_, fun b14 => ?_⟩
                        · -- b14.1
                          refine k_K212 ?_
                          · show ¬ (0 ≤ v77 % 18 + r120 ∧ v77 % 18 + r120 < M 103 1 + 2 ∧ 0 ≤ v77 / 18 + r126 ∧ v77 / 18 + r126 < M 103 2 + 2)  -- K212.2.hq
                            first | with_reducible assumption | omega | exact trivial | with_reducible rfl
                        · -- b14.2
                          have o22 : zin ((v77 / 18) + r126) := by
                            first | with_reducible assumption | omega | exact trivial | with_reducible rfl  -- o22
                          refine ⟨o22, ?_⟩
                          refine ⟨fun b15 => ?_, fun b15 => ?_⟩
                          · -- b15.1
                            refine k_K212 ?_
                            · show ¬ (0 ≤ v77 % 18 + r120 ∧ v77 % 18 + r120 < M 103 1 + 2 ∧ 0 ≤ v77 / 18 + r126 ∧ v77 / 18 + r126 < M 103 2 + 2)  -- K212.3.hq
                              first | with_reducible assumption | omega | exact trivial | with_reducible rfl
                          · -- b15.2
                            have o23 : zin ((M97 103 2) + 2) := by
                              first | with_reducible assumption | omega | exact trivial | with_reducible rfl  -- o23
                            refine ⟨o23, ?_⟩
                            refine ⟨fun b16 => ?_, fun b16 => ?_⟩
                            · -- b16.1
                              refine k_K212 ?_
                              · show ¬ (0 ≤ v77 % 18 + r120 ∧ v77 % 18 + r120 < M 103 1 + 2 ∧ 0 ≤ v77 / 18 + r126 ∧ v77 / 18 + r126 < M 103 2 + 2)  -- K212.4.hq
                                first | with_reducible assumption | omega | exact trivial | with_reducible rfl
                            · -- b16.2
                              refine k_K213 _ ?_
                              · show zB 1 (0 ≤ v77 % 18 + r120 ∧ v77 % 18 + r120 < M 103 1 + 2 ∧ 0 ≤ v77 / 18 + r126 ∧ v77 / 18 + r126 < M 103 2 + 2)  -- K213.2.hk2
                                exact zB.t (by omega)
                refine ⟨fun b17 => ?_, fun b17 => ?_⟩
                · -- b17.1
                  refine k_K123 _ ?_
                  · show 4 = (if M 103 5 = 0 then 8 else 4)  -- K123.1.hk
                    rw [if_neg (by omega)]
                · -- b17.2
                  refine k_K123 _ ?_
                  · show 8 = (if M 103 5 = 0 then 8 else 4)  -- K123.2.hk
                    rw [if_pos (by omega)]
  · -- b1.2
    have o24 : ((0 : Int) ≤ v4 ∧ v4 < 252) := by
      first | with_reducible assumption | omega | exact trivial | with_reducible rfl  -- o24
    refine ⟨o24, ?_⟩
    intro M174 e_M174
    have o25 : zin (v4 + 1) := by
      first | with_reducible assumption | omega | exact trivial | with_reducible rfl  -- o25
    refine ⟨o25, ?_⟩
    refine ⟨Int.toNat (252 - (v4 + 1)), by omega, by omega, ?_, ?_, ?_, ?_⟩
    · show 0 ≤ (v4 + 1) ∧ (v4 + 1) ≤ 252  -- I17.1.hv4
      first | with_reducible assumption | omega | exact trivial | with_reducible rfl
    · show ∀ c i, c ≠ 117 → ¬ (c = 103 ∧ i = 37) → M174 c i = M c i  -- I17.1.hf
      intro c i q1 q2; rw [e_M174, zset_n _ (.inl q1)]; exact hf c i q1 q2
    · show M174 103 37 = 0  -- I17.1.h37
      rw [e_M174, zset_n _ (.inl (by decide))]; exact h37
    · show ∀ i, 0 ≤ i → i < (v4 + 1) → M174 117 i = -1  -- I17.1.h5
      intro i q1 q2
      rw [e_M174]
      by_cases q : i = v4
      · rw [q, zset_s]
      · rw [zset_n _ (.inr q)]; exact h5 i q1 (by omega)

abbrev pr_X12_partOf (k : Int) (M : zM) : Prop := (0 ≤ k ∧ k < 192)
abbrev po_X12_partOf (k : Int) (M : zM) (r : Int) (M' : zM) : Prop := M' = M ∧ r = M 117 (hC k)
set_option maxHeartbeats 1000000 in
theorem ok_X12_partOf : zSnd zS 145 0 0 yX12_partOf cX12_partOf 2 (some .int) 0 [2, 0] (F_X12_partOf pr_X12_partOf po_X12_partOf) := by
  refine (sn_X12_partOf).mono ?_
  rintro xs P M hz hR ⟨k, rfl, hk, hP⟩
  refine ⟨_, rfl, ?_⟩
  have z_k := zall_h (zall_t hz) (by decide)
  change vc_X12_partOf k P M
  unfold vc_X12_partOf
  have o1 : 0 ≤ k := by
    first | with_reducible assumption | omega | exact trivial | with_reducible rfl  -- o1
  refine ⟨o1, ?_⟩
  have o2 : ((0 : Int) ≤ (((18 * ((k / 16) + 1)) + (k % 16)) + 1) ∧ (((18 * ((k / 16) + 1)) + (k % 16)) + 1) < 252) := by
    first | with_reducible assumption | omega | exact trivial | with_reducible rfl  -- o2
  refine ⟨o2, ?_⟩
  refine hP _ _ ⟨rfl, ?_⟩
  · unfold hC; rw [show 18 * (k / 16 + 1) + k % 16 + 1 = 18 * (k / 16 + 1) + k % 16 + 1 by rfl]  -- p1

abbrev pr_X12_liesIn (a : Int) (M : zM) : Prop := (0 ≤ a ∧ a < 192) ∧ (0 ≤ M 116 a ∧ M 116 a < 192)
abbrev po_X12_liesIn (a : Int) (M : zM) (r : Int) (M' : zM) : Prop := (M' = M) ∧ (zB r (0 < M 117 (hC (M 116 a)) ∧ ∀ k, 0 ≤ k → k < 192 → M 115 k = a → M 117 (hC k) = M 117 (hC (M 116 a))))
set_option maxHeartbeats 1000000 in
theorem ok_X12_liesIn : zSnd zS 145 0 0 yX12_liesIn cX12_liesIn 5 (some .boolean) 1 [2, 0] (F_X12_liesIn pr_X12_liesIn po_X12_liesIn) := by
  refine (sn_X12_liesIn ok_X12_partOf).mono ?_
  rintro xs P M hz hR ⟨a, rfl, ⟨ha, hF⟩, hP⟩
  refine ⟨_, rfl, ?_⟩
  have z_a := zall_h (zall_t hz) (by decide)
  change vc_X12_liesIn pr_X12_partOf po_X12_partOf a P M
  unfold vc_X12_liesIn
  have o1 : ((0 : Int) ≤ a ∧ a < 192) := by
    first | with_reducible assumption | omega | exact trivial | with_reducible rfl  -- o1
  refine ⟨o1, ?_⟩
  have gc1 : pr_X12_partOf (M 116 a) M := by
    show 0 ≤ (M 116 a) ∧ (M 116 a) < 192
    first | with_reducible assumption | omega | exact trivial | with_reducible rfl  -- c1.hk
  refine ⟨gc1, ?_⟩
  rintro r2 M3 ⟨q_rfl, e_r2⟩ z_r2 z_M3
  have q_rfl := q_rfl.symm
  subst q_rfl
  refine ⟨fun b1 => ?_, fun b1 => ?_⟩
  · -- b1.1
    refine ⟨fun v9 v10 M13 n15 => (n15 : Int) = (192 - v10) ∧ (0 ≤ v10 ∧ v10 ≤ 192) ∧ (M13 = M) ∧ (zB v9 (0 < M 117 (hC (M 116 a)) ∧ ∀ k, 0 ≤ k → k < v10 → M 115 k = a → M 117 (hC k) = M 117 (hC (M 116 a)))), ⟨Int.toNat (192 - 0), by omega, ?_, ?_, ?_⟩, ?_⟩
    · show 0 ≤ 0 ∧ 0 ≤ 192  -- I24.0.hv
      first | with_reducible assumption | omega | exact trivial | with_reducible rfl
    · first | with_reducible assumption | omega | exact trivial | with_reducible rfl  -- I24.0.rfl
    · show zB 0 (0 < M 117 (hC (M 116 a)) ∧ ∀ k, 0 ≤ k → k < 0 → M 115 k = a → M 117 (hC k) = M 117 (hC (M 116 a)))  -- I24.0.hq
      rw [← e_r2]
      first | exact zB.f (fun h => by omega) | exact zB.t ⟨by omega, fun k k0 k1 => by omega⟩
    rintro v9 v10 M13 n15 ⟨h_n15, hv, q_rfl, hq⟩ z_v9 z_v10 z_M13
    have q_rfl := q_rfl.symm
    subst q_rfl
    refine ⟨fun b2 => ?_, fun b2 => ?_⟩
    · -- b2.1
      have o2 : (v9 = 0 ∨ v9 = 1) := by
        exact hq.b
      refine ⟨o2, ?_⟩
      refine hP _ _ ⟨?_, ?_⟩
      · show M = M  -- p1.rfl
        first | with_reducible assumption | omega | exact trivial | with_reducible rfl
      · show zB v9 (0 < M 117 (hC (M 116 a)) ∧ ∀ k, 0 ≤ k → k < 192 → M 115 k = a → M 117 (hC k) = M 117 (hC (M 116 a)))  -- p1.pb
        exact hq.iff ⟨fun h => ⟨h.1, fun k k0 k1 => h.2 k k0 (by omega)⟩, fun h => ⟨h.1, fun k k0 k1 => h.2 k k0 (by omega)⟩⟩
    · -- b2.2
      refine ⟨fun b3 => ?_, fun b3 => ?_⟩
      · -- b3.1
        have o3 : zin (v10 + 1) := by
          first | with_reducible assumption | omega | exact trivial | with_reducible rfl  -- o3
        refine ⟨o3, ?_⟩
        refine ⟨Int.toNat (192 - (v10 + 1)), by omega, by omega, ?_, ?_, ?_⟩
        · show 0 ≤ (v10 + 1) ∧ (v10 + 1) ≤ 192  -- I24.1.hv
          first | with_reducible assumption | omega | exact trivial | with_reducible rfl
        · first | with_reducible assumption | omega | exact trivial | with_reducible rfl  -- I24.1.rfl
        · show zB 0 (0 < M 117 (hC (M 116 a)) ∧ ∀ k, 0 ≤ k → k < (v10 + 1) → M 115 k = a → M 117 (hC k) = M 117 (hC (M 116 a)))  -- I24.1.hq
          exact zB.f (fun h => hq.z.1 b3 ⟨h.1, fun k k0 k1 => h.2 k k0 (by omega)⟩)
      · -- b3.2
        have o4 : ((0 : Int) ≤ v10 ∧ v10 < 192) := by
          first | with_reducible assumption | omega | exact trivial | with_reducible rfl  -- o4
        refine ⟨o4, ?_⟩
        refine ⟨fun b4 => ?_, fun b4 => ?_⟩
        · -- b4.1
          have o5 : zin (v10 + 1) := by
            first | with_reducible assumption | omega | exact trivial | with_reducible rfl  -- o5
          refine ⟨o5, ?_⟩
          refine ⟨Int.toNat (192 - (v10 + 1)), by omega, by omega, ?_, ?_, ?_⟩
          · show 0 ≤ (v10 + 1) ∧ (v10 + 1) ≤ 192  -- I24.2.hv
            first | with_reducible assumption | omega | exact trivial | with_reducible rfl
          · first | with_reducible assumption | omega | exact trivial | with_reducible rfl  -- I24.2.rfl
          · show zB 1 (0 < M 117 (hC (M 116 a)) ∧ ∀ k, 0 ≤ k → k < (v10 + 1) → M 115 k = a → M 117 (hC k) = M 117 (hC (M 116 a)))  -- I24.2.hq
            have h := hq.ne.1 b3
            refine zB.t ⟨h.1, fun k k0 k1 e => ?_⟩
            by_cases c : k = v10
            · subst c; exact absurd e b4
            · exact h.2 k k0 (by omega) e
        · -- b4.2
          have gc2 : pr_X12_partOf v10 M := by
            show 0 ≤ v10 ∧ v10 < 192
            first | with_reducible assumption | omega | exact trivial | with_reducible rfl  -- c2.hk
          refine ⟨gc2, ?_⟩
          rintro r35 M36 ⟨q_rfl, e_r35⟩ z_r35 z_M36
          have q_rfl := q_rfl.symm
          subst q_rfl
          refine ⟨fun b5 => ?_, fun b5 => ?_⟩
          · -- b5.1
            have o6 : zin (v10 + 1) := by
              first | with_reducible assumption | omega | exact trivial | with_reducible rfl  -- o6
            refine ⟨o6, ?_⟩
            refine ⟨Int.toNat (192 - (v10 + 1)), by omega, by omega, ?_, ?_, ?_⟩
            · show 0 ≤ (v10 + 1) ∧ (v10 + 1) ≤ 192  -- I24.3.hv
              first | with_reducible assumption | omega | exact trivial | with_reducible rfl
            · first | with_reducible assumption | omega | exact trivial | with_reducible rfl  -- I24.3.rfl
            · show zB 0 (0 < M 117 (hC (M 116 a)) ∧ ∀ k, 0 ≤ k → k < (v10 + 1) → M 115 k = a → M 117 (hC k) = M 117 (hC (M 116 a)))  -- I24.3.hq
              refine zB.f (fun h => b5 ?_)
              rw [e_r35, e_r2]
              exact h.2 v10 hv.1 (by omega) b4
          · -- b5.2
            have o7 : zin (v10 + 1) := by
              first | with_reducible assumption | omega | exact trivial | with_reducible rfl  -- o7
            refine ⟨o7, ?_⟩
            refine ⟨Int.toNat (192 - (v10 + 1)), by omega, by omega, ?_, ?_, ?_⟩
            · show 0 ≤ (v10 + 1) ∧ (v10 + 1) ≤ 192  -- I24.4.hv
              first | with_reducible assumption | omega | exact trivial | with_reducible rfl
            · first | with_reducible assumption | omega | exact trivial | with_reducible rfl  -- I24.4.rfl
            · show zB 1 (0 < M 117 (hC (M 116 a)) ∧ ∀ k, 0 ≤ k → k < (v10 + 1) → M 115 k = a → M 117 (hC k) = M 117 (hC (M 116 a)))  -- I24.4.hq
              have h := hq.ne.1 b3
              refine zB.t ⟨h.1, fun k k0 k1 e => ?_⟩
              by_cases c : k = v10
              · subst c; rw [← e_r35, ← e_r2]; exact b5
              · exact h.2 k k0 (by omega) e
  · -- b1.2
    refine ⟨fun v50 v51 M54 n56 => (n56 : Int) = (192 - v51) ∧ (0 ≤ v51 ∧ v51 ≤ 192) ∧ (M54 = M) ∧ (zB v50 (0 < M 117 (hC (M 116 a)) ∧ ∀ k, 0 ≤ k → k < v51 → M 115 k = a → M 117 (hC k) = M 117 (hC (M 116 a)))), ⟨Int.toNat (192 - 0), by omega, ?_, ?_, ?_⟩, ?_⟩
    · show 0 ≤ 0 ∧ 0 ≤ 192  -- I24.0.hv
      first | with_reducible assumption | omega | exact trivial | with_reducible rfl
    · first | with_reducible assumption | omega | exact trivial | with_reducible rfl  -- I24.0.rfl
    · show zB 1 (0 < M 117 (hC (M 116 a)) ∧ ∀ k, 0 ≤ k → k < 0 → M 115 k = a → M 117 (hC k) = M 117 (hC (M 116 a)))  -- I24.0.hq
      rw [← e_r2]
      first | exact zB.f (fun h => by omega) | exact zB.t ⟨by omega, fun k k0 k1 => by omega⟩
    rintro v50 v51 M54 n56 ⟨h_n56, hv, q_rfl, hq⟩ z_v50 z_v51 z_M54
    have q_rfl := q_rfl.symm
    subst q_rfl
    refine ⟨fun b6 => ?_, fun b6 => ?_⟩
    · -- b6.1
      have o8 : (v50 = 0 ∨ v50 = 1) := by
        exact hq.b
      refine ⟨o8, ?_⟩
      refine hP _ _ ⟨?_, ?_⟩
      · show M = M  -- p2.rfl
        first | with_reducible assumption | omega | exact trivial | with_reducible rfl
      · show zB v50 (0 < M 117 (hC (M 116 a)) ∧ ∀ k, 0 ≤ k → k < 192 → M 115 k = a → M 117 (hC k) = M 117 (hC (M 116 a)))  -- p2.pb
        exact hq.iff ⟨fun h => ⟨h.1, fun k k0 k1 => h.2 k k0 (by omega)⟩, fun h => ⟨h.1, fun k k0 k1 => h.2 k k0 (by omega)⟩⟩
    · -- b6.2
      refine ⟨fun b7 => ?_, fun b7 => ?_⟩
      · -- b7.1
        have o9 : zin (v51 + 1) := by
          first | with_reducible assumption | omega | exact trivial | with_reducible rfl  -- o9
        refine ⟨o9, ?_⟩
        refine ⟨Int.toNat (192 - (v51 + 1)), by omega, by omega, ?_, ?_, ?_⟩
        · show 0 ≤ (v51 + 1) ∧ (v51 + 1) ≤ 192  -- I24.5.hv
          first | with_reducible assumption | omega | exact trivial | with_reducible rfl
        · first | with_reducible assumption | omega | exact trivial | with_reducible rfl  -- I24.5.rfl
        · show zB 0 (0 < M 117 (hC (M 116 a)) ∧ ∀ k, 0 ≤ k → k < (v51 + 1) → M 115 k = a → M 117 (hC k) = M 117 (hC (M 116 a)))  -- I24.5.hq
          exact zB.f (fun h => hq.z.1 b7 ⟨h.1, fun k k0 k1 => h.2 k k0 (by omega)⟩)
      · -- b7.2
        have o10 : ((0 : Int) ≤ v51 ∧ v51 < 192) := by
          first | with_reducible assumption | omega | exact trivial | with_reducible rfl  -- o10
        refine ⟨o10, ?_⟩
        refine ⟨fun b8 => ?_, fun b8 => ?_⟩
        · -- b8.1
          have o11 : zin (v51 + 1) := by
            first | with_reducible assumption | omega | exact trivial | with_reducible rfl  -- o11
          refine ⟨o11, ?_⟩
          refine ⟨Int.toNat (192 - (v51 + 1)), by omega, by omega, ?_, ?_, ?_⟩
          · show 0 ≤ (v51 + 1) ∧ (v51 + 1) ≤ 192  -- I24.6.hv
            first | with_reducible assumption | omega | exact trivial | with_reducible rfl
          · first | with_reducible assumption | omega | exact trivial | with_reducible rfl  -- I24.6.rfl
          · show zB 1 (0 < M 117 (hC (M 116 a)) ∧ ∀ k, 0 ≤ k → k < (v51 + 1) → M 115 k = a → M 117 (hC k) = M 117 (hC (M 116 a)))  -- I24.6.hq
            have h := hq.ne.1 b7
            refine zB.t ⟨h.1, fun k k0 k1 e => ?_⟩
            by_cases c : k = v51
            · subst c; exact absurd e b8
            · exact h.2 k k0 (by omega) e
        · -- b8.2
          have gc3 : pr_X12_partOf v51 M := by
            show 0 ≤ v51 ∧ v51 < 192
            first | with_reducible assumption | omega | exact trivial | with_reducible rfl  -- c3.hk
          refine ⟨gc3, ?_⟩
          rintro r76 M77 ⟨q_rfl, e_r76⟩ z_r76 z_M77
          have q_rfl := q_rfl.symm
          subst q_rfl
          refine ⟨fun b9 => ?_, fun b9 => ?_⟩
          · -- b9.1
            have o12 : zin (v51 + 1) := by
              first | with_reducible assumption | omega | exact trivial | with_reducible rfl  -- o12
            refine ⟨o12, ?_⟩
            refine ⟨Int.toNat (192 - (v51 + 1)), by omega, by omega, ?_, ?_, ?_⟩
            · show 0 ≤ (v51 + 1) ∧ (v51 + 1) ≤ 192  -- I24.7.hv
              first | with_reducible assumption | omega | exact trivial | with_reducible rfl
            · first | with_reducible assumption | omega | exact trivial | with_reducible rfl  -- I24.7.rfl
            · show zB 0 (0 < M 117 (hC (M 116 a)) ∧ ∀ k, 0 ≤ k → k < (v51 + 1) → M 115 k = a → M 117 (hC k) = M 117 (hC (M 116 a)))  -- I24.7.hq
              refine zB.f (fun h => b9 ?_)
              rw [e_r76, e_r2]
              exact h.2 v51 hv.1 (by omega) b8
          · -- b9.2
            have o13 : zin (v51 + 1) := by
              first | with_reducible assumption | omega | exact trivial | with_reducible rfl  -- o13
            refine ⟨o13, ?_⟩
            refine ⟨Int.toNat (192 - (v51 + 1)), by omega, by omega, ?_, ?_, ?_⟩
            · show 0 ≤ (v51 + 1) ∧ (v51 + 1) ≤ 192  -- I24.8.hv
              first | with_reducible assumption | omega | exact trivial | with_reducible rfl
            · first | with_reducible assumption | omega | exact trivial | with_reducible rfl  -- I24.8.rfl
            · show zB 1 (0 < M 117 (hC (M 116 a)) ∧ ∀ k, 0 ≤ k → k < (v51 + 1) → M 115 k = a → M 117 (hC k) = M 117 (hC (M 116 a)))  -- I24.8.hq
              have h := hq.ne.1 b7
              refine zB.t ⟨h.1, fun k k0 k1 e => ?_⟩
              by_cases c : k = v51
              · subst c; rw [← e_r76, ← e_r2]; exact b9
              · exact h.2 k k0 (by omega) e

/-- face a lies in face b -/
def gLies (w h t : Int) (L F : Int → Int) (a b : Int) : Prop := ∃ Q N, gHo w h t L b Q N ∧ 0 < Q (hC (F a)) ∧ ∀ k, gD w h k → L k = a → Q (hC k) = Q (hC (F a))
/-- of one telling of the parts, whichever -/
theorem gLies_iff {w h t a b N : Int} {L F Q : Int → Int} (H : gHo w h t L b Q N) (hw : w ≤ 16) (ne : a ≠ b) (dF : gD w h (F a)) (eF : L (F a) = a) : gLies w h t L F a b ↔ (0 < Q (hC (F a)) ∧ ∀ k, gD w h k → L k = a → Q (hC k) = Q (hC (F a))) := by
  constructor
  · rintro ⟨Q', N', H', h1, h2⟩
    have u := (gHo.uq H H').2
    have e1 := u _ (hC_D dF hw (by rw [eF]; exact ne))
    refine ⟨by rw [e1]; exact h1, fun k dk ek => ?_⟩
    rw [e1, u _ (hC_D dk hw (by rw [ek]; exact ne))]
    exact h2 k dk ek
  · rintro ⟨h1, h2⟩
    exact ⟨Q, N, H, h1, h2⟩
abbrev pr_X12_depthOf (f : Int) (M : zM) : Prop := (mDim M) ∧ (M 103 5 = 0 ∨ M 103 5 = 1) ∧ (mFok M) ∧ (0 ≤ f ∧ f < M 103 30)
abbrev po_X12_depthOf (f : Int) (M : zM) (r : Int) (M' : zM) : Prop := (∀ c i, c ≠ 117 → ¬ (c = 103 ∧ i = 37) → M' c i = M c i) ∧ (r = zc (fun o => o ≠ f ∧ gLies (M 103 1) (M 103 2) (M 103 5) (M 115) (M 116) f o) (M 103 30))
set_option maxHeartbeats 1000000 in
theorem ok_X12_depthOf : zSnd zS 145 0 0 yX12_depthOf cX12_depthOf 4 (some .int) 3 [2, 0] (F_X12_depthOf pr_X12_depthOf po_X12_depthOf) := by
  refine (sn_X12_depthOf ok_X12_findHoles ok_X12_liesIn).mono ?_
  rintro xs P M hz hR ⟨f, rfl, ⟨hd, ht, hF, hf⟩, hP⟩
  refine ⟨_, rfl, ?_⟩
  have z_f := zall_h (zall_t hz) (by decide)
  change vc_X12_depthOf pr_X12_findHoles po_X12_findHoles pr_X12_liesIn po_X12_liesIn f P M
  unfold vc_X12_depthOf
  have hN := hF.N hd
  have hff := hF.1.fst f hf.1 hf.2
  refine ⟨fun v1 v2 M5 n7 => (n7 : Int) = (192 - v2) ∧ (0 ≤ v2 ∧ v2 ≤ M 103 30) ∧ (∀ c i, c ≠ 117 → ¬ (c = 103 ∧ i = 37) → M5 c i = M c i) ∧ (v1 = zc (fun o => o ≠ f ∧ gLies (M 103 1) (M 103 2) (M 103 5) (M 115) (M 116) f o) v2), ⟨Int.toNat (192 - 0), by omega, ?_, ?_, ?_⟩, ?_⟩
  · show 0 ≤ 0 ∧ 0 ≤ M 103 30  -- I4.0.hv
    first | with_reducible assumption | omega | exact trivial | with_reducible rfl
  · show ∀ c i, c ≠ 117 → ¬ (c = 103 ∧ i = 37) → M c i = M c i  -- I4.0.hfr
    first | with_reducible assumption | omega | exact trivial | with_reducible rfl
  · show 0 = zc (fun o => o ≠ f ∧ gLies (M 103 1) (M 103 2) (M 103 5) (M 115) (M 116) f o) 0  -- I4.0.h1
    rfl
  rintro v1 v2 M5 n7 ⟨h_n7, hv, hfr, h1⟩ z_v1 z_v2 z_M5
  have u := zc_b (fun o => o ≠ f ∧ gLies (M 103 1) (M 103 2) (M 103 5) (M 115) (M 116) f o) v2 hv.1
  have w1 := hfr 103 1 (by decide) (by decide)
  have w2 := hfr 103 2 (by decide) (by decide)
  have w5 := hfr 103 5 (by decide) (by decide)
  have w30 := hfr 103 30 (by decide) (by decide)
  have w115 : M5 115 = M 115 := funext fun i => hfr 115 i (by decide) (by omega)
  have w116 : M5 116 = M 116 := funext fun i => hfr 116 i (by decide) (by omega)
  refine ⟨fun b1 => ?_, fun b1 => ?_⟩
  · -- b1.1
    refine hP _ _ ⟨?_, ?_⟩
    · show ∀ c i, c ≠ 117 → ¬ (c = 103 ∧ i = 37) → M5 c i = M c i  -- p1.hfr
      first | with_reducible assumption | omega | exact trivial | with_reducible rfl
    · show v1 = zc (fun o => o ≠ f ∧ gLies (M 103 1) (M 103 2) (M 103 5) (M 115) (M 116) f o) (M 103 30)  -- p1.hr
      rw [h1, show v2 = M 103 30 by omega]
  · -- b1.2
    refine ⟨fun b2 => ?_, fun b2 => ?_⟩
    · -- b2.1
      have o1 : zin (v2 + 1) := by
        first | with_reducible assumption | omega | exact trivial | with_reducible rfl  -- o1
      refine ⟨o1, ?_⟩
      refine ⟨Int.toNat (192 - (v2 + 1)), by omega, by omega, ?_, ?_, ?_⟩
      · show 0 ≤ (v2 + 1) ∧ (v2 + 1) ≤ M 103 30  -- I4.1.hv
        first | with_reducible assumption | omega | exact trivial | with_reducible rfl
      · show ∀ c i, c ≠ 117 → ¬ (c = 103 ∧ i = 37) → M5 c i = M c i  -- I4.1.hfr
        first | with_reducible assumption | omega | exact trivial | with_reducible rfl
      · show v1 = zc (fun o => o ≠ f ∧ gLies (M 103 1) (M 103 2) (M 103 5) (M 115) (M 116) f o) (v2 + 1)  -- I4.1.h1
        rw [zc_n hv.1 (fun h => h.1 b2)]; omega
    · -- b2.2
      have gc1 : pr_X12_findHoles v2 M5 := by
        refine ⟨?_, ?_, ?_⟩
        · show mDim M5  -- c1.hd
          unfold mDim; omega
        · show M5 103 5 = 0 ∨ M5 103 5 = 1  -- c1.ht
          first | with_reducible assumption | omega | exact trivial | with_reducible rfl
        · show 0 ≤ v2  -- c1.hf0
          first | with_reducible assumption | omega | exact trivial | with_reducible rfl
      refine ⟨gc1, ?_⟩
      rintro M20 ⟨pc1_hf, pc1_hL, pc1_hn⟩ z_M20
      rw [w1, w2, w5, w115] at pc1_hL
      have y116 : M20 116 = M 116 := by rw [← w116]; exact funext fun i => pc1_hf 116 i (by decide) (by omega)
      have y115 : M20 115 = M 115 := by rw [← w115]; exact funext fun i => pc1_hf 115 i (by decide) (by omega)
      have gc2 : pr_X12_liesIn f M20 := by
        refine ⟨?_, ?_⟩
        · show 0 ≤ f ∧ f < 192  -- c2.ha
          first | with_reducible assumption | omega | exact trivial | with_reducible rfl
        · show 0 ≤ M20 116 f ∧ M20 116 f < 192  -- c2.hF
          rw [y116]; have := hff.1; omega
      refine ⟨gc2, ?_⟩
      rintro r25 M26 ⟨q_rfl, pc2_pb⟩ z_r25 z_M26
      have q_rfl := q_rfl.symm
      subst q_rfl
      rw [y115, y116] at pc2_pb
      have B := pc2_pb.iff (q := gLies (M 103 1) (M 103 2) (M 103 5) (M 115) (M 116) f v2) (by
        rw [gLies_iff pc1_hL (by omega) (fun e => b2 e.symm) hff.1 hff.2]
        constructor
        · rintro ⟨h1, h2⟩; exact ⟨h1, fun k dk e => h2 k dk.1 (by omega) e⟩
        · rintro ⟨h1, h2⟩; exact ⟨h1, fun k k0 k1 e => h2 k (hF.D hf.1 k0 k1 e) e⟩)
      refine ⟨fun b3 => ?_, fun b3 => ?_⟩
      · -- b3.1
        have o2 : zin (v1 + 0) := by
          first | with_reducible assumption | omega | exact trivial | with_reducible rfl  -- o2
        refine ⟨o2, ?_⟩
        have o3 : zin (v2 + 1) := by
          first | with_reducible assumption | omega | exact trivial | with_reducible rfl  -- o3
        refine ⟨o3, ?_⟩
        refine ⟨Int.toNat (192 - (v2 + 1)), by omega, by omega, ?_, ?_, ?_⟩
        · show 0 ≤ (v2 + 1) ∧ (v2 + 1) ≤ M 103 30  -- I4.2.hv
          first | with_reducible assumption | omega | exact trivial | with_reducible rfl
        · show ∀ c i, c ≠ 117 → ¬ (c = 103 ∧ i = 37) → M20 c i = M c i  -- I4.2.hfr
          intro c i c1 c2; rw [pc1_hf c i c1 c2]; exact hfr c i c1 c2
        · show (v1 + 0) = zc (fun o => o ≠ f ∧ gLies (M 103 1) (M 103 2) (M 103 5) (M 115) (M 116) f o) (v2 + 1)  -- I4.2.h1
          rw [zc_n hv.1 (fun h => B.z.1 b3 h.2)]; omega
      · -- b3.2
        have o4 : zin (v1 + 1) := by
          first | with_reducible assumption | omega | exact trivial | with_reducible rfl  -- o4
        refine ⟨o4, ?_⟩
        have o5 : zin (v2 + 1) := by
          first | with_reducible assumption | omega | exact trivial | with_reducible rfl  -- o5
        refine ⟨o5, ?_⟩
        refine ⟨Int.toNat (192 - (v2 + 1)), by omega, by omega, ?_, ?_, ?_⟩
        · show 0 ≤ (v2 + 1) ∧ (v2 + 1) ≤ M 103 30  -- I4.3.hv
          first | with_reducible assumption | omega | exact trivial | with_reducible rfl
        · show ∀ c i, c ≠ 117 → ¬ (c = 103 ∧ i = 37) → M20 c i = M c i  -- I4.3.hfr
          intro c i c1 c2; rw [pc1_hf c i c1 c2]; exact hfr c i c1 c2
        · show (v1 + 1) = zc (fun o => o ≠ f ∧ gLies (M 103 1) (M 103 2) (M 103 5) (M 115) (M 116) f o) (v2 + 1)  -- I4.3.h1
          rw [zc_p hv.1 ⟨b2, B.ne.1 b3⟩]; omega

