abbrev bIpd (M : zM) : Prop := bDim M
theorem bI.d' {M M' : zM} (H : bI M) (e : ∀ c i, c = 1 ∧ (i = 0 ∨ i = 1) → M' c i = M c i) : bIpd M' := by unfold bIpd; unfold bDim; rw [e 1 0 (by omega), e 1 1 (by omega)]; exact H.1
abbrev bIpt (M : zM) : Prop := M 1 2 = 0 ∨ M 1 2 = 1
theorem bI.t' {M M' : zM} (H : bI M) (e : ∀ c i, c = 1 ∧ i = 2 → M' c i = M c i) : bIpt M' := by unfold bIpt; rw [e 1 2 (by omega)]; exact H.2.1
abbrev bIpv (M : zM) : Prop := 0 ≤ M 1 3 ∧ M 1 3 < 1000000000
theorem bI.v' {M M' : zM} (H : bI M) (e : ∀ c i, c = 1 ∧ i = 3 → M' c i = M c i) : bIpv M' := by unfold bIpv; rw [e 1 3 (by omega)]; exact H.2.2.1
abbrev bIpc (M : zM) : Prop := bCo M
theorem bI.c' {M M' : zM} (H : bI M) (e : ∀ c i, c = 2 → M' c i = M c i) : bIpc M' := fun i i0 i1 => by rw [e 2 i (by omega)]; exact H.c i i0 i1
abbrev bIptn (M : zM) : Prop := ∀ c, 0 ≤ c → c < 16 → 0 ≤ M 3 c ∧ M 3 c ≤ 255
theorem bI.tn' {M M' : zM} (H : bI M) (e : ∀ c i, c = 3 → M' c i = M c i) : bIptn M' := fun i i0 i1 => by rw [e 3 i (by omega)]; exact H.tn i i0 i1
abbrev bIph (M : zM) : Prop := (0 ≤ M 77 0 ∧ 0 ≤ M 77 1 ∧ M 77 1 + M 77 0 ≤ 20) ∧ (0 ≤ M 77 2 ∧ M 77 2 < 20) ∧ (∀ k i, 0 ≤ k → k < 20 → 0 ≤ i → i < 192 → 0 ≤ M (79 + k) i ∧ M (79 + k) i ≤ 15)
theorem bI.h' {M M' : zM} (H : bI M) (e : ∀ c i, (c = 77 ∧ 0 ≤ i ∧ i ≤ 2) ∨ (79 ≤ c ∧ c ≤ 98) → M' c i = M c i) : bIph M' := ⟨by rw [e 77 0 (by omega), e 77 1 (by omega)]; exact H.h.1, by rw [e 77 2 (by omega)]; exact H.h.2.1, fun k i k0 k1 i0 i1 => by rw [e (79 + k) i (by omega)]; exact H.h.2.2 k i k0 k1 i0 i1⟩
abbrev bIpi (M : zM) : Prop := (0 ≤ M 99 3 ∧ M 99 3 < 1000000000) ∧ (M 0 12 ≠ 0 → (1 ≤ M 99 0 ∧ M 99 0 ≤ 16) ∧ (1 ≤ M 99 1 ∧ M 99 1 ≤ 12)) ∧ (∀ i, 0 ≤ i → i < 192 → 0 ≤ M 100 i ∧ M 100 i ≤ 15) ∧ (∀ c, 0 ≤ c → c < 16 → 0 ≤ M 101 c ∧ M 101 c ≤ 255) ∧ (M 99 2 = 0 ∨ M 99 2 = 1)
theorem bI.i' {M M' : zM} (H : bI M) (e : ∀ c i, (c = 99 ∧ 0 ≤ i ∧ i ≤ 3) ∨ (c = 0 ∧ i = 12) ∨ c = 100 ∨ c = 101 → M' c i = M c i) : bIpi M' := ⟨by rw [e 99 3 (by omega)]; exact H.i.1, by rw [e 0 12 (by omega), e 99 0 (by omega), e 99 1 (by omega)]; exact H.i.2.1, fun i i0 i1 => by rw [e 100 i (by omega)]; exact H.i.2.2.1 i i0 i1, fun i i0 i1 => by rw [e 101 i (by omega)]; exact H.i.2.2.2.1 i i0 i1, by rw [e 99 2 (by omega)]; exact H.i.2.2.2.2⟩
abbrev bIpr (M : zM) : Prop := (0 ≤ M 57 0 ∧ M 57 0 ≤ 12) ∧ (0 ≤ M 57 4 ∧ M 57 4 ≤ 12) ∧ (∀ k, 0 ≤ k → k < 12 → M 72 k = 0 ∨ M 72 k = 1) ∧ (∀ k, 0 ≤ k → k < 12 → M 73 k = 0 ∨ M 73 k = 1) ∧ ∀ k, 0 ≤ k → k < 12 → 0 ≤ M 71 k ∧ M 71 k ≤ 120
theorem bI.r' {M M' : zM} (H : bI M) (e : ∀ c i, (c = 57 ∧ (i = 0 ∨ i = 4)) ∨ (71 ≤ c ∧ c ≤ 73) → M' c i = M c i) : bIpr M' := ⟨by rw [e 57 0 (by omega)]; exact H.r.1, by rw [e 57 4 (by omega)]; exact H.r.2.1, fun i i0 i1 => by rw [e 72 i (by omega)]; exact H.r.2.2.1 i i0 i1, fun i i0 i1 => by rw [e 73 i (by omega)]; exact H.r.2.2.2.1 i i0 i1, fun i i0 i1 => by rw [e 71 i (by omega)]; exact H.r.2.2.2.2 i i0 i1⟩
abbrev bIps (M : zM) : Prop := ∀ d, 0 ≤ d → d < 8 → (0 ≤ M (26 + 2 * d) 2 ∧ M (26 + 2 * d) 2 ≤ 120) ∧ (0 ≤ M (26 + 2 * d) 6 ∧ M (26 + 2 * d) 6 ≤ 16) ∧ (0 ≤ M (26 + 2 * d) 7 ∧ M (26 + 2 * d) 7 ≤ 12) ∧ (0 ≤ M (26 + 2 * d) 8 ∧ M (26 + 2 * d) 8 ≤ 12) ∧ (0 ≤ M (26 + 2 * d) 5 ∧ M (26 + 2 * d) 5 ≤ 192)
theorem bI.s' {M M' : zM} (H : bI M) (e : ∀ c i, 26 ≤ c ∧ c ≤ 41 → M' c i = M c i) : bIps M' := fun d d0 d1 => by rw [e (26 + 2 * d) 2 (by omega), e (26 + 2 * d) 5 (by omega), e (26 + 2 * d) 6 (by omega), e (26 + 2 * d) 7 (by omega), e (26 + 2 * d) 8 (by omega)]; exact H.s d d0 d1
abbrev mIpd (M : zM) : Prop := mDim M
theorem mI.d' {M M' : zM} (H : mI M) (e : ∀ c i, c = 103 ∧ (i = 1 ∨ i = 2) → M' c i = M c i) : mIpd M' := by unfold mIpd; unfold mDim; rw [e 103 1 (by omega), e 103 2 (by omega)]; exact H.1
abbrev mIpt (M : zM) : Prop := M 103 5 = 0 ∨ M 103 5 = 1
theorem mI.t' {M M' : zM} (H : mI M) (e : ∀ c i, c = 103 ∧ i = 5 → M' c i = M c i) : mIpt M' := by unfold mIpt; rw [e 103 5 (by omega)]; exact H.2.1
abbrev mIpc (M : zM) : Prop := mCo M
theorem mI.c' {M M' : zM} (H : mI M) (e : ∀ c i, c = 104 → M' c i = M c i) : mIpc M' := fun i i0 i1 => by rw [e 104 i (by omega)]; exact H.c i i0 i1
abbrev mIptn (M : zM) : Prop := ∀ c, 0 ≤ c → c < 16 → 0 ≤ M 105 c ∧ M 105 c ≤ 255
theorem mI.tn' {M M' : zM} (H : mI M) (e : ∀ c i, c = 105 → M' c i = M c i) : mIptn M' := fun i i0 i1 => by rw [e 105 i (by omega)]; exact H.tn i i0 i1
abbrev mIph (M : zM) : Prop := (0 ≤ M 103 8 ∧ M 103 8 ≤ M 103 7 ∧ M 103 7 ≤ 20) ∧ ∀ i, 0 ≤ i → i < 192 * M 103 7 → 0 ≤ M 106 i ∧ M 106 i ≤ 15
theorem mI.h' {M M' : zM} (H : mI M) (e : ∀ c i, (c = 103 ∧ (i = 7 ∨ i = 8)) ∨ c = 106 → M' c i = M c i) : mIph M' := ⟨by rw [e 103 7 (by omega), e 103 8 (by omega)]; exact H.h.1, fun i i0 i1 => by rw [e 106 i (by omega)]; exact H.h.2 i i0 (by rw [e 103 7 (by omega)] at i1; exact i1)⟩
abbrev mIpi (M : zM) : Prop := (M 103 13 ≠ 0 → (1 ≤ M 103 14 ∧ M 103 14 ≤ 16) ∧ (1 ≤ M 103 15 ∧ M 103 15 ≤ 12)) ∧ (∀ i, 0 ≤ i → i < 192 → 0 ≤ M 110 i ∧ M 110 i ≤ 15) ∧ (∀ c, 0 ≤ c → c < 16 → 0 ≤ M 111 c ∧ M 111 c ≤ 255) ∧ (M 103 18 = 0 ∨ M 103 18 = 1)
theorem mI.i' {M M' : zM} (H : mI M) (e : ∀ c i, (c = 103 ∧ (i = 13 ∨ i = 14 ∨ i = 15 ∨ i = 18)) ∨ c = 110 ∨ c = 111 → M' c i = M c i) : mIpi M' := ⟨by rw [e 103 13 (by omega), e 103 14 (by omega), e 103 15 (by omega)]; exact H.i.1, fun i i0 i1 => by rw [e 110 i (by omega)]; exact H.i.2.1 i i0 i1, fun i i0 i1 => by rw [e 111 i (by omega)]; exact H.i.2.2.1 i i0 i1, by rw [e 103 18 (by omega)]; exact H.i.2.2.2⟩
abbrev mIpr (M : zM) : Prop := (0 ≤ M 103 9 ∧ M 103 9 ≤ 12) ∧ (0 ≤ M 103 19 ∧ M 103 19 ≤ 12) ∧ (∀ k, 0 ≤ k → k < 12 → M 109 k = 0 ∨ M 109 k = 1) ∧ (∀ k, 0 ≤ k → k < 12 → M 112 k = 0 ∨ M 112 k = 1) ∧ ∀ k, 0 ≤ k → k < 12 → 0 ≤ M 108 k ∧ M 108 k ≤ 120
theorem mI.r' {M M' : zM} (H : mI M) (e : ∀ c i, (c = 103 ∧ (i = 9 ∨ i = 19)) ∨ c = 108 ∨ c = 109 ∨ c = 112 → M' c i = M c i) : mIpr M' := ⟨by rw [e 103 9 (by omega)]; exact H.r.1, by rw [e 103 19 (by omega)]; exact H.r.2.1, fun i i0 i1 => by rw [e 109 i (by omega)]; exact H.r.2.2.1 i i0 i1, fun i i0 i1 => by rw [e 112 i (by omega)]; exact H.r.2.2.2.1 i i0 i1, fun i i0 i1 => by rw [e 108 i (by omega)]; exact H.r.2.2.2.2 i i0 i1⟩
abbrev mIps (M : zM) : Prop := ∀ d, 0 ≤ d → d < 8 → (0 ≤ M 141 d ∧ M 141 d ≤ 120) ∧ (0 ≤ M 137 d ∧ M 137 d ≤ 16) ∧ (0 ≤ M 138 d ∧ M 138 d ≤ 12) ∧ (0 ≤ M 139 d ∧ M 139 d ≤ 12) ∧ (0 ≤ M 136 d ∧ M 136 d ≤ 192)
theorem mI.s' {M M' : zM} (H : mI M) (e : ∀ c i, 136 ≤ c ∧ c ≤ 141 → M' c i = M c i) : mIps M' := fun d d0 d1 => by rw [e 141 d (by omega), e 136 d (by omega), e 137 d (by omega), e 138 d (by omega), e 139 d (by omega)]; exact H.s d d0 d1
abbrev zRpd (M : zM) : Prop := M 1 0 = M 103 1 ∧ M 1 1 = M 103 2 ∧ M 1 2 = M 103 5
theorem zR.d' {M M' : zM} (H : zR M) (e : ∀ c i, (c = 1 ∧ 0 ≤ i ∧ i ≤ 2) ∨ (c = 103 ∧ (i = 1 ∨ i = 2 ∨ i = 5)) → M' c i = M c i) : zRpd M' := by unfold zRpd; rw [e 1 0 (by omega), e 1 1 (by omega), e 1 2 (by omega), e 103 1 (by omega), e 103 2 (by omega), e 103 5 (by omega)]; exact H.1
abbrev zRpp (M : zM) : Prop := ∀ i, gD (M 1 0) (M 1 1) i → M 2 i = M 104 i
theorem zR.p' {M M' : zM} (H : zR M) (e : ∀ c i, (c = 1 ∧ (i = 0 ∨ i = 1)) ∨ c = 2 ∨ c = 104 → M' c i = M c i) : zRpp M' := by
  unfold zRpp
  rw [e 1 0 (by omega), e 1 1 (by omega)]
  exact fun i d => by rw [e 2 i (by omega), e 104 i (by omega)]; exact H.2.1 i d
abbrev zRptn (M : zM) : Prop := ∀ c, 0 ≤ c → c < 16 → M 3 c = M 105 c
theorem zR.tn' {M M' : zM} (H : zR M) (e : ∀ c i, c = 3 ∨ c = 105 → M' c i = M c i) : zRptn M' := fun i i0 i1 => by rw [e 3 i (by omega), e 105 i (by omega)]; exact H.2.2.1 i i0 i1
abbrev zRph (M : zM) : Prop := (M 77 0 = M 103 8 ∧ M 77 0 + M 77 1 = M 103 7) ∧ ∀ k, 0 ≤ k → k < M 103 7 → ∀ i, 0 ≤ i → i < 192 → (gD (M 1 0) (M 1 1) i → M (79 + (M 77 2 + k) % 20) i = M 106 (192 * k + i)) ∧ (¬ gD (M 1 0) (M 1 1) i → M (79 + (M 77 2 + k) % 20) i = M 2 i ∧ M 106 (192 * k + i) = M 104 i)
theorem zR.h' {M M' : zM} (H : zR M) (e : ∀ c i, (c = 1 ∧ (i = 0 ∨ i = 1)) ∨ c = 2 ∨ c = 104 ∨ c = 106 ∨ (c = 77 ∧ 0 ≤ i ∧ i ≤ 2) ∨ (79 ≤ c ∧ c ≤ 98) ∨ (c = 103 ∧ (i = 7 ∨ i = 8)) → M' c i = M c i) : zRph M' := by
  unfold zRph
  have X := H.2.2.2.1
  refine ⟨by rw [e 77 0 (by omega), e 77 1 (by omega), e 103 7 (by omega), e 103 8 (by omega)]; exact X.1, fun k k0 k1 i i0 i1 => ?_⟩
  rw [e 103 7 (by omega)] at k1
  rw [e 1 0 (by omega), e 1 1 (by omega), e 77 2 (by omega), e 106 _ (by omega), e 2 i (by omega), e 104 i (by omega), e (79 + (M 77 2 + k) % 20) i (by omega)]; exact X.2 k k0 k1 i i0 i1
abbrev zRpr (M : zM) : Prop := (M 57 0 = M 103 9 ∧ M 57 4 ≤ M 57 0 ∧ M 57 0 ≤ 12) ∧ (∀ q, 0 ≤ q → q < 12 → M 72 q = M 109 q) ∧ ∀ q, 0 ≤ q → q < M 57 0 → M 71 q = M 108 q ∧ gSx (M (59 + q)) (fun i => M 107 (120 * q + i)) (M 71 q) ∧ gRv (M (59 + q)) (M 71 q)
theorem zR.r' {M M' : zM} (H : zR M) (hI : bI M) (e : ∀ c i, (c = 57 ∧ (i = 0 ∨ i = 4)) ∨ (c = 103 ∧ i = 9) ∨ (59 ≤ c ∧ c ≤ 72) ∨ (107 ≤ c ∧ c ≤ 109) → M' c i = M c i) : zRpr M' := by
  unfold zRpr
  have X := H.2.2.2.2.1
  refine ⟨by rw [e 57 0 (by omega), e 57 4 (by omega), e 103 9 (by omega)]; exact X.1, fun q q0 q1 => by rw [e 72 q (by omega), e 109 q (by omega)]; exact X.2.1 q q0 q1, fun q q0 q1 => ?_⟩
  rw [e 57 0 (by omega)] at q1
  rw [e 71 q (by omega), e 108 q (by omega), show M' 107 = M 107 from funext fun i => e 107 i (by omega), show M' (59 + q) = M (59 + q) from funext fun i => e (59 + q) i (by have := X.1; have := hI.r; omega)]; exact X.2.2 q q0 q1
abbrev zRpi (M : zM) : Prop := (M 0 12 ≠ 0 ↔ M 103 13 ≠ 0) ∧ (M 0 12 ≠ 0 → (M 99 0 = M 103 14 ∧ M 99 1 = M 103 15 ∧ M 99 2 = M 103 18 ∧ M 57 4 = M 103 19) ∧ (∀ i, gD (M 99 0) (M 99 1) i → M 100 i = M 110 i) ∧ (∀ c, 0 ≤ c → c < 16 → M 101 c = M 111 c) ∧ ∀ q, 0 ≤ q → q < 12 → M 73 q = M 112 q)
theorem zR.i' {M M' : zM} (H : zR M) (e : ∀ c i, (c = 0 ∧ i = 12) ∨ (c = 103 ∧ (i = 13 ∨ i = 14 ∨ i = 15 ∨ i = 18 ∨ i = 19)) ∨ (c = 99 ∧ 0 ≤ i ∧ i ≤ 2) ∨ (c = 57 ∧ i = 4) ∨ c = 100 ∨ c = 101 ∨ (110 ≤ c ∧ c ≤ 112) ∨ c = 73 → M' c i = M c i) : zRpi M' := by
  unfold zRpi
  have X := H.2.2.2.2.2.1
  refine ⟨by rw [e 0 12 (by omega), e 103 13 (by omega)]; exact X.1, fun k => ?_⟩
  rw [e 0 12 (by omega)] at k
  have Y := X.2 k
  refine ⟨by rw [e 99 0 (by omega), e 99 1 (by omega), e 99 2 (by omega), e 57 4 (by omega), e 103 14 (by omega), e 103 15 (by omega), e 103 18 (by omega), e 103 19 (by omega)]; exact Y.1, ?_, fun c c0 c1 => by rw [e 101 c (by omega), e 111 c (by omega)]; exact Y.2.2.1 c c0 c1, fun c c0 c1 => by rw [e 73 c (by omega), e 112 c (by omega)]; exact Y.2.2.2 c c0 c1⟩
  rw [e 99 0 (by omega), e 99 1 (by omega)]
  exact fun i d => by rw [e 100 i (by omega), e 110 i (by omega)]; exact Y.2.1 i d
abbrev zRps (M : zM) : Prop := ∀ d, 0 ≤ d → d < 8 → (M (26 + 2 * d) 0 = M 134 d ∧ (M 134 d = 0 ∨ M 134 d = 1 ∨ M 134 d = 2)) ∧ (M 134 d = 2 → (M (26 + 2 * d) 1 = M 140 d ∧ M (26 + 2 * d) 2 = M 141 d) ∧ (∀ i, 0 ≤ i → i < 120 → M (26 + 2 * d + 1) i = M 142 (120 * d + i)) ∧ (M 140 d = 0 → ∀ i, 0 ≤ i → i < 120 → -128 ≤ M 142 (120 * d + i) ∧ M 142 (120 * d + i) ≤ 127)) ∧     (M 134 d = 1 → M (26 + 2 * d) 4 = M 135 d ∧ (0 ≤ M 135 d ∧ M 135 d ≤ 4) ∧ M (26 + 2 * d) 5 = M 136 d ∧ M (26 + 2 * d) 6 = M 137 d ∧ M (26 + 2 * d) 7 = M 138 d ∧ M (26 + 2 * d) 8 = M 139 d)
theorem zR.s' {M M' : zM} (H : zR M) (e : ∀ c i, (26 ≤ c ∧ c ≤ 41) ∨ (134 ≤ c ∧ c ≤ 142) → M' c i = M c i) : zRps M' := fun d d0 d1 => by
  have f : ∀ c, (26 ≤ c ∧ c ≤ 41) ∨ (134 ≤ c ∧ c ≤ 142) → M' c = M c := fun c k => funext fun i => e c i (by omega)
  rw [f 134 (by omega), f 135 (by omega), f 136 (by omega), f 137 (by omega), f 138 (by omega), f 139 (by omega), f 140 (by omega), f 141 (by omega), f 142 (by omega), f (26 + 2 * d) (by omega), f (26 + 2 * d + 1) (by omega)]; exact H.2.2.2.2.2.2 d d0 d1
theorem zJn.mk {v : Int} {M M1 M2 : zM} (J : zJn v M) (e1 : ∀ c i, 103 ≤ c → M1 c i = M c i) (e2 : ∀ c i, c ≤ 102 → M2 c i = M1 c i) (f : ∀ i, M1 75 i = M 75 i) (b : bI M1) (k : bK M1) (m : mI M1 → mI M2) (R : zR M2) (a3 : M1 1 3 ≤ v + 1) (a9 : M1 99 3 ≤ v + 1) : zJn (v + 1) M2 :=
  ⟨b.fr (fun c i _ l => e2 c i l), k.fr (fun c i k => e2 c i (by omega)), fun k k0 k1 => by rw [e2 75 k (by omega), f]; exact J.2.2.1 k k0 k1, m (J.2.2.2.1.fr (fun c i _ l => e1 c i l)), R, by rw [e2 1 3 (by omega)]; exact a3, by rw [e2 99 3 (by omega)]; exact a9⟩
