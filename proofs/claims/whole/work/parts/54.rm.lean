def mL (M : zM) : Int := if M 103 27 = 0 then 16 else M 103 26
def mH (M : zM) (f : Nat) (D : Int → Int) : Prop := M 103 22 - M 103 23 + 1 ≤ (f : Int) ∧ ∀ i, gDo (mL M) 0 (M 103 27) i → M 113 i = D i ∧ 0 ≤ D i ∧ D i ≤ 15
def mE (M : zM) (f : Nat) (D : Int → Int) : Int × Int × Int × (Int → Int) := gEx (mT M) (M 103 22) f (mL M) (M 103 23) 0 (M 103 27) D
/-- the end of a line that isn't too short -/
def gLn (T : Int → Int) (n : Int) (f : Nat) (x p y : Int) (D : Int → Int) (e : Int × Int × Int × (Int → Int)) : Prop := (n ≤ p → e = (-4, x, y + 1, D)) ∧ (p < n → gBy T n p = 47 ∧ (12 ≤ y + 1 → e.1 = p) ∧ (y + 1 < 12 → e = gEx T n f x (p + 1) 0 (y + 1) D))
def gLz (T : Int → Int) (n : Int) (f : Nat) (l x p y : Int) (D : Int → Int) (e : Int × Int × Int × (Int → Int)) : Prop := (0 < y ∧ x < l → e.1 = p) ∧ (¬ (0 < y ∧ x < l) → gLn T n f x p y D e)
def gSz (T : Int → Int) (n : Int) (f : Nat) (l x p y : Int) (D : Int → Int) (e : Int × Int × Int × (Int → Int)) : Prop := (n ≤ p ∨ gBy T n p = 47 → gLz T n f l x p y D e) ∧ (¬ (n ≤ p ∨ gBy T n p = 47) → e = gEx T n f l p x y D)
theorem gEx_st {T : Int → Int} {n l p x y : Int} {f : Nat} {D : Int → Int} (h : ¬ (gCl (gBy T n p) < 0 ∨ l ≤ x)) (h2 : ¬ (gRu T n p < 1 ∨ 16 < gRu T n p ∨ l < x + gRu T n p)) : gSz T n f l (x + gRu T n p) (gBh T n p) y (gDr D (16 * y + x) (gRu T n p) (gCl (gBy T n p))) (gEx T n (f + 1) l p x y D) := by
  refine ⟨fun c => ⟨fun k => by rw [gEx_c h h2 c k], fun k => ⟨fun q => by rw [gEx_d h h2 k q], fun q => ?_⟩⟩, fun c => gEx_g h h2 c⟩
  have e : gBy T n (gBh T n p) = 47 := by
    rcases c with c | c
    · omega
    · exact c
  exact ⟨e, fun r => by rw [gEx_e h h2 e k (by omega) r], fun r => gEx_f h h2 e k (by omega) (by omega)⟩
def mFr (M M6 : zM) : Prop := ∀ c i, c ≠ 113 → ¬ (c = 103 ∧ (i = 23 ∨ i = 24)) → M6 c i = M c i
def mDw (M M6 : zM) (x : Int) (D : Int → Int) : Prop := ∀ i, gDo (mL M) x (M 103 27) i → M6 113 i = D i ∧ 0 ≤ D i ∧ D i ≤ 15
def mBad (M M6 : zM) : Prop := M6 103 24 = 1 ∧ ∀ f D, mH M f D → (mE M f D).1 = M6 103 23
def mGo (M M6 : zM) (x : Int) : Prop := M6 103 24 = 0 ∧ ∀ f D, mH M f D → ∃ (f' : Nat) (D' : Int → Int), M 103 22 - M6 103 23 + 1 ≤ (f' : Int) ∧ mDw M M6 x D' ∧ mE M f D = gEx (mT M) (M 103 22) f' (mL M) (M6 103 23) x (M 103 27) D'
def mEnd (M M6 : zM) (x : Int) : Prop := M6 103 24 = 0 ∧ 1 ≤ x ∧ (M 103 22 ≤ M6 103 23 ∨ gBy (mT M) (M 103 22) (M6 103 23) = 47) ∧ ∀ f D, mH M f D → ∃ (f' : Nat) (D' : Int → Int), M 103 22 - M6 103 23 ≤ (f' : Int) ∧ mDw M M6 x D' ∧ gLz (mT M) (M 103 22) f' (mL M) x (M6 103 23) (M 103 27) D' (mE M f D)
def mSt (M M6 : zM) (x more : Int) : Prop := mFr M M6 ∧ (0 ≤ x ∧ x ≤ mL M) ∧ (0 ≤ M6 103 23 ∧ M6 103 23 ≤ M 103 22) ∧ ((more = 1 ∧ mGo M M6 x) ∨ (more = 0 ∧ mBad M M6) ∨ (more = 0 ∧ mEnd M M6 x))
def mRn (M : zM) (p x : Int) (M6 : zM) : Prop := mFr M M6 ∧ (0 ≤ x ∧ x ≤ mL M) ∧ (p ≤ M6 103 23 ∧ M6 103 23 ≤ M 103 22) ∧ (mBad M M6 ∨ (M6 103 24 = 0 ∧ p < M6 103 23 ∧ 1 ≤ x ∧ ∀ f D, mH M f D → ∃ (f' : Nat) (D' : Int → Int), M 103 22 - M6 103 23 + 1 ≤ (f' : Int) ∧ mDw M M6 x D' ∧ gSz (mT M) (M 103 22) f' (mL M) x (M6 103 23) (M 103 27) D' (mE M f D)))
def mLp (M M6 : zM) (x w k : Int) (N : zM) : Prop := mFr M N ∧ ((k = 0 ∧ w = x ∧ (M6 103 23 ≤ N 103 23 ∧ N 103 23 ≤ M 103 22) ∧ mBad M N) ∨ (N 103 24 = 0 ∧ w = x + k ∧ (0 ≤ k ∧ k ≤ gRu (mT M) (M 103 22) (M6 103 23)) ∧ (1 ≤ gRu (mT M) (M 103 22) (M6 103 23) ∧ gRu (mT M) (M 103 22) (M6 103 23) ≤ 16 ∧ x + gRu (mT M) (M 103 22) (M6 103 23) ≤ mL M) ∧ N 103 23 = gBh (mT M) (M 103 22) (M6 103 23) ∧ ∀ i, N 113 i = gDr (M6 113) (16 * M 103 27 + x) k (gCl (gBy (mT M) (M 103 22) (M6 103 23))) i))
/-- a line may begin -/
def mLi (M : zM) : Prop := (0 ≤ M 103 21 ∧ M 103 21 ≤ 840) ∧ (0 ≤ M 103 22 ∧ M 103 22 ≤ 120) ∧ (0 ≤ M 103 23 ∧ M 103 23 ≤ M 103 22) ∧ M 103 24 = 0 ∧ (0 ≤ M 103 27 ∧ M 103 27 < 12) ∧ (M 103 27 ≠ 0 → 1 ≤ M 103 26 ∧ M 103 26 ≤ 16)
theorem mLi.L {M : zM} (h : mLi M) : 1 ≤ mL M ∧ mL M ≤ 16 := by
  unfold mL
  split
  · omega
  · rename_i k; exact h.2.2.2.2.2 k
theorem mFr.rd {M N : zM} (h : mFr M N) : N 103 21 = M 103 21 ∧ N 103 22 = M 103 22 ∧ N 103 26 = M 103 26 ∧ N 103 27 = M 103 27 ∧ mT N = mT M := ⟨h 103 21 (by decide) (by omega), h 103 22 (by decide) (by omega), h 103 26 (by decide) (by omega), h 103 27 (by decide) (by omega), mT_c (funext fun i => h 142 i (by decide) (by omega)) (h 103 21 (by decide) (by omega))⟩
theorem mFr.set {M N : zM} (h : mFr M N) {i v : Int} (hi : i = 23 ∨ i = 24) : mFr M (zset N 103 i v) := fun c j c1 c2 => by
  rw [zset_n _ (by omega)]; exact h c j c1 c2
theorem mSt_0 {M : zM} (h : mLi M) : mSt M M 0 1 := ⟨fun _ _ _ _ => rfl, by have := h.L; omega, h.2.2.1, .inl ⟨rfl, h.2.2.2.1, fun f D hf => ⟨f, D, hf.1, hf.2, rfl⟩⟩⟩
theorem mSt.go {M N : zM} {x : Int} (h : mSt M N x 1) : mGo M N x := by
  rcases h.2.2.2 with ⟨_, a⟩ | ⟨a, _⟩ | ⟨a, _⟩
  · exact a
  · omega
  · omega
theorem mRn_bad {M N : zM} {x : Int} (h : mSt M N x 1) (b : gCl (gBy (mT M) (M 103 22) (N 103 23)) < 0 ∨ mL M ≤ x) : mRn M (N 103 23) x (zset N 103 24 1) := by
  have e23 : zset N 103 24 1 103 23 = N 103 23 := zset_n _ (by omega)
  refine ⟨h.1.set (.inr rfl), h.2.1, ⟨by omega, by have := h.2.2.1; omega⟩, .inl ⟨by rw [zset_s], fun f D hf => ?_⟩⟩
  obtain ⟨f', D', a, _, c⟩ := h.go.2 f D hf
  rw [e23, c]
  have p := h.2.2.1
  obtain ⟨g, rfl⟩ : ∃ g, f' = g + 1 := ⟨f' - 1, by omega⟩
  rw [gEx_a b]
theorem mRn_run {M N Q : zM} {x w k : Int} (hM : mLi M) (h : mSt M N x 1) (b : ¬ (gCl (gBy (mT M) (M 103 22) (N 103 23)) < 0 ∨ mL M ≤ x)) (l : mLp M N x w k Q) (e : gRu (mT M) (M 103 22) (N 103 23) ≤ k ∨ Q 103 24 ≠ 0) : mRn M (N 103 23) w Q := by
  have rc := @gCl_i (mT M) (M 103 22) (N 103 23) (by omega)
  have rb := @gRu_b (mT M) (M 103 22) (N 103 23) rc.1
  rcases l with ⟨fr, ⟨_, a2, a3, a4⟩ | ⟨a1, a2, a3, a4, a5, a6⟩⟩
  · exact ⟨fr, by rw [a2]; exact h.2.1, a3, .inl a4⟩
  · have ek : k = gRu (mT M) (M 103 22) (N 103 23) := by omega
    subst ek
    refine ⟨fr, by have := h.2.1; omega, ⟨by omega, by rw [a5]; exact rb.2.2 a4.1⟩, .inr ⟨a1, by omega, by have := h.2.1; omega, fun f D hf => ?_⟩⟩
    obtain ⟨f', D', c1, c2, c3⟩ := h.go.2 f D hf
    have p := h.2.2.1
    obtain ⟨g, rfl⟩ : ∃ g, f' = g + 1 := ⟨f' - 1, by omega⟩
    refine ⟨g, gDr D' (16 * M 103 27 + x) (gRu (mT M) (M 103 22) (N 103 23)) (gCl (gBy (mT M) (M 103 22) (N 103 23))), by omega, fun i hi => ?_, ?_⟩
    · rw [a6 i]
      unfold gDr
      have xb := h.2.1
      have lb := hM.L
      by_cases q : 16 * M 103 27 + x ≤ i ∧ i < 16 * M 103 27 + x + gRu (mT M) (M 103 22) (N 103 23)
      · rw [if_pos q, if_pos q]; omega
      · rw [if_neg q, if_neg q]
        exact c2 i (by unfold gDo at hi ⊢; omega)
    · rw [a2, a5, c3]
      exact gEx_st b (by omega)
theorem gRu_1 {T : Int → Int} {n p : Int} (h : gBy T n (p + 1) ≠ 42) : gRu T n p = 1 ∧ gBh T n p = p + 1 := by
  unfold gRu gBh; rw [if_neg h, if_neg h]; exact ⟨rfl, rfl⟩
theorem gRu_s {T : Int → Int} {n p : Int} (h : gBy T n (p + 1) = 42) : gRu T n p = gNm T n (p + 2) ∧ gBh T n p = p + 2 + gDn T n (p + 2) := by
  unfold gRu gBh; rw [if_pos h, if_pos h]; exact ⟨rfl, rfl⟩
theorem gRu_0 {T : Int → Int} {n p : Int} : 0 ≤ gRu T n p := by
  have d := @gDn_b T n (p + 2)
  unfold gRu
  split <;> omega
theorem gDr_0 {D : Int → Int} {a c i : Int} : gDr D a 0 c i = D i := by
  unfold gDr; rw [if_neg (by omega)]
theorem mLp_1 {M N : zM} {x : Int} (h : mSt M N x 1) (b : ¬ (gCl (gBy (mT M) (M 103 22) (N 103 23)) < 0 ∨ mL M ≤ x)) (s : gBy (mT M) (M 103 22) (N 103 23 + 1) ≠ 42) {Q : zM} (e : Q = zset (zset N 103 24 0) 103 23 (N 103 23 + 1)) : mLp M N x x 0 Q := by
  have r := gRu_1 s
  subst e
  refine ⟨(h.1.set (.inr rfl)).set (.inl rfl), .inr ⟨?_, by omega, by omega, by omega, ?_, fun i => ?_⟩⟩
  · rw [zset_n _ (by omega), zset_s]
  · rw [zset_s, r.2]
  · rw [zset_n _ (by omega), zset_n _ (by omega), gDr_0]
theorem mLp_s {M N : zM} {x r : Int} (h : mSt M N x 1) (b : ¬ (gCl (gBy (mT M) (M 103 22) (N 103 23)) < 0 ∨ mL M ≤ x)) (s : gBy (mT M) (M 103 22) (N 103 23 + 1) = 42) {Q Q' : zM} (fq : mFr M Q) (q23 : Q 103 23 = N 103 23 + 2) (q24 : Q 103 24 = 0) (qd : Q 113 = N 113) (hf : ∀ c i, ¬ (c = 103 ∧ (i = 23 ∨ i = 24)) → Q' c i = Q c i) (ho : (1 ≤ gNm (mT M) (M 103 22) (N 103 23 + 2) ∧ gNm (mT M) (M 103 22) (N 103 23 + 2) ≤ 16 ∧ gNm (mT M) (M 103 22) (N 103 23 + 2) ≤ mL M - x ∧ r = gNm (mT M) (M 103 22) (N 103 23 + 2) ∧ Q' 103 24 = Q 103 24 ∧ Q' 103 23 = N 103 23 + 2 + gDn (mT M) (M 103 22) (N 103 23 + 2)) ∨ (¬ (1 ≤ gNm (mT M) (M 103 22) (N 103 23 + 2) ∧ gNm (mT M) (M 103 22) (N 103 23 + 2) ≤ 16 ∧ gNm (mT M) (M 103 22) (N 103 23 + 2) ≤ mL M - x) ∧ Q' 103 24 = 1 ∧ Q' 103 23 = N 103 23 + 2)) : mLp M N x x 0 Q' := by
  have r := gRu_s s
  have fr : mFr M Q' := fun c i a b => (hf c i b).trans (fq c i a b)
  have e113 : ∀ i, Q' 113 i = N 113 i := fun i => (hf 113 i (by omega)).trans (by rw [qd])
  refine ⟨fr, ?_⟩
  rcases ho with ⟨a1, a2, a3, a4, a5, a6⟩ | ⟨a1, a2, a3⟩
  · exact .inr ⟨by omega, by omega, by omega, by omega, by omega, fun i => by rw [e113, gDr_0]⟩
  · have si := gBy_i (T := mT M) (n := M 103 22) (p := N 103 23 + 1) (by omega)
    refine .inl ⟨rfl, rfl, by omega, a2, fun f D hf => ?_⟩
    obtain ⟨f', D', c1, _, c3⟩ := h.go.2 f D hf
    obtain ⟨g, rfl⟩ : ∃ g, f' = g + 1 := ⟨f' - 1, by omega⟩
    rw [c3, gEx_b b (by omega)]
    exact a3.symm
theorem mLp.n {M N Q Q' : zM} {x w k c : Int} (l : mLp M N x w k Q) (q : Q 103 24 = 0) (kr : k < gRu (mT M) (M 103 22) (N 103 23)) (hc : c = gCl (gBy (mT M) (M 103 22) (N 103 23))) (e : Q' = zset Q 113 (16 * Q 103 27 + w) c) : mLp M N x (w + 1) (k + 1) Q' := by
  have y27 := l.1.rd.2.2.2.1
  rcases l with ⟨fr, ⟨_, _, _, a4⟩ | ⟨a1, a2, a3, a4, a5, a6⟩⟩
  · have := a4.1; omega
  · subst e
    refine ⟨fun d i d1 d2 => by rw [zset_n _ (by omega)]; exact fr d i d1 d2, .inr ⟨by rw [zset_n _ (by omega)]; exact a1, by omega, by omega, a4, by rw [zset_n _ (by omega)]; exact a5, fun i => ?_⟩⟩
    by_cases j : i = 16 * Q 103 27 + w
    · rw [j, zset_s]; unfold gDr; rw [if_pos (by omega)]; exact hc
    · rw [zset_n _ (by omega), a6 i]
      unfold gDr
      by_cases z : 16 * M 103 27 + x ≤ i ∧ i < 16 * M 103 27 + x + k
      · rw [if_pos z, if_pos (by omega)]
      · rw [if_neg z, if_neg (by omega)]
theorem mSt_a {M N : zM} {p x : Int} (p0 : 0 ≤ p) (h : mRn M p x N) (b : N 103 24 ≠ 0) : mSt M N x 0 := ⟨h.1, h.2.1, by have := h.2.2.1; omega, .inr (.inl ⟨rfl, by
  rcases h.2.2.2 with a | a
  · exact a
  · exact absurd a.1 b⟩)⟩
theorem mSt_b {M N : zM} {p x : Int} (p0 : 0 ≤ p) (h : mRn M p x N) (b : N 103 24 = 0) (e : M 103 22 ≤ N 103 23 ∨ gBy (mT M) (M 103 22) (N 103 23) = 47) : mSt M N x 0 := ⟨h.1, h.2.1, by have := h.2.2.1; omega, .inr (.inr ⟨rfl, by
  rcases h.2.2.2 with a | a
  · have := a.1; omega
  · exact ⟨b, a.2.2.1, e, fun f D hf => by
      obtain ⟨f', D', c1, c2, c3⟩ := a.2.2.2 f D hf
      exact ⟨f', D', by omega, c2, c3.1 e⟩⟩⟩)⟩
theorem mSt_c {M N : zM} {p x : Int} (p0 : 0 ≤ p) (h : mRn M p x N) (b : N 103 24 = 0) (e : ¬ (M 103 22 ≤ N 103 23 ∨ gBy (mT M) (M 103 22) (N 103 23) = 47)) : mSt M N x 1 ∧ p < N 103 23 := by
  rcases h.2.2.2 with a | a
  · have := a.1; omega
  · exact ⟨⟨h.1, h.2.1, by have := h.2.2.1; omega, .inl ⟨rfl, b, fun f D hf => by
      obtain ⟨f', D', c1, c2, c3⟩ := a.2.2.2 f D hf
      exact ⟨f', D', c1, c2, c3.2 e⟩⟩⟩, a.2.1⟩
/-- what is known behind a line -/
def mLo (M N : zM) : Prop := (N 103 24 = 1 ∧ N 103 27 = M 103 27 ∧ 0 ≤ N 103 23 ∧ ∀ f D, mH M f D → (mE M f D).1 = N 103 23) ∨ (N 103 24 = 0 ∧ N 103 27 = M 103 27 + 1 ∧ (1 ≤ N 103 26 ∧ N 103 26 ≤ 16) ∧ (M 103 22 ≤ N 103 23 ∨ gBy (mT M) (M 103 22) (N 103 23) = 47) ∧ ∀ f D, mH M f D → ∃ (f' : Nat) (D' : Int → Int), M 103 22 - N 103 23 ≤ (f' : Int) ∧ (∀ i, gDo (N 103 26) 0 (M 103 27 + 1) i → N 113 i = D' i ∧ 0 ≤ D' i ∧ D' i ≤ 15) ∧ gLn (mT M) (M 103 22) f' (N 103 26) (N 103 23) (M 103 27) D' (mE M f D))
theorem mLo_a {M N Q : zM} {x : Int} (h : mSt M N x 0) (b : N 103 24 ≠ 0 ∨ (0 < M 103 27 ∧ x < mL M)) (e : Q = zset N 103 24 1) : mLo M Q := by
  subst e
  refine .inl ⟨by rw [zset_s], by rw [zset_n _ (by omega)]; exact h.1.rd.2.2.2.1, by rw [zset_n _ (by omega)]; exact h.2.2.1.1, fun f D hf => ?_⟩
  rw [zset_n _ (by omega)]
  rcases h.2.2.2 with ⟨a, _⟩ | ⟨_, a⟩ | ⟨_, a⟩
  · omega
  · exact a.2 f D hf
  · have := a.1
    obtain ⟨f', D', c1, c2, c3⟩ := a.2.2.2 f D hf
    exact c3.1 (by omega)
theorem mLo_b {M N Q : zM} {x : Int} (hM : mLi M) (h : mSt M N x 0) (b : N 103 24 = 0) (k : ¬ (0 < M 103 27 ∧ x < mL M)) (e : Q = zset (zset (zset N 103 24 0) 103 26 x) 103 27 (N 103 27 + 1)) : mLo M Q := by
  have y27 := h.1.rd.2.2.2.1
  have lb := hM.L
  have xb := h.2.1
  have q23 : Q 103 23 = N 103 23 := by rw [e, zset_n _ (by omega), zset_n _ (by omega), zset_n _ (by omega)]
  have q24 : Q 103 24 = 0 := by rw [e, zset_n _ (by omega), zset_n _ (by omega), zset_s]
  have q26 : Q 103 26 = x := by rw [e, zset_n _ (by omega), zset_s]
  have q27 : Q 103 27 = M 103 27 + 1 := by rw [e, zset_s, y27]
  have qd : ∀ i, Q 113 i = N 113 i := fun i => by rw [e, zset_n _ (by omega), zset_n _ (by omega), zset_n _ (by omega)]
  rcases h.2.2.2 with ⟨a, _⟩ | ⟨_, a⟩ | ⟨_, a⟩
  · omega
  · have := a.1; omega
  · refine .inr ⟨q24, q27, by rw [q26]; have := a.2.1; omega, by rw [q23]; exact a.2.2.1, fun f D hf => ?_⟩
    obtain ⟨f', D', c1, c2, c3⟩ := a.2.2.2 f D hf
    refine ⟨f', D', by rw [q23]; exact c1, fun i hi => ?_, by rw [q23, q26]; exact c3.2 k⟩
    rw [q26] at hi
    rw [qd i]
    exact c2 i (by unfold gDo at hi ⊢; omega)
theorem mLp.g {M N Q : zM} {x w k : Int} (l : mLp M N x w k Q) (q : Q 103 24 = 0) : w = x + k ∧ 1 ≤ gRu (mT M) (M 103 22) (N 103 23) ∧ gRu (mT M) (M 103 22) (N 103 23) ≤ 16 ∧ x + gRu (mT M) (M 103 22) (N 103 23) ≤ mL M := by
  rcases l with ⟨fr, ⟨_, _, _, a4⟩ | ⟨a1, a2, a3, a4, a5, a6⟩⟩
  · have := a4.1; omega
  · exact ⟨a2, a4⟩
