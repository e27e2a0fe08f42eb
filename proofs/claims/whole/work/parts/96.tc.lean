section
variable {T T' : Int → Int} {n : Int} {φ : Int → Int}
theorem gLt_e (h : gSx T T' n) (p : Int) : gLt (gBy T n p) = gLt (gBy T' n p) := by
  rcases gBy_e h p with e | e
  · rw [e]
  · have a := gLt_b (gBy T n p)
    have b := gLt_b (gBy T' n p)
    have x : ¬ 0 ≤ gLt (gBy T n p) := fun k => by have := a.2.2.2 k; omega
    have y : ¬ 0 ≤ gLt (gBy T' n p) := fun k => by have := b.2.2.2 k; omega
    omega
theorem gDv_e (h : gSx T T' n) (p : Int) (k : 48 ≤ gBy T n p ∧ gBy T n p ≤ 57) : gBy T n p = gBy T' n p := by
  rcases gBy_e h p with e | e
  · exact e
  · omega
theorem gNu_e (h : gSx T T' n) : ∀ (k : Nat) (p v : Int), gNu T n k p v = gNu T' n k p v
  | 0, _, _ => rfl
  | k + 1, p, v => by
    by_cases d : 48 ≤ gBy T n p ∧ gBy T n p ≤ 57
    · rw [gNu_y d, gNu_y ((gBd_e h p).1 d), gDv_e h p d]; exact gNu_e h k _ _
    · rw [gNu_n d, gNu_n (fun q => d ((gBd_e h p).2 q))]
theorem gAt_e (h : gSx T T' n) (p : Int) : gAt T n φ p = gAt T' n φ p := by
  unfold gAt
  rw [gLt_e h p, gNu_e h]
  by_cases a : 0 ≤ gLt (gBy T' n p)
  · rw [if_pos a, if_pos a]
  · rw [if_neg a, if_neg a]
    by_cases d : 48 ≤ gBy T n p ∧ gBy T n p ≤ 57
    · rw [if_pos d, if_pos ((gBd_e h p).1 d), gDv_e h p d]
    · rw [if_neg d, if_neg (fun q => d ((gBd_e h p).2 q))]
theorem gOp_e (h : gSx T T' n) (p c c' : Int) (hc : 0 ≤ c ∧ c < 128) (hc' : 0 ≤ c' ∧ c' < 128) : (gBy T n p = c ∨ gBy T n p = c') ↔ (gBy T' n p = c ∨ gBy T' n p = c') := by
  rw [gBq_e h p c hc, gBq_e h p c' hc']
theorem gSu_e (h : gSx T T' n) : ∀ (k : Nat) (p v : Int), gSu T n φ k p v = gSu T' n φ k p v
  | 0, _, _ => rfl
  | k + 1, p, v => by
    have o := gOp_e h p 43 45 (by decide) (by decide)
    by_cases a : gBy T n p = 43 ∨ gBy T n p = 45
    · have a' := o.1 a
      by_cases b : (gAt T n φ (p + 1)).1 = 0
      · have b' : (gAt T' n φ (p + 1)).1 = 0 := by rw [← gAt_e h]; exact b
        rw [gSu_y a b, gSu_y a' b', gAt_e h (p + 1)]
        rw [show (if gBy T n p = 43 then v + (gAt T' n φ (p + 1)).2.2 else v - (gAt T' n φ (p + 1)).2.2) = (if gBy T' n p = 43 then v + (gAt T' n φ (p + 1)).2.2 else v - (gAt T' n φ (p + 1)).2.2) by
          have q := gBq_e h p 43 (by decide)
          by_cases z : gBy T n p = 43
          · rw [if_pos z, if_pos (q.1 z)]
          · rw [if_neg z, if_neg (fun y => z (q.2 y))]]
        exact gSu_e h k _ _
      · have b' : (gAt T' n φ (p + 1)).1 ≠ 0 := by rw [← gAt_e h]; exact b
        rw [gSu_b1 a b, gSu_b1 a' b', gAt_e h]
    · rw [gSu_n a, gSu_n (fun q => a (o.2 q))]
theorem gSS_e (h : gSx T T' n) (p : Int) : gSS T n φ p = gSS T' n φ p := by
  unfold gSS
  rw [gAt_e h, gSu_e h]
theorem gTs_ee (h : gSx T T' n) (p : Int) : gTs T n φ p = gTs T' n φ p := by
  unfold gTs
  rw [gSS_e h p, gSS_e h]
  generalize (gSS T' n φ p) = A
  generalize (gSS T' n φ (A.2.1 + 1)) = B
  have q1 := gBq_e h A.2.1 60 (by decide)
  have q2 := gBq_e h A.2.1 62 (by decide)
  have q3 := gBq_e h A.2.1 61 (by decide)
  by_cases a : A.1 = 0
  · rw [if_pos a, if_pos a]
    simp only [q1, q2, q3]
  · rw [if_neg a, if_neg a]
theorem gStep_e (h : gSx T T' n) (s : gS3) : gStep T n φ s = gStep T' n φ s := by
  unfold gStep
  simp only [gTs_ee h, gBq_e h s.2.2.2.1 33 (by decide), gBq_e h s.2.2.2.1 40 (by decide), gBq_e h s.2.2.2.1 38 (by decide), gBq_e h s.2.2.2.1 124 (by decide), gBq_e h s.2.2.2.1 41 (by decide)]
theorem gIt_e (h : gSx T T' n) : ∀ (k : Nat) (s : gS3), gIt T n φ k s = gIt T' n φ k s
  | 0, _ => rfl
  | k + 1, s => by
    unfold gIt
    rw [gStep_e h]
    cases gStep T' n φ s with
    | none => rfl
    | some t => exact gIt_e h k t
theorem gTo_e (h : gSx T T' n) (s t : gS3) : gTo T n φ s t ↔ gTo T' n φ s t := by
  unfold gTo
  constructor
  · rintro ⟨k, e⟩; exact ⟨k, by rw [← gIt_e h]; exact e⟩
  · rintro ⟨k, e⟩; exact ⟨k, by rw [gIt_e h]; exact e⟩
theorem gHd_e (h : gSx T T' n) : (65 ≤ gBy T n 0 ∧ gBy T n 0 ≤ 90) ↔ (65 ≤ gBy T' n 0 ∧ gBy T' n 0 ≤ 90) := by
  rcases gBy_e h 0 with e | e
  · rw [e]
  · omega
theorem gRb_e (h : gSx T T' n) {q : Int} : gRb T n φ q ↔ gRb T' n φ q := by
  unfold gRb
  rw [gHd_e h, gTo_e h, show (gBy T n 1 ≠ 58) ↔ (gBy T' n 1 ≠ 58) by rw [Ne, gBq_e h 1 58 (by decide)], gBq_e h 1 58 (by decide)]
theorem gRy_e (h : gSx T T' n) {v : Int} : gRy T n φ v ↔ gRy T' n φ v := by
  unfold gRy
  rw [gHd_e h, gBq_e h 1 58 (by decide)]
  simp only [gTo_e h]
theorem gRv_e (h : gSx T T' n) : gRv T n ↔ gRv T' n := by
  unfold gRv
  simp only [gRy_e h]
end
section
variable {T : Int → Int} {n : Int} {φ ψ : Int → Int}
theorem gAt_c (p : Int) : (gAt T n φ p).1 = (gAt T n ψ p).1 ∧ (gAt T n φ p).2.1 = (gAt T n ψ p).2.1 := by
  unfold gAt
  by_cases a : 0 ≤ gLt (gBy T n p)
  · rw [if_pos a, if_pos a]; exact ⟨rfl, rfl⟩
  · rw [if_neg a, if_neg a]; exact ⟨rfl, rfl⟩
theorem gSu_c : ∀ (k : Nat) (p v u : Int), (gSu T n φ k p v).1 = (gSu T n ψ k p u).1 ∧ (gSu T n φ k p v).2.1 = (gSu T n ψ k p u).2.1
  | 0, _, _, _ => ⟨rfl, rfl⟩
  | k + 1, p, v, u => by
    have c := @gAt_c T n φ ψ (p + 1)
    by_cases a : gBy T n p = 43 ∨ gBy T n p = 45
    · by_cases b : (gAt T n φ (p + 1)).1 = 0
      · rw [gSu_y a b, gSu_y a (by rw [← c.1]; exact b), c.2]; exact gSu_c k _ _ _
      · rw [gSu_b1 a b, gSu_b1 a (by rw [← c.1]; exact b)]; exact ⟨rfl, c.2⟩
    · rw [gSu_n a, gSu_n a]; exact ⟨rfl, rfl⟩
theorem gSS_c (p : Int) : (gSS T n φ p).1 = (gSS T n ψ p).1 ∧ (gSS T n φ p).2.1 = (gSS T n ψ p).2.1 := by
  have c := @gAt_c T n φ ψ p
  unfold gSS
  by_cases a : (gAt T n φ p).1 = 0
  · rw [if_pos a, if_pos (by rw [← c.1]; exact a), c.2]; exact gSu_c _ _ _ _
  · rw [if_neg a, if_neg (by rw [← c.1]; exact a)]; exact ⟨rfl, c.2⟩
theorem gTs_cc (p : Int) : (gTs T n φ p).1 = (gTs T n ψ p).1 ∧ (gTs T n φ p).2.1 = (gTs T n ψ p).2.1 := by
  have c := @gSS_c T n φ ψ p
  have d := @gSS_c T n φ ψ ((gSS T n φ p).2.1 + 1)
  by_cases a : (gSS T n φ p).1 = 0
  · have a' : (gSS T n ψ p).1 = 0 := by rw [← c.1]; exact a
    by_cases o : gBy T n (gSS T n φ p).2.1 = 60 ∨ gBy T n (gSS T n φ p).2.1 = 62 ∨ gBy T n (gSS T n φ p).2.1 = 61
    · have o' : gBy T n (gSS T n ψ p).2.1 = 60 ∨ gBy T n (gSS T n ψ p).2.1 = 62 ∨ gBy T n (gSS T n ψ p).2.1 = 61 := by rw [← c.2]; exact o
      by_cases b : (gSS T n φ ((gSS T n φ p).2.1 + 1)).1 = 0
      · rw [gTs_e a o b, gTs_e a' o' (by rw [← c.2, ← d.1]; exact b)]
        exact ⟨rfl, by show (gSS T n φ ((gSS T n φ p).2.1 + 1)).2.1 = (gSS T n ψ ((gSS T n ψ p).2.1 + 1)).2.1; rw [← c.2]; exact d.2⟩
      · rw [gTs_d a o b, gTs_d a' o' (by rw [← c.2, ← d.1]; exact b)]
        exact ⟨rfl, by show (gSS T n φ ((gSS T n φ p).2.1 + 1)).2.1 = (gSS T n ψ ((gSS T n ψ p).2.1 + 1)).2.1; rw [← c.2]; exact d.2⟩
    · rw [gTs_c a o, gTs_c a' (by rw [← c.2]; exact o)]; exact ⟨rfl, c.2⟩
  · rw [gTs_a a, gTs_a (by rw [← c.1]; exact a)]; exact ⟨rfl, c.2⟩
end
theorem gJ_er {a : Int} : ∀ (S V V' : List Int), V.length = V'.length → (gJ a V S).2 = (gJ a V' S).2 ∧ (gJ a V S).1.length = (gJ a V' S).1.length
  | [], V, V', h => by rw [gJ_nil, gJ_nil]; exact ⟨rfl, h⟩
  | s :: S, V, V', h => by
    by_cases e : s = a
    · match V, V', h with
      | [], [], _ => exact ⟨rfl, rfl⟩
      | [x], [x'], _ => exact ⟨rfl, rfl⟩
      | x :: y :: V, x' :: y' :: V', h =>
        rw [e, gJ_y, gJ_y]
        exact gJ_er S _ _ (by simpa using h)
    · rw [gJ_n e, gJ_n e]; exact ⟨rfl, h⟩
theorem gTe_er : ∀ (S V V' : List Int), V.length = V'.length → (gTe V S).2 = (gTe V' S).2 ∧ (gTe V S).1.length = (gTe V' S).1.length
  | [], V, V', h => by rw [gTe_nil, gTe_nil]; exact ⟨rfl, h⟩
  | s :: S, V, V', h => by
    by_cases e : s = 33
    · match V, V', h with
      | [], [], _ => exact ⟨rfl, rfl⟩
      | x :: V, x' :: V', h =>
        rw [e, gTe_y, gTe_y]
        exact gTe_er S _ _ (by simpa using h)
    · rw [gTe_n e, gTe_n e]; exact ⟨rfl, h⟩
theorem gJJ_er {S V V' : List Int} (h : V.length = V'.length) : (gJJ V S).2 = (gJJ V' S).2 ∧ (gJJ V S).1.length = (gJJ V' S).1.length := by
  unfold gJJ
  have a := gJ_er (a := 38) S V V' h
  rw [a.1]
  exact gJ_er _ _ _ a.2
def gEr (s t : gS3) : Prop := s.1 = t.1 ∧ s.2.1 = t.2.1 ∧ s.2.2.1 = t.2.2.1 ∧ s.2.2.2.1 = t.2.2.2.1 ∧ s.2.2.2.2.1.length = t.2.2.2.2.1.length ∧ s.2.2.2.2.2 = t.2.2.2.2.2
theorem gStep_er {T : Int → Int} {n : Int} {φ ψ : Int → Int} {s s' t : gS3} (e : gEr s s') (h : gStep T n φ s = some t) : ∃ t', gStep T n ψ s' = some t' ∧ gEr t t' := by
  obtain ⟨b, w, d, p, V, S⟩ := s
  obtain ⟨b', w', d', p', V', S'⟩ := s'
  obtain ⟨e1, e2, e3, e4, e5, e6⟩ := e
  have e1 : b = b' := e1
  have e2 : w = w' := e2
  have e3 : d = d' := e3
  have e4 : p = p' := e4
  have e5 : V.length = V'.length := e5
  have e6 : S = S' := e6
  subst e1 e2 e3 e4 e6
  have c := @gTs_cc T n φ ψ p
  have j := gJJ_er (S := S) e5
  have j1 := gJ_er (a := 38) S V V' e5
  unfold gStep at h ⊢
  dsimp only at h ⊢
  by_cases b0 : b ≠ 0
  · rw [if_pos b0] at h; exact absurd h (by simp)
  rw [if_neg b0] at h ⊢
  by_cases w0 : w ≠ 0
  · rw [if_pos w0] at h ⊢
    by_cases c1 : gBy T n p = 33
    · rw [if_pos c1] at h ⊢; cases h; exact ⟨_, rfl, rfl, rfl, rfl, rfl, e5, rfl⟩
    rw [if_neg c1] at h ⊢
    by_cases c2 : gBy T n p = 40
    · rw [if_pos c2] at h ⊢
      by_cases d8 : d = 8
      · rw [if_pos d8] at h ⊢; cases h; exact ⟨_, rfl, rfl, rfl, rfl, rfl, rfl, rfl⟩
      · rw [if_neg d8] at h ⊢; cases h; exact ⟨_, rfl, rfl, rfl, rfl, rfl, e5, rfl⟩
    rw [if_neg c2] at h ⊢
    by_cases k : (gTs T n φ p).1 = 0
    · rw [if_pos k] at h; rw [if_pos (by rw [← c.1]; exact k)]; cases h
      have g := gTe_er S ((gTs T n φ p).2.2 :: V) ((gTs T n ψ p).2.2 :: V') (by simp [e5])
      exact ⟨_, rfl, rfl, rfl, rfl, c.2, g.2, g.1⟩
    · rw [if_neg k] at h; rw [if_neg (by rw [← c.1]; exact k)]; cases h
      exact ⟨_, rfl, rfl, rfl, rfl, c.2, rfl, rfl⟩
  rw [if_neg w0] at h ⊢
  by_cases le : n ≤ p
  · rw [if_pos le] at h ⊢
    by_cases z : (gJJ V S).2 = []
    · rw [if_pos z] at h; exact absurd h (by simp)
    · rw [if_neg z] at h; rw [if_neg (by rw [← j.1]; exact z)]; cases h; exact ⟨_, rfl, rfl, rfl, rfl, rfl, rfl, rfl⟩
  rw [if_neg le] at h ⊢
  by_cases c1 : gBy T n p = 38
  · rw [if_pos c1] at h ⊢; cases h; exact ⟨_, rfl, rfl, rfl, rfl, rfl, j1.2, by show 38 :: _ = 38 :: _; rw [j1.1]⟩
  rw [if_neg c1] at h ⊢
  by_cases c2 : gBy T n p = 124
  · rw [if_pos c2] at h ⊢; cases h; exact ⟨_, rfl, rfl, rfl, rfl, rfl, j.2, by show 124 :: _ = 124 :: _; rw [j.1]⟩
  rw [if_neg c2] at h ⊢
  by_cases c3 : gBy T n p = 41 ∧ (gJJ V S).2.headD 0 = 40
  · rw [if_pos c3] at h; rw [if_pos (by rw [← j.1]; exact c3)]; cases h
    have g := gTe_er (gJJ V S).2.tail (gJJ V S).1 (gJJ V' S).1 j.2
    exact ⟨_, rfl, rfl, rfl, rfl, rfl, by show _ = (gTe (gJJ V' S).1 (gJJ V' S).2.tail).1.length; rw [← j.1]; exact g.2, by show _ = (gTe (gJJ V' S).1 (gJJ V' S).2.tail).2; rw [← j.1]; exact g.1⟩
  · rw [if_neg c3] at h; rw [if_neg (by rw [← j.1]; exact c3)]; cases h
    exact ⟨_, rfl, rfl, rfl, rfl, rfl, rfl, rfl⟩
theorem gTo_er {T : Int → Int} {n : Int} {φ ψ : Int → Int} {s s' t : gS3} (e : gEr s s') (h : gTo T n φ s t) : ∃ t', gTo T n ψ s' t' ∧ gEr t t' := by
  obtain ⟨k, h⟩ := h
  induction k generalizing s s' with
  | zero => rw [gIt] at h; cases h; exact ⟨s', gTo.r, e⟩
  | succ k ih =>
    cases x : gStep T n φ s with
    | none => rw [gIt, x] at h; exact absurd h (by simp)
    | some v =>
      rw [gIt_s x] at h
      obtain ⟨v', a, b⟩ := gStep_er (ψ := ψ) e x
      obtain ⟨t', c, d⟩ := ih b h
      exact ⟨t', gTo.hd a c, d⟩
theorem gEr_r {s : gS3} : gEr s s := ⟨rfl, rfl, rfl, rfl, rfl, rfl⟩
theorem gRb_c {T : Int → Int} {n : Int} {φ ψ : Int → Int} {q : Int} (h : gRb T n φ q) : gRb T n ψ q := by
  rcases h with a | a | ⟨a, b, c⟩
  · exact .inl a
  · exact .inr (.inl a)
  · obtain ⟨⟨x, y, z, u, V, S⟩, g, e1, e2, e3, e4, e5, e6⟩ := gTo_er (ψ := ψ) gEr_r c
    have e1 : 1 = x := e1
    have e2 : 0 = y := e2
    have e3 : 0 = z := e3
    have e4 : q = u := e4
    have e5 : 0 = V.length := e5
    have e6 : [] = S := e6
    have eV : V = [] := List.eq_nil_of_length_eq_zero e5.symm
    subst e1 e2 e3 e4 e6 eV
    exact .inr (.inr ⟨a, b, g⟩)
theorem gJ_01 {a : Int} : ∀ (S V : List Int), g01 V → g01 (gJ a V S).1
  | [], V, h => by rw [gJ_nil]; exact h
  | s :: S, V, h => by
    by_cases e : s = a
    · match V, h with
      | [], _ => exact trivial
      | [x], h => exact h
      | x :: y :: V, h =>
        rw [e, gJ_y]
        refine gJ_01 S _ ⟨?_, h.2.2⟩
        unfold gCb; split <;> split <;> omega
    · rw [gJ_n e]; exact h
theorem gTe_01 : ∀ (S V : List Int), g01 V → g01 (gTe V S).1
  | [], V, h => by rw [gTe_nil]; exact h
  | s :: S, V, h => by
    by_cases e : s = 33
    · match V, h with
      | [], _ => exact trivial
      | x :: V, h =>
        rw [e, gTe_y]
        have := h.1
        exact gTe_01 S _ ⟨by omega, h.2⟩
    · rw [gTe_n e]; exact h
theorem gJJ_01 {V S : List Int} (h : g01 V) : g01 (gJJ V S).1 := gJ_01 _ _ (gJ_01 _ _ h)
theorem gStep_01 {T : Int → Int} {n : Int} {φ : Int → Int} {s t : gS3} (h : gStep T n φ s = some t) (h0 : 0 ≤ s.2.2.2.1) (h1 : s.2.2.2.1 ≤ n) (v : g01 s.2.2.2.2.1) : g01 t.2.2.2.2.1 := by
  obtain ⟨b, w, d, p, V, S⟩ := s
  have h0 : 0 ≤ p := h0
  have h1 : p ≤ n := h1
  have v : g01 V := v
  have tb := gTs_b (T := T) (n := n) (φ := φ) h0 h1
  unfold gStep at h
  dsimp only at h
  by_cases b0 : b ≠ 0
  · rw [if_pos b0] at h; exact absurd h (by simp)
  rw [if_neg b0] at h
  by_cases w0 : w ≠ 0
  · rw [if_pos w0] at h
    by_cases c1 : gBy T n p = 33
    · rw [if_pos c1] at h; cases h; exact v
    rw [if_neg c1] at h
    by_cases c2 : gBy T n p = 40
    · rw [if_pos c2] at h
      by_cases d8 : d = 8
      · rw [if_pos d8] at h; cases h; exact trivial
      · rw [if_neg d8] at h; cases h; exact v
    rw [if_neg c2] at h
    by_cases k : (gTs T n φ p).1 = 0
    · rw [if_pos k] at h; cases h
      exact gTe_01 _ _ ⟨by omega, v⟩
    · rw [if_neg k] at h; cases h; exact trivial
  rw [if_neg w0] at h
  by_cases le : n ≤ p
  · rw [if_pos le] at h
    by_cases z : (gJJ V S).2 = []
    · rw [if_pos z] at h; exact absurd h (by simp)
    · rw [if_neg z] at h; cases h; exact trivial
  rw [if_neg le] at h
  by_cases c1 : gBy T n p = 38
  · rw [if_pos c1] at h; cases h; exact gJ_01 _ _ v
  rw [if_neg c1] at h
  by_cases c2 : gBy T n p = 124
  · rw [if_pos c2] at h; cases h; exact gJJ_01 v
  rw [if_neg c2] at h
  by_cases c3 : gBy T n p = 41 ∧ (gJJ V S).2.headD 0 = 40
  · rw [if_pos c3] at h; cases h; exact gTe_01 _ _ (gJJ_01 v)
  · rw [if_neg c3] at h; cases h; exact trivial
theorem gTo_01 {T : Int → Int} {n : Int} {φ : Int → Int} {s t : gS3} (h : gTo T n φ s t) (h0 : 0 ≤ s.2.2.2.1) (h1 : s.2.2.2.1 ≤ n) (v : g01 s.2.2.2.2.1) : g01 t.2.2.2.2.1 := by
  obtain ⟨k, h⟩ := h
  induction k generalizing s with
  | zero => rw [gIt] at h; cases h; exact v
  | succ k ih =>
    cases e : gStep T n φ s with
    | none => rw [gIt, e] at h; exact absurd h (by simp)
    | some u =>
      rw [gIt_s e] at h
      have := gStep_p e h0 h1
      exact ih (by omega) this.2 (gStep_01 e h0 h1 v) h
theorem gRy_c {T : Int → Int} {n : Int} {φ : Int → Int} {v : Int} (h : gRy T n φ v) : gRv T n := by
  intro ψ
  obtain ⟨a, b, d, p, V, S, c, e, f⟩ := h
  have n2 := (gBy_i (T := T) (n := n) (p := 1) (by omega)).2
  obtain ⟨⟨x, y, z, u, V', S'⟩, g, e1, e2, e3, e4, e5, e6⟩ := gTo_er (ψ := ψ) gEr_r c
  have e1 : 0 = x := e1
  have e2 : 0 = y := e2
  have e4 : p = u := e4
  have e5 : V.length = V'.length := e5
  have e6 : S = S' := e6
  subst e1 e2 e4 e6
  have j := gJJ_er (S := S) e5
  rw [f] at j
  have q := gJJ_01 (S := S) (gTo_01 g (by show (0 : Int) ≤ 2; decide) (by show (2 : Int) ≤ n; omega) trivial)
  have q : g01 (gJJ V' S).1 := q
  cases hh : (gJJ V' S).1 with
  | nil => rw [hh] at j; exact absurd j.2 (by simp)
  | cons x W =>
    rw [hh] at j q
    have w0 : W = [] := by
      have := j.2
      simp at this
      exact this
    subst w0
    refine ⟨x, q.1, a, b, z, p, V', S, g, e, ?_⟩
    exact Prod.ext hh j.1.symm
