abbrev gS3 : Type := Int × Int × Int × Int × List Int × List Int
def gCb (a y x : Int) : Int := if a = 38 then (if y ≠ 0 ∧ x ≠ 0 then 1 else 0) else (if y ≠ 0 ∨ x ≠ 0 then 1 else 0)
def gJ (a : Int) : List Int → List Int → List Int × List Int
  | x :: y :: V, s :: S => if s = a then gJ a (gCb a y x :: V) S else (x :: y :: V, s :: S)
  | V, S => (V, S)
def gTe : List Int → List Int → List Int × List Int
  | x :: V, s :: S => if s = 33 then gTe ((1 - x) :: V) S else (x :: V, s :: S)
  | V, S => (V, S)
theorem gJ_nil {a : Int} {V : List Int} : gJ a V [] = (V, []) := by
  cases V with
  | nil => rfl
  | cons x V => cases V <;> rfl
theorem gJ_y {a x y : Int} {V S : List Int} : gJ a (x :: y :: V) (a :: S) = gJ a (gCb a y x :: V) S := by
  rw [gJ, if_pos rfl]
theorem gJ_n {a s : Int} {V S : List Int} (h : s ≠ a) : gJ a V (s :: S) = (V, s :: S) := by
  cases V with
  | nil => rfl
  | cons x V =>
    cases V with
    | nil => rfl
    | cons y V => rw [gJ, if_neg h]
theorem gJ_hd {a : Int} {V S : List Int} (ha : a ≠ 0) (h : S.headD 0 ≠ a) : gJ a V S = (V, S) := by
  cases S with
  | nil => exact gJ_nil
  | cons s S => exact gJ_n h
theorem gTe_nil {V : List Int} : gTe V [] = (V, []) := by
  cases V <;> rfl
theorem gTe_y {x : Int} {V S : List Int} : gTe (x :: V) (33 :: S) = gTe ((1 - x) :: V) S := by
  rw [gTe, if_pos rfl]
theorem gTe_n {s : Int} {V S : List Int} (h : s ≠ 33) : gTe V (s :: S) = (V, s :: S) := by
  cases V with
  | nil => rfl
  | cons x V => rw [gTe, if_neg h]
theorem gTe_hd {V S : List Int} (h : S.headD 0 ≠ 33) : gTe V S = (V, S) := by
  cases S with
  | nil => exact gTe_nil
  | cons s S => exact gTe_n h
def gJJ (V S : List Int) : List Int × List Int := gJ 124 (gJ 38 V S).1 (gJ 38 V S).2
def gStep (T : Int → Int) (n : Int) (φ : Int → Int) (s : gS3) : Option gS3 :=
  if s.1 ≠ 0 then none else
  if s.2.1 ≠ 0 then
    (if gBy T n s.2.2.2.1 = 33 then some (0, 1, s.2.2.1, s.2.2.2.1 + 1, s.2.2.2.2.1, 33 :: s.2.2.2.2.2)
     else if gBy T n s.2.2.2.1 = 40 then (if s.2.2.1 = 8 then some (1, 0, 0, s.2.2.2.1, [], []) else some (0, 1, s.2.2.1 + 1, s.2.2.2.1 + 1, s.2.2.2.2.1, 40 :: s.2.2.2.2.2))
     else if (gTs T n φ s.2.2.2.1).1 = 0 then some (0, 0, s.2.2.1, (gTs T n φ s.2.2.2.1).2.1, (gTe ((gTs T n φ s.2.2.2.1).2.2 :: s.2.2.2.2.1) s.2.2.2.2.2).1, (gTe ((gTs T n φ s.2.2.2.1).2.2 :: s.2.2.2.2.1) s.2.2.2.2.2).2)
     else some (1, 0, 0, (gTs T n φ s.2.2.2.1).2.1, [], []))
  else if n ≤ s.2.2.2.1 then (if (gJJ s.2.2.2.2.1 s.2.2.2.2.2).2 = [] then none else some (1, 0, 0, s.2.2.2.1, [], []))
  else if gBy T n s.2.2.2.1 = 38 then some (0, 1, s.2.2.1, s.2.2.2.1 + 1, (gJ 38 s.2.2.2.2.1 s.2.2.2.2.2).1, 38 :: (gJ 38 s.2.2.2.2.1 s.2.2.2.2.2).2)
  else if gBy T n s.2.2.2.1 = 124 then some (0, 1, s.2.2.1, s.2.2.2.1 + 1, (gJJ s.2.2.2.2.1 s.2.2.2.2.2).1, 124 :: (gJJ s.2.2.2.2.1 s.2.2.2.2.2).2)
  else if gBy T n s.2.2.2.1 = 41 ∧ (gJJ s.2.2.2.2.1 s.2.2.2.2.2).2.headD 0 = 40 then some (0, 0, s.2.2.1 - 1, s.2.2.2.1 + 1, (gTe (gJJ s.2.2.2.2.1 s.2.2.2.2.2).1 (gJJ s.2.2.2.2.1 s.2.2.2.2.2).2.tail).1, (gTe (gJJ s.2.2.2.2.1 s.2.2.2.2.2).1 (gJJ s.2.2.2.2.1 s.2.2.2.2.2).2.tail).2)
  else some (1, 0, 0, s.2.2.2.1, [], [])
section
variable {T : Int → Int} {n : Int} {φ : Int → Int} {d p w : Int} {V S : List Int}
theorem gStep_bad : gStep T n φ (1, 0, 0, p, [], []) = none := rfl
theorem gStep_not (h : gBy T n p = 33) : gStep T n φ (0, 1, d, p, V, S) = some (0, 1, d, p + 1, V, 33 :: S) := by
  unfold gStep; refine (if_neg (fun h => h rfl)).trans ((if_pos (show (1 : Int) ≠ 0 by decide)).trans ?_); exact if_pos h
theorem gStep_open (h : gBy T n p = 40) (k : d ≠ 8) : gStep T n φ (0, 1, d, p, V, S) = some (0, 1, d + 1, p + 1, V, 40 :: S) := by
  unfold gStep; refine (if_neg (fun h => h rfl)).trans ((if_pos (show (1 : Int) ≠ 0 by decide)).trans ?_); exact ((if_neg (by show ¬ gBy T n p = 33; omega)).trans (if_pos h)).trans (if_neg k)
theorem gStep_deep (h : gBy T n p = 40) (k : d = 8) : gStep T n φ (0, 1, d, p, V, S) = some (1, 0, 0, p, [], []) := by
  unfold gStep; refine (if_neg (fun h => h rfl)).trans ((if_pos (show (1 : Int) ≠ 0 by decide)).trans ?_); exact ((if_neg (by show ¬ gBy T n p = 33; omega)).trans (if_pos h)).trans (if_pos k)
theorem gStep_test (h : gBy T n p ≠ 33) (h2 : gBy T n p ≠ 40) (k : (gTs T n φ p).1 = 0) : gStep T n φ (0, 1, d, p, V, S) = some (0, 0, d, (gTs T n φ p).2.1, (gTe ((gTs T n φ p).2.2 :: V) S).1, (gTe ((gTs T n φ p).2.2 :: V) S).2) := by
  unfold gStep; refine (if_neg (fun h => h rfl)).trans ((if_pos (show (1 : Int) ≠ 0 by decide)).trans ?_); exact ((if_neg h).trans (if_neg h2)).trans (if_pos k)
theorem gStep_testb (h : gBy T n p ≠ 33) (h2 : gBy T n p ≠ 40) (k : (gTs T n φ p).1 ≠ 0) : gStep T n φ (0, 1, d, p, V, S) = some (1, 0, 0, (gTs T n φ p).2.1, [], []) := by
  unfold gStep; refine (if_neg (fun h => h rfl)).trans ((if_pos (show (1 : Int) ≠ 0 by decide)).trans ?_); exact ((if_neg h).trans (if_neg h2)).trans (if_neg k)
theorem gStep_endb (h : n ≤ p) (k : (gJJ V S).2 ≠ []) : gStep T n φ (0, 0, d, p, V, S) = some (1, 0, 0, p, [], []) := by
  unfold gStep; refine (if_neg (fun h => h rfl)).trans ((if_neg (fun h => h rfl)).trans ?_); exact (if_pos h).trans (if_neg k)
theorem gStep_end (h : n ≤ p) (k : (gJJ V S).2 = []) : gStep T n φ (0, 0, d, p, V, S) = none := by
  unfold gStep; refine (if_neg (fun h => h rfl)).trans ((if_neg (fun h => h rfl)).trans ?_); exact (if_pos h).trans (if_pos k)
theorem gStep_and (h : ¬ n ≤ p) (k : gBy T n p = 38) : gStep T n φ (0, 0, d, p, V, S) = some (0, 1, d, p + 1, (gJ 38 V S).1, 38 :: (gJ 38 V S).2) := by
  unfold gStep; refine (if_neg (fun h => h rfl)).trans ((if_neg (fun h => h rfl)).trans ?_); exact (if_neg h).trans (if_pos k)
theorem gStep_or (h : ¬ n ≤ p) (k : gBy T n p = 124) : gStep T n φ (0, 0, d, p, V, S) = some (0, 1, d, p + 1, (gJJ V S).1, 124 :: (gJJ V S).2) := by
  unfold gStep; refine (if_neg (fun h => h rfl)).trans ((if_neg (fun h => h rfl)).trans ?_); exact ((if_neg h).trans (if_neg (by show ¬ gBy T n p = 38; omega))).trans (if_pos k)
theorem gStep_close (h : ¬ n ≤ p) (k : gBy T n p = 41) (q : (gJJ V S).2.headD 0 = 40) : gStep T n φ (0, 0, d, p, V, S) = some (0, 0, d - 1, p + 1, (gTe (gJJ V S).1 (gJJ V S).2.tail).1, (gTe (gJJ V S).1 (gJJ V S).2.tail).2) := by
  unfold gStep; refine (if_neg (fun h => h rfl)).trans ((if_neg (fun h => h rfl)).trans ?_); exact (((if_neg h).trans (if_neg (by show ¬ gBy T n p = 38; omega))).trans (if_neg (by show ¬ gBy T n p = 124; omega))).trans (if_pos ⟨k, q⟩)
theorem gStep_else (h : ¬ n ≤ p) (k : gBy T n p ≠ 38) (k2 : gBy T n p ≠ 124) (q : ¬ (gBy T n p = 41 ∧ (gJJ V S).2.headD 0 = 40)) : gStep T n φ (0, 0, d, p, V, S) = some (1, 0, 0, p, [], []) := by
  unfold gStep; refine (if_neg (fun h => h rfl)).trans ((if_neg (fun h => h rfl)).trans ?_); exact (((if_neg h).trans (if_neg k)).trans (if_neg k2)).trans (if_neg q)
end
def gIt (T : Int → Int) (n : Int) (φ : Int → Int) : Nat → gS3 → Option gS3
  | 0, s => some s
  | k + 1, s => match gStep T n φ s with
    | none => none
    | some t => gIt T n φ k t
def gTo (T : Int → Int) (n : Int) (φ : Int → Int) (s t : gS3) : Prop := ∃ k, gIt T n φ k s = some t
theorem gIt_s {T : Int → Int} {n : Int} {φ : Int → Int} {k : Nat} {s t : gS3} (h : gStep T n φ s = some t) : gIt T n φ (k + 1) s = gIt T n φ k t := by
  rw [gIt, h]
theorem gTo.r {T : Int → Int} {n : Int} {φ : Int → Int} {s : gS3} : gTo T n φ s s := ⟨0, rfl⟩
theorem gTo.hd {T : Int → Int} {n : Int} {φ : Int → Int} {s t u : gS3} (h : gStep T n φ s = some t) (g : gTo T n φ t u) : gTo T n φ s u := by
  obtain ⟨k, g⟩ := g
  exact ⟨k + 1, by rw [gIt_s h]; exact g⟩
theorem gTo.tr {T : Int → Int} {n : Int} {φ : Int → Int} {s t u : gS3} (h : gTo T n φ s t) (g : gTo T n φ t u) : gTo T n φ s u := by
  obtain ⟨k, h⟩ := h
  induction k generalizing s with
  | zero => rw [gIt] at h; cases h; exact g
  | succ k ih =>
    cases e : gStep T n φ s with
    | none => rw [gIt, e] at h; exact absurd h (by simp)
    | some v => rw [gIt_s e] at h; exact gTo.hd e (ih h)
theorem gTo.one {T : Int → Int} {n : Int} {φ : Int → Int} {s t u : gS3} (h : gTo T n φ s t) (g : gStep T n φ t = some u) : gTo T n φ s u := h.tr (gTo.hd g gTo.r)
theorem gTo.uq {T : Int → Int} {n : Int} {φ : Int → Int} {s t u : gS3} (h : gTo T n φ s t) (ht : gStep T n φ t = none) (g : gTo T n φ s u) (hu : gStep T n φ u = none) : t = u := by
  obtain ⟨k, h⟩ := h
  induction k generalizing s with
  | zero =>
    rw [gIt] at h; cases h
    obtain ⟨j, g⟩ := g
    cases j with
    | zero => rw [gIt] at g; cases g; rfl
    | succ j => rw [gIt, ht] at g; exact absurd g (by simp)
  | succ k ih =>
    cases e : gStep T n φ s with
    | none => rw [gIt, e] at h; exact absurd h (by simp)
    | some v =>
      rw [gIt_s e] at h
      obtain ⟨j, g⟩ := g
      cases j with
      | zero => rw [gIt] at g; cases g; rw [e] at hu; exact absurd hu (by simp)
      | succ j => rw [gIt_s e] at g; exact ih ⟨j, g⟩ h
/-- a text read as a rule: its fault's place, or what it says -/
def gRb (T : Int → Int) (n : Int) (φ : Int → Int) (q : Int) : Prop :=
  (¬ (65 ≤ gBy T n 0 ∧ gBy T n 0 ≤ 90) ∧ q = 0) ∨ ((65 ≤ gBy T n 0 ∧ gBy T n 0 ≤ 90) ∧ gBy T n 1 ≠ 58 ∧ q = 1) ∨ ((65 ≤ gBy T n 0 ∧ gBy T n 0 ≤ 90) ∧ gBy T n 1 = 58 ∧ gTo T n φ (0, 1, 0, 2, [], []) (1, 0, 0, q, [], []))
def gRy (T : Int → Int) (n : Int) (φ : Int → Int) (v : Int) : Prop :=
  (65 ≤ gBy T n 0 ∧ gBy T n 0 ≤ 90) ∧ gBy T n 1 = 58 ∧ ∃ d p V S, gTo T n φ (0, 1, 0, 2, [], []) (0, 0, d, p, V, S) ∧ n ≤ p ∧ gJJ V S = ([v], [])
theorem gRb.uq {T : Int → Int} {n : Int} {φ : Int → Int} {q q' : Int} (h : gRb T n φ q) (g : gRb T n φ q') : q = q' := by
  rcases h with ⟨a, b⟩ | ⟨a, b, c⟩ | ⟨a, b, c⟩ <;> rcases g with ⟨a', b'⟩ | ⟨a', b', c'⟩ | ⟨a', b', c'⟩
  · omega
  · exact absurd a' a
  · exact absurd a' a
  · exact absurd a a'
  · omega
  · exact absurd b' b
  · exact absurd a a'
  · exact absurd b b'
  · have := c.uq gStep_bad c' gStep_bad
    exact congrArg (fun s : gS3 => s.2.2.2.1) this
theorem gRy.uq {T : Int → Int} {n : Int} {φ : Int → Int} {v v' : Int} (h : gRy T n φ v) (g : gRy T n φ v') : v = v' := by
  obtain ⟨_, _, d, p, V, S, a, b, c⟩ := h
  obtain ⟨_, _, d', p', V', S', a', b', c'⟩ := g
  have e := a.uq (gStep_end b (by rw [c])) a' (gStep_end b' (by rw [c']))
  have eV : V = V' := congrArg (fun s : gS3 => s.2.2.2.2.1) e
  have eS : S = S' := congrArg (fun s : gS3 => s.2.2.2.2.2) e
  rw [eV, eS, c'] at c
  have := congrArg (fun z : List Int × List Int => z.1.headD 0) c
  exact this.symm
theorem gRb.no {T : Int → Int} {n : Int} {φ : Int → Int} {q v : Int} (h : gRb T n φ q) (g : gRy T n φ v) : False := by
  obtain ⟨a', b', d, p, V, S, c, e, f⟩ := g
  rcases h with ⟨a, _⟩ | ⟨_, b, _⟩ | ⟨_, _, c'⟩
  · exact a a'
  · exact b b'
  · have := c.uq (gStep_end e (by rw [f])) c' gStep_bad
    have := congrArg (fun s : gS3 => s.1) this
    exact absurd (show (0 : Int) = 1 from this) (by decide)
