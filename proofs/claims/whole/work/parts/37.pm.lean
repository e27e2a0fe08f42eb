theorem zmb {a b A B : Int} (ha : -A ≤ a ∧ a ≤ A) (hb : -B ≤ b ∧ b ≤ B) : -(A * B) ≤ a * b ∧ a * b ≤ A * B := by
  have h1 := Int.mul_nonneg (show 0 ≤ A - a by omega) (show 0 ≤ B + b by omega)
  have h2 := Int.mul_nonneg (show 0 ≤ A + a by omega) (show 0 ≤ B - b by omega)
  have h3 := Int.mul_nonneg (show 0 ≤ A - a by omega) (show 0 ≤ B - b by omega)
  have h4 := Int.mul_nonneg (show 0 ≤ A + a by omega) (show 0 ≤ B + b by omega)
  rw [Int.sub_mul, Int.mul_add, Int.mul_add] at h1
  rw [Int.add_mul, Int.mul_sub, Int.mul_sub] at h2
  rw [Int.sub_mul, Int.mul_sub, Int.mul_sub] at h3
  rw [Int.add_mul, Int.mul_add, Int.mul_add] at h4
  omega
/-- a point no farther from a line than m -/
def gNr (x y dx dy m : Int) : Prop := if dx * dx + dy * dy = 0 then (x * x + y * y) * 10000 ≤ m * m else (x * dy - y * dx) * (x * dy - y * dx) * 10000 ≤ m * m * (dx * dx + dy * dy)
def gStr (X Y : Int → Int) (m i j : Int) : Prop := ∀ k, i < k → k < j → gNr (X k - X i) (Y k - Y i) (X j - X i) (Y j - Y i) m
theorem gStr_1 {X Y : Int → Int} {m i : Int} : gStr X Y m i (i + 1) := fun k h1 h2 => by omega
/-- from i to n in just p straight pieces -/
def gR (S : Int → Int → Prop) (n : Int) : Nat → Int → Prop
  | 0, i => i = n
  | p + 1, i => ∃ j, i < j ∧ j ≤ n ∧ S i j ∧ gR S n p j
theorem gR_n {S : Int → Int → Prop} {n : Int} {p : Nat} (h : gR S n p n) : p = 0 := by
  cases p with
  | zero => rfl
  | succ p =>
    obtain ⟨j, a, b, _⟩ := h
    omega
theorem gR_all {S : Int → Int → Prop} {n : Int} (h : ∀ i, S i (i + 1)) : ∀ p : Nat, gR S n p (n - p)
  | 0 => by show n - ((0 : Nat) : Int) = n; simp
  | p + 1 => ⟨n - p, by omega, by omega, by
      have := h (n - ((p + 1 : Nat) : Int))
      rw [show n - ((p + 1 : Nat) : Int) + 1 = n - p by omega] at this
      exact this, gR_all h p⟩
theorem gR_le {S : Int → Int → Prop} {n : Int} : ∀ (p : Nat) (i : Int), gR S n p i → i + p ≤ n
  | 0, i, h => by have : i = n := h; omega
  | p + 1, i, h => by
    obtain ⟨j, a, b, _, d⟩ := h
    have := gR_le p j d
    omega
/-- the next end: the last place with a straight piece to it and the rest in q - 1 -/
def gNx (S : Int → Int → Prop) (n q a c : Int) : Prop := a < c ∧ c ≤ n ∧ S a c ∧ gR S n (q - 1).toNat c ∧ ∀ j, c < j → j ≤ n → S a j → ¬ gR S n (q - 1).toNat j
theorem gNx.uq {S : Int → Int → Prop} {n q a c c' : Int} (h : gNx S n q a c) (g : gNx S n q a c') : c = c' := by
  apply Classical.byContradiction
  intro k
  rcases Int.lt_or_gt_of_ne k with l | l
  · exact h.2.2.2.2 c' l g.2.1 g.2.2.1 g.2.2.2.1
  · exact g.2.2.2.2 c l h.2.1 h.2.2.1 h.2.2.2.1
/-- the fewest pieces, three at least, and where they begin -/
def gPie (S : Int → Int → Prop) (n P : Int) (b : Int → Int) : Prop := 3 ≤ P ∧ P ≤ n ∧ (∀ p : Nat, 3 ≤ p → gR S n p 0 → P ≤ p) ∧ gR S n P.toNat 0 ∧ b 0 = 0 ∧ ∀ p, 0 ≤ p → p < P → gNx S n (P - p) (b p) (b (p + 1))
theorem gPie.uq {S : Int → Int → Prop} {n P P' : Int} {b b' : Int → Int} (h : gPie S n P b) (g : gPie S n P' b') : P = P' ∧ ∀ p, 0 ≤ p → p ≤ P → b p = b' p := by
  have e : P = P' := by
    have := h.2.2.1 P'.toNat (by have := g.1; omega) g.2.2.2.1
    have := g.2.2.1 P.toNat (by have := h.1; omega) h.2.2.2.1
    have := h.1
    have := g.1
    omega
  subst e
  refine ⟨rfl, ?_⟩
  apply zind (P := fun p => p ≤ P → b p = b' p)
  · intro _; rw [h.2.2.2.2.1, g.2.2.2.2.1]
  · intro v hv ih c
    have h1 := h.2.2.2.2.2 v hv (by omega)
    have g1 := g.2.2.2.2.2 v hv (by omega)
    rw [ih (by omega)] at h1
    exact h1.uq g1
theorem gPie.rng {S : Int → Int → Prop} {n P : Int} {b : Int → Int} (h : gPie S n P b) : ∀ p, 0 ≤ p → p ≤ P → 0 ≤ b p ∧ b p ≤ n := by
  have hn : 3 ≤ n := by have := h.1; have := h.2.1; omega
  apply zind (P := fun p => p ≤ P → 0 ≤ b p ∧ b p ≤ n)
  · intro _; rw [h.2.2.2.2.1]; omega
  · intro v hv ih c
    have i := ih (by omega)
    have q := h.2.2.2.2.2 v hv (by omega)
    have := q.1
    have := q.2.1
    omega
/-- of the places behind lo, with a straight piece to each: the least 1 + V, and the last place with it -/
def gArg (V : Int → Int) (S : Int → Prop) (lo n best arg : Int) : Prop :=
  (best = 1000000 ∧ ∀ j, lo < j → j < n → S j → 1000000 ≤ 1 + V j) ∨ (lo < arg ∧ arg < n ∧ S arg ∧ best = 1 + V arg ∧ best < 1000000 ∧ ∀ j, lo < j → j < n → S j → best ≤ 1 + V j ∧ (arg < j → best < 1 + V j))
theorem gArg.nil {V : Int → Int} {S : Int → Prop} {n arg : Int} : gArg V S (n - 1) n 1000000 arg := .inl ⟨rfl, fun j a b => by omega⟩
theorem gArg.no {V : Int → Int} {S : Int → Prop} {n best arg j : Int} (h : gArg V S j n best arg) (e : best ≤ 1 + V j ∨ ¬ S j) : gArg V S (j - 1) n best arg := by
  rcases h with ⟨h1, h2⟩ | ⟨h1, h2, h3, h4, h5, h6⟩
  · refine .inl ⟨h1, fun k a b s => ?_⟩
    by_cases c : k = j
    · subst c
      rcases e with e | e
      · omega
      · exact absurd s e
    · exact h2 k (by omega) b s
  · refine .inr ⟨by omega, h2, h3, h4, h5, fun k a b s => ?_⟩
    by_cases c : k = j
    · subst c
      rcases e with e | e
      · exact ⟨e, fun l => by omega⟩
      · exact absurd s e
    · exact h6 k (by omega) b s
theorem gArg.yes {V : Int → Int} {S : Int → Prop} {n best arg j : Int} (hj : j < n) (h : gArg V S j n best arg) (hb : best ≤ 1000000) (e : 1 + V j < best) (s : S j) : gArg V S (j - 1) n (1 + V j) j := by
  refine .inr ⟨by omega, hj, s, rfl, by omega, fun k a b sk => ?_⟩
  by_cases c : k = j
  · subst c; omega
  · rcases h with ⟨h1, h2⟩ | ⟨h1, h2, h3, h4, h5, h6⟩
    · have := h2 k (by omega) b sk; omega
    · have := h6 k (by omega) b sk; omega
theorem gArg.cong {V V' : Int → Int} {S : Int → Prop} {lo n best arg : Int} (h : gArg V S lo n best arg) (e : ∀ j, lo < j → j < n → V' j = V j) : gArg V' S lo n best arg := by
  rcases h with ⟨h1, h2⟩ | ⟨h1, h2, h3, h4, h5, h6⟩
  · exact .inl ⟨h1, fun j a b s => by rw [e j a b]; exact h2 j a b s⟩
  · exact .inr ⟨h1, h2, h3, by rw [e arg h1 h2]; exact h4, h5, fun j a b s => by rw [e j a b]; exact h6 j a b s⟩
/-- what the class keeps for place i: l, nx of one piece or more, l2, n2 of two or more -/
def gRec (S : Int → Int → Prop) (n : Int) (l nx l2 n2 : Int → Int) (i : Int) : Prop := gArg l (S i) i n (l2 i) (n2 i) ∧ ((S i n ∧ l i = 1 ∧ nx i = n) ∨ (¬ S i n ∧ l i = l2 i ∧ nx i = n2 i))
/-- the fewest -/
def gMn (S : Int → Int → Prop) (n i v : Int) : Prop := 0 ≤ v ∧ v ≤ n - i ∧ gR S n v.toNat i ∧ ∀ p : Nat, gR S n p i → v ≤ p
def gM2 (S : Int → Int → Prop) (n i v : Int) : Prop := (v = 1000000 ∧ ∀ p : Nat, 2 ≤ p → ¬ gR S n p i) ∨ (2 ≤ v ∧ v ≤ n - i ∧ gR S n v.toNat i ∧ ∀ p : Nat, 2 ≤ p → gR S n p i → v ≤ p)
section
variable {S : Int → Int → Prop} {n : Int} {l nx l2 n2 : Int → Int}
theorem gMn_1 {j v : Int} (h : gMn S n j v) (hj : j < n) : 1 ≤ v := by
  apply Classical.byContradiction
  intro c
  have e : v = 0 := by have := h.1; omega
  subst e
  have : j = n := h.2.2.1
  omega
theorem gArg_2 {i : Int} (hS : ∀ i, S i (i + 1)) (hn : n ≤ 412) (hi : 0 ≤ i ∧ i < n) (hl : ∀ j, i < j → j ≤ n → gMn S n j (l j)) (h : gArg l (S i) i n (l2 i) (n2 i)) : gM2 S n i (l2 i) := by
  have two : ∀ p : Nat, 2 ≤ p → gR S n p i → ∃ j, i < j ∧ j < n ∧ S i j ∧ l j + 1 ≤ p := by
    intro p hp r
    obtain ⟨q, rfl⟩ : ∃ q, p = q + 1 := ⟨p - 1, by omega⟩
    obtain ⟨j, a, b, s, d⟩ := r
    have m := (hl j a b).2.2.2 q d
    refine ⟨j, a, ?_, s, by omega⟩
    apply Classical.byContradiction
    intro c
    have e : j = n := by omega
    subst e
    have := gR_n d
    omega
  rcases h with ⟨h1, h2⟩ | ⟨h1, h2, h3, h4, h5, h6⟩
  · refine .inl ⟨h1, fun p hp r => ?_⟩
    obtain ⟨j, a, b, s, d⟩ := two p hp r
    have := h2 j a b s
    have m := (hl j a (by omega)).2.1
    omega
  · have m := hl _ h1 (by omega)
    have m1 := gMn_1 m h2
    refine .inr ⟨by omega, by have := m.2.1; omega, ?_, fun p hp r => ?_⟩
    · rw [h4, show (1 + l (n2 i)).toNat = (l (n2 i)).toNat + 1 by omega]
      exact ⟨n2 i, h1, by omega, h3, m.2.2.1⟩
    · obtain ⟨j, a, b, s, d⟩ := two p hp r
      have := (h6 j a b s).1
      omega
theorem gRec_mn (hS : ∀ i, S i (i + 1)) (hn : n ≤ 412) (h0 : l n = 0) {lo : Int} (hlo : 0 ≤ lo) (h : ∀ i, lo ≤ i → i < n → gRec S n l nx l2 n2 i) : ∀ k : Int, 0 ≤ k → lo ≤ n - k → gMn S n (n - k) (l (n - k)) := by
  have strong : ∀ k : Nat, ∀ i : Int, i = n - k → lo ≤ i → gMn S n i (l i) := by
    intro k
    induction k using Nat.strongRecOn with
    | ind k ih =>
      intro i ei li
      by_cases c : k = 0
      · subst c
        have e : i = n := by omega
        subst e
        rw [h0]
        exact ⟨by omega, by omega, rfl, fun p _ => by omega⟩
      · have all : ∀ j, i < j → j ≤ n → gMn S n j (l j) := fun j a b => ih (n - j).toNat (by omega) j (by omega) (by omega)
        have r := h i li (by omega)
        have m2 := gArg_2 hS hn ⟨by omega, by omega⟩ all r.1
        have ge1 : ∀ p : Nat, gR S n p i → 1 ≤ p := by
          intro p q
          cases p with
          | zero => have : i = n := q; omega
          | succ p => omega
        rcases r.2 with ⟨s, e, _⟩ | ⟨s, e, _⟩
        · rw [e]
          refine ⟨by omega, by omega, ⟨n, by omega, by omega, s, rfl⟩, fun p q => by have := ge1 p q; omega⟩
        · have not1 : ¬ gR S n 1 i := by
            rintro ⟨j, _, _, sj, q⟩
            have q : j = n := q
            subst q
            exact s sj
          rw [e]
          have full := gR_all (n := n) hS k
          rw [← ei] at full
          rcases m2 with ⟨m, none⟩ | ⟨m, mb, mr, mm⟩
          · by_cases k1 : k = 1
            · subst k1; exact absurd full not1
            · exact absurd full (none k (by omega))
          · refine ⟨by omega, mb, mr, fun p q => ?_⟩
            have := ge1 p q
            by_cases p1 : p = 1
            · subst p1; exact absurd q not1
            · exact mm p (by omega) q
  intro k k0 k1
  exact strong k.toNat (n - k) (by omega) k1
/-- the next end from a place, of two pieces or more -/
theorem gArg_nx {i q : Int} (hl : ∀ j, i < j → j ≤ n → gMn S n j (l j)) (h : gArg l (S i) i n (l2 i) (n2 i)) (e : l2 i = q) (q2 : 2 ≤ q) (q3 : q < 1000000) : gNx S n q i (n2 i) := by
  rcases h with ⟨h1, _⟩ | ⟨h1, h2, h3, h4, h5, h6⟩
  · omega
  · have m := hl _ h1 (by omega)
    refine ⟨h1, by omega, h3, ?_, fun j a b s r => ?_⟩
    · rw [show (q - 1).toNat = (l (n2 i)).toNat by omega]; exact m.2.2.1
    · by_cases c : j = n
      · subst c
        have := gR_n r
        omega
      · have a2 := (h6 j (by omega) (by omega) s).2 a
        have := (hl j (by omega) b).2.2.2 _ r
        omega
end
theorem zidx {n p p' i i' : Int} (i0 : 0 ≤ i ∧ i ≤ n) (i1 : 0 ≤ i' ∧ i' ≤ n) (e : (n + 1) * p + i = (n + 1) * p' + i') : p = p' ∧ i = i' := by
  have key : ∀ a b : Int, a < b → (n + 1) * a + (n + 1) ≤ (n + 1) * b := fun a b h => by
    have := Int.mul_le_mul_of_nonneg_left (show a + 1 ≤ b by omega) (show 0 ≤ n + 1 by omega)
    rw [Int.mul_add, Int.mul_one] at this
    exact this
  rcases Int.lt_trichotomy p p' with h | h | h
  · have := key p p' h; omega
  · subst h; exact ⟨rfl, by omega⟩
  · have := key p' p h; omega
theorem zidx_b {n p i : Int} (hn : n ≤ 412) (p0 : 0 ≤ p ∧ p ≤ 412) (i0 : 0 ≤ i ∧ i ≤ n) : 0 ≤ (n + 1) * p + i ∧ (n + 1) * p + i < 600000 := by
  have a := Int.mul_nonneg (show 0 ≤ n + 1 by omega) p0.1
  have b := Int.mul_le_mul (show n + 1 ≤ 413 by omega) p0.2 p0.1 (show (0 : Int) ≤ 413 by omega)
  omega
theorem gNr_e {x y dx dy m : Int} : gNr x y dx dy m ↔ if dx * dx + dy * dy ≠ 0 then ¬ (m * m * (dx * dx + dy * dy) < 10000 * (dx * y - dy * x) * (dx * y - dy * x)) else ¬ (m * m < 10000 * (x * x + y * y)) := by
  have e1 : 10000 * (dx * y - dy * x) * (dx * y - dy * x) = (x * dy - y * dx) * (x * dy - y * dx) * 10000 := by grind
  rw [e1]
  unfold gNr
  by_cases c : dx * dx + dy * dy = 0
  · rw [if_pos c, if_neg (fun h => h c)]; omega
  · rw [if_neg c, if_pos c]; omega
/-- a border is closed behind three steps at least -/
theorem gPer.n3 {w h f t n : Int} {L : Int → Int} {s : gS} (H : gPer (zg w h L) f t s n) (v : gV (zg w h L) f s) : 3 ≤ n := by
  apply Classical.byContradiction
  intro c
  have e := H.2.2.1
  have n1 := H.1
  have v0 := v.1
  by_cases c1 : n = 1
  · subst c1
    rw [show (1 : Int) = 0 + 1 by decide, gE_s (by decide), gE_0] at e
    have e1 : s.1 + zdx s.2.2 = s.1 := congrArg (fun q => q.1) e
    have e2 : s.2.1 + zdy s.2.2 = s.2.1 := congrArg (fun q => q.2.1) e
    rcases zd4 v0 with q | q | q | q <;> rw [q] at e1 e2 <;> simp [zdx, zdy] at e1 e2 <;> omega
  · have c2 : n = 2 := by omega
    subst c2
    rw [show (2 : Int) = (0 + 1) + 1 by decide, gE_s (by decide), gE_s (by decide), gE_0] at e
    have nd := @gN_d (zg w h L) f t s v0
    have e1 : s.1 + zdx s.2.2 + zdx (gN (zg w h L) f t s).2.2 = s.1 := congrArg (fun q => q.1) e
    have e2 : s.2.1 + zdy s.2.2 + zdy (gN (zg w h L) f t s).2.2 = s.2.1 := congrArg (fun q => q.2.1) e
    generalize (gN (zg w h L) f t s).2.2 = d at nd e1 e2
    rcases zd4 v0 with q | q | q | q <;> rw [q] at e1 e2 nd <;> rcases nd with k | k | k <;> rw [k] at e1 e2 <;> simp [zdx, zdy] at e1 e2 <;> omega
