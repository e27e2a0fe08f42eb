/-- of the four dots round a point: 0 below to the right, then clockwise -/
def qX (q : Int) : Int := if q = 1 ∨ q = 2 then -1 else 0
def qY (q : Int) : Int := if q = 2 ∨ q = 3 then -1 else 0
abbrev gIn (G : Int → Int → Int) (f x y q : Int) : Prop := G (x + qX q) (y + qY q) = f
/-- the direction behind a step in direction d that came to x, y -/
def gND (G : Int → Int → Int) (f t x y d : Int) : Int := if gIn G f x y ((d + 3) % 4) ∧ (gIn G f x y d ∨ t = 1) then (d + 3) % 4 else if gIn G f x y d then d else (d + 1) % 4
abbrev gS : Type := Int × Int × Int
def gN (G : Int → Int → Int) (f t : Int) (s : gS) : gS := (s.1 + zdx s.2.2, s.2.1 + zdy s.2.2, gND G f t (s.1 + zdx s.2.2) (s.2.1 + zdy s.2.2) s.2.2)
/-- a step with the face on its right hand, and not on its left -/
def gV (G : Int → Int → Int) (f : Int) (s : gS) : Prop := (0 ≤ s.2.2 ∧ s.2.2 < 4) ∧ gIn G f s.1 s.2.1 s.2.2 ∧ ¬ gIn G f s.1 s.2.1 ((s.2.2 + 3) % 4)
theorem zd4 {d : Int} (h : 0 ≤ d ∧ d < 4) : d = 0 ∨ d = 1 ∨ d = 2 ∨ d = 3 := by omega
/-- behind a step lie the dots that were beside it -/
theorem gIn_b {G : Int → Int → Int} {f x y d : Int} (h : 0 ≤ d ∧ d < 4) : (gIn G f (x + zdx d) (y + zdy d) ((d + 1) % 4) ↔ gIn G f x y d) ∧ (gIn G f (x + zdx d) (y + zdy d) ((d + 2) % 4) ↔ gIn G f x y ((d + 3) % 4)) := by
  rcases zd4 h with rfl | rfl | rfl | rfl
  · simp [gIn, qX, qY, zdx, zdy]
    constructor
    · rw [show x + 1 + -1 = x by omega]
    · rw [show x + 1 + -1 = x by omega]
  · simp [gIn, qX, qY, zdx, zdy]
    constructor
    · rw [show y + 1 + -1 = y by omega]
    · rw [show y + 1 + -1 = y by omega]
  · simp [gIn, qX, qY, zdx, zdy]
  · simp [gIn, qX, qY, zdx, zdy]
theorem gV.nx {G : Int → Int → Int} {f t : Int} {s : gS} (h : gV G f s) : gV G f (gN G f t s) := by
  obtain ⟨x, y, d⟩ := s
  obtain ⟨hd, h1, h2⟩ := h
  have b := @gIn_b G f x y d hd
  dsimp only at hd h1 h2
  unfold gV gN gND
  dsimp only
  split
  · rename_i c
    refine ⟨by omega, c.1, ?_⟩
    rw [show ((d + 3) % 4 + 3) % 4 = (d + 2) % 4 by omega, b.2]
    exact h2
  · rename_i c
    split
    · rename_i c2
      refine ⟨hd, c2, fun c3 => c ⟨c3, .inl c2⟩⟩
    · rename_i c2
      refine ⟨by omega, b.1.2 h1, ?_⟩
      rw [show ((d + 1) % 4 + 3) % 4 = d by omega]
      exact c2
theorem gN_d {G : Int → Int → Int} {f t : Int} {s : gS} (h : 0 ≤ s.2.2 ∧ s.2.2 < 4) : (gN G f t s).2.2 = s.2.2 ∨ (gN G f t s).2.2 = (s.2.2 + 1) % 4 ∨ (gN G f t s).2.2 = (s.2.2 + 3) % 4 := by
  unfold gN gND
  dsimp only
  split
  · exact .inr (.inr rfl)
  · split
    · exact .inl rfl
    · exact .inr (.inl rfl)
/-- what the next direction says of the dots round the point -/
theorem gND_c {G : Int → Int → Int} {f t x y d : Int} (hd : 0 ≤ d ∧ d < 4) (h1 : gIn G f x y ((d + 1) % 4)) (h2 : ¬ gIn G f x y ((d + 2) % 4)) :
    (gND G f t x y d = d ∧ gIn G f x y ((d + 1) % 4) ∧ ¬ gIn G f x y ((d + 2) % 4)) ∨
    (gND G f t x y d = (d + 3) % 4 ∧ gIn G f x y ((d + 1) % 4) ∧ ¬ gIn G f x y ((d + 2) % 4) ∧ (gIn G f x y d ∨ t = 1)) ∨
    (gND G f t x y d = (d + 1) % 4 ∧ ¬ gIn G f x y d ∧ ¬ gIn G f x y ((d + 2) % 4) ∧ ¬ (gIn G f x y ((d + 3) % 4) ∧ t = 1)) := by
  unfold gND
  split
  · rename_i c; exact .inr (.inl ⟨rfl, h1, h2, c.2⟩)
  · rename_i c
    split
    · exact .inl ⟨rfl, h1, h2⟩
    · rename_i c2; exact .inr (.inr ⟨rfl, c2, h2, fun k => c ⟨k.1, .inr k.2⟩⟩)
theorem gN_inj {G : Int → Int → Int} {f t : Int} {s u : gS} (hs : gV G f s) (hu : gV G f u) (e : gN G f t s = gN G f t u) : s = u := by
  obtain ⟨x, y, d⟩ := s
  obtain ⟨x', y', d'⟩ := u
  obtain ⟨hd, h1, h2⟩ := hs
  obtain ⟨hd', h1', h2'⟩ := hu
  dsimp only at hd h1 h2 hd' h1' h2'
  have b := @gIn_b G f x y d hd
  have b' := @gIn_b G f x' y' d' hd'
  unfold gN at e
  simp only [Prod.mk.injEq] at e
  obtain ⟨ex, ey, ed⟩ := e
  have c := @gND_c G f t (x + zdx d) (y + zdy d) d hd (b.1.2 h1) (fun k => h2 (b.2.1 k))
  have c' := @gND_c G f t (x' + zdx d') (y' + zdy d') d' hd' (b'.1.2 h1') (fun k => h2' (b'.2.1 k))
  rw [ex, ey] at c ed
  have e2 : d = d' := by
    generalize x' + zdx d' = X at c c' ed
    generalize y' + zdy d' = Y at c c' ed
    rcases c with ⟨q, p1, p2⟩ | ⟨q, p1, p2, p3⟩ | ⟨q, p1, p2, p3⟩
    · rcases c' with ⟨q', r1, r2⟩ | ⟨q', r1, r2, r3⟩ | ⟨q', r1, r2, r3⟩
      · omega
      · exfalso
        rw [show (d + 2) % 4 = (d' + 1) % 4 by omega] at p2
        exact p2 r1
      · exfalso
        rw [show (d + 1) % 4 = (d' + 2) % 4 by omega] at p1
        exact r2 p1
    · rcases c' with ⟨q', r1, r2⟩ | ⟨q', r1, r2, r3⟩ | ⟨q', r1, r2, r3⟩
      · exfalso
        rw [show (d + 1) % 4 = (d' + 2) % 4 by omega] at p1
        exact r2 p1
      · omega
      · exfalso
        rw [show (d + 1) % 4 = (d' + 3) % 4 by omega] at p1
        rcases p3 with p3 | p3
        · rw [show d = (d' + 2) % 4 by omega] at p3
          exact r2 p3
        · exact r3 ⟨p1, p3⟩
    · rcases c' with ⟨q', r1, r2⟩ | ⟨q', r1, r2, r3⟩ | ⟨q', r1, r2, r3⟩
      · exfalso
        rw [show (d + 2) % 4 = (d' + 1) % 4 by omega] at p2
        exact p2 r1
      · exfalso
        rw [show (d' + 1) % 4 = (d + 3) % 4 by omega] at r1
        rcases r3 with r3 | r3
        · rw [show d' = (d + 2) % 4 by omega] at r3
          exact p2 r3
        · exact p3 ⟨r1, r3⟩
      · omega
  subst e2
  rw [show x = x' by omega, show y = y' by omega]
/-- the k-th step -/
def gSq (G : Int → Int → Int) (f t : Int) (s : gS) : Nat → gS
  | 0 => s
  | n + 1 => gN G f t (gSq G f t s n)
def gE (G : Int → Int → Int) (f t : Int) (s : gS) (k : Int) : gS := gSq G f t s k.toNat
theorem gE_0 {G : Int → Int → Int} {f t : Int} {s : gS} : gE G f t s 0 = s := rfl
theorem gE_s {G : Int → Int → Int} {f t : Int} {s : gS} {k : Int} (h : 0 ≤ k) : gE G f t s (k + 1) = gN G f t (gE G f t s k) := by
  unfold gE
  rw [show (k + 1).toNat = k.toNat + 1 by omega, gSq]
theorem gSq_V {G : Int → Int → Int} {f t : Int} {s : gS} (h : gV G f s) : ∀ n, gV G f (gSq G f t s n)
  | 0 => h
  | n + 1 => (gSq_V h n).nx
theorem gE_V {G : Int → Int → Int} {f t : Int} {s : gS} (h : gV G f s) (k : Int) : gV G f (gE G f t s k) := gSq_V h _
/-- a number for each side of a dot -/
def gCo (s : gS) : Int := if s.2.2 = 0 then 16 * s.2.1 + s.1 else if s.2.2 = 2 then 16 * s.2.1 + s.1 - 1 else if s.2.2 = 1 then 208 + 17 * s.2.1 + s.1 else 208 + 17 * (s.2.1 - 1) + s.1
theorem gV.box {w h f : Int} {L : Int → Int} (hf : 0 ≤ f) {s : gS} (v : gV (zg w h L) f s) : 0 ≤ s.1 + qX s.2.2 ∧ s.1 + qX s.2.2 < w ∧ 0 ≤ s.2.1 + qY s.2.2 ∧ s.2.1 + qY s.2.2 < h := by
  have := zg_ge v.2.1 hf
  omega
theorem gV.bx {w h f : Int} {L : Int → Int} (hf : 0 ≤ f) {s : gS} (v : gV (zg w h L) f s) : 0 ≤ s.1 ∧ s.1 ≤ w ∧ 0 ≤ s.2.1 ∧ s.2.1 ≤ h := by
  have b := v.box hf
  have d := v.1
  unfold qX qY at b
  grind
theorem gCo_b {w h f : Int} {L : Int → Int} (hw : w ≤ 16) (hh : h ≤ 12) (hf : 0 ≤ f) {s : gS} (v : gV (zg w h L) f s) : 0 ≤ gCo s ∧ gCo s < 412 := by
  have b := v.box hf
  obtain ⟨x, y, d⟩ := s
  have hd := v.1
  dsimp only at b hd
  unfold gCo
  dsimp only
  rcases zd4 hd with rfl | rfl | rfl | rfl
  · simp [qX, qY] at b ⊢; omega
  · simp [qX, qY] at b ⊢; omega
  · simp [qX, qY] at b ⊢; omega
  · simp [qX, qY] at b ⊢; omega
theorem gCo_i {w h f : Int} {L : Int → Int} (hw : w ≤ 16) (hh : h ≤ 12) (hf : 0 ≤ f) {s u : gS} (v : gV (zg w h L) f s) (v' : gV (zg w h L) f u) (e : gCo s = gCo u) : s = u := by
  have b := v.box hf
  have b' := v'.box hf
  obtain ⟨x, y, d⟩ := s
  obtain ⟨x', y', d'⟩ := u
  have hd := v.1
  have hd' := v'.1
  have i := v.2
  have i' := v'.2
  dsimp only at b hd b' hd' i i'
  unfold gCo at e
  dsimp only at e
  have go : (x = x' ∧ y = y' ∧ d = d') → (x, y, d) = (x', y', d') := by rintro ⟨rfl, rfl, rfl⟩; rfl
  rcases zd4 hd with rfl | rfl | rfl | rfl <;> rcases zd4 hd' with rfl | rfl | rfl | rfl <;> simp [qX, qY, gIn] at b b' e i i'
  · exact go (by omega)
  · omega
  · exfalso
    have e1 : x = x' + -1 := by omega
    have e2 : y = y' := by omega
    rw [e1, e2] at i
    exact i'.2 i.1
  · omega
  · omega
  · exact go (by omega)
  · omega
  · exfalso
    have e1 : x = x' := by omega
    have e2 : y = y' + -1 := by omega
    rw [e1, e2] at i
    exact i'.2 i.1
  · exfalso
    have e1 : x' = x + -1 := by omega
    have e2 : y' = y := by omega
    rw [e1, e2] at i'
    exact i.2 i'.1
  · omega
  · exact go (by omega)
  · omega
  · omega
  · exfalso
    have e1 : x' = x := by omega
    have e2 : y' = y + -1 := by omega
    rw [e1, e2] at i'
    exact i.2 i'.1
  · omega
  · exact go (by omega)
/-- more things than places -/
theorem zpig : ∀ (n : Nat) (f : Nat → Nat), (∀ i, i ≤ n → f i < n) → ∃ i j, i < j ∧ j ≤ n ∧ f i = f j
  | 0, f, h => by have := h 0 (by omega); omega
  | n + 1, f, h => by
    by_cases c : ∃ i, i ≤ n ∧ f i = f (n + 1)
    · obtain ⟨i, hi, e⟩ := c
      exact ⟨i, n + 1, by omega, by omega, e⟩
    · have c' : ∀ i, i ≤ n → f i ≠ f (n + 1) := fun i hi e => c ⟨i, hi, e⟩
      obtain ⟨i, j, ij, jn, e⟩ := zpig n (fun i => if f i = n then f (n + 1) else f i) (fun i hi => by
        have a := h i (by omega)
        have b := h (n + 1) (by omega)
        have d := c' i hi
        (try dsimp only)
        split <;> omega)
      refine ⟨i, j, ij, by omega, ?_⟩
      have a := c' i (by omega)
      have b := c' j (by omega)
      (try dsimp only at e)
      split at e <;> split at e <;> omega
theorem gSq_back {G : Int → Int → Int} {f t : Int} {s : gS} (v : gV G f s) : ∀ i j : Nat, gSq G f t s i = gSq G f t s (i + j) → gSq G f t s j = s
  | 0, j, e => by rw [Nat.zero_add] at e; exact e.symm
  | i + 1, j, e => by
    rw [show i + 1 + j = (i + j) + 1 by omega] at e
    exact gSq_back v i j (gN_inj (gSq_V v _) (gSq_V v _) e)
/-- the border is closed behind n steps, and not ahead of it -/
def gPer (G : Int → Int → Int) (f t : Int) (s : gS) (n : Int) : Prop := 1 ≤ n ∧ n ≤ 412 ∧ gE G f t s n = s ∧ ∀ q, 1 ≤ q → q < n → gE G f t s q ≠ s
theorem gPer.uq {G : Int → Int → Int} {f t n m : Int} {s : gS} (h : gPer G f t s n) (g : gPer G f t s m) : n = m := by
  apply Classical.byContradiction
  intro c
  rcases Int.lt_or_gt_of_ne c with k | k
  · exact g.2.2.2 n h.1 k h.2.2.1
  · exact h.2.2.2 m g.1 k g.2.2.1
theorem gPer.ex {w h f t : Int} {L : Int → Int} (hw : w ≤ 16) (hh : h ≤ 12) (hf : 0 ≤ f) {s : gS} (v : gV (zg w h L) f s) : ∃ n, gPer (zg w h L) f t s n := by
  have c := zpig 412 (fun i => (gCo (gSq (zg w h L) f t s i)).toNat) (fun i _ => by
    have := gCo_b hw hh hf (gSq_V (t := t) v i)
    omega)
  obtain ⟨i, j, ij, jn, e⟩ := c
  have e2 : gSq (zg w h L) f t s i = gSq (zg w h L) f t s j := gCo_i hw hh hf (gSq_V v i) (gSq_V v j) (by
    have a := gCo_b hw hh hf (gSq_V (t := t) v i)
    have b := gCo_b hw hh hf (gSq_V (t := t) v j)
    (try dsimp only at e)
    omega)
  have r : gSq (zg w h L) f t s (j - i) = s := gSq_back v i (j - i) (by rw [show i + (j - i) = j by omega]; exact e2)
  have least : ∀ k : Nat, 1 ≤ k → k ≤ 412 → gSq (zg w h L) f t s k = s → ∃ n : Nat, 1 ≤ n ∧ n ≤ 412 ∧ gSq (zg w h L) f t s n = s ∧ ∀ q : Nat, 1 ≤ q → q < n → gSq (zg w h L) f t s q ≠ s := by
    intro k
    induction k using Nat.strongRecOn with
    | ind k ih =>
      intro k1 k2 ek
      by_cases c : ∃ q : Nat, 1 ≤ q ∧ q < k ∧ gSq (zg w h L) f t s q = s
      · obtain ⟨q, q1, q2, q3⟩ := c
        exact ih q q2 q1 (by omega) q3
      · exact ⟨k, k1, k2, ek, fun q q1 q2 q3 => c ⟨q, q1, q2, q3⟩⟩
  obtain ⟨n, n1, n2, n3, n4⟩ := least (j - i) (by omega) (by omega) r
  refine ⟨n, by omega, by omega, ?_, ?_⟩
  · unfold gE; rw [Int.toNat_natCast]; exact n3
  · intro q q1 q2; exact n4 q.toNat (by omega) (by omega)
/-- where the border of a face begins -/
def gS0 (a : Int) : gS := (a % 16, a / 16, 0)
theorem gS0_V {w h f a : Int} {L F : Int → Int} {D : Int → Prop} {A : Int → Int → Prop} {N : Int} (hw : w ≤ 16) (G : gLab D A L N F) (hD : D = gD w h) (f0 : 0 ≤ f) (f1 : f < N) (ea : a = F f) : gV (zg w h L) f (gS0 a) := by
  subst hD ea
  have g := G.fst f f0 f1
  have d := g.1
  refine ⟨by simp [gS0], ?_, ?_⟩
  · show zg w h L (F f % 16 + qX 0) (F f / 16 + qY 0) = f
    rw [show qX 0 = 0 by decide, show qY 0 = 0 by decide, Int.add_zero, Int.add_zero, zg_D d hw]
    exact g.2
  · show ¬ zg w h L (F f % 16 + qX ((0 + 3) % 4)) (F f / 16 + qY ((0 + 3) % 4)) = f
    rw [show qX ((0 + 3) % 4) = 0 by decide, show qY ((0 + 3) % 4) = -1 by decide]
    intro e
    have q := zg_ge e f0
    have lo := G.low (16 * (F f / 16 + -1) + (F f % 16 + 0)) (by omega)
    rw [q.2.2.2.2] at lo
    omega
theorem zl3 {a : Int} (h : -4 ≤ a ∧ a ≤ 8) : zland a 3 = a % 4 := by
  have : a = -4 ∨ a = -3 ∨ a = -2 ∨ a = -1 ∨ a = 0 ∨ a = 1 ∨ a = 2 ∨ a = 3 ∨ a = 4 ∨ a = 5 ∨ a = 6 ∨ a = 7 ∨ a = 8 := by omega
  rcases this with rfl | rfl | rfl | rfl | rfl | rfl | rfl | rfl | rfl | rfl | rfl | rfl | rfl <;> decide +kernel
/-- the turn at point i: 1 right, -1 left -/
def zTurn (w : Int → Int) (n i : Int) : Int := if (w i - w (if i = 0 then n - 1 else i - 1)) % 4 = 0 then 0 else if (w i - w (if i = 0 then n - 1 else i - 1)) % 4 = 1 then 1 else -1
/-- the points with a turn, in order -/
def gTP (w : Int → Int) (n tc : Int) (tp : Int → Int) : Prop := tc = zc (fun i => zTurn w n i ≠ 0) n ∧ ∀ i, 0 ≤ i → i < n → zTurn w n i ≠ 0 → tp (zc (fun i => zTurn w n i ≠ 0) i) = i
theorem zc_lt2 {p : Int → Prop} {i n : Int} (i0 : 0 ≤ i) (h : i < n) (g : p i) : zc p i < zc p n := by
  have e := zc_p i0 g
  have m : ∀ d : Int, 0 ≤ d → zc p (i + 1) ≤ zc p (i + 1 + d) := by
    apply zind
    · simp
    · intro v hv ih
      rw [show i + 1 + (v + 1) = i + 1 + v + 1 by omega]
      by_cases c : p (i + 1 + v)
      · rw [zc_p (by omega) c]; omega
      · rw [zc_n (by omega) c]; omega
  have := m (n - (i + 1)) (by omega)
  rw [show i + 1 + (n - (i + 1)) = n by omega] at this
  omega
theorem zc_rk {p : Int → Prop} : ∀ n : Int, 0 ≤ n → ∀ t, 0 ≤ t → t < zc p n → ∃ i, 0 ≤ i ∧ i < n ∧ p i ∧ zc p i = t := by
  apply zind
  · intro t t0 t1; rw [zc_z] at t1; omega
  · intro v hv ih t t0 t1
    by_cases c : t < zc p v
    · obtain ⟨i, i0, i1, i2, i3⟩ := ih t t0 c
      exact ⟨i, i0, by omega, i2, i3⟩
    · by_cases g : p v
      · rw [zc_p hv g] at t1
        exact ⟨v, hv, by omega, g, by omega⟩
      · rw [zc_n hv g] at t1; omega
theorem gTP.at {w : Int → Int} {n tc : Int} {tp : Int → Int} (hn : 0 ≤ n) (h : gTP w n tc tp) {t : Int} (t0 : 0 ≤ t) (t1 : t < tc) : 0 ≤ tp t ∧ tp t < n ∧ zTurn w n (tp t) ≠ 0 ∧ zc (fun i => zTurn w n i ≠ 0) (tp t) = t := by
  rw [h.1] at t1
  obtain ⟨i, i0, i1, i2, i3⟩ := zc_rk n hn t t0 t1
  have e := h.2 i i0 i1 i2
  rw [i3] at e
  rw [e]
  exact ⟨i0, i1, i2, i3⟩
theorem gTP.uq {w w' : Int → Int} {n tc tc' : Int} {tp tp' : Int → Int} (hn : 1 ≤ n) (hw : ∀ i, 0 ≤ i → i < n → w i = w' i) (h : gTP w n tc tp) (h' : gTP w' n tc' tp') : tc = tc' ∧ ∀ t, 0 ≤ t → t < tc → tp t = tp' t := by
  have ez : ∀ i, 0 ≤ i → i < n → zTurn w n i = zTurn w' n i := fun i i0 i1 => by
    unfold zTurn
    rw [hw i i0 i1]
    by_cases c : i = 0
    · rw [if_pos c, hw (n - 1) (by omega) (by omega)]
    · rw [if_neg c, hw (i - 1) (by omega) (by omega)]
  have ec : ∀ v, 0 ≤ v → v ≤ n → zc (fun i => zTurn w n i ≠ 0) v = zc (fun i => zTurn w' n i ≠ 0) v := fun v v0 v1 => zc_c v v0 (fun i i0 i1 => by rw [ez i i0 (by omega)])
  refine ⟨by rw [h.1, h'.1]; exact ec n (by omega) (by omega), fun t t0 t1 => ?_⟩
  have a := h.at (by omega) t0 t1
  have b := h'.2 (tp t) a.1 a.2.1 (by rw [← ez _ a.1 a.2.1]; exact a.2.2.1)
  rw [← ec _ a.1 (by omega), a.2.2.2] at b
  exact b.symm
