/-- r tells whether p holds -/
def zB (r : Int) (p : Prop) : Prop := (r = 1 ∧ p) ∨ (r = 0 ∧ ¬ p)
theorem zB.eq {r r' : Int} {p q : Prop} (h : zB r p) (h' : zB r' q) (e : p ↔ q) : r = r' := by
  unfold zB at h h'
  grind
theorem zB.iff {r : Int} {p q : Prop} (h : zB r p) (e : p ↔ q) : zB r q := by
  unfold zB at h ⊢
  grind
theorem zB.ne {r : Int} {p : Prop} (h : zB r p) : r ≠ 0 ↔ p := by
  unfold zB at h
  grind
theorem zB.z {r : Int} {p : Prop} (h : zB r p) : r = 0 ↔ ¬ p := by
  unfold zB at h
  grind
theorem zB.b {r : Int} {p : Prop} (h : zB r p) : r = 0 ∨ r = 1 := by
  unfold zB at h
  grind
theorem zB.t {p : Prop} (h : p) : zB 1 p := .inl ⟨rfl, h⟩
theorem zB.f {p : Prop} (h : ¬ p) : zB 0 p := .inr ⟨rfl, h⟩
/-- how many of the first n places p holds at -/
noncomputable def zct (p : Int → Prop) : Nat → Int
  | 0 => 0
  | n + 1 => zct p n + @ite Int (p n) (Classical.propDecidable _) 1 0
noncomputable def zc (p : Int → Prop) (v : Int) : Int := zct p v.toNat
theorem zc_z (p : Int → Prop) : zc p 0 = 0 := rfl
theorem zc_p {p : Int → Prop} {v : Int} (h0 : 0 ≤ v) (h : p v) : zc p (v + 1) = zc p v + 1 := by
  unfold zc
  rw [show (v + 1).toNat = v.toNat + 1 by omega, zct]
  rw [if_pos (show p (v.toNat : Int) by rw [Int.toNat_of_nonneg h0]; exact h)]
theorem zc_n {p : Int → Prop} {v : Int} (h0 : 0 ≤ v) (h : ¬ p v) : zc p (v + 1) = zc p v := by
  unfold zc
  rw [show (v + 1).toNat = v.toNat + 1 by omega, zct]
  rw [if_neg (show ¬ p (v.toNat : Int) by rw [Int.toNat_of_nonneg h0]; exact h)]
  omega
/-- induction over the whole numbers from 0 on -/
theorem zind {P : Int → Prop} (h0 : P 0) (hs : ∀ v, 0 ≤ v → P v → P (v + 1)) : ∀ v, 0 ≤ v → P v := by
  intro v hv
  have : ∀ n : Nat, P n := by
    intro n
    induction n with
    | zero => exact h0
    | succ n ih => exact hs n (by omega) ih
  have := this v.toNat
  rw [Int.toNat_of_nonneg hv] at this
  exact this
theorem zc_b (p : Int → Prop) : ∀ v : Int, 0 ≤ v → 0 ≤ zc p v ∧ zc p v ≤ v := by
  apply zind
  · simp [zc_z]
  · intro v hv ih
    by_cases h : p v
    · rw [zc_p hv h]; omega
    · rw [zc_n hv h]; omega
theorem zc_c {p q : Int → Prop} : ∀ v : Int, 0 ≤ v → (∀ i, 0 ≤ i → i < v → (p i ↔ q i)) → zc p v = zc q v := by
  apply zind
  · intro _; rfl
  · intro v hv ih h
    have e := ih (fun i a b => h i a (by omega))
    by_cases g : p v
    · rw [zc_p hv g, zc_p hv ((h v hv (by omega)).1 g), e]
    · rw [zc_n hv g, zc_n hv (fun k => g ((h v hv (by omega)).2 k)), e]
theorem zc_le {p q : Int → Prop} : ∀ v : Int, 0 ≤ v → (∀ i, 0 ≤ i → i < v → p i → q i) → zc p v ≤ zc q v := by
  apply zind
  · intro _; exact Int.le_refl _
  · intro v hv ih h
    have e := ih (fun i a b => h i a (by omega))
    by_cases g : p v
    · rw [zc_p hv g, zc_p hv (h v hv (by omega) g)]; omega
    · rw [zc_n hv g]
      by_cases g2 : q v
      · rw [zc_p hv g2]; omega
      · rw [zc_n hv g2]; omega
/-- one place more -/
theorem zc_1 {p q : Int → Prop} {y : Int} (hy : 0 ≤ y) (py : ¬ p y) (qy : q y) (hq : ∀ i, i ≠ y → (p i ↔ q i)) : ∀ v : Int, 0 ≤ v → y < v → zc q v = zc p v + 1 := by
  apply zind (P := fun v => y < v → zc q v = zc p v + 1)
  · intro h; omega
  · intro v hv ih h
    by_cases c : v = y
    · subst c
      rw [zc_n hv py, zc_p hv qy, zc_c (p := q) (q := p) v hv (fun i a b => (hq i (by omega)).symm)]
    · have e := ih (by omega)
      by_cases g : p v
      · rw [zc_p hv g, zc_p hv ((hq v c).1 g), e]
      · rw [zc_n hv g, zc_n hv (fun k => g ((hq v c).2 k)), e]
theorem zc_lt {p q : Int → Prop} {y n : Int} (hn : y < n) (hy : 0 ≤ y) (py : ¬ p y) (qy : q y) (h : ∀ i, 0 ≤ i → i < n → p i → q i) : zc p n < zc q n := by
  have e := zc_1 (p := p) (q := fun i => p i ∨ i = y) hy py (.inr rfl) (fun i c => by simp [c]) n (by omega) hn
  have l := zc_le (p := fun i => p i ∨ i = y) (q := q) n (by omega) (fun i a b c => by
    rcases c with c | c
    · exact h i a b c
    · subst c; exact qy)
  omega
theorem zc_skip {p : Int → Prop} {a : Int} (ha : 0 ≤ a) : ∀ b : Int, a ≤ b → (∀ i, a ≤ i → i < b → ¬ p i) → zc p b = zc p a := by
  intro b hb
  have : ∀ d : Int, 0 ≤ d → (∀ i, a ≤ i → i < a + d → ¬ p i) → zc p (a + d) = zc p a := by
    apply zind
    · intro _; simp
    · intro d hd ih h
      have e := ih (fun i x y => h i x (by omega))
      rw [show a + (d + 1) = (a + d) + 1 by omega, zc_n (by omega) (h (a + d) (by omega) (by omega)), e]
  intro h
  have := this (b - a) (by omega) (fun i x y => h i x (by omega))
  rw [show a + (b - a) = b by omega] at this
  exact this
theorem zc_0 {p : Int → Prop} {n : Int} (hn : 0 ≤ n) (h : ∀ i, 0 ≤ i → i < n → ¬ p i) : zc p n = 0 := (zc_skip (a := 0) (by omega) n hn h).trans (zc_z p)
theorem zc_ex {p : Int → Prop} {n : Int} (hn : 0 ≤ n) (h : 0 < zc p n) : ∃ i, 0 ≤ i ∧ i < n ∧ p i := by
  apply Classical.byContradiction
  intro c
  have := zc_0 hn (fun i a b d => c ⟨i, a, b, d⟩)
  omega
/-- the whole root -/
def zroot (s r : Int) : Prop := 0 ≤ r ∧ r * r ≤ s ∧ s < (r + 1) * (r + 1)
theorem zroot.uq {s r q : Int} (h : zroot s r) (g : zroot s q) : r = q := by
  obtain ⟨a, b, c⟩ := h
  obtain ⟨a', b', c'⟩ := g
  apply Classical.byContradiction
  intro ne
  rcases Int.lt_or_gt_of_ne ne with k | k
  · have := Int.mul_le_mul (show r + 1 ≤ q by omega) (show r + 1 ≤ q by omega) (by omega) a'
    omega
  · have := Int.mul_le_mul (show q + 1 ≤ r by omega) (show q + 1 ≤ r by omega) (by omega) a
    omega
/-- how far a piece reaches -/
def zReach (k x y b r : Int) : Prop := if k = 1 then zroot (x * x + y * y) r else if k = 2 then r = x + y + (x + y) / 2 else if k = 3 then r = x + y + (x + y) / 2 + 3 else if k = 4 then zroot (x * x + y * y) (r - b) else r = x + y
theorem zReach.uq {k x y b r q : Int} (h : zReach k x y b r) (g : zReach k x y b q) : r = q := by
  unfold zReach at h g
  split at h
  · rename_i c; simp only [c, if_true] at g; exact zroot.uq h g
  split at h
  · rename_i c c2; simp only [c2, if_true] at g; simp at g; omega
  split at h
  · rename_i c c2 c3; simp only [c3] at g; simp at g; omega
  split at h
  · rename_i c c2 c3 c4; simp only [c4] at g; simp at g; have := zroot.uq h g; omega
  · rename_i c c2 c3 c4; simp only [c, c2, c3, c4, if_false] at g; omega
theorem zsq16 {x : Int} (h0 : 0 ≤ x) (h : x ≤ 16) : 0 ≤ x * x ∧ x * x ≤ 256 := ⟨Int.mul_nonneg h0 h0, by have := Int.mul_le_mul h h h0 (by omega : (0:Int) ≤ 16); omega⟩
abbrev pr_X10_empty (a : Int) (M : zM) : Prop := (zsh a)
abbrev po_X10_empty (a : Int) (M : zM) (M' : zM) : Prop := (M' = zset (zset M a 0 0) a 2 0)
set_option maxHeartbeats 1000000 in
theorem ok_X10_empty : zSnd zS 145 0 0 yX10_empty cX10_empty 1 none 0 [2] (F_X10_empty pr_X10_empty po_X10_empty) := by
  refine (sn_X10_empty).mono ?_
  rintro xs P M hz hR ⟨a, rfl, hs, hP⟩
  refine ⟨_, rfl, ?_⟩
  change vc_X10_empty a P M
  unfold vc_X10_empty
  have o1 : zsh a := by
    first | assumption | exact trivial | rfl | omega | grind  -- o1
  refine ⟨o1, ?_⟩
  intro M2 e_M2
  intro M5 e_M5
  refine hP _ ?_
  · show M5 = zset (zset M a 0 0) a 2 0  -- p1.e
    subst e_M2; exact e_M5

abbrev pr_X10_set (a : Int) (i : Int) (v : Int) (M : zM) : Prop := (zsh a) ∧ (0 ≤ i ∧ i < 120)
abbrev po_X10_set (a : Int) (i : Int) (v : Int) (M : zM) (M' : zM) : Prop := (M' = zset M (a + 1) i (if M a 1 = 0 then Int.bmod v 256 else if M a 1 = 1 then Int.bmod v 65536 else v))
set_option maxHeartbeats 1000000 in
theorem ok_X10_set : zSnd zS 145 0 0 yX10_set cX10_set 3 none 0 [2, 0, 0] (F_X10_set pr_X10_set po_X10_set) := by
  refine (sn_X10_set).mono ?_
  rintro xs P M hz hR ⟨a, i, v, rfl, ⟨hs, hi⟩, hP⟩
  refine ⟨_, _, _, rfl, ?_⟩
  have z_i := zall_h (zall_t hz) (by decide)
  have z_v := zall_h (zall_t (zall_t hz)) (by decide)
  change vc_X10_set a i v P M
  unfold vc_X10_set
  have o1 : zsh a := by
    first | assumption | exact trivial | rfl | omega | grind  -- o1
  refine ⟨o1, ?_⟩
  refine ⟨fun b1 => ?_, fun b1 => ?_⟩
  · -- b1.1
    refine ⟨fun b2 => ?_, fun b2 => ?_⟩
    · -- b2.1
      have o2 : ((0 : Int) ≤ i ∧ i < 120) := by
        first | assumption | exact trivial | rfl | omega | grind  -- o2
      refine ⟨o2, ?_⟩
      intro M5 e_M5
      refine hP _ ?_
      · show M5 = zset M (a + 1) i (if M a 1 = 0 then Int.bmod v 256 else if M a 1 = 1 then Int.bmod v 65536 else v)  -- p1.e
        rw [e_M5, if_neg b1, if_neg b2]
    · -- b2.2
      have o3 : ((0 : Int) ≤ i ∧ i < 120) := by
        first | assumption | exact trivial | rfl | omega | grind  -- o3
      refine ⟨o3, ?_⟩
      intro M9 e_M9
      refine hP _ ?_
      · show M9 = zset M (a + 1) i (if M a 1 = 0 then Int.bmod v 256 else if M a 1 = 1 then Int.bmod v 65536 else v)  -- p2.e
        rw [e_M9, if_neg b1, if_pos b2]
  · -- b1.2
    have o4 : ((0 : Int) ≤ i ∧ i < 120) := by
      first | assumption | exact trivial | rfl | omega | grind  -- o4
    refine ⟨o4, ?_⟩
    intro M13 e_M13
    refine hP _ ?_
    · show M13 = zset M (a + 1) i (if M a 1 = 0 then Int.bmod v 256 else if M a 1 = 1 then Int.bmod v 65536 else v)  -- p3.e
      rw [e_M13, if_pos b1]

abbrev pr_X10_hasPlaces (a : Int) (i : Int) (n : Int) (M : zM) : Prop := (zsh a) ∧ (0 ≤ M a 2 ∧ M a 2 ≤ 120)
abbrev po_X10_hasPlaces (a : Int) (i : Int) (n : Int) (M : zM) (r : Int) (M' : zM) : Prop := M' = M ∧ r = if 0 ≤ i ∧ i ≤ M a 2 ∧ n ≤ M a 2 - i then 1 else 0
set_option maxHeartbeats 1000000 in
theorem ok_X10_hasPlaces : zSnd zS 145 0 0 yX10_hasPlaces cX10_hasPlaces 3 (some .boolean) 0 [2, 0, 0] (F_X10_hasPlaces pr_X10_hasPlaces po_X10_hasPlaces) := by
  refine (sn_X10_hasPlaces).mono ?_
  rintro xs P M hz hR ⟨a, i, n, rfl, ⟨hs, hn⟩, hP⟩
  refine ⟨_, _, _, rfl, ?_⟩
  have z_i := zall_h (zall_t hz) (by decide)
  have z_n := zall_h (zall_t (zall_t hz)) (by decide)
  change vc_X10_hasPlaces a i n P M
  unfold vc_X10_hasPlaces
  refine ⟨fun b1 => ?_, fun b1 => ?_⟩
  · -- b1.1
    refine hP _ _ ⟨rfl, ?_⟩
    · first | assumption | exact trivial | rfl | omega | grind  -- p1
  · -- b1.2
    have o1 : zsh a := by
      first | assumption | exact trivial | rfl | omega | grind  -- o1
    refine ⟨o1, ?_⟩
    refine ⟨fun b2 => ?_, fun b2 => ?_⟩
    · -- b2.1
      refine hP _ _ ⟨rfl, ?_⟩
      · first | assumption | exact trivial | rfl | omega | grind  -- p2
    · -- b2.2
      have o2 : zin ((M a 2) - i) := by
        first | assumption | exact trivial | rfl | omega | grind  -- o2
      refine ⟨o2, ?_⟩
      refine ⟨fun b3 => ?_, fun b3 => ?_⟩
      · -- b3.1
        refine hP _ _ ⟨rfl, ?_⟩
        · first | assumption | exact trivial | rfl | omega | grind  -- p3
      · -- b3.2
        refine hP _ _ ⟨rfl, ?_⟩
        · first | assumption | exact trivial | rfl | omega | grind  -- p4

abbrev pr_X10_holdPiece (a : Int) (k : Int) (f : Int) (x : Int) (y : Int) (b : Int) (M : zM) : Prop := (zsh a)
abbrev po_X10_holdPiece (a : Int) (k : Int) (f : Int) (x : Int) (y : Int) (b : Int) (M : zM) (M' : zM) : Prop := (M' = zset (zset (zset (zset (zset (zset (zset M a 0 1) a 2 0) a 4 k) a 5 f) a 6 x) a 7 y) a 8 b)
set_option maxHeartbeats 1000000 in
theorem ok_X10_holdPiece : zSnd zS 145 0 0 yX10_holdPiece cX10_holdPiece 6 none 0 [2, 0, 0, 0, 0, 0] (F_X10_holdPiece pr_X10_holdPiece po_X10_holdPiece) := by
  refine (sn_X10_holdPiece).mono ?_
  rintro xs P M hz hR ⟨a, k, f, x, y, b, rfl, hs, hP⟩
  refine ⟨_, _, _, _, _, _, rfl, ?_⟩
  have z_k := zall_h (zall_t hz) (by decide)
  have z_f := zall_h (zall_t (zall_t hz)) (by decide)
  have z_x := zall_h (zall_t (zall_t (zall_t hz))) (by decide)
  have z_y := zall_h (zall_t (zall_t (zall_t (zall_t hz)))) (by decide)
  have z_b := zall_h (zall_t (zall_t (zall_t (zall_t (zall_t hz))))) (by decide)
  change vc_X10_holdPiece a k f x y b P M
  unfold vc_X10_holdPiece
  have o1 : zsh a := by
    first | assumption | exact trivial | rfl | omega | grind  -- o1
  refine ⟨o1, ?_⟩
  intro M2 e_M2
  intro M5 e_M5
  intro M8 e_M8
  intro M11 e_M11
  intro M14 e_M14
  intro M17 e_M17
  intro M20 e_M20
  refine hP _ ?_
  · show M20 = zset (zset (zset (zset (zset (zset (zset M a 0 1) a 2 0) a 4 k) a 5 f) a 6 x) a 7 y) a 8 b  -- p1.e
    subst e_M2 e_M5 e_M8 e_M11 e_M14 e_M17; exact e_M20

abbrev pr_X10_straightReach (a : Int) (M : zM) : Prop := (zsh a) ∧ (0 ≤ M a 6 ∧ M a 6 ≤ 16) ∧ (0 ≤ M a 7 ∧ M a 7 ≤ 12)
abbrev po_X10_straightReach (a : Int) (M : zM) (r : Int) (M' : zM) : Prop := (M' = M) ∧ (zroot (M a 6 * M a 6 + M a 7 * M a 7) r)
set_option maxHeartbeats 1000000 in
theorem ok_X10_straightReach : zSnd zS 145 0 0 yX10_straightReach cX10_straightReach 4 (some .int) 0 [2] (F_X10_straightReach pr_X10_straightReach po_X10_straightReach) := by
  refine (sn_X10_straightReach).mono ?_
  rintro xs P M hz hR ⟨a, rfl, ⟨hs, h6, h7⟩, hP⟩
  refine ⟨_, rfl, ?_⟩
  change vc_X10_straightReach a P M
  unfold vc_X10_straightReach
  have q6 := zsq16 h6.1 h6.2
  have q7 := zsq16 h7.1 (by omega)
  have o1 : zsh a := by
    first | assumption | exact trivial | rfl | omega | grind  -- o1
  refine ⟨o1, ?_⟩
  refine ⟨fun v2 v3 n6 => (n6 : Int) = (29 - v3) ∧ (1 ≤ v3 ∧ v3 ≤ 29) ∧ (v2 = v3 - 1) ∧ (v2 * v2 ≤ M a 6 * M a 6 + M a 7 * M a 7), ⟨Int.toNat (29 - 1), by omega, ?_, ?_, ?_⟩, ?_⟩
  · show 1 ≤ 1 ∧ 1 ≤ 29  -- I24.0.hv
    first | assumption | exact trivial | rfl | omega | grind
  · show 0 = 1 - 1  -- I24.0.h2
    first | assumption | exact trivial | rfl | omega | grind
  · show 0 * 0 ≤ M a 6 * M a 6 + M a 7 * M a 7  -- I24.0.hq
    first | assumption | exact trivial | rfl | omega | grind
  rintro v2 v3 n6 ⟨h_n6, hv, h2, hq⟩ z_v2 z_v3
  refine ⟨fun b1 => ?_, fun b1 => ?_⟩
  · -- b1.1
    refine hP _ _ ⟨?_, ?_⟩
    · show M = M  -- p1.rfl
      first | assumption | exact trivial | rfl | omega | grind
    · show zroot (M a 6 * M a 6 + M a 7 * M a 7) v2  -- p1.hr
      have e : v2 = 28 := by omega
      subst e
      omega
  · -- b1.2
    have o2 : zin (v3 * v3) := by
      have := Int.mul_le_mul hv.2 hv.2 (by omega) (by omega : (0:Int) ≤ 29)
      have := Int.mul_nonneg (show 0 ≤ v3 by omega) (show 0 ≤ v3 by omega)
      omega
    refine ⟨o2, ?_⟩
    have o3 : zin (((M a 6) * (M a 6)) + ((M a 7) * (M a 7))) := by
      first | assumption | exact trivial | rfl | omega | grind  -- o3
    refine ⟨o3, ?_⟩
    refine ⟨fun b2 => ?_, fun b2 => ?_⟩
    · -- b2.1
      refine hP _ _ ⟨?_, ?_⟩
      · show M = M  -- p2.rfl
        first | assumption | exact trivial | rfl | omega | grind
      · show zroot (M a 6 * M a 6 + M a 7 * M a 7) v2  -- p2.hr
        refine ⟨by omega, hq, ?_⟩
        rw [h2, show v3 - 1 + 1 = v3 by omega]
        exact b2
    · -- b2.2
      have o4 : zin (v3 + 1) := by
        first | assumption | exact trivial | rfl | omega | grind  -- o4
      refine ⟨o4, ?_⟩
      refine ⟨Int.toNat (29 - (v3 + 1)), by omega, by omega, ?_, ?_, ?_⟩
      · show 1 ≤ (v3 + 1) ∧ (v3 + 1) ≤ 29  -- I24.1.hv
        first | assumption | exact trivial | rfl | omega | grind
      · show v3 = (v3 + 1) - 1  -- I24.1.h2
        omega
      · show v3 * v3 ≤ M a 6 * M a 6 + M a 7 * M a 7  -- I24.1.hq
        subst h2; omega

abbrev pr_X10_pieceReach (a : Int) (M : zM) : Prop := (zsh a) ∧ (0 ≤ M a 6 ∧ M a 6 ≤ 16) ∧ (0 ≤ M a 7 ∧ M a 7 ≤ 12) ∧ (0 ≤ M a 8 ∧ M a 8 ≤ 16)
abbrev po_X10_pieceReach (a : Int) (M : zM) (r : Int) (M' : zM) : Prop := (M' = M) ∧ (zReach (M a 4) (M a 6) (M a 7) (M a 8) r)
set_option maxHeartbeats 1000000 in
theorem ok_X10_pieceReach : zSnd zS 145 0 0 yX10_pieceReach cX10_pieceReach 2 (some .int) 1 [2] (F_X10_pieceReach pr_X10_pieceReach po_X10_pieceReach) := by
  refine (sn_X10_pieceReach ok_X10_straightReach).mono ?_
  rintro xs P M hz hR ⟨a, rfl, ⟨hs, h6, h7, h8⟩, hP⟩
  refine ⟨_, rfl, ?_⟩
  change vc_X10_pieceReach pr_X10_straightReach po_X10_straightReach a P M
  unfold vc_X10_pieceReach
  have q6 := zsq16 h6.1 h6.2
  have q7 := zsq16 h7.1 (by omega)
  have o1 : zsh a := by
    first | assumption | exact trivial | rfl | omega | grind  -- o1
  refine ⟨o1, ?_⟩
  refine ⟨fun b1 => ?_, fun b1 => ?_⟩
  · -- b1.1
    have gc1 : pr_X10_straightReach a M := by
      refine ⟨?_, ?_, ?_⟩
      · show zsh a  -- c1.hs
        first | assumption | exact trivial | rfl | omega | grind
      · show 0 ≤ M a 6 ∧ M a 6 ≤ 16  -- c1.h6
        first | assumption | exact trivial | rfl | omega | grind
      · show 0 ≤ M a 7 ∧ M a 7 ≤ 12  -- c1.h7
        first | assumption | exact trivial | rfl | omega | grind
    refine ⟨gc1, ?_⟩
    rintro r2 M3 ⟨q_rfl, pc1_hr⟩ z_r2 z_M3
    have q_rfl := q_rfl.symm
    subst q_rfl
    refine hP _ _ ⟨?_, ?_⟩
    · show M = M  -- p1.rfl
      first | assumption | exact trivial | rfl | omega | grind
    · show zReach (M a 4) (M a 6) (M a 7) (M a 8) r2  -- p1.hr
      unfold zReach
      rw [if_pos b1]
      exact pc1_hr
  · -- b1.2
    refine ⟨fun b2 => ?_, fun b2 => ?_⟩
    · -- b2.1
      have o2 : zin ((M a 6) + (M a 7)) := by
        first | assumption | exact trivial | rfl | omega | grind  -- o2
      refine ⟨o2, ?_⟩
      have o3 : 0 ≤ ((M a 6) + (M a 7)) := by
        first | assumption | exact trivial | rfl | omega | grind  -- o3
      refine ⟨o3, ?_⟩
      have o4 : zin (((M a 6) + (M a 7)) + (((M a 6) + (M a 7)) / 2)) := by
        first | assumption | exact trivial | rfl | omega | grind  -- o4
      refine ⟨o4, ?_⟩
      refine hP _ _ ⟨?_, ?_⟩
      · show M = M  -- p2.rfl
        first | assumption | exact trivial | rfl | omega | grind
      · show zReach (M a 4) (M a 6) (M a 7) (M a 8) (((M a 6) + (M a 7)) + (((M a 6) + (M a 7)) / 2))  -- p2.hr
        unfold zReach
        rw [if_neg b1, if_pos b2]
    · -- b2.2
      refine ⟨fun b3 => ?_, fun b3 => ?_⟩
      · -- b3.1
        have o5 : zin ((M a 6) + (M a 7)) := by
          first | assumption | exact trivial | rfl | omega | grind  -- o5
        refine ⟨o5, ?_⟩
        have o6 : 0 ≤ ((M a 6) + (M a 7)) := by
          first | assumption | exact trivial | rfl | omega | grind  -- o6
        refine ⟨o6, ?_⟩
        have o7 : zin ((((M a 6) + (M a 7)) + (((M a 6) + (M a 7)) / 2)) + 3) := by
          first | assumption | exact trivial | rfl | omega | grind  -- o7
        refine ⟨o7, ?_⟩
        refine hP _ _ ⟨?_, ?_⟩
        · show M = M  -- p3.rfl
          first | assumption | exact trivial | rfl | omega | grind
        · show zReach (M a 4) (M a 6) (M a 7) (M a 8) ((((M a 6) + (M a 7)) + (((M a 6) + (M a 7)) / 2)) + 3)  -- p3.hr
          unfold zReach
          rw [if_neg b1, if_neg b2, if_pos b3]
      · -- b3.2
        refine ⟨fun b4 => ?_, fun b4 => ?_⟩
        · -- b4.1
          have gc2 : pr_X10_straightReach a M := by
            refine ⟨?_, ?_, ?_⟩
            · show zsh a  -- c2.hs
              first | assumption | exact trivial | rfl | omega | grind
            · show 0 ≤ M a 6 ∧ M a 6 ≤ 16  -- c2.h6
              first | assumption | exact trivial | rfl | omega | grind
            · show 0 ≤ M a 7 ∧ M a 7 ≤ 12  -- c2.h7
              first | assumption | exact trivial | rfl | omega | grind
          refine ⟨gc2, ?_⟩
          rintro r14 M15 ⟨q_rfl, pc2_hr⟩ z_r14 z_M15
          have q_rfl := q_rfl.symm
          subst q_rfl
          have o8 : zin (r14 + (M a 8)) := by
            obtain ⟨x1, x2, x3⟩ := pc2_hr
            have : r14 ≤ 40 := by
              apply Classical.byContradiction
              intro c
              have := Int.mul_le_mul (show 40 ≤ r14 by omega) (show 40 ≤ r14 by omega) (by omega) x1
              omega
            omega
          refine ⟨o8, ?_⟩
          refine hP _ _ ⟨?_, ?_⟩
          · show M = M  -- p4.rfl
            first | assumption | exact trivial | rfl | omega | grind
          · show zReach (M a 4) (M a 6) (M a 7) (M a 8) (r14 + (M a 8))  -- p4.hr
            unfold zReach
            rw [if_neg b1, if_neg b2, if_neg b3, if_pos b4, show r14 + M a 8 - M a 8 = r14 by omega]
            exact pc2_hr
        · -- b4.2
          have o9 : zin ((M a 6) + (M a 7)) := by
            first | assumption | exact trivial | rfl | omega | grind  -- o9
          refine ⟨o9, ?_⟩
          refine hP _ _ ⟨?_, ?_⟩
          · show M = M  -- p5.rfl
            first | assumption | exact trivial | rfl | omega | grind
          · show zReach (M a 4) (M a 6) (M a 7) (M a 8) ((M a 6) + (M a 7))  -- p5.hr
            unfold zReach
            rw [if_neg b1, if_neg b2, if_neg b3, if_neg b4]

abbrev pr_X10_pieceFailure (a : Int) (M : zM) : Prop := (zsh a) ∧ (0 ≤ M a 5 ∧ M a 5 ≤ 192)
abbrev po_X10_pieceFailure (a : Int) (M : zM) (r : Int) (M' : zM) : Prop := M' = M ∧ r = if M a 4 = 1 ∨ (M a 6 = 0 ∧ M a 7 = 0) then -15 else if M a 4 = 4 then M a 8 else if M a 4 = 3 then M a 5 + 100 else M a 5
set_option maxHeartbeats 1000000 in
theorem ok_X10_pieceFailure : zSnd zS 145 0 0 yX10_pieceFailure cX10_pieceFailure 1 (some .int) 0 [2] (F_X10_pieceFailure pr_X10_pieceFailure po_X10_pieceFailure) := by
  refine (sn_X10_pieceFailure).mono ?_
  rintro xs P M hz hR ⟨a, rfl, ⟨hs, h5⟩, hP⟩
  refine ⟨_, rfl, ?_⟩
  change vc_X10_pieceFailure a P M
  unfold vc_X10_pieceFailure
  have o1 : zsh a := by
    first | assumption | exact trivial | rfl | omega | grind  -- o1
  refine ⟨o1, ?_⟩
  refine ⟨fun b1 => ?_, fun b1 => ?_⟩
  · -- b1.1
    refine hP _ _ ⟨rfl, ?_⟩
    · first | assumption | exact trivial | rfl | omega | grind  -- p1
  · -- b1.2
    intro K25 h_K25
    refine ⟨fun b2 => ?_, fun b2 => ?_⟩
    · -- b2.1
      refine h_K25 ?_
      refine ⟨fun b3 => ?_, fun b3 => ?_⟩
      · -- b3.1
        refine ⟨fun b4 => ?_, fun b4 => ?_⟩
        · -- b4.1
          refine hP _ _ ⟨rfl, ?_⟩
          · first | assumption | exact trivial | rfl | omega | grind  -- p2
        · -- b4.2
          have o2 : zin ((M a 5) + 100) := by
            first | assumption | exact trivial | rfl | omega | grind  -- o2
          refine ⟨o2, ?_⟩
          refine hP _ _ ⟨rfl, ?_⟩
          · first | assumption | exact trivial | rfl | omega | grind  -- p3
      · -- b3.2
        refine hP _ _ ⟨rfl, ?_⟩
        · first | assumption | exact trivial | rfl | omega | grind  -- p4
    · -- b2.2
      refine ⟨fun b5 => ?_, fun b5 => ?_⟩
      · -- b5.1
        refine h_K25 ?_
        refine ⟨fun b6 => ?_, fun b6 => ?_⟩
        · -- b6.1
          refine ⟨fun b7 => ?_, fun b7 => ?_⟩
          · -- b7.1
            refine hP _ _ ⟨rfl, ?_⟩
            · first | assumption | exact trivial | rfl | omega | grind  -- p5
          · -- b7.2
            have o3 : zin ((M a 5) + 100) := by
              first | assumption | exact trivial | rfl | omega | grind  -- o3
            refine ⟨o3, ?_⟩
            refine hP _ _ ⟨rfl, ?_⟩
            · first | assumption | exact trivial | rfl | omega | grind  -- p6
        · -- b6.2
          refine hP _ _ ⟨rfl, ?_⟩
          · first | assumption | exact trivial | rfl | omega | grind  -- p7
      · -- b5.2
        refine hP _ _ ⟨rfl, ?_⟩
        · first | assumption | exact trivial | rfl | omega | grind  -- p8

abbrev pr_X11_shelfAt (d : Int) (M : zM) : Prop := True
abbrev po_X11_shelfAt (d : Int) (M : zM) (r : Int) (M' : zM) : Prop := M' = M ∧ r = if 0 ≤ d ∧ d < 8 then 26 + 2 * d else -1
set_option maxHeartbeats 1000000 in
theorem ok_X11_shelfAt : zSnd zS 145 0 0 yX11_shelfAt cX11_shelfAt 2 (some (.object "DotLines$Shelf")) 0 [2, 0] (F_X11_shelfAt pr_X11_shelfAt po_X11_shelfAt) := by
  refine (sn_X11_shelfAt).mono ?_
  rintro xs P M hz hR ⟨d, rfl, _, hP⟩
  refine ⟨_, rfl, ?_⟩
  have z_d := zall_h (zall_t hz) (by decide)
  change vc_X11_shelfAt d P M
  unfold vc_X11_shelfAt
  refine ⟨fun b1 => ?_, fun b1 => ?_⟩
  · -- b1.1
    refine hP _ _ ⟨rfl, ?_⟩
    · first | assumption | exact trivial | rfl | omega | grind  -- p1
  · -- b1.2
    refine ⟨fun b2 => ?_, fun b2 => ?_⟩
    · -- b2.1
      refine hP _ _ ⟨rfl, ?_⟩
      · first | assumption | exact trivial | rfl | omega | grind  -- p2
    · -- b2.2
      have o1 : ((0 : Int) ≤ d ∧ d < 8) := by
        first | assumption | exact trivial | rfl | omega | grind  -- o1
      refine ⟨o1, ?_⟩
      refine hP _ _ ⟨rfl, ?_⟩
      · first | assumption | exact trivial | rfl | omega | grind  -- p3

abbrev pr_X11_refusalOfText (d : Int) (M : zM) : Prop := True
abbrev po_X11_refusalOfText (d : Int) (M : zM) (r : Int) (M' : zM) : Prop := M' = M ∧ r = if 0 ≤ d ∧ d < 8 then (if M (26 + 2 * d) 0 = 0 then -11 else if M (26 + 2 * d) 0 = 2 ∧ M (26 + 2 * d) 1 = 0 then 0 else -12) else -1
set_option maxHeartbeats 1000000 in
theorem ok_X11_refusalOfText : zSnd zS 145 0 0 yX11_refusalOfText cX11_refusalOfText 3 (some .int) 1 [2, 0] (F_X11_refusalOfText pr_X11_refusalOfText po_X11_refusalOfText) := by
  refine (sn_X11_refusalOfText ok_X11_shelfAt).mono ?_
  rintro xs P M hz hR ⟨d, rfl, _, hP⟩
  refine ⟨_, rfl, ?_⟩
  have z_d := zall_h (zall_t hz) (by decide)
  change vc_X11_refusalOfText pr_X11_shelfAt po_X11_shelfAt d P M
  unfold vc_X11_refusalOfText
  have gc1 : pr_X11_shelfAt d M := trivial
  refine ⟨gc1, ?_⟩
  rintro r1 M2 ⟨q_rfl, e_r1⟩ z_r1 z_M2
  have q_rfl := q_rfl.symm
  subst q_rfl
  refine ⟨fun b1 => ?_, fun b1 => ?_⟩
  · -- b1.1
    have o1 : zsh r1 := by
      exact ⟨d, by grind, by grind, by grind⟩
    refine ⟨o1, ?_⟩
    refine ⟨fun b2 => ?_, fun b2 => ?_⟩
    · -- b2.1
      refine ⟨fun b3 => ?_, fun b3 => ?_⟩
      · -- b3.1
        refine hP _ _ ⟨rfl, ?_⟩
        · first | assumption | exact trivial | rfl | omega | grind  -- p1
      · -- b3.2
        refine ⟨fun b4 => ?_, fun b4 => ?_⟩
        · -- b4.1
          refine hP _ _ ⟨rfl, ?_⟩
          · first | assumption | exact trivial | rfl | omega | grind  -- p2
        · -- b4.2
          refine hP _ _ ⟨rfl, ?_⟩
          · first | assumption | exact trivial | rfl | omega | grind  -- p3
    · -- b2.2
      refine hP _ _ ⟨rfl, ?_⟩
      · first | assumption | exact trivial | rfl | omega | grind  -- p4
  · -- b1.2
    refine hP _ _ ⟨rfl, ?_⟩
    · first | assumption | exact trivial | rfl | omega | grind  -- p5

abbrev pr_X11_refusalOfPiece (d : Int) (M : zM) : Prop := True
abbrev po_X11_refusalOfPiece (d : Int) (M : zM) (r : Int) (M' : zM) : Prop := M' = M ∧ r = if 0 ≤ d ∧ d < 8 then (if M (26 + 2 * d) 0 = 0 then -11 else if M (26 + 2 * d) 0 = 1 then 0 else -12) else -1
set_option maxHeartbeats 1000000 in
theorem ok_X11_refusalOfPiece : zSnd zS 145 0 0 yX11_refusalOfPiece cX11_refusalOfPiece 3 (some .int) 1 [2, 0] (F_X11_refusalOfPiece pr_X11_refusalOfPiece po_X11_refusalOfPiece) := by
  refine (sn_X11_refusalOfPiece ok_X11_shelfAt).mono ?_
  rintro xs P M hz hR ⟨d, rfl, _, hP⟩
  refine ⟨_, rfl, ?_⟩
  have z_d := zall_h (zall_t hz) (by decide)
  change vc_X11_refusalOfPiece pr_X11_shelfAt po_X11_shelfAt d P M
  unfold vc_X11_refusalOfPiece
  have gc1 : pr_X11_shelfAt d M := trivial
  refine ⟨gc1, ?_⟩
  rintro r1 M2 ⟨q_rfl, e_r1⟩ z_r1 z_M2
  have q_rfl := q_rfl.symm
  subst q_rfl
  refine ⟨fun b1 => ?_, fun b1 => ?_⟩
  · -- b1.1
    have o1 : zsh r1 := by
      exact ⟨d, by grind, by grind, by grind⟩
    refine ⟨o1, ?_⟩
    refine ⟨fun b2 => ?_, fun b2 => ?_⟩
    · -- b2.1
      refine ⟨fun b3 => ?_, fun b3 => ?_⟩
      · -- b3.1
        refine hP _ _ ⟨rfl, ?_⟩
        · first | assumption | exact trivial | rfl | omega | grind  -- p1
      · -- b3.2
        refine hP _ _ ⟨rfl, ?_⟩
        · first | assumption | exact trivial | rfl | omega | grind  -- p2
    · -- b2.2
      refine hP _ _ ⟨rfl, ?_⟩
      · first | assumption | exact trivial | rfl | omega | grind  -- p3
  · -- b1.2
    refine hP _ _ ⟨rfl, ?_⟩
    · first | assumption | exact trivial | rfl | omega | grind  -- p4

abbrev pr_X12_lacks (d : Int) (M : zM) : Prop := True
abbrev po_X12_lacks (d : Int) (M : zM) (r : Int) (M' : zM) : Prop := M' = M ∧ r = if 0 ≤ d ∧ d < 8 then (if M 134 d = 0 then -11 else if M 134 d = 2 ∧ M 140 d = 0 then 0 else -12) else -1
set_option maxHeartbeats 1000000 in
theorem ok_X12_lacks : zSnd zS 145 0 0 yX12_lacks cX12_lacks 2 (some .int) 1 [2, 0] (F_X12_lacks pr_X12_lacks po_X12_lacks) := by
  refine (sn_X12_lacks ok_X12_in).mono ?_
  rintro xs P M hz hR ⟨d, rfl, _, hP⟩
  refine ⟨_, rfl, ?_⟩
  have z_d := zall_h (zall_t hz) (by decide)
  change vc_X12_lacks pr_X12_in po_X12_in d P M
  unfold vc_X12_lacks
  have gc1 : pr_X12_in d 0 7 M := trivial
  refine ⟨gc1, ?_⟩
  rintro r1 M2 ⟨q_rfl, e_r1⟩ z_r1 z_M2
  have q_rfl := q_rfl.symm
  subst q_rfl
  refine ⟨fun b1 => ?_, fun b1 => ?_⟩
  · -- b1.1
    have o1 : ((0 : Int) ≤ d ∧ d < 8) := by
      first | assumption | exact trivial | rfl | omega | grind  -- o1
    refine ⟨o1, ?_⟩
    refine ⟨fun b2 => ?_, fun b2 => ?_⟩
    · -- b2.1
      refine ⟨fun b3 => ?_, fun b3 => ?_⟩
      · -- b3.1
        refine hP _ _ ⟨rfl, ?_⟩
        · first | assumption | exact trivial | rfl | omega | grind  -- p1
      · -- b3.2
        refine ⟨fun b4 => ?_, fun b4 => ?_⟩
        · -- b4.1
          refine hP _ _ ⟨rfl, ?_⟩
          · first | assumption | exact trivial | rfl | omega | grind  -- p2
        · -- b4.2
          refine hP _ _ ⟨rfl, ?_⟩
          · first | assumption | exact trivial | rfl | omega | grind  -- p3
    · -- b2.2
      refine hP _ _ ⟨rfl, ?_⟩
      · first | assumption | exact trivial | rfl | omega | grind  -- p4
  · -- b1.2
    refine hP _ _ ⟨rfl, ?_⟩
    · first | assumption | exact trivial | rfl | omega | grind  -- p5

abbrev pr_X12_wrongRow (d : Int) (M : zM) : Prop := True
abbrev po_X12_wrongRow (d : Int) (M : zM) (r : Int) (M' : zM) : Prop := M' = M ∧ r = if 0 ≤ d ∧ d < 8 then (if M 134 d = 0 then -11 else if M 134 d = 2 then 0 else -12) else -1
set_option maxHeartbeats 1000000 in
theorem ok_X12_wrongRow : zSnd zS 145 0 0 yX12_wrongRow cX12_wrongRow 2 (some .int) 1 [2, 0] (F_X12_wrongRow pr_X12_wrongRow po_X12_wrongRow) := by
  refine (sn_X12_wrongRow ok_X12_in).mono ?_
  rintro xs P M hz hR ⟨d, rfl, _, hP⟩
  refine ⟨_, rfl, ?_⟩
  have z_d := zall_h (zall_t hz) (by decide)
  change vc_X12_wrongRow pr_X12_in po_X12_in d P M
  unfold vc_X12_wrongRow
  have gc1 : pr_X12_in d 0 7 M := trivial
  refine ⟨gc1, ?_⟩
  rintro r1 M2 ⟨q_rfl, e_r1⟩ z_r1 z_M2
  have q_rfl := q_rfl.symm
  subst q_rfl
  refine ⟨fun b1 => ?_, fun b1 => ?_⟩
  · -- b1.1
    have o1 : ((0 : Int) ≤ d ∧ d < 8) := by
      first | assumption | exact trivial | rfl | omega | grind  -- o1
    refine ⟨o1, ?_⟩
    refine ⟨fun b2 => ?_, fun b2 => ?_⟩
    · -- b2.1
      refine ⟨fun b3 => ?_, fun b3 => ?_⟩
      · -- b3.1
        refine hP _ _ ⟨rfl, ?_⟩
        · first | assumption | exact trivial | rfl | omega | grind  -- p1
      · -- b3.2
        refine hP _ _ ⟨rfl, ?_⟩
        · first | assumption | exact trivial | rfl | omega | grind  -- p2
    · -- b2.2
      refine hP _ _ ⟨rfl, ?_⟩
      · first | assumption | exact trivial | rfl | omega | grind  -- p3
  · -- b1.2
    refine hP _ _ ⟨rfl, ?_⟩
    · first | assumption | exact trivial | rfl | omega | grind  -- p4

abbrev pr_X12_wrongShelf (d : Int) (M : zM) : Prop := True
abbrev po_X12_wrongShelf (d : Int) (M : zM) (r : Int) (M' : zM) : Prop := M' = M ∧ r = if 0 ≤ d ∧ d < 8 then (if M 134 d = 0 then -11 else if M 134 d = 2 then -12 else 0) else -1
set_option maxHeartbeats 1000000 in
theorem ok_X12_wrongShelf : zSnd zS 145 0 0 yX12_wrongShelf cX12_wrongShelf 2 (some .int) 1 [2, 0] (F_X12_wrongShelf pr_X12_wrongShelf po_X12_wrongShelf) := by
  refine (sn_X12_wrongShelf ok_X12_in).mono ?_
  rintro xs P M hz hR ⟨d, rfl, _, hP⟩
  refine ⟨_, rfl, ?_⟩
  have z_d := zall_h (zall_t hz) (by decide)
  change vc_X12_wrongShelf pr_X12_in po_X12_in d P M
  unfold vc_X12_wrongShelf
  have gc1 : pr_X12_in d 0 7 M := trivial
  refine ⟨gc1, ?_⟩
  rintro r1 M2 ⟨q_rfl, e_r1⟩ z_r1 z_M2
  have q_rfl := q_rfl.symm
  subst q_rfl
  refine ⟨fun b1 => ?_, fun b1 => ?_⟩
  · -- b1.1
    have o1 : ((0 : Int) ≤ d ∧ d < 8) := by
      first | assumption | exact trivial | rfl | omega | grind  -- o1
    refine ⟨o1, ?_⟩
    refine ⟨fun b2 => ?_, fun b2 => ?_⟩
    · -- b2.1
      refine ⟨fun b3 => ?_, fun b3 => ?_⟩
      · -- b3.1
        refine hP _ _ ⟨rfl, ?_⟩
        · first | assumption | exact trivial | rfl | omega | grind  -- p1
      · -- b3.2
        refine hP _ _ ⟨rfl, ?_⟩
        · first | assumption | exact trivial | rfl | omega | grind  -- p2
    · -- b2.2
      refine hP _ _ ⟨rfl, ?_⟩
      · first | assumption | exact trivial | rfl | omega | grind  -- p3
  · -- b1.2
    refine hP _ _ ⟨rfl, ?_⟩
    · first | assumption | exact trivial | rfl | omega | grind  -- p4

abbrev pr_X12_narrowed (v : Int) (s : Int) (M : zM) : Prop := True
abbrev po_X12_narrowed (v : Int) (s : Int) (M : zM) (r : Int) (M' : zM) : Prop := M' = M ∧ r = if s = 0 then Int.bmod v 256 else if s = 1 then Int.bmod v 65536 else v
set_option maxHeartbeats 1000000 in
theorem ok_X12_narrowed : zSnd zS 145 0 0 yX12_narrowed cX12_narrowed 2 (some .long) 0 [0, 0] (F_X12_narrowed pr_X12_narrowed po_X12_narrowed) := by
  refine (sn_X12_narrowed).mono ?_
  rintro xs P M hz hR ⟨v, s, rfl, _, hP⟩
  refine ⟨_, _, rfl, ?_⟩
  have z_v := zall_h hz (by decide)
  have z_s := zall_h (zall_t hz) (by decide)
  change vc_X12_narrowed v s P M
  unfold vc_X12_narrowed
  refine ⟨fun b1 => ?_, fun b1 => ?_⟩
  · -- b1.1
    refine ⟨fun b2 => ?_, fun b2 => ?_⟩
    · -- b2.1
      refine hP _ _ ⟨rfl, ?_⟩
      · first | assumption | exact trivial | rfl | omega | grind  -- p1
    · -- b2.2
      refine hP _ _ ⟨rfl, ?_⟩
      · first | assumption | exact trivial | rfl | omega | grind  -- p2
  · -- b1.2
    refine hP _ _ ⟨rfl, ?_⟩
    · first | assumption | exact trivial | rfl | omega | grind  -- p3

abbrev pr_X12_root (s : Int) (M : zM) : Prop := (0 ≤ s ∧ s ≤ 512)
abbrev po_X12_root (s : Int) (M : zM) (r : Int) (M' : zM) : Prop := (M' = M) ∧ (zroot s r)
set_option maxHeartbeats 1000000 in
theorem ok_X12_root : zSnd zS 145 0 0 yX12_root cX12_root 2 (some .int) 0 [0] (F_X12_root pr_X12_root po_X12_root) := by
  refine (sn_X12_root).mono ?_
  rintro xs P M hz hR ⟨s, rfl, h, hP⟩
  refine ⟨_, rfl, ?_⟩
  have z_s := zall_h hz (by decide)
  change vc_X12_root s P M
  unfold vc_X12_root
  refine ⟨fun v1 n3 => (n3 : Int) = (30 - v1) ∧ (0 ≤ v1 ∧ v1 ≤ 23) ∧ (v1 * v1 ≤ s), ⟨Int.toNat (30 - 0), by omega, ?_, ?_⟩, ?_⟩
  · show 0 ≤ 0 ∧ 0 ≤ 23  -- I2.0.hv
    first | assumption | exact trivial | rfl | omega | grind
  · show 0 * 0 ≤ s  -- I2.0.hq
    first | assumption | exact trivial | rfl | omega | grind
  rintro v1 n3 ⟨h_n3, hv, hq⟩ z_v1
  have o1 : zin ((v1 + 1) * (v1 + 1)) := by
    have := Int.mul_le_mul (show v1 + 1 ≤ 24 by omega) (show v1 + 1 ≤ 24 by omega) (by omega) (by omega : (0:Int) ≤ 24)
    have := Int.mul_nonneg (show 0 ≤ v1 + 1 by omega) (show 0 ≤ v1 + 1 by omega)
    omega
  refine ⟨o1, ?_⟩
  refine ⟨fun b1 => ?_, fun b1 => ?_⟩
  · -- b1.1
    refine hP _ _ ⟨?_, ?_⟩
    · show M = M  -- p1.rfl
      first | assumption | exact trivial | rfl | omega | grind
    · show zroot s v1  -- p1.hr
      exact ⟨hv.1, hq, b1⟩
  · -- b1.2
    have o2 : zin (v1 + 1) := by
      first | assumption | exact trivial | rfl | omega | grind  -- o2
    refine ⟨o2, ?_⟩
    refine ⟨Int.toNat (30 - (v1 + 1)), by omega, by omega, ?_, ?_⟩
    · show 0 ≤ (v1 + 1) ∧ (v1 + 1) ≤ 23  -- I2.1.hv
      have : ¬ 23 ≤ v1 := by
        intro c
        have e : v1 = 23 := by omega
        subst e
        omega
      omega
    · show (v1 + 1) * (v1 + 1) ≤ s  -- I2.1.hq
      first | assumption | exact trivial | rfl | omega | grind

theorem zia_k {c : Int} (h : zai zS 145 c 14 (zln c) = true) : zia c := h
theorem zsh_i {a : Int} (h : zsh a) : zia (a + 1) := zsh_8 (p := fun c => zia (c + 1)) (zia_k (by decide +kernel)) (zia_k (by decide +kernel)) (zia_k (by decide +kernel)) (zia_k (by decide +kernel)) (zia_k (by decide +kernel)) (zia_k (by decide +kernel)) (zia_k (by decide +kernel)) (zia_k (by decide +kernel)) h
theorem zsh_l {a : Int} (h : zsh a) : zlni (a + 1) = 120 := zsh_8 (p := fun c => zlni (c + 1) = 120) rfl rfl rfl rfl rfl rfl rfl rfl h
abbrev pr_J7_fill_53178 (a : Int) (v : Int) (M : zM) : Prop := (zia a) ∧ (zin v)
abbrev po_J7_fill_53178 (a : Int) (v : Int) (M : zM) (M' : zM) : Prop := (∀ i, 0 ≤ i → i < zlni a → M' a i = v) ∧ (∀ c i, (c ≠ a ∨ i < 0 ∨ zlni a ≤ i) → M' c i = M c i)
set_option maxHeartbeats 1000000 in
theorem ok_J7_fill_53178 : zSnd zS 145 0 0 yJ7_fill_53178 cJ7_fill_53178 4 none 0 [2, 0] (F_J7_fill_53178 pr_J7_fill_53178 po_J7_fill_53178) := by
  refine (sn_J7_fill_53178).mono ?_
  rintro xs P M hz hR ⟨a, v, rfl, ⟨ha, hv⟩, hP⟩
  refine ⟨_, _, rfl, ?_⟩
  have z_v := zall_h (zall_t hz) (by decide)
  change vc_J7_fill_53178 a v P M
  unfold vc_J7_fill_53178
  have hl : 0 ≤ zlni a := by unfold zlni; omega
  have hl2 : ((zln a : Nat) : Int) = zlni a := rfl
  have hz2 := zln_z ha
  have o1 : zia a := by
    first | assumption | exact trivial | rfl | omega | grind  -- o1
  refine ⟨o1, ?_⟩
  refine ⟨fun v2 M4 n6 => (n6 : Int) = (zlni a - v2) ∧ (0 ≤ v2 ∧ v2 ≤ zlni a) ∧ (∀ i, 0 ≤ i → i < v2 → M4 a i = v) ∧ (∀ c i, (c ≠ a ∨ i < 0 ∨ zlni a ≤ i) → M4 c i = M c i), ⟨Int.toNat (zlni a - 0), by omega, ?_, ?_, ?_⟩, ?_⟩
  · show 0 ≤ 0 ∧ 0 ≤ zlni a  -- I5.0.hv2
    first | assumption | exact trivial | rfl | omega | grind
  · show ∀ i, 0 ≤ i → i < 0 → M a i = v  -- I5.0.hi
    first | assumption | exact trivial | rfl | omega | grind
  · show ∀ c i, (c ≠ a ∨ i < 0 ∨ zlni a ≤ i) → M c i = M c i  -- I5.0.hf
    first | assumption | exact trivial | rfl | omega | grind
  rintro v2 M4 n6 ⟨h_n6, hv2, hi, hf⟩ z_v2 z_M4
  refine ⟨fun b1 => ?_, fun b1 => ?_⟩
  · -- b1.1
    refine hP _ ⟨?_, ?_⟩
    · show ∀ i, 0 ≤ i → i < zlni a → M4 a i = v  -- p1.hi
      first | assumption | exact trivial | rfl | omega | grind
    · show ∀ c i, (c ≠ a ∨ i < 0 ∨ zlni a ≤ i) → M4 c i = M c i  -- p1.hf
      first | assumption | exact trivial | rfl | omega | grind
  · -- b1.2
    have o2 : ((0 : Int) ≤ v2 ∧ v2 < (zln a)) := by
      first | assumption | exact trivial | rfl | omega | grind  -- o2
    refine ⟨o2, ?_⟩
    intro M15 e_M15
    have o3 : zin (v2 + 1) := by
      have := hz2.2; omega
    refine ⟨o3, ?_⟩
    refine ⟨Int.toNat (zlni a - (v2 + 1)), by omega, by omega, ?_, ?_, ?_⟩
    · show 0 ≤ (v2 + 1) ∧ (v2 + 1) ≤ zlni a  -- I5.1.hv2
      first | assumption | exact trivial | rfl | omega | grind
    · show ∀ i, 0 ≤ i → i < (v2 + 1) → M15 a i = v  -- I5.1.hi
      intro i i1 i2
      rw [e_M15]
      unfold zset
      grind
    · show ∀ c i, (c ≠ a ∨ i < 0 ∨ zlni a ≤ i) → M15 c i = M c i  -- I5.1.hf
      intro c i q
      rw [e_M15]
      unfold zset
      grind

abbrev pr_X10_holdRow (a : Int) (s : Int) (n : Int) (M : zM) : Prop := (zsh a)
abbrev po_X10_holdRow (a : Int) (s : Int) (n : Int) (M : zM) (M' : zM) : Prop := (∀ i, 0 ≤ i → i < 120 → M' (a + 1) i = 0) ∧ (M' a 0 = 2) ∧ (M' a 1 = s) ∧ (M' a 2 = n) ∧ (∀ c i, (c ≠ a ∨ (i ≠ 0 ∧ i ≠ 1 ∧ i ≠ 2)) → (c ≠ a + 1 ∨ i < 0 ∨ 120 ≤ i) → M' c i = M c i)
set_option maxHeartbeats 1000000 in
theorem ok_X10_holdRow : zSnd zS 145 0 0 yX10_holdRow cX10_holdRow 3 none 1 [2, 0, 0] (F_X10_holdRow pr_X10_holdRow po_X10_holdRow) := by
  refine (sn_X10_holdRow ok_J7_fill_53178).mono ?_
  rintro xs P M hz hR ⟨a, s, n, rfl, hs, hP⟩
  refine ⟨_, _, _, rfl, ?_⟩
  have z_s := zall_h (zall_t hz) (by decide)
  have z_n := zall_h (zall_t (zall_t hz)) (by decide)
  change vc_X10_holdRow pr_J7_fill_53178 po_J7_fill_53178 a s n P M
  unfold vc_X10_holdRow
  have hl := zsh_l hs
  have o1 : zsh a := by
    first | assumption | exact trivial | rfl | omega | grind  -- o1
  refine ⟨o1, ?_⟩
  intro M2 e_M2
  intro M5 e_M5
  intro M8 e_M8
  have gc1 : pr_J7_fill_53178 (a + 1) 0 M8 := by
    refine ⟨?_, ?_⟩
    · show zia (a + 1)  -- c1.ha
      exact zsh_i hs
    · show zin 0  -- c1.hv
      first | assumption | exact trivial | rfl | omega | grind
  refine ⟨gc1, ?_⟩
  rintro M11 ⟨pc1_hi, pc1_hf⟩ z_M11
  refine hP _ ⟨?_, ?_, ?_, ?_, ?_⟩
  · show ∀ i, 0 ≤ i → i < 120 → M11 (a + 1) i = 0  -- p1.hi
    rw [← hl]; exact pc1_hi
  · show M11 a 0 = 2  -- p1.h0
    rw [pc1_hf _ _ (by omega), e_M8, e_M5, e_M2]; simp [zset]
  · show M11 a 1 = s  -- p1.h1
    rw [pc1_hf _ _ (by omega), e_M8, e_M5, e_M2]; simp [zset]
  · show M11 a 2 = n  -- p1.h2
    rw [pc1_hf _ _ (by omega), e_M8, e_M5, e_M2]; simp [zset]
  · show ∀ c i, (c ≠ a ∨ (i ≠ 0 ∧ i ≠ 1 ∧ i ≠ 2)) → (c ≠ a + 1 ∨ i < 0 ∨ 120 ≤ i) → M11 c i = M c i  -- p1.hf
    intro c i q1 q2
    rw [pc1_hf _ _ (by omega), e_M8, e_M5, e_M2]
    unfold zset
    grind

