/-- the least of f 0 .. f (k - 1), and no more than 1000000 -/
def gMi (f : Int → Int) : Nat → Int
  | 0 => 1000000
  | k + 1 => min (gMi f k) (f k)
theorem gMi_le {f : Int → Int} : ∀ (k : Nat) (s : Int), 0 ≤ s → s < k → gMi f k ≤ f s
  | 0, s, h0, h1 => by omega
  | k + 1, s, h0, h1 => by
    unfold gMi
    by_cases c : s = k
    · rw [c]; omega
    · have := gMi_le (f := f) k s h0 (by omega); omega
theorem gMi_at {f : Int → Int} : ∀ k : Nat, gMi f k < 1000000 → ∃ s : Int, 0 ≤ s ∧ s < k ∧ f s = gMi f k
  | 0, h => by unfold gMi at h; omega
  | k + 1, h => by
    unfold gMi at h ⊢
    by_cases c : gMi f k ≤ f k
    · obtain ⟨s, s0, s1, s2⟩ := @gMi_at f k (by omega)
      exact ⟨s, s0, by omega, by omega⟩
    · exact ⟨k, by omega, by omega, by omega⟩
theorem gMi_cg {f g : Int → Int} : ∀ k : Nat, (∀ s : Int, 0 ≤ s → s < k → f s = g s) → gMi f k = gMi g k
  | 0, _ => rfl
  | k + 1, h => by
    unfold gMi
    rw [gMi_cg k (fun s a b => h s a (by omega)), h k (by omega) (by omega)]
/-- the least way that is left, if m stops are left -/
def gW (D : Int → Int → Int) (n : Int) : Nat → Int → Int → Int
  | 0, _, _ => 0
  | m + 1, set, last => gMi (fun s => if set.toNat.testBit s.toNat = true then 1000000 else D last s + gW D n m (zlor set (zshl 1 s)) s) n.toNat
/-- what is left if this stop comes next -/
def gF (D : Int → Int → Int) (n : Int) (m : Nat) (set last s : Int) : Int := if set.toNat.testBit s.toNat = true then 1000000 else D last s + gW D n m (zlor set (zshl 1 s)) s
theorem gW_s {D : Int → Int → Int} {n : Int} {m : Nat} {set last : Int} : gW D n (m + 1) set last = gMi (gF D n m set last) n.toNat := rfl
theorem gF_i {D : Int → Int → Int} {n : Int} {m : Nat} {set last s : Int} (h : zbt set s) : gF D n m set last s = 1000000 := if_pos h
theorem gF_o {D : Int → Int → Int} {n : Int} {m : Nat} {set last s : Int} (h : ¬ zbt set s) : gF D n m set last s = D last s + gW D n m (zlor set (zshl 1 s)) s := if_neg h
def gPv (σ : Int → Int) (k : Int) : Int := if k = 0 then -1 else σ (k - 1)
/-- the way from place n - m on -/
def gCs2 (D : Int → Int → Int) (σ : Int → Int) (n : Int) : Nat → Int
  | 0 => 0
  | m + 1 => D (gPv σ (n - (m + 1))) (σ (n - (m + 1))) + gCs2 D σ n m
theorem gCs2_s {D : Int → Int → Int} {σ : Int → Int} {n : Int} {m : Nat} : gCs2 D σ n (m + 1) = D (gPv σ (n - ((m : Int) + 1))) (σ (n - ((m : Int) + 1))) + gCs2 D σ n m := rfl
/-- the way as far as ahead of place k -/
def gCo2 (D : Int → Int → Int) (σ : Int → Int) : Nat → Int
  | 0 => 0
  | k + 1 => gCo2 D σ k + D (gPv σ k) (σ k)
theorem gCo2_s {D : Int → Int → Int} {σ : Int → Int} {n : Int} : ∀ m : Nat, (m : Int) ≤ n → gCo2 D σ n.toNat = gCo2 D σ (n - m).toNat + gCs2 D σ n m
  | 0, _ => by
    rw [show n - ((0 : Nat) : Int) = n by simp]
    show gCo2 D σ n.toNat = gCo2 D σ n.toNat + 0
    omega
  | m + 1, h => by
    have i := @gCo2_s D σ n m (by omega)
    rw [i]
    have e : (n - (m : Int)).toNat = (n - ((m + 1 : Nat) : Int)).toNat + 1 := by omega
    rw [e, gCs2_s]
    rw [gCo2]
    rw [show ((n - ((m + 1 : Nat) : Int)).toNat : Int) = n - ((m : Int) + 1) by omega]
    omega
/-- all stops, each once -/
def gPm2 (n : Int) (σ : Int → Int) : Prop := (∀ i, 0 ≤ i → i < n → 0 ≤ σ i ∧ σ i < n) ∧ ∀ s, 0 ≤ s → s < n → ∃ i, 0 ≤ i ∧ i < n ∧ σ i = s
theorem zc_T : ∀ v, 0 ≤ v → zc (fun _ => True) v = v := by
  apply zind
  · rfl
  · intro v hv ih; rw [zc_p hv trivial, ih]
theorem gPm2.inj {n : Int} {σ : Int → Int} (h : gPm2 n σ) {i j : Int} (i0 : 0 ≤ i) (ij : i < j) (jn : j < n) : σ i ≠ σ j := by
  intro e
  have ch : ∀ s : Int, ∃ p : Int, (0 ≤ s ∧ s < n) → 0 ≤ p ∧ p < n ∧ p ≠ j ∧ σ p = s := by
    intro s
    by_cases c : 0 ≤ s ∧ s < n
    · obtain ⟨p, p0, p1, p2⟩ := h.2 s c.1 c.2
      by_cases k : p = j
      · exact ⟨i, fun _ => ⟨i0, by omega, by omega, by rw [e, ← k]; exact p2⟩⟩
      · exact ⟨p, fun _ => ⟨p0, p1, k, p2⟩⟩
    · exact ⟨0, fun k => absurd k c⟩
  have ⟨g, hg⟩ : ∃ g : Int → Int, ∀ s, (0 ≤ s ∧ s < n) → 0 ≤ g s ∧ g s < n ∧ g s ≠ j ∧ σ (g s) = s := ⟨fun s => Classical.choose (ch s), fun s => Classical.choose_spec (ch s)⟩
  have l := zc_inj (p := fun _ => True) (f := g) (n := n) n (by omega) (fun p => p ≠ j) (fun s s0 s1 _ => by
    have := hg s ⟨s0, s1⟩
    exact ⟨this.1, this.2.1, this.2.2.1⟩) (fun s s' s0 s1 s0' s1' _ _ q => by
    have a := (hg s ⟨s0, s1⟩).2.2.2
    have b := (hg s' ⟨s0', s1'⟩).2.2.2
    rw [q] at a
    omega)
  have e2 := zc_1 (p := fun p => p ≠ j) (q := fun _ => True) (y := j) (by omega) (fun h => h rfl) trivial (fun i hi => ⟨fun _ => trivial, fun _ => hi⟩) n (by omega) jn
  omega
section
variable {D : Int → Int → Int} {n : Int}
theorem gW_b (hn : n ≤ 7) (hD : ∀ i j, -1 ≤ i → i < n → 0 ≤ j → j < n → 0 ≤ D i j ∧ D i j ≤ 100) : ∀ (m : Nat) (set last : Int), 0 ≤ set → set < 65536 → -1 ≤ last → last < n → 0 ≤ gW D n m set last ∧ gW D n m set last ≤ 1000000
  | 0, _, _, _, _, _, _ => by unfold gW; omega
  | m + 1, set, last, s0, s1, l0, l1 => by
    rw [gW_s]
    have lo : ∀ k : Nat, (k : Int) ≤ n → 0 ≤ gMi (gF D n m set last) k ∧ gMi (gF D n m set last) k ≤ 1000000 := by
      intro k
      induction k with
      | zero => intro _; unfold gMi; omega
      | succ k ih =>
        intro hk
        have i := ih (by omega)
        unfold gMi
        by_cases b : zbt set k
        · rw [gF_i b]; omega
        · rw [gF_o b]
          have d := hD last k l0 l1 (by omega) (by omega)
          have w := gW_b hn hD m (zlor set (zshl 1 k)) k (zbt_or s0 s1 (by omega) (by omega)).1.1 (zbt_or s0 s1 (by omega) (by omega)).1.2 (by omega) (by omega)
          omega
    by_cases c : 0 ≤ n
    · exact lo n.toNat (by omega)
    · rw [show n.toNat = 0 by omega]; unfold gMi; omega
/-- what has been drawn -/
def gSt2 (n : Int) (σ : Int → Int) (k set : Int) : Prop := (0 ≤ set ∧ set < 65536) ∧ ∀ s, 0 ≤ s → (zbt set s ↔ ∃ i, 0 ≤ i ∧ i < k ∧ σ i = s)
theorem gSt2_s {σ : Int → Int} {k set : Int} (h : gSt2 n σ k set) (k0 : 0 ≤ k) (c0 : 0 ≤ σ k) (c1 : σ k < 16) : gSt2 n σ (k + 1) (zlor set (zshl 1 (σ k))) := by
  have z := zbt_or h.1.1 h.1.2 c0 c1
  refine ⟨z.1, fun s s0 => ?_⟩
  rw [z.2 s s0, h.2 s s0]
  constructor
  · rintro (⟨i, i0, i1, e⟩ | e)
    · exact ⟨i, i0, by omega, e⟩
    · exact ⟨k, k0, by omega, e.symm⟩
  · rintro ⟨i, i0, i1, e⟩
    by_cases c : i = k
    · subst c; exact .inr e.symm
    · exact .inl ⟨i, i0, by omega, e⟩
theorem gW_low {σ : Int → Int} (hn : n ≤ 7) (hp : gPm2 n σ) : ∀ (m : Nat), (m : Int) ≤ n → ∀ set, gSt2 n σ (n - m) set → gW D n m set (gPv σ (n - m)) ≤ gCs2 D σ n m
  | 0, _, _, _ => by unfold gW gCs2; omega
  | m + 1, hm, set, hs => by
    rw [gW_s]
    have k0 : 0 ≤ n - ((m : Int) + 1) := by omega
    have sk := hp.1 (n - ((m : Int) + 1)) k0 (by omega)
    have out : ¬ zbt set (σ (n - ((m : Int) + 1))) := by
      rw [hs.2 _ sk.1]
      rintro ⟨i, i0, i1, e⟩
      exact hp.inj i0 (show i < n - ((m : Int) + 1) by omega) (by omega) e
    have le := gMi_le (f := gF D n m set (gPv σ (n - ((m : Int) + 1)))) n.toNat (σ (n - ((m : Int) + 1))) sk.1 (by omega)
    rw [gF_o out] at le
    have hs' : gSt2 n σ (n - ((m : Int) + 1)) set := hs
    have nx := gSt2_s hs' k0 sk.1 (by omega)
    rw [show n - ((m : Int) + 1) + 1 = n - m by omega] at nx
    have i := gW_low hn hp m (by omega) _ nx
    have pv : gPv σ (n - m) = σ (n - ((m : Int) + 1)) := by
      unfold gPv
      rw [if_neg (by omega), show n - (m : Int) - 1 = n - ((m : Int) + 1) by omega]
    rw [pv] at i
    rw [gCs2_s]
    have e3 : n - ((m + 1 : Nat) : Int) = n - ((m : Int) + 1) := by omega
    rw [e3]
    omega
end
/-- a row of places as a number -/
def gH (n : Int) (σ : Int → Int) : Nat → Int
  | 0 => 0
  | k + 1 => gH n σ k * n + σ k
theorem gH_lt {n : Int} {σ τ : Int → Int} (hn : 0 ≤ n) : ∀ k : Nat, (∀ i : Int, 0 ≤ i → i < k → 0 ≤ σ i ∧ σ i < n) → (∀ i : Int, 0 ≤ i → i < k → 0 ≤ τ i ∧ τ i < n) → gH n τ k < gH n σ k → ∃ i : Int, 0 ≤ i ∧ i < k ∧ τ i < σ i ∧ ∀ j, 0 ≤ j → j < i → τ j = σ j
  | 0, _, _, h => by unfold gH at h; omega
  | k + 1, hs, ht, h => by
    by_cases c : gH n τ k < gH n σ k
    · obtain ⟨i, i0, i1, i2, i3⟩ := gH_lt hn k (fun i a b => hs i a (by omega)) (fun i a b => ht i a (by omega)) c
      exact ⟨i, i0, by omega, i2, i3⟩
    · have sk := hs k (by omega) (by omega)
      have tk := ht k (by omega) (by omega)
      unfold gH at h
      have eq : gH n τ k = gH n σ k := by
        apply Classical.byContradiction
        intro ne
        have l := Int.mul_le_mul_of_nonneg_right (show gH n σ k + 1 ≤ gH n τ k by omega) hn
        rw [Int.add_mul, Int.one_mul] at l
        omega
      rw [eq] at h
      refine ⟨k, by omega, by omega, by omega, fun j j0 j1 => ?_⟩
      -- equal numbers, equal rows
      have uq : ∀ k : Nat, (∀ i : Int, 0 ≤ i → i < k → 0 ≤ σ i ∧ σ i < n) → (∀ i : Int, 0 ≤ i → i < k → 0 ≤ τ i ∧ τ i < n) → gH n τ k = gH n σ k → ∀ j : Int, 0 ≤ j → j < k → τ j = σ j := by
        intro k
        induction k with
        | zero => intro _ _ _ j j0 j1; omega
        | succ k ih =>
          intro hs ht e j j0 j1
          have sk := hs k (by omega) (by omega)
          have tk := ht k (by omega) (by omega)
          unfold gH at e
          have eq : gH n τ k = gH n σ k := by
            apply Classical.byContradiction
            intro ne
            rcases Int.lt_or_gt_of_ne ne with q | q
            · have l := Int.mul_le_mul_of_nonneg_right (show gH n τ k + 1 ≤ gH n σ k by omega) hn
              rw [Int.add_mul, Int.one_mul] at l
              omega
            · have l := Int.mul_le_mul_of_nonneg_right (show gH n σ k + 1 ≤ gH n τ k by omega) hn
              rw [Int.add_mul, Int.one_mul] at l
              omega
          by_cases c : j = k
          · subst c; rw [eq] at e; omega
          · exact ih (fun i a b => hs i a (by omega)) (fun i a b => ht i a (by omega)) eq j j0 (by omega)
      exact uq k (fun i a b => hs i a (by omega)) (fun i a b => ht i a (by omega)) eq j j0 (by omega)
theorem gH_uq {n : Int} {σ τ : Int → Int} (hn : 0 ≤ n) : ∀ k : Nat, (∀ i : Int, 0 ≤ i → i < k → 0 ≤ σ i ∧ σ i < n) → (∀ i : Int, 0 ≤ i → i < k → 0 ≤ τ i ∧ τ i < n) → gH n τ k = gH n σ k → ∀ j : Int, 0 ≤ j → j < k → τ j = σ j := by
  intro k
  induction k with
  | zero => intro _ _ _ j j0 j1; omega
  | succ k ih =>
    intro hs ht e j j0 j1
    have sk := hs k (by omega) (by omega)
    have tk := ht k (by omega) (by omega)
    unfold gH at e
    have eq : gH n τ k = gH n σ k := by
      apply Classical.byContradiction
      intro ne
      rcases Int.lt_or_gt_of_ne ne with q | q
      · have l := Int.mul_le_mul_of_nonneg_right (show gH n τ k + 1 ≤ gH n σ k by omega) hn
        rw [Int.add_mul, Int.one_mul] at l
        omega
      · have l := Int.mul_le_mul_of_nonneg_right (show gH n σ k + 1 ≤ gH n τ k by omega) hn
        rw [Int.add_mul, Int.one_mul] at l
        omega
    by_cases c : j = k
    · subst c; rw [eq] at e; omega
    · exact ih (fun i a b => hs i a (by omega)) (fun i a b => ht i a (by omega)) eq j j0 (by omega)
/-- the least way of a pen, and its order: the first as numbers -/
def gPn (D : Int → Int → Int) (n least : Int) (σ : Int → Int) : Prop := gPm2 n σ ∧ gCo2 D σ n.toNat = least ∧ ∀ τ, gPm2 n τ → least ≤ gCo2 D τ n.toNat ∧ (gH n τ n.toNat < gH n σ n.toNat → least < gCo2 D τ n.toNat)
theorem gPn.uq {D : Int → Int → Int} {n l l' : Int} {σ σ' : Int → Int} (hn : 0 ≤ n) (h : gPn D n l σ) (g : gPn D n l' σ') : l = l' ∧ ∀ k, 0 ≤ k → k < n → σ k = σ' k := by
  have a := h.2.2 σ' g.1
  have b := g.2.2 σ h.1
  rw [g.2.1] at a
  rw [h.2.1] at b
  refine ⟨by omega, fun k k0 k1 => ?_⟩
  have eh : gH n σ n.toNat = gH n σ' n.toNat := by
    apply Classical.byContradiction
    intro c
    rcases Int.lt_or_gt_of_ne c with q | q
    · have := b.2 q; omega
    · have := a.2 q; omega
  exact gH_uq hn n.toNat (fun i a b => g.1.1 i a (by omega)) (fun i a b => h.1.1 i a (by omega)) eh k k0 (by omega)
theorem gCo2_cg {D : Int → Int → Int} {σ τ : Int → Int} : ∀ k : Nat, (∀ i : Int, 0 ≤ i → i < k → σ i = τ i) → gCo2 D σ k = gCo2 D τ k
  | 0, _ => rfl
  | k + 1, h => by
    unfold gCo2
    rw [gCo2_cg k (fun i a b => h i a (by omega)), h k (by omega) (by omega)]
    have : gPv σ k = gPv τ k := by
      unfold gPv
      split
      · rfl
      · exact h _ (by omega) (by omega)
    rw [this]
/-- the row of first best stops is the one -/
theorem gPn.of {D : Int → Int → Int} {n : Int} {σ : Int → Int} (hn : 1 ≤ n ∧ n ≤ 7) (hp : gPm2 n σ) (hs : ∀ k set, 0 ≤ k → k < n → gSt2 n σ k set → gF D n (n - k - 1).toNat set (gPv σ k) (σ k) = gW D n (n - k).toNat set (gPv σ k) ∧ ∀ s, 0 ≤ s → s < σ k → gW D n (n - k).toNat set (gPv σ k) < gF D n (n - k - 1).toNat set (gPv σ k) s) : gPn D n (gW D n n.toNat 0 (-1)) σ := by
  have s0 : gSt2 n σ 0 0 := ⟨by omega, fun s h => ⟨fun b => by unfold zbt at b; simp at b, fun ⟨i, a, b, _⟩ => by omega⟩⟩
  have ex : ∀ m : Nat, (m : Int) ≤ n → ∃ set, gSt2 n σ (n - m) set := by
    have : ∀ k : Nat, (k : Int) ≤ n → ∃ set, gSt2 n σ k set := by
      intro k
      induction k with
      | zero => intro _; exact ⟨0, s0⟩
      | succ k ih =>
        intro hk
        obtain ⟨set, hset⟩ := ih (by omega)
        have sk := hp.1 k (by omega) (by omega)
        exact ⟨_, gSt2_s hset (by omega) sk.1 (by omega)⟩
    intro m hm
    have := this (n - m).toNat (by omega)
    rw [show (((n - m).toNat : Nat) : Int) = n - m by omega] at this
    exact this
  -- the way along the row is the least one
  have eqs : ∀ m : Nat, (m : Int) ≤ n → ∀ set, gSt2 n σ (n - m) set → gCs2 D σ n m = gW D n m set (gPv σ (n - m)) := by
    intro m
    induction m with
    | zero => intro _ _ _; rfl
    | succ m ih =>
      intro hm set hset
      have e3 : n - ((m + 1 : Nat) : Int) = n - ((m : Int) + 1) := by omega
      rw [e3] at hset ⊢
      have k0 : 0 ≤ n - ((m : Int) + 1) := by omega
      have sk := hp.1 (n - ((m : Int) + 1)) k0 (by omega)
      have f := (hs (n - ((m : Int) + 1)) set k0 (by omega) hset).1
      have out : ¬ zbt set (σ (n - ((m : Int) + 1))) := by
        rw [hset.2 _ sk.1]
        rintro ⟨i, i0, i1, e⟩
        exact hp.inj i0 (show i < n - ((m : Int) + 1) by omega) (by omega) e
      have nx := gSt2_s hset k0 sk.1 (by omega)
      rw [show n - ((m : Int) + 1) + 1 = n - m by omega] at nx
      have i := ih (by omega) _ nx
      have pv : gPv σ (n - m) = σ (n - ((m : Int) + 1)) := by
        unfold gPv
        rw [if_neg (by omega), show n - (m : Int) - 1 = n - ((m : Int) + 1) by omega]
      rw [pv] at i
      rw [gF_o out, show (n - (n - ((m : Int) + 1)) - 1).toNat = m by omega, show (n - (n - ((m : Int) + 1))).toNat = m + 1 by omega] at f
      rw [gCs2_s, i, f]
  have tot : ∀ τ, gPm2 n τ → gW D n n.toNat 0 (-1) ≤ gCo2 D τ n.toNat := by
    intro τ ht
    have e := @gCo2_s D τ n n.toNat (by omega)
    rw [show n - ((n.toNat : Nat) : Int) = 0 by omega] at e
    have l := gW_low (D := D) hn.2 ht n.toNat (by omega) 0 (by rw [show n - ((n.toNat : Nat) : Int) = 0 by omega]; exact ⟨by omega, fun s h => ⟨fun b => by unfold zbt at b; simp at b, fun ⟨i, a, b, _⟩ => by omega⟩⟩)
    rw [show n - ((n.toNat : Nat) : Int) = 0 by omega] at l
    have : gCo2 D τ (0 : Int).toNat = 0 := rfl
    rw [this] at e
    have : gPv τ 0 = -1 := rfl
    rw [this] at l
    omega
  refine ⟨hp, ?_, fun τ ht => ⟨tot τ ht, fun l => ?_⟩⟩
  · have e := @gCo2_s D σ n n.toNat (by omega)
    rw [show n - ((n.toNat : Nat) : Int) = 0 by omega] at e
    have q := eqs n.toNat (by omega) 0 (by rw [show n - ((n.toNat : Nat) : Int) = 0 by omega]; exact s0)
    rw [show n - ((n.toNat : Nat) : Int) = 0 by omega] at q
    have : gCo2 D σ (0 : Int).toNat = 0 := rfl
    rw [this] at e
    have : gPv σ 0 = -1 := rfl
    rw [this] at q
    omega
  · obtain ⟨i, i0, i1, i2, i3⟩ := gH_lt (by omega) n.toNat (fun i a b => hp.1 i a (by omega)) (fun i a b => ht.1 i a (by omega)) l
    have i1' : i < n := by omega
    obtain ⟨m, hm⟩ : ∃ m : Nat, n - ((m : Int) + 1) = i := ⟨(n - i - 1).toNat, by omega⟩
    obtain ⟨set, hset⟩ := ex (m + 1) (by omega)
    have e3 : n - ((m + 1 : Nat) : Int) = i := by omega
    rw [e3] at hset
    have hsetT : gSt2 n τ i set := ⟨hset.1, fun s s0 => by
      rw [hset.2 s s0]
      exact ⟨fun ⟨j, j0, j1, e⟩ => ⟨j, j0, j1, by rw [i3 j j0 j1]; exact e⟩, fun ⟨j, j0, j1, e⟩ => ⟨j, j0, j1, by rw [← i3 j j0 j1]; exact e⟩⟩⟩
    have pe : gPv τ i = gPv σ i := by
      unfold gPv
      split
      · rfl
      · exact i3 _ (by omega) (by omega)
    have st := (hs i set i0 i1' hset).2 (τ i) (ht.1 i i0 i1').1 i2
    have tk := ht.1 i i0 i1'
    have out : ¬ zbt set (τ i) := by
      rw [hsetT.2 _ tk.1]
      rintro ⟨j, j0, j1, e⟩
      exact ht.inj j0 j1 i1' e
    have nx := gSt2_s hsetT i0 tk.1 (by omega)
    rw [show i + 1 = n - (m : Int) by omega] at nx
    have low := gW_low (D := D) hn.2 ht m (by omega) _ nx
    have pv : gPv τ (n - m) = τ i := by
      unfold gPv
      rw [if_neg (by omega), show n - (m : Int) - 1 = i by omega]
    rw [pv] at low
    rw [gF_o out, show (n - i - 1).toNat = m by omega, show (n - i).toNat = m + 1 by omega] at st
    have eσ := eqs (m + 1) (by omega) set (by rw [e3]; exact hset)
    rw [e3] at eσ
    have cτ := @gCo2_s D τ n (m + 1) (by omega)
    have cσ := @gCo2_s D σ n (m + 1) (by omega)
    rw [e3] at cτ cσ
    have pre := gCo2_cg (D := D) (σ := τ) (τ := σ) i.toNat (fun j j0 j1 => i3 j j0 (by omega))
    have : gCs2 D τ n (m + 1) = D (gPv τ i) (τ i) + gCs2 D τ n m := by
      show D (gPv τ (n - ((m : Int) + 1))) (τ (n - ((m : Int) + 1))) + gCs2 D τ n m = _
      rw [hm]
    have t2 := tot σ hp
    have eσ2 : gCo2 D σ n.toNat = gW D n n.toNat 0 (-1) := by
      have e := @gCo2_s D σ n n.toNat (by omega)
      rw [show n - ((n.toNat : Nat) : Int) = 0 by omega] at e
      have q := eqs n.toNat (by omega) 0 (by rw [show n - ((n.toNat : Nat) : Int) = 0 by omega]; exact s0)
      rw [show n - ((n.toNat : Nat) : Int) = 0 by omega] at q
      have : gCo2 D σ (0 : Int).toNat = 0 := rfl
      rw [this] at e
      have : gPv σ 0 = -1 := rfl
      rw [this] at q
      omega
    rw [pe] at this
    omega
