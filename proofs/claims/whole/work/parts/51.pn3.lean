def gPw (n : Int) : Nat → Int
  | 0 => 1
  | k + 1 => gPw n k * n
theorem gPw_b {n : Int} (h : 1 ≤ n ∧ n ≤ 7) : ∀ k : Nat, 1 ≤ gPw n k ∧ gPw n k ≤ ((7 ^ k : Nat) : Int)
  | 0 => by unfold gPw; simp
  | k + 1 => by
    have i := gPw_b h k
    have a := Int.mul_le_mul i.1 h.1 (by decide) (by omega)
    have b := Int.mul_le_mul i.2 h.2 (by omega) (by omega)
    unfold gPw
    rw [Nat.pow_succ]
    refine ⟨by omega, ?_⟩
    rw [Int.natCast_mul]
    exact b
theorem gPw_7 {n : Int} (h : 1 ≤ n ∧ n ≤ 7) {k : Nat} (hk : k ≤ 7) : 1 ≤ gPw n k ∧ gPw n k ≤ 823543 := by
  have a := gPw_b h k
  have b : 7 ^ k ≤ 7 ^ 7 := Nat.pow_le_pow_right (by decide) hk
  omega
/-- the row with this number -/
def gDg (n w k : Int) : Int := w / gPw n (n - 1 - k).toNat % n
theorem gDg_b {n w k : Int} (h : 1 ≤ n) : 0 ≤ gDg n w k ∧ gDg n w k < n := by
  unfold gDg
  exact ⟨Int.emod_nonneg _ (by omega), Int.emod_lt_of_pos _ (by omega)⟩
theorem gDg_H {n w : Int} (h : 1 ≤ n ∧ n ≤ 7) (w0 : 0 ≤ w) (w1 : w < gPw n n.toNat) : ∀ k : Nat, (k : Int) ≤ n → gH n (gDg n w) k = w / gPw n (n - k).toNat
  | 0, _ => by
    unfold gH
    rw [show (n - ((0 : Nat) : Int)).toNat = n.toNat by omega]
    exact (Int.ediv_eq_zero_of_lt w0 w1).symm
  | k + 1, hk => by
    have i := gDg_H h w0 w1 k (by omega)
    have g := gPw_7 h (k := (n - 1 - (k : Int)).toNat) (by omega)
    show gH n (gDg n w) k * n + w / gPw n (n - 1 - (k : Int)).toNat % n = _
    rw [i, show (n - ((k + 1 : Nat) : Int)).toNat = (n - 1 - (k : Int)).toNat by omega, show (n - (k : Int)).toNat = (n - 1 - (k : Int)).toNat + 1 by omega]
    rw [show gPw n ((n - 1 - (k : Int)).toNat + 1) = gPw n (n - 1 - (k : Int)).toNat * n from rfl, ← Int.ediv_ediv_of_nonneg (by omega)]
    have := Int.mul_ediv_add_emod (w / gPw n (n - 1 - (k : Int)).toNat) n
    rw [Int.mul_comm] at this
    exact this
theorem gDg_w {n w : Int} (h : 1 ≤ n ∧ n ≤ 7) (w0 : 0 ≤ w) (w1 : w < gPw n n.toNat) : gH n (gDg n w) n.toNat = w := by
  have := gDg_H h w0 w1 n.toNat (by omega)
  rw [show (n - ((n.toNat : Nat) : Int)).toNat = 0 by omega] at this
  rw [this]
  exact Int.ediv_one w
theorem gH_b {n : Int} {σ : Int → Int} (hn : 1 ≤ n) : ∀ k : Nat, (∀ i : Int, 0 ≤ i → i < k → 0 ≤ σ i ∧ σ i < n) → 0 ≤ gH n σ k ∧ gH n σ k < gPw n k
  | 0, _ => by unfold gH gPw; omega
  | k + 1, h => by
    have i := gH_b hn k (fun i a b => h i a (by omega))
    have s := h k (by omega) (by omega)
    have a := Int.mul_nonneg i.1 (show 0 ≤ n by omega)
    have b := Int.mul_le_mul_of_nonneg_right (show gH n σ k + 1 ≤ gPw n k by omega) (show 0 ≤ n by omega)
    rw [Int.add_mul, Int.one_mul] at b
    unfold gH gPw
    omega
theorem gPm2.cg {n : Int} {σ τ : Int → Int} (h : gPm2 n σ) (e : ∀ i, 0 ≤ i → i < n → τ i = σ i) : gPm2 n τ := ⟨fun i a b => by rw [e i a b]; exact h.1 i a b, fun s a b => by
  obtain ⟨i, i0, i1, q⟩ := h.2 s a b
  exact ⟨i, i0, i1, by rw [e i i0 i1]; exact q⟩⟩
theorem gCo2_b {D : Int → Int → Int} {n : Int} {σ : Int → Int} (hD : ∀ i j, -1 ≤ i → i < n → 0 ≤ j → j < n → 0 ≤ D i j ∧ D i j ≤ 30) (hs : ∀ i, 0 ≤ i → i < n → 0 ≤ σ i ∧ σ i < n) : ∀ k : Nat, (k : Int) ≤ n → 0 ≤ gCo2 D σ k ∧ gCo2 D σ k ≤ 30 * k
  | 0, _ => by unfold gCo2; omega
  | k + 1, hk => by
    have i := gCo2_b hD hs k (by omega)
    have s := hs k (by omega) (by omega)
    have pv : -1 ≤ gPv σ k ∧ gPv σ k < n := by
      unfold gPv
      split
      · omega
      · have := hs ((k : Int) - 1) (by omega) (by omega); omega
    have d := hD (gPv σ k) (σ k) pv.1 pv.2 s.1 s.2
    unfold gCo2
    omega
/-- the best of the rows with a number below w -/
def gBe (D : Int → Int → Int) (n w v : Int) (O S : Int → Int) : Prop := (v = -1 ∧ ∀ τ, gPm2 n τ → w ≤ gH n τ n.toNat) ∨ ∃ σ, gPm2 n σ ∧ gCo2 D σ n.toNat = v ∧ gH n σ n.toNat < w ∧ (∀ k, 0 ≤ k → k < n → O k = S (σ k)) ∧ ∀ τ, gPm2 n τ → gH n τ n.toNat < w → v ≤ gCo2 D τ n.toNat ∧ (gH n τ n.toNat < gH n σ n.toNat → v < gCo2 D τ n.toNat)
section
variable {D : Int → Int → Int} {n w v : Int} {O S : Int → Int}
theorem gBe.at {τ : Int → Int} (hn : 1 ≤ n ∧ n ≤ 7) (w0 : 0 ≤ w) (w1 : w < gPw n n.toNat) (ht : gPm2 n τ) (e : gH n τ n.toNat = w) : gPm2 n (gDg n w) ∧ gCo2 D τ n.toNat = gCo2 D (gDg n w) n.toNat := by
  have q := gH_uq (n := n) (σ := gDg n w) (τ := τ) (by omega) n.toNat (fun i a b => gDg_b hn.1) (fun i a b => ht.1 i a (by omega)) (e.trans (gDg_w hn w0 w1).symm)
  exact ⟨ht.cg (fun i a b => (q i a (by omega)).symm), gCo2_cg n.toNat (fun i a b => q i a b)⟩
theorem gBe.no (hn : 1 ≤ n ∧ n ≤ 7) (w0 : 0 ≤ w) (w1 : w < gPw n n.toNat) (h : gBe D n w v O S) (np : ¬ gPm2 n (gDg n w)) : gBe D n (w + 1) v O S := by
  rcases h with ⟨a, b⟩ | ⟨σ, a, b, c, d, e⟩
  · refine .inl ⟨a, fun τ ht => ?_⟩
    have l := b τ ht
    apply Classical.byContradiction
    intro k
    exact np (gBe.at (D := D) hn w0 w1 ht (by omega)).1
  · refine .inr ⟨σ, a, b, by omega, d, fun τ ht l => ?_⟩
    by_cases k : gH n τ n.toNat = w
    · exact absurd (gBe.at (D := D) hn w0 w1 ht k).1 np
    · exact e τ ht (by omega)
theorem gBe.ge (hn : 1 ≤ n ∧ n ≤ 7) (w0 : 0 ≤ w) (w1 : w < gPw n n.toNat) (h : gBe D n w v O S) (v0 : 0 ≤ v) (l : v ≤ gCo2 D (gDg n w) n.toNat) : gBe D n (w + 1) v O S := by
  rcases h with ⟨a, b⟩ | ⟨σ, a, b, c, d, e⟩
  · omega
  · refine .inr ⟨σ, a, b, by omega, d, fun τ ht m => ?_⟩
    by_cases k : gH n τ n.toNat = w
    · have := (gBe.at (D := D) hn w0 w1 ht k).2
      exact ⟨by omega, fun q => by omega⟩
    · exact e τ ht (by omega)
theorem gBe.lt {O' : Int → Int} (hn : 1 ≤ n ∧ n ≤ 7) (w0 : 0 ≤ w) (w1 : w < gPw n n.toNat) (h : gBe D n w v O S) (p : gPm2 n (gDg n w)) (l : v < 0 ∨ gCo2 D (gDg n w) n.toNat < v) (nn : ∀ τ, gPm2 n τ → 0 ≤ gCo2 D τ n.toNat) (ho : ∀ k, 0 ≤ k → k < n → O' k = S (gDg n w k)) : gBe D n (w + 1) (gCo2 D (gDg n w) n.toNat) O' S := by
  have hw := gDg_w hn w0 w1
  refine .inr ⟨gDg n w, p, rfl, by omega, ho, fun τ ht m => ?_⟩
  by_cases k : gH n τ n.toNat = w
  · have := (gBe.at (D := D) hn w0 w1 ht k).2
    exact ⟨by omega, fun q => by omega⟩
  · rcases h with ⟨a, b⟩ | ⟨σ, a, b, c, d, e⟩
    · have := b τ ht; omega
    · have s := nn σ a
      have := (e τ ht (by omega)).1
      exact ⟨by omega, fun _ => by omega⟩
theorem gBe.end (hn : 1 ≤ n ∧ n ≤ 7) (h : gBe D n (gPw n n.toNat) v O S) : ∃ σ, gPn D n v σ ∧ ∀ k, 0 ≤ k → k < n → O k = S (σ k) := by
  have al : ∀ τ, gPm2 n τ → gH n τ n.toNat < gPw n n.toNat := fun τ ht => (gH_b hn.1 n.toNat (fun i a b => ht.1 i a (by omega))).2
  rcases h with ⟨a, b⟩ | ⟨σ, a, b, c, d, e⟩
  · have id : gPm2 n (fun i => i) := ⟨fun i a b => ⟨a, b⟩, fun s a b => ⟨s, a, b, rfl⟩⟩
    have := b _ id
    have := al _ id
    omega
  · exact ⟨σ, ⟨a, b, fun τ ht => e τ ht (al τ ht)⟩, d⟩
end
theorem zs7h {n c : Int} (h : 0 ≤ n ∧ n ≤ 7) (c1 : n ≤ c) (c0 : 0 ≤ c) : ¬ zbt (zshl 1 n - 1) c := by
  have a := zs7a h
  unfold zbt
  rw [Nat.testBit_lt_two_pow]
  · simp
  · have : 2 ^ n.toNat ≤ 2 ^ c.toNat := Nat.pow_le_pow_right (by decide) (by omega)
    omega
abbrev pr_X12_moveTo (x : Int) (y : Int) (f : Int) (M : zM) : Prop := (0 ≤ x ∧ x < 16) ∧ (0 ≤ y ∧ y < 16) ∧ (0 ≤ f ∧ f < 192) ∧ (0 ≤ M 116 f ∧ M 116 f < 192)
abbrev po_X12_moveTo (x : Int) (y : Int) (f : Int) (M : zM) (r : Int) (M' : zM) : Prop := M' = M ∧ r = max (M 116 f % 16 - x) (-(M 116 f % 16 - x)) + max (M 116 f / 16 - y) (-(M 116 f / 16 - y))
set_option maxHeartbeats 1000000 in
theorem ok_X12_moveTo : zSnd zS 145 0 0 yX12_moveTo cX12_moveTo 6 (some .int) 0 [2, 0, 0, 0] (F_X12_moveTo pr_X12_moveTo po_X12_moveTo) := by
  refine (sn_X12_moveTo).mono ?_
  rintro xs P M hz hR ⟨x, y, f, rfl, ⟨hx, hy, hf, hF⟩, hP⟩
  refine ⟨_, _, _, rfl, ?_⟩
  have z_x := zall_h (zall_t hz) (by decide)
  have z_y := zall_h (zall_t (zall_t hz)) (by decide)
  have z_f := zall_h (zall_t (zall_t (zall_t hz))) (by decide)
  change vc_X12_moveTo x y f P M
  unfold vc_X12_moveTo
  have o1 : ((0 : Int) ≤ f ∧ f < 192) := by
    first | with_reducible assumption | omega | exact trivial | with_reducible rfl  -- o1
  refine ⟨o1, ?_⟩
  have o2 : 0 ≤ (M 116 f) := by
    first | with_reducible assumption | omega | exact trivial | with_reducible rfl  -- o2
  refine ⟨o2, ?_⟩
  intro K39 h_K39
  have k_K39 : ∀ (v3 : Int), (v3 = max (M 116 f % 16 - x) (-(M 116 f % 16 - x))) → K39 v3 := by
    intro v3 hv
    refine h_K39 _ ?_
    intro z_v3
    have o3 : zin (((M 116 f) / 16) - y) := by
      first | with_reducible assumption | omega | exact trivial | with_reducible rfl  -- o3
    refine ⟨o3, ?_⟩
    refine ⟨fun b1 => ?_, fun b1 => ?_⟩
    · -- b1.1
      have o4 : zin (v3 + (((M 116 f) / 16) - y)) := by
        first | with_reducible assumption | omega | exact trivial | with_reducible rfl  -- o4
      refine ⟨o4, ?_⟩
      refine hP _ _ ⟨rfl, ?_⟩
      · first | with_reducible assumption | omega | exact trivial | with_reducible rfl  -- p1
    · -- b1.2
      have o5 : zin (v3 + (-(((M 116 f) / 16) - y))) := by
        first | with_reducible assumption | omega | exact trivial | with_reducible rfl  -- o5
      refine ⟨o5, ?_⟩
      refine hP _ _ ⟨rfl, ?_⟩
      · first | with_reducible assumption | omega | exact trivial | with_reducible rfl  -- p2
  have o6 : zin (((M 116 f) % 16) - x) := by
    first | with_reducible assumption | omega | exact trivial | with_reducible rfl  -- o6
  refine ⟨o6, ?_⟩
  refine ⟨fun b2 => ?_, fun b2 => ?_⟩
  · -- b2.1
    refine k_K39 _ ?_
    · show (((M 116 f) % 16) - x) = max (M 116 f % 16 - x) (-(M 116 f % 16 - x))  -- K39.1.hv
      first | with_reducible assumption | omega | exact trivial | with_reducible rfl
  · -- b2.2
    have o7 : zin (-(((M 116 f) % 16) - x)) := by
      first | with_reducible assumption | omega | exact trivial | with_reducible rfl  -- o7
    refine ⟨o7, ?_⟩
    refine k_K39 _ ?_
    · show (-(((M 116 f) % 16) - x)) = max (M 116 f % 16 - x) (-(M 116 f % 16 - x))  -- K39.2.hv
      first | with_reducible assumption | omega | exact trivial | with_reducible rfl

abbrev pr_X12_findPen (M : zM) : Prop := (1 ≤ M 103 57 ∧ M 103 57 ≤ 7) ∧ (gSp (M 103 57) (M 116) (M 129))
abbrev po_X12_findPen (M : zM) (r : Int) (M' : zM) : Prop := (∀ c i, c ≠ 130 → c ≠ 131 → M' c i = M c i) ∧ (∃ σ, gPn (gPd (M 116) (M 129)) (M 103 57) r σ ∧ ∀ k, 0 ≤ k → k < M 103 57 → M' 131 k = M 129 (σ k))
set_option maxHeartbeats 1000000 in
theorem ok_X12_findPen : zSnd zS 145 0 0 yX12_findPen cX12_findPen 10 (some .int) 1 [2] (F_X12_findPen pr_X12_findPen po_X12_findPen) := by
  refine (sn_X12_findPen ok_X12_moveTo).mono ?_
  rintro xs P M hz hR ⟨rfl, ⟨hn, hS⟩, hP⟩
  refine ⟨rfl, ?_⟩
  change vc_X12_findPen pr_X12_moveTo po_X12_moveTo P M
  unfold vc_X12_findPen
  have za := zs7a (n := M 103 57) (by omega)
  have dB : ∀ i j, -1 ≤ i → i < M 103 57 → 0 ≤ j → j < M 103 57 → 0 ≤ gPd (M 116) (M 129) i j ∧ gPd (M 116) (M 129) i j ≤ 30 := fun i j a b c d => gPd_b hS a b c d
  have cB : ∀ τ, gPm2 (M 103 57) τ → 0 ≤ gCo2 (gPd (M 116) (M 129)) τ (M 103 57).toNat := fun τ ht => (gCo2_b dB (fun i a b => ht.1 i a b) (M 103 57).toNat (by omega)).1
  refine ⟨fun v1 v2 n5 => (n5 : Int) = (M 103 57 - v2) ∧ (0 ≤ v2 ∧ v2 ≤ M 103 57) ∧ (v1 = gPw (M 103 57) (Int.toNat v2)), ⟨Int.toNat (M 103 57 - 0), by omega, ?_, ?_⟩, ?_⟩
  · show 0 ≤ 0 ∧ 0 ≤ M 103 57  -- I6.0.hv
    first | with_reducible assumption | omega | exact trivial | with_reducible rfl
  · show 1 = gPw (M 103 57) (Int.toNat 0)  -- I6.0.h1
    rfl
  rintro v1 v2 n5 ⟨h_n5, hv, h1⟩ z_v1 z_v2
  refine ⟨fun b1 => ?_, fun b1 => ?_⟩
  · -- b1.1
    have g7 := gPw_7 (n := M 103 57) hn (k := (M 103 57).toNat) (by omega)
    have ew : v1 = gPw (M 103 57) (M 103 57).toNat := by rw [h1, show v2 = M 103 57 by omega]
    refine ⟨fun v13 v14 M17 n19 => (n19 : Int) = (v1 - v14) ∧ (0 ≤ v14 ∧ v14 ≤ v1) ∧ (∀ c i, c ≠ 130 → c ≠ 131 → M17 c i = M c i) ∧ (gBe (gPd (M 116) (M 129)) (M 103 57) v14 v13 (M17 131) (M 129)) ∧ (-1 ≤ v13), ⟨Int.toNat (v1 - 0), by omega, ?_, ?_, ?_, ?_⟩, ?_⟩
    · show 0 ≤ 0 ∧ 0 ≤ v1  -- I29.0.hw
      first | with_reducible assumption | omega | exact trivial | with_reducible rfl
    · show ∀ c i, c ≠ 130 → c ≠ 131 → M c i = M c i  -- I29.0.hf
      first | with_reducible assumption | omega | exact trivial | with_reducible rfl
    · show gBe (gPd (M 116) (M 129)) (M 103 57) 0 (-1) (M 131) (M 129)  -- I29.0.hb
      exact .inl ⟨rfl, fun τ ht => (gH_b hn.1 _ (fun i a b => ht.1 i a (by omega))).1⟩
    · show -1 ≤ (-1)  -- I29.0.h13
      first | with_reducible assumption | omega | exact trivial | with_reducible rfl
    rintro v13 v14 M17 n19 ⟨h_n19, hw, hf, hb, h13⟩ z_v13 z_v14 z_M17
    have n57 : M17 103 57 = M 103 57 := hf 103 57 (by decide) (by decide)
    refine ⟨fun b2 => ?_, fun b2 => ?_⟩
    · -- b2.1
      refine hP _ _ ⟨?_, ?_⟩
      · show ∀ c i, c ≠ 130 → c ≠ 131 → M17 c i = M c i  -- p1.hf
        first | with_reducible assumption | omega | exact trivial | with_reducible rfl
      · show ∃ σ, gPn (gPd (M 116) (M 129)) (M 103 57) v13 σ ∧ ∀ k, 0 ≤ k → k < M 103 57 → M17 131 k = M 129 (σ k)  -- p1.hw
        rw [show v14 = gPw (M 103 57) (M 103 57).toNat by omega] at hb
        exact hb.end hn
    · -- b2.2
      have o1 : zin ((M17 103 57) - 1) := by
        first | with_reducible assumption | omega | exact trivial | with_reducible rfl  -- o1
      refine ⟨o1, ?_⟩
      refine ⟨fun v27 v28 v29 M34 n36 => (n36 : Int) = (v29 + 1) ∧ (-1 ≤ v29 ∧ v29 < M 103 57) ∧ (∀ c i, c ≠ 130 → M34 c i = M17 c i) ∧ (v27 = v14 / gPw (M 103 57) (M 103 57 - 1 - v29).toNat) ∧ (0 ≤ v28 ∧ v28 < zshl 1 (M 103 57)) ∧ (∀ s, 0 ≤ s → (zbt v28 s ↔ ∃ i, v29 < i ∧ i < M 103 57 ∧ gDg (M 103 57) v14 i = s)) ∧ (∀ i, v29 < i → i < M 103 57 → M34 130 i = M 129 (gDg (M 103 57) v14 i)), ⟨Int.toNat (((M17 103 57) - 1) + 1), by omega, ?_, ?_, ?_, ?_, ?_, ?_⟩, ?_⟩
      · show -1 ≤ ((M17 103 57) - 1) ∧ ((M17 103 57) - 1) < M 103 57  -- I48.0.h29
        first | with_reducible assumption | omega | exact trivial | with_reducible rfl
      · show ∀ c i, c ≠ 130 → M17 c i = M17 c i  -- I48.0.hf2
        first | with_reducible assumption | omega | exact trivial | with_reducible rfl
      · show v14 = v14 / gPw (M 103 57) (M 103 57 - 1 - ((M17 103 57) - 1)).toNat  -- I48.0.h27
        rw [n57, show (M 103 57 - 1 - (M 103 57 - 1)).toNat = 0 by omega]; exact (Int.ediv_one v14).symm
      · show 0 ≤ 0 ∧ 0 < zshl 1 (M 103 57)  -- I48.0.hs
        first | with_reducible assumption | omega | exact trivial | with_reducible rfl
      · show ∀ s, 0 ≤ s → (zbt 0 s ↔ ∃ i, ((M17 103 57) - 1) < i ∧ i < M 103 57 ∧ gDg (M 103 57) v14 i = s)  -- I48.0.hu
        intro s s0; exact ⟨fun b => by unfold zbt at b; simp at b, fun ⟨i, a, b, _⟩ => by omega⟩
      · show ∀ i, ((M17 103 57) - 1) < i → i < M 103 57 → M17 130 i = M 129 (gDg (M 103 57) v14 i)  -- I48.0.hd
        first | with_reducible assumption | omega | exact trivial | with_reducible rfl
      rintro v27 v28 v29 M34 n36 ⟨h_n36, h29, hf2, h27, hs, hu, hd⟩ z_v27 z_v28 z_v29 z_M34
      have m57 : M34 103 57 = M 103 57 := (hf2 103 57 (by decide)).trans n57
      have r131 : M34 131 = M17 131 := funext fun i => hf2 131 i (by decide)
      have r129 : M34 129 = M 129 := funext fun i => (hf2 129 i (by decide)).trans (hf 129 i (by decide) (by decide))
      have r116 : M34 116 = M 116 := funext fun i => (hf2 116 i (by decide)).trans (hf 116 i (by decide) (by decide))
      have hf3 : ∀ c i, c ≠ 130 → c ≠ 131 → M34 c i = M c i := fun c i a b => (hf2 c i a).trans (hf c i a b)
      refine ⟨fun b3 => ?_, fun b3 => ?_⟩
      · -- b3.1
        have v9 : v29 = -1 := by omega
        rw [v9] at hu hd
        have db : ∀ k, 0 ≤ gDg (M 103 57) v14 k ∧ gDg (M 103 57) v14 k < M 103 57 := fun k => gDg_b hn.1
        have w1 : v14 < gPw (M 103 57) (M 103 57).toNat := by omega
        have o2 : zin ((zshl 1 (M34 103 57)) - 1) := by
          rw [m57]; omega
        refine ⟨o2, ?_⟩
        refine ⟨fun b4 => ?_, fun b4 => ?_⟩
        · -- b4.1
          have np : ¬ gPm2 (M 103 57) (gDg (M 103 57) v14) := fun k => b4 (by
            rw [m57]
            refine (zbt_ext hs.1 (by omega) (show 0 ≤ zshl 1 (M 103 57) - 1 by omega) (by omega) (fun c c0 c1 => ?_))
            by_cases l : c < M 103 57
            · refine iff_of_true ?_ ((zs7 (n := M 103 57) (by omega) (by omega) (by omega) c0 l).2.2.1 rfl)
              obtain ⟨i, i0, i1, e⟩ := k.2 c c0 l
              exact (hu c c0).2 ⟨i, by omega, i1, e⟩
            · refine iff_of_false (fun b => ?_) (zs7h (by omega) (by omega) (by omega))
              obtain ⟨i, i0, i1, e⟩ := (hu c c0).1 b
              have := db i
              omega)
          have o3 : zin (v14 + 1) := by
            first | with_reducible assumption | omega | exact trivial | with_reducible rfl  -- o3
          refine ⟨o3, ?_⟩
          refine ⟨Int.toNat (v1 - (v14 + 1)), by omega, by omega, ?_, ?_, ?_, ?_⟩
          · show 0 ≤ (v14 + 1) ∧ (v14 + 1) ≤ v1  -- I29.1.hw
            first | with_reducible assumption | omega | exact trivial | with_reducible rfl
          · show ∀ c i, c ≠ 130 → c ≠ 131 → M34 c i = M c i  -- I29.1.hf
            exact hf3
          · show gBe (gPd (M 116) (M 129)) (M 103 57) (v14 + 1) v13 (M34 131) (M 129)  -- I29.1.hb
            rw [r131]; exact hb.no hn hw.1 w1 np
          · show -1 ≤ v13  -- I29.1.h13
            first | with_reducible assumption | omega | exact trivial | with_reducible rfl
        · -- b4.2
          have al : v28 = zshl 1 (M 103 57) - 1 := by rw [b4, m57]
          have pm : gPm2 (M 103 57) (gDg (M 103 57) v14) := ⟨fun i a b => db i, fun s s0 s1 => by
            obtain ⟨i, i0, i1, e⟩ := (hu s s0).1 ((zs7 (n := M 103 57) (by omega) hs.1 hs.2 s0 s1).2.2.1 al)
            exact ⟨i, by omega, i1, e⟩⟩
          refine ⟨fun v50 v51 v52 v53 M58 n60 => (n60 : Int) = (M 103 57 - v53) ∧ (0 ≤ v53 ∧ v53 ≤ M 103 57) ∧ (M58 = M34) ∧ (v50 = gCo2 (gPd (M 116) (M 129)) (gDg (M 103 57) v14) (Int.toNat v53)) ∧ (v51 = (if gPv (gDg (M 103 57) v14) v53 < 0 then 0 else M 116 (M 129 (gPv (gDg (M 103 57) v14) v53))) % 16) ∧ (v52 = (if gPv (gDg (M 103 57) v14) v53 < 0 then 0 else M 116 (M 129 (gPv (gDg (M 103 57) v14) v53))) / 16), ⟨Int.toNat (M 103 57 - 0), by omega, ?_, ?_, ?_, ?_, ?_⟩, ?_⟩
          · show 0 ≤ 0 ∧ 0 ≤ M 103 57  -- I126.0.h53
            first | with_reducible assumption | omega | exact trivial | with_reducible rfl
          · first | with_reducible assumption | omega | exact trivial | with_reducible rfl  -- I126.0.rfl
          · show 0 = gCo2 (gPd (M 116) (M 129)) (gDg (M 103 57) v14) (Int.toNat 0)  -- I126.0.h50
            rfl
          · show 0 = (if gPv (gDg (M 103 57) v14) 0 < 0 then 0 else M 116 (M 129 (gPv (gDg (M 103 57) v14) 0))) % 16  -- I126.0.hx
            rfl
          · show 0 = (if gPv (gDg (M 103 57) v14) 0 < 0 then 0 else M 116 (M 129 (gPv (gDg (M 103 57) v14) 0))) / 16  -- I126.0.hy
            rfl
          rintro v50 v51 v52 v53 M58 n60 ⟨h_n60, h53, q_rfl, h50, hx, hy⟩ z_v50 z_v51 z_v52 z_v53 z_M58
          have q_rfl := q_rfl.symm
          subst q_rfl
          refine ⟨fun b5 => ?_, fun b5 => ?_⟩
          · -- b5.1
            have e50 : v50 = gCo2 (gPd (M 116) (M 129)) (gDg (M 103 57) v14) (M 103 57).toNat := by rw [h50, show v53 = M 103 57 by omega]
            have c0 := cB _ pm
            refine ⟨fun b6 => ?_, fun b6 => ?_⟩
            · -- b6.1
              refine ⟨fun v69 M71 n73 => (n73 : Int) = (M 103 57 - v69) ∧ (0 ≤ v69 ∧ v69 ≤ M 103 57) ∧ (∀ c i, c ≠ 131 → M71 c i = M34 c i) ∧ (M71 103 57 = M 103 57) ∧ (∀ i, 0 ≤ i → i < v69 → M71 131 i = M 129 (gDg (M 103 57) v14 i)), ⟨Int.toNat (M 103 57 - 0), by omega, ?_, ?_, ?_, ?_⟩, ?_⟩
              · show 0 ≤ 0 ∧ 0 ≤ M 103 57  -- I211.0.h69
                first | with_reducible assumption | omega | exact trivial | with_reducible rfl
              · show ∀ c i, c ≠ 131 → M34 c i = M34 c i  -- I211.0.hf4
                first | with_reducible assumption | omega | exact trivial | with_reducible rfl
              · show M34 103 57 = M 103 57  -- I211.0.k57
                first | with_reducible assumption | omega | exact trivial | with_reducible rfl
              · show ∀ i, 0 ≤ i → i < 0 → M34 131 i = M 129 (gDg (M 103 57) v14 i)  -- I211.0.ho
                intro i i0 i1; omega
              rintro v69 M71 n73 ⟨h_n73, h69, hf4, k57, ho⟩ z_v69 z_M71
              refine ⟨fun b7 => ?_, fun b7 => ?_⟩
              · -- b7.1
                have o4 : zin (v14 + 1) := by
                  first | with_reducible assumption | omega | exact trivial | with_reducible rfl  -- o4
                refine ⟨o4, ?_⟩
                refine ⟨Int.toNat (v1 - (v14 + 1)), by omega, by omega, ?_, ?_, ?_, ?_⟩
                · show 0 ≤ (v14 + 1) ∧ (v14 + 1) ≤ v1  -- I29.2.hw
                  first | with_reducible assumption | omega | exact trivial | with_reducible rfl
                · show ∀ c i, c ≠ 130 → c ≠ 131 → M71 c i = M c i  -- I29.2.hf
                  intro c i c1 c2; rw [hf4 c i c2]; exact hf3 c i c1 c2
                · show gBe (gPd (M 116) (M 129)) (M 103 57) (v14 + 1) v50 (M71 131) (M 129)  -- I29.2.hb
                  rw [e50]
                  exact hb.lt hn hw.1 w1 pm (by omega) cB (fun k k0 k1 => ho k k0 (by omega))
                · show -1 ≤ v50  -- I29.2.h13
                  first | with_reducible assumption | omega | exact trivial | with_reducible rfl
              · -- b7.2
                have o5 : ((0 : Int) ≤ v69 ∧ v69 < 7) := by
                  first | with_reducible assumption | omega | exact trivial | with_reducible rfl  -- o5
                refine ⟨o5, ?_⟩
                intro M86 e_M86
                have o6 : zin (v69 + 1) := by
                  first | with_reducible assumption | omega | exact trivial | with_reducible rfl  -- o6
                refine ⟨o6, ?_⟩
                refine ⟨Int.toNat (M 103 57 - (v69 + 1)), by omega, by omega, ?_, ?_, ?_, ?_⟩
                · show 0 ≤ (v69 + 1) ∧ (v69 + 1) ≤ M 103 57  -- I211.1.h69
                  first | with_reducible assumption | omega | exact trivial | with_reducible rfl
                · show ∀ c i, c ≠ 131 → M86 c i = M34 c i  -- I211.1.hf4
                  intro c i c1; rw [e_M86, zset_n _ (by omega)]; exact hf4 c i c1
                · show M86 103 57 = M 103 57  -- I211.1.k57
                  rw [e_M86, zset_n _ (by omega)]; exact k57
                · show ∀ i, 0 ≤ i → i < (v69 + 1) → M86 131 i = M 129 (gDg (M 103 57) v14 i)  -- I211.1.ho
                  intro i i0 i1
                  by_cases c : i = v69
                  · rw [c, e_M86, zset_s, hf4 130 v69 (by decide)]; exact hd v69 (by omega) (by omega)
                  · rw [e_M86, zset_n _ (by omega)]; exact ho i i0 (by omega)
            · -- b6.2
              refine ⟨fun b8 => ?_, fun b8 => ?_⟩
              · -- b8.1
                have o7 : zin (v14 + 1) := by
                  first | with_reducible assumption | omega | exact trivial | with_reducible rfl  -- o7
                refine ⟨o7, ?_⟩
                refine ⟨Int.toNat (v1 - (v14 + 1)), by omega, by omega, ?_, ?_, ?_, ?_⟩
                · show 0 ≤ (v14 + 1) ∧ (v14 + 1) ≤ v1  -- I29.3.hw
                  first | with_reducible assumption | omega | exact trivial | with_reducible rfl
                · show ∀ c i, c ≠ 130 → c ≠ 131 → M34 c i = M c i  -- I29.3.hf
                  exact hf3
                · show gBe (gPd (M 116) (M 129)) (M 103 57) (v14 + 1) v13 (M34 131) (M 129)  -- I29.3.hb
                  rw [r131]; exact hb.ge hn hw.1 w1 (by omega) (by omega)
                · show -1 ≤ v13  -- I29.3.h13
                  first | with_reducible assumption | omega | exact trivial | with_reducible rfl
              · -- b8.2
                refine ⟨fun v98 M100 n102 => (n102 : Int) = (M 103 57 - v98) ∧ (0 ≤ v98 ∧ v98 ≤ M 103 57) ∧ (∀ c i, c ≠ 131 → M100 c i = M34 c i) ∧ (M100 103 57 = M 103 57) ∧ (∀ i, 0 ≤ i → i < v98 → M100 131 i = M 129 (gDg (M 103 57) v14 i)), ⟨Int.toNat (M 103 57 - 0), by omega, ?_, ?_, ?_, ?_⟩, ?_⟩
                · show 0 ≤ 0 ∧ 0 ≤ M 103 57  -- I211.0.h69
                  first | with_reducible assumption | omega | exact trivial | with_reducible rfl
                · show ∀ c i, c ≠ 131 → M34 c i = M34 c i  -- I211.0.hf4
                  first | with_reducible assumption | omega | exact trivial | with_reducible rfl
                · show M34 103 57 = M 103 57  -- I211.0.k57
                  first | with_reducible assumption | omega | exact trivial | with_reducible rfl
                · show ∀ i, 0 ≤ i → i < 0 → M34 131 i = M 129 (gDg (M 103 57) v14 i)  -- I211.0.ho
                  intro i i0 i1; omega
                rintro v98 M100 n102 ⟨h_n102, h69, hf4, k57, ho⟩ z_v98 z_M100
                refine ⟨fun b9 => ?_, fun b9 => ?_⟩
                · -- b9.1
                  have o8 : zin (v14 + 1) := by
                    first | with_reducible assumption | omega | exact trivial | with_reducible rfl  -- o8
                  refine ⟨o8, ?_⟩
                  refine ⟨Int.toNat (v1 - (v14 + 1)), by omega, by omega, ?_, ?_, ?_, ?_⟩
                  · show 0 ≤ (v14 + 1) ∧ (v14 + 1) ≤ v1  -- I29.4.hw
                    first | with_reducible assumption | omega | exact trivial | with_reducible rfl
                  · show ∀ c i, c ≠ 130 → c ≠ 131 → M100 c i = M c i  -- I29.4.hf
                    intro c i c1 c2; rw [hf4 c i c2]; exact hf3 c i c1 c2
                  · show gBe (gPd (M 116) (M 129)) (M 103 57) (v14 + 1) v50 (M100 131) (M 129)  -- I29.4.hb
                    rw [e50]
                    exact hb.lt hn hw.1 w1 pm (by omega) cB (fun k k0 k1 => ho k k0 (by omega))
                  · show -1 ≤ v50  -- I29.4.h13
                    first | with_reducible assumption | omega | exact trivial | with_reducible rfl
                · -- b9.2
                  have o9 : ((0 : Int) ≤ v98 ∧ v98 < 7) := by
                    first | with_reducible assumption | omega | exact trivial | with_reducible rfl  -- o9
                  refine ⟨o9, ?_⟩
                  intro M115 e_M115
                  have o10 : zin (v98 + 1) := by
                    first | with_reducible assumption | omega | exact trivial | with_reducible rfl  -- o10
                  refine ⟨o10, ?_⟩
                  refine ⟨Int.toNat (M 103 57 - (v98 + 1)), by omega, by omega, ?_, ?_, ?_, ?_⟩
                  · show 0 ≤ (v98 + 1) ∧ (v98 + 1) ≤ M 103 57  -- I211.2.h69
                    first | with_reducible assumption | omega | exact trivial | with_reducible rfl
                  · show ∀ c i, c ≠ 131 → M115 c i = M34 c i  -- I211.2.hf4
                    intro c i c1; rw [e_M115, zset_n _ (by omega)]; exact hf4 c i c1
                  · show M115 103 57 = M 103 57  -- I211.2.k57
                    rw [e_M115, zset_n _ (by omega)]; exact k57
                  · show ∀ i, 0 ≤ i → i < (v98 + 1) → M115 131 i = M 129 (gDg (M 103 57) v14 i)  -- I211.2.ho
                    intro i i0 i1
                    by_cases c : i = v98
                    · rw [c, e_M115, zset_s, hf4 130 v98 (by decide)]; exact hd v98 (by omega) (by omega)
                    · rw [e_M115, zset_n _ (by omega)]; exact ho i i0 (by omega)
          · -- b5.2
            have sp := hS (gDg (M 103 57) v14 v53) (db v53).1 (db v53).2
            have e130 : M34 130 v53 = M 129 (gDg (M 103 57) v14 v53) := hd v53 (by omega) (by omega)
            have pb : 0 ≤ (if gPv (gDg (M 103 57) v14) v53 < 0 then 0 else M 116 (M 129 (gPv (gDg (M 103 57) v14) v53))) ∧ (if gPv (gDg (M 103 57) v14) v53 < 0 then 0 else M 116 (M 129 (gPv (gDg (M 103 57) v14) v53))) < 192 := by
              split
              · omega
              · rename_i k
                have k2 : gPv (gDg (M 103 57) v14) v53 < M 103 57 := by
                  unfold gPv
                  split
                  · omega
                  · exact (db _).2
                exact (hS _ (by omega) k2).2
            have o11 : ((0 : Int) ≤ v53 ∧ v53 < 7) := by
              first | with_reducible assumption | omega | exact trivial | with_reducible rfl  -- o11
            refine ⟨o11, ?_⟩
            have gc1 : pr_X12_moveTo v51 v52 (M34 130 v53) M34 := by
              refine ⟨?_, ?_, ?_, ?_⟩
              · show 0 ≤ v51 ∧ v51 < 16  -- c1.hx
                rw [hx]; omega
              · show 0 ≤ v52 ∧ v52 < 16  -- c1.hy
                rw [hy]; omega
              · show 0 ≤ (M34 130 v53) ∧ (M34 130 v53) < 192  -- c1.hf
                rw [e130]; exact sp.1
              · show 0 ≤ M34 116 (M34 130 v53) ∧ M34 116 (M34 130 v53) < 192  -- c1.hF
                rw [e130, r116]; exact sp.2
            refine ⟨gc1, ?_⟩
            rintro r123 M124 ⟨q_rfl, e_r123⟩ z_r123 z_M124
            have q_rfl := q_rfl.symm
            subst q_rfl
            rw [e130, r116] at e_r123
            have ed : r123 = gPd (M 116) (M 129) (gPv (gDg (M 103 57) v14) v53) (gDg (M 103 57) v14 v53) := by
              rw [e_r123, hx, hy]; rfl
            have cb := gCo2_b dB (fun i a b => db i) v53.toNat (by omega)
            have d3 := dB (gPv (gDg (M 103 57) v14) v53) (gDg (M 103 57) v14 v53) (by
              unfold gPv
              split
              · omega
              · have := db (v53 - 1); omega) (by
              unfold gPv
              split
              · omega
              · exact (db _).2) (db v53).1 (db v53).2
            have o12 : ((0 : Int) ≤ (M34 130 v53) ∧ (M34 130 v53) < 192) := by
              rw [e130]; exact sp.1
            refine ⟨o12, ?_⟩
            have o13 : 0 ≤ (M34 116 (M34 130 v53)) := by
              rw [e130, r116]; exact sp.2.1
            refine ⟨o13, ?_⟩
            have o14 : zin (v50 + r123) := by
              rw [h50, ed]; omega
            refine ⟨o14, ?_⟩
            have o15 : zin (v53 + 1) := by
              first | with_reducible assumption | omega | exact trivial | with_reducible rfl  -- o15
            refine ⟨o15, ?_⟩
            refine ⟨Int.toNat (M 103 57 - (v53 + 1)), by omega, by omega, ?_, ?_, ?_, ?_, ?_⟩
            · show 0 ≤ (v53 + 1) ∧ (v53 + 1) ≤ M 103 57  -- I126.1.h53
              first | with_reducible assumption | omega | exact trivial | with_reducible rfl
            · first | with_reducible assumption | omega | exact trivial | with_reducible rfl  -- I126.1.rfl
            · show (v50 + r123) = gCo2 (gPd (M 116) (M 129)) (gDg (M 103 57) v14) (Int.toNat (v53 + 1))  -- I126.1.h50
              rw [h50, ed, show (v53 + 1).toNat = v53.toNat + 1 by omega]
              show _ = gCo2 _ _ v53.toNat + gPd _ _ (gPv _ ((v53.toNat : Nat) : Int)) (gDg _ _ ((v53.toNat : Nat) : Int))
              rw [Int.toNat_of_nonneg h53.1]
            · show ((M34 116 (M34 130 v53)) % 16) = (if gPv (gDg (M 103 57) v14) (v53 + 1) < 0 then 0 else M 116 (M 129 (gPv (gDg (M 103 57) v14) (v53 + 1)))) % 16  -- I126.1.hx
              rw [e130, r116, show gPv (gDg (M 103 57) v14) (v53 + 1) = gDg (M 103 57) v14 v53 by
                unfold gPv; rw [if_neg (by omega), show v53 + 1 - 1 = v53 by omega]]
              rw [if_neg (by have := db v53; omega)]
            · show ((M34 116 (M34 130 v53)) / 16) = (if gPv (gDg (M 103 57) v14) (v53 + 1) < 0 then 0 else M 116 (M 129 (gPv (gDg (M 103 57) v14) (v53 + 1)))) / 16  -- I126.1.hy
              rw [e130, r116, show gPv (gDg (M 103 57) v14) (v53 + 1) = gDg (M 103 57) v14 v53 by
                unfold gPv; rw [if_neg (by omega), show v53 + 1 - 1 = v53 by omega]]
              rw [if_neg (by have := db v53; omega)]
      · -- b3.2
        have g := gPw_7 (n := M 103 57) hn (k := (M 103 57 - 1 - v29).toNat) (by omega)
        have q0 : 0 ≤ v27 := by rw [h27]; exact Int.ediv_nonneg hw.1 (by omega)
        have dg : v27 % M34 103 57 = gDg (M 103 57) v14 v29 := by rw [m57, h27]; rfl
        have db := gDg_b (n := M 103 57) (w := v14) (k := v29) hn.1
        have z7 := zs7 (n := M 103 57) (by omega) hs.1 hs.2 db.1 db.2
        have zo := zbt_or hs.1 (show v28 < 65536 by omega) db.1 (show gDg (M 103 57) v14 v29 < 16 by omega)
        have o16 : (0 ≤ v27 ∧ 0 < (M34 103 57)) := by
          first | with_reducible assumption | omega | exact trivial | with_reducible rfl  -- o16
        refine ⟨o16, ?_⟩
        have o17 : ((0 : Int) ≤ (v27 % (M34 103 57)) ∧ (v27 % (M34 103 57)) < 192) := by
          rw [dg]; omega
        refine ⟨o17, ?_⟩
        have o18 : ((0 : Int) ≤ v29 ∧ v29 < 7) := by
          first | with_reducible assumption | omega | exact trivial | with_reducible rfl  -- o18
        refine ⟨o18, ?_⟩
        intro M139 e_M139
        have e57 : M139 103 57 = M 103 57 := by rw [e_M139, zset_n _ (by omega)]; exact m57
        have o19 : (0 ≤ v27 ∧ 0 < (M139 103 57)) := by
          first | with_reducible assumption | omega | exact trivial | with_reducible rfl  -- o19
        refine ⟨o19, ?_⟩
        have o20 : zin (v29 + (-1)) := by
          first | with_reducible assumption | omega | exact trivial | with_reducible rfl  -- o20
        refine ⟨o20, ?_⟩
        refine ⟨Int.toNat ((v29 + (-1)) + 1), by omega, by omega, ?_, ?_, ?_, ?_, ?_, ?_⟩
        · show -1 ≤ (v29 + (-1)) ∧ (v29 + (-1)) < M 103 57  -- I48.1.h29
          first | with_reducible assumption | omega | exact trivial | with_reducible rfl
        · show ∀ c i, c ≠ 130 → M139 c i = M17 c i  -- I48.1.hf2
          intro c i c1; rw [e_M139, zset_n _ (by omega)]; exact hf2 c i c1
        · show (v27 / (M139 103 57)) = v14 / gPw (M 103 57) (M 103 57 - 1 - (v29 + (-1))).toNat  -- I48.1.h27
          rw [e57, h27, show (M 103 57 - 1 - (v29 + -1)).toNat = (M 103 57 - 1 - v29).toNat + 1 by omega, Int.ediv_ediv_of_nonneg (by omega)]; rfl
        · show 0 ≤ (zlor v28 (zshl 1 (v27 % (M139 103 57)))) ∧ (zlor v28 (zshl 1 (v27 % (M139 103 57)))) < zshl 1 (M 103 57)  -- I48.1.hs
          rw [e57, ← m57, dg]; rw [m57]; exact ⟨z7.1, z7.2.1⟩
        · show ∀ s, 0 ≤ s → (zbt (zlor v28 (zshl 1 (v27 % (M139 103 57)))) s ↔ ∃ i, (v29 + (-1)) < i ∧ i < M 103 57 ∧ gDg (M 103 57) v14 i = s)  -- I48.1.hu
          intro s s0
          rw [e57, ← m57, dg, zo.2 s s0, hu s s0, m57]
          constructor
          · rintro (⟨i, i0, i1, e⟩ | e)
            · exact ⟨i, by omega, i1, e⟩
            · exact ⟨v29, by omega, by omega, e.symm⟩
          · rintro ⟨i, i0, i1, e⟩
            by_cases c : i = v29
            · subst c; exact .inr e.symm
            · exact .inl ⟨i, by omega, i1, e⟩
        · show ∀ i, (v29 + (-1)) < i → i < M 103 57 → M139 130 i = M 129 (gDg (M 103 57) v14 i)  -- I48.1.hd
          intro i i0 i1
          by_cases c : i = v29
          · rw [c, e_M139, zset_s, r129, dg]
          · rw [e_M139, zset_n _ (by omega)]; exact hd i (by omega) i1
  · -- b1.2
    have o21 : zin (v1 * (M 103 57)) := by
      have a := gPw_7 (n := M 103 57) hn (k := v2.toNat + 1) (by omega)
      have e : gPw (M 103 57) (v2.toNat + 1) = gPw (M 103 57) v2.toNat * M 103 57 := rfl
      rw [h1, ← e]; omega
    refine ⟨o21, ?_⟩
    have o22 : zin (v2 + 1) := by
      first | with_reducible assumption | omega | exact trivial | with_reducible rfl  -- o22
    refine ⟨o22, ?_⟩
    refine ⟨Int.toNat (M 103 57 - (v2 + 1)), by omega, by omega, ?_, ?_⟩
    · show 0 ≤ (v2 + 1) ∧ (v2 + 1) ≤ M 103 57  -- I6.1.hv
      first | with_reducible assumption | omega | exact trivial | with_reducible rfl
    · show (v1 * (M 103 57)) = gPw (M 103 57) (Int.toNat (v2 + 1))  -- I6.1.h1
      rw [h1, show (v2 + 1).toNat = v2.toNat + 1 by omega]; rfl

