theorem zset_c {M : zM} {a b v c : Int} (h : c ≠ a) : zset M a b v c = M c := funext fun i => zset_n _ (by omega)
/-- how far it is from a dot to a dot -/
def gDi (a b : Int) : Int := max (b % 16 - a % 16) (-(b % 16 - a % 16)) + max (b / 16 - a / 16) (-(b / 16 - a / 16))
def gPd (F S : Int → Int) (i j : Int) : Int := gDi (if i < 0 then 0 else F (S i)) (F (S j))
theorem gDi_b {a b : Int} (ha : 0 ≤ a ∧ a < 192) (hb : 0 ≤ b ∧ b < 192) : 0 ≤ gDi a b ∧ gDi a b ≤ 30 := by unfold gDi; omega
/-- the stops are faces -/
def gSp (n : Int) (F S : Int → Int) : Prop := ∀ k, 0 ≤ k → k < n → (0 ≤ S k ∧ S k < 192) ∧ (0 ≤ F (S k) ∧ F (S k) < 192)
theorem gPd_b {n : Int} {F S : Int → Int} (h : gSp n F S) {i j : Int} (i0 : -1 ≤ i) (i1 : i < n) (j0 : 0 ≤ j) (j1 : j < n) : 0 ≤ gPd F S i j ∧ gPd F S i j ≤ 30 := by
  unfold gPd
  refine gDi_b ?_ (h j j0 j1).2
  split
  · omega
  · exact (h i (by omega) i1).2
/-- how many stops aren't drawn -/
def gTb (n s : Int) : Int := n - zpc 7 s.toNat
theorem zs7f : ∀ n : Fin 8, ∀ s : Fin 128, s.val < 2 ^ n.val → 0 ≤ gTb (n.val : Nat) (s.val : Nat) ∧ (s.val + 1 < 2 ^ n.val → 1 ≤ gTb (n.val : Nat) (s.val : Nat)) ∧ (gTb (n.val : Nat) (s.val : Nat) = 0 ↔ s.val + 1 = 2 ^ n.val) ∧ ∀ c : Fin 7, c.val < n.val → (s.val ||| 2 ^ c.val < 2 ^ n.val ∧ (s.val + 1 = 2 ^ n.val → s.val.testBit c.val = true) ∧ (s.val.testBit c.val = false → s.val < s.val ||| 2 ^ c.val ∧ gTb (n.val : Nat) (s.val : Nat) = gTb (n.val : Nat) ((s.val ||| 2 ^ c.val : Nat) : Int) + 1)) := by decide +kernel
theorem zs7e : ∀ n : Fin 8, ∀ s : Fin 128, s.val + 1 < 2 ^ n.val → ∃ c : Fin 7, c.val < n.val ∧ s.val.testBit c.val = false := by decide +kernel
theorem zs7a {n : Int} (h : 0 ≤ n ∧ n ≤ 7) : zshl 1 n = ((2 ^ n.toNat : Nat) : Int) ∧ 1 ≤ zshl 1 n ∧ zshl 1 n ≤ 128 := by
  have e := zsh1 ⟨n.toNat, by omega⟩
  simp only [] at e
  rw [Int.toNat_of_nonneg h.1] at e
  have a : 0 < 2 ^ n.toNat := Nat.pow_pos (by decide)
  have b : 2 ^ n.toNat ≤ 2 ^ 7 := Nat.pow_le_pow_right (by decide) (by omega)
  rw [e]
  exact ⟨rfl, by omega, by omega⟩
theorem zs7t {n s : Int} (h : 0 ≤ n ∧ n ≤ 7) (s0 : 0 ≤ s) (s1 : s < zshl 1 n) : 0 ≤ gTb n s ∧ (s < zshl 1 n - 1 → 1 ≤ gTb n s) ∧ (gTb n s = 0 ↔ s = zshl 1 n - 1) := by
  have a := zs7a h
  have f := zs7f ⟨n.toNat, by omega⟩ ⟨s.toNat, by omega⟩ (show s.toNat < 2 ^ n.toNat by omega)
  simp only [] at f
  rw [Int.toNat_of_nonneg h.1, Int.toNat_of_nonneg s0] at f
  exact ⟨f.1, fun k => f.2.1 (by omega), by rw [f.2.2.1]; omega⟩
theorem zs7 {n s c : Int} (h : 0 ≤ n ∧ n ≤ 7) (s0 : 0 ≤ s) (s1 : s < zshl 1 n) (c0 : 0 ≤ c) (c1 : c < n) : 0 ≤ zlor s (zshl 1 c) ∧ zlor s (zshl 1 c) < zshl 1 n ∧ (s = zshl 1 n - 1 → zbt s c) ∧ (¬ zbt s c → s < zlor s (zshl 1 c) ∧ gTb n s = gTb n (zlor s (zshl 1 c)) + 1) := by
  have a := zs7a h
  have f := (zs7f ⟨n.toNat, by omega⟩ ⟨s.toNat, by omega⟩ (show s.toNat < 2 ^ n.toNat by omega)).2.2.2 ⟨c.toNat, by omega⟩ (show c.toNat < n.toNat by omega)
  simp only [] at f
  rw [Int.toNat_of_nonneg h.1, Int.toNat_of_nonneg s0] at f
  have e := (zs7a (n := c) (by omega)).1
  have p16 : 2 ^ c.toNat < 2 ^ 16 := Nat.pow_lt_pow_right (by decide) (by omega)
  have e2 := zlor_N (a := s.toNat) (b := 2 ^ c.toNat) (by omega) (by omega)
  rw [Int.toNat_of_nonneg s0] at e2
  rw [e, e2]
  refine ⟨by omega, by omega, fun k => f.2.1 (by omega), fun k => ?_⟩
  have := f.2.2 (by unfold zbt at k; simpa using k)
  exact ⟨by omega, this.2⟩
theorem zs7x {n s : Int} (h : 0 ≤ n ∧ n ≤ 7) (s0 : 0 ≤ s) (s1 : s < zshl 1 n - 1) : ∃ c, 0 ≤ c ∧ c < n ∧ ¬ zbt s c := by
  have a := zs7a h
  obtain ⟨c, c0, c1⟩ := zs7e ⟨n.toNat, by omega⟩ ⟨s.toNat, by omega⟩ (show s.toNat + 1 < 2 ^ n.toNat by omega)
  simp only [] at c0
  exact ⟨c.val, by omega, by omega, by unfold zbt; simp at c1 ⊢; exact c1⟩
/-- what is left is known for the sets behind this one -/
def gLf (D : Int → Int → Int) (n lo : Int) (L : Int → Int) : Prop := ∀ s c, lo < s → s < zshl 1 n → 0 ≤ c → c < n → L (7 * s + c) = gW D n (gTb n s).toNat s c
/-- what is left is no more than all ways -/
theorem gW_up {D : Int → Int → Int} {n : Int} (h : 0 ≤ n ∧ n ≤ 7) (hD : ∀ i j, -1 ≤ i → i < n → 0 ≤ j → j < n → 0 ≤ D i j ∧ D i j ≤ 30) : ∀ (m : Nat) (s last : Int), 0 ≤ s → s < zshl 1 n → gTb n s = m → -1 ≤ last → last < n → gW D n m s last ≤ 30 * m
  | 0, _, _, _, _, _, _, _ => by unfold gW; omega
  | m + 1, s, last, s0, s1, e, l0, l1 => by
    rw [gW_s]
    have t := zs7t h s0 s1
    obtain ⟨c, c0, c1, c2⟩ := zs7x h s0 (show s < zshl 1 n - 1 by
      apply Classical.byContradiction
      intro k
      have := t.2.2.2 (by omega)
      omega)
    have le := gMi_le (f := gF D n m s last) n.toNat c c0 (by omega)
    rw [gF_o c2] at le
    have z := zs7 h s0 s1 c0 c1
    have i := gW_up h hD m (zlor s (zshl 1 c)) c z.1 z.2.1 (by have := (z.2.2.2 c2).2; omega) (by omega) (by omega)
    have d := hD last c l0 l1 c0 c1
    omega
theorem zs7b {n : Int} (h : 1 ≤ n) (h7 : n ≤ 7) : 2 ≤ zshl 1 n := by
  have a := zs7a (n := n) (by omega)
  have : 2 ^ 1 ≤ 2 ^ n.toNat := Nat.pow_le_pow_right (by decide) (by omega)
  omega
theorem gTb_0 {n : Int} : gTb n 0 = n := by
  unfold gTb
  rw [show zpc 7 (0 : Int).toNat = 0 by decide]
  omega
/-- the row's first k stops are first best ones -/
def gQp (D : Int → Int → Int) (n : Int) (σ : Int → Int) (k : Int) : Prop := (∀ i, 0 ≤ i → i < k → 0 ≤ σ i ∧ σ i < n) ∧ ∀ i, 0 ≤ i → i < k → ∃ set, gSt2 n σ i set ∧ gF D n (n - i - 1).toNat set (gPv σ i) (σ i) = gW D n (n - i).toNat set (gPv σ i) ∧ ∀ s, 0 ≤ s → s < σ i → gW D n (n - i).toNat set (gPv σ i) < gF D n (n - i - 1).toNat set (gPv σ i) s
theorem gSt2_cg {n k set : Int} {σ τ : Int → Int} (h : gSt2 n σ k set) (e : ∀ i, 0 ≤ i → i < k → τ i = σ i) : gSt2 n τ k set := ⟨h.1, fun s s0 => by
  rw [h.2 s s0]
  exact ⟨fun ⟨i, a, b, c⟩ => ⟨i, a, b, by rw [e i a b]; exact c⟩, fun ⟨i, a, b, c⟩ => ⟨i, a, b, by rw [← e i a b]; exact c⟩⟩⟩
theorem gPv_cg {k : Int} {σ τ : Int → Int} (k0 : 0 ≤ k) (e : ∀ i, 0 ≤ i → i < k → σ i = τ i) : gPv σ k = gPv τ k := by
  unfold gPv
  split
  · rfl
  · exact e _ (by omega) (by omega)
theorem zc_mo {p : Int → Prop} {a : Int} (h : 0 ≤ a) : ∀ n, a ≤ n → zc p a ≤ zc p n := by
  intro n hn
  have key : ∀ k : Nat, zc p a ≤ zc p (a + k) := by
    intro k
    induction k with
    | zero => simp
    | succ k ih =>
      rw [show a + ((k + 1 : Nat) : Int) = a + k + 1 by omega]
      by_cases c : p (a + k)
      · rw [zc_p (by omega) c]; omega
      · rw [zc_n (by omega) c]; exact ih
  have := key (n - a).toNat
  rwa [show a + (((n - a).toNat : Nat) : Int) = n by omega] at this
abbrev pr_X5_collect (k : Int) (M : zM) : Prop := (bDim M) ∧ (bFok M)
abbrev po_X5_collect (k : Int) (M : zM) (r : Int) (M' : zM) : Prop := (∀ c i, c ≠ 55 → ¬ (c = 53 ∧ i = 1) → M' c i = M c i) ∧ (zB r (zc (fun f => M 2 (M 7 f) = k) (M 5 2) ≤ 7)) ∧ (r = 1 → M' 53 1 = zc (fun f => M 2 (M 7 f) = k) (M 5 2) ∧ ∀ t, 0 ≤ t → t < M' 53 1 → 0 ≤ M' 55 t ∧ M' 55 t < M 5 2 ∧ M 2 (M 7 (M' 55 t)) = k ∧ zc (fun f => M 2 (M 7 f) = k) (M' 55 t) = t)
set_option maxHeartbeats 1000000 in
theorem ok_X5_collect : zSnd zS 145 0 0 yX5_collect cX5_collect 3 (some .boolean) 2 [2, 0] (F_X5_collect pr_X5_collect po_X5_collect) := by
  refine (sn_X5_collect ok_X2_colour).mono ?_
  rintro xs P M hz hR ⟨k, rfl, ⟨hd, hk⟩, hP⟩
  refine ⟨_, rfl, ?_⟩
  have z_k := zall_h (zall_t hz) (by decide)
  change vc_X5_collect pr_X2_colour po_X2_colour k P M
  unfold vc_X5_collect
  have hN := hk.N hd
  intro M1 e_M1
  refine ⟨fun v4 M6 n8 => (n8 : Int) = (M 5 2 - v4) ∧ (0 ≤ v4 ∧ v4 ≤ M 5 2) ∧ (∀ c i, c ≠ 55 → ¬ (c = 53 ∧ i = 1) → M6 c i = M c i) ∧ (M6 53 1 = zc (fun f => M 2 (M 7 f) = k) v4) ∧ (M6 53 1 ≤ 7) ∧ (∀ t, 0 ≤ t → t < M6 53 1 → 0 ≤ M6 55 t ∧ M6 55 t < v4 ∧ M 2 (M 7 (M6 55 t)) = k ∧ zc (fun f => M 2 (M 7 f) = k) (M6 55 t) = t), ⟨Int.toNat (M 5 2 - 0), by omega, ?_, ?_, ?_, ?_, ?_⟩, ?_⟩
  · show 0 ≤ 0 ∧ 0 ≤ M 5 2  -- I7.0.hv
    first | with_reducible assumption | omega | exact trivial | with_reducible rfl
  · show ∀ c i, c ≠ 55 → ¬ (c = 53 ∧ i = 1) → M1 c i = M c i  -- I7.0.hf
    intro c i c1 c2; rw [e_M1, zset_n _ (by omega)]
  · show M1 53 1 = zc (fun f => M 2 (M 7 f) = k) 0  -- I7.0.h1
    rw [e_M1, zset_s, zc_z]
  · show M1 53 1 ≤ 7  -- I7.0.h7
    rw [e_M1, zset_s]; omega
  · show ∀ t, 0 ≤ t → t < M1 53 1 → 0 ≤ M1 55 t ∧ M1 55 t < 0 ∧ M 2 (M 7 (M1 55 t)) = k ∧ zc (fun f => M 2 (M 7 f) = k) (M1 55 t) = t  -- I7.0.ht
    intro t t0 t1; rw [e_M1, zset_s] at t1; omega
  rintro v4 M6 n8 ⟨h_n8, hv, hf, h1, h7, ht⟩ z_v4 z_M6
  have m2 : M6 2 = M 2 := funext fun i => hf 2 i (by decide) (by omega)
  have m7 : M6 7 = M 7 := funext fun i => hf 7 i (by decide) (by omega)
  have m10 : M6 1 0 = M 1 0 := hf 1 0 (by decide) (by omega)
  have m11 : M6 1 1 = M 1 1 := hf 1 1 (by decide) (by omega)
  have m52 : M6 5 2 = M 5 2 := hf 5 2 (by decide) (by omega)
  have zb := zc_b (p := fun f => M 2 (M 7 f) = k) v4 hv.1
  refine ⟨fun b1 => ?_, fun b1 => ?_⟩
  · -- b1.1
    have vN : v4 = M 5 2 := by omega
    refine hP _ _ ⟨?_, ?_, ?_⟩
    · show ∀ c i, c ≠ 55 → ¬ (c = 53 ∧ i = 1) → M6 c i = M c i  -- p1.hf
      first | with_reducible assumption | omega | exact trivial | with_reducible rfl
    · show zB 1 (zc (fun f => M 2 (M 7 f) = k) (M 5 2) ≤ 7)  -- p1.hb
      exact zB.t (by rw [← vN, ← h1]; exact h7)
    · show 1 = 1 → M6 53 1 = zc (fun f => M 2 (M 7 f) = k) (M 5 2) ∧ ∀ t, 0 ≤ t → t < M6 53 1 → 0 ≤ M6 55 t ∧ M6 55 t < M 5 2 ∧ M 2 (M 7 (M6 55 t)) = k ∧ zc (fun f => M 2 (M 7 f) = k) (M6 55 t) = t  -- p1.hn
      intro _; rw [← vN]; exact ⟨h1, ht⟩
  · -- b1.2
    have dF := (hk.1.2.2.2.1 v4 (by omega) (by omega)).1
    have gc1 : pr_X2_colour v4 M6 := by
      refine ⟨?_, ?_, ?_⟩
      · show bDim M6  -- c1.hd
        unfold bDim at hd ⊢; rw [m10, m11]; exact hd
      · show 0 ≤ v4 ∧ v4 < 192  -- c1.hf
        first | with_reducible assumption | omega | exact trivial | with_reducible rfl
      · show gD (M6 1 0) (M6 1 1) (M6 7 v4)  -- c1.hF
        rw [m10, m11, m7]; exact dF
    refine ⟨gc1, ?_⟩
    rintro r16 M17 ⟨q_rfl, e_r16⟩ z_r16 z_M17
    have q_rfl := q_rfl.symm
    subst q_rfl
    rw [m2, m7] at e_r16
    refine ⟨fun b2 => ?_, fun b2 => ?_⟩
    · -- b2.1
      have o1 : zin (v4 + 1) := by
        first | with_reducible assumption | omega | exact trivial | with_reducible rfl  -- o1
      refine ⟨o1, ?_⟩
      refine ⟨Int.toNat (M 5 2 - (v4 + 1)), by omega, by omega, ?_, ?_, ?_, ?_, ?_⟩
      · show 0 ≤ (v4 + 1) ∧ (v4 + 1) ≤ M 5 2  -- I7.1.hv
        first | with_reducible assumption | omega | exact trivial | with_reducible rfl
      · show ∀ c i, c ≠ 55 → ¬ (c = 53 ∧ i = 1) → M6 c i = M c i  -- I7.1.hf
        first | with_reducible assumption | omega | exact trivial | with_reducible rfl
      · show M6 53 1 = zc (fun f => M 2 (M 7 f) = k) (v4 + 1)  -- I7.1.h1
        rw [h1, zc_n hv.1 (by rw [← e_r16]; exact b2)]
      · show M6 53 1 ≤ 7  -- I7.1.h7
        first | with_reducible assumption | omega | exact trivial | with_reducible rfl
      · show ∀ t, 0 ≤ t → t < M6 53 1 → 0 ≤ M6 55 t ∧ M6 55 t < (v4 + 1) ∧ M 2 (M 7 (M6 55 t)) = k ∧ zc (fun f => M 2 (M 7 f) = k) (M6 55 t) = t  -- I7.1.ht
        intro t t0 t1
        have := ht t t0 t1
        exact ⟨this.1, by omega, this.2.2⟩
    · -- b2.2
      refine ⟨fun b3 => ?_, fun b3 => ?_⟩
      · -- b3.1
        have o2 : ((0 : Int) ≤ (M6 53 1) ∧ (M6 53 1) < 7) := by
          first | with_reducible assumption | omega | exact trivial | with_reducible rfl  -- o2
        refine ⟨o2, ?_⟩
        intro M29 e_M29
        have o3 : zin ((M29 53 1) + 1) := by
          rw [e_M29, zset_n _ (by omega)]; omega
        refine ⟨o3, ?_⟩
        intro M33 e_M33
        have q : ∀ c i, ¬ (c = 55 ∧ i = M6 53 1) → ¬ (c = 53 ∧ i = 1) → M33 c i = M6 c i := fun c i c1 c2 => by
          rw [e_M33, zset_n _ (by omega), e_M29, zset_n _ (by omega)]
        have q1 : M33 53 1 = M6 53 1 + 1 := by rw [e_M33, zset_s, e_M29, zset_n _ (by omega)]
        have q2 : M33 55 (M6 53 1) = v4 := by rw [e_M33, zset_n _ (by omega), e_M29, zset_s]
        have o4 : zin (v4 + 1) := by
          first | with_reducible assumption | omega | exact trivial | with_reducible rfl  -- o4
        refine ⟨o4, ?_⟩
        refine ⟨Int.toNat (M 5 2 - (v4 + 1)), by omega, by omega, ?_, ?_, ?_, ?_, ?_⟩
        · show 0 ≤ (v4 + 1) ∧ (v4 + 1) ≤ M 5 2  -- I7.2.hv
          first | with_reducible assumption | omega | exact trivial | with_reducible rfl
        · show ∀ c i, c ≠ 55 → ¬ (c = 53 ∧ i = 1) → M33 c i = M c i  -- I7.2.hf
          intro c i c1 c2; rw [q c i (by omega) c2]; exact hf c i c1 c2
        · show M33 53 1 = zc (fun f => M 2 (M 7 f) = k) (v4 + 1)  -- I7.2.h1
          rw [q1, h1, zc_p hv.1 (by rw [← e_r16]; exact b2)]
        · show M33 53 1 ≤ 7  -- I7.2.h7
          rw [q1]; omega
        · show ∀ t, 0 ≤ t → t < M33 53 1 → 0 ≤ M33 55 t ∧ M33 55 t < (v4 + 1) ∧ M 2 (M 7 (M33 55 t)) = k ∧ zc (fun f => M 2 (M 7 f) = k) (M33 55 t) = t  -- I7.2.ht
          intro t t0 t1
          rw [q1] at t1
          by_cases c : t = M6 53 1
          · rw [c, q2]
            exact ⟨hv.1, by omega, by rw [← e_r16]; exact b2, h1.symm⟩
          · rw [q 55 t (by omega) (by omega)]
            have := ht t t0 (by omega)
            exact ⟨this.1, by omega, this.2.2⟩
      · -- b3.2
        refine hP _ _ ⟨?_, ?_, ?_⟩
        · show ∀ c i, c ≠ 55 → ¬ (c = 53 ∧ i = 1) → M6 c i = M c i  -- p2.hf
          first | with_reducible assumption | omega | exact trivial | with_reducible rfl
        · show zB 0 (zc (fun f => M 2 (M 7 f) = k) (M 5 2) ≤ 7)  -- p2.hb
          exact zB.f (fun l => by
            have a := zc_mo (p := fun f => M 2 (M 7 f) = k) (a := v4 + 1) (by omega) (M 5 2) (by omega)
            rw [zc_p hv.1 (by rw [← e_r16]; exact b2)] at a
            omega)
        · show 0 = 1 → M6 53 1 = zc (fun f => M 2 (M 7 f) = k) (M 5 2) ∧ ∀ t, 0 ≤ t → t < M6 53 1 → 0 ≤ M6 55 t ∧ M6 55 t < M 5 2 ∧ M 2 (M 7 (M6 55 t)) = k ∧ zc (fun f => M 2 (M 7 f) = k) (M6 55 t) = t  -- p2.hn
          intro h; exact absurd h (by decide)

abbrev pr_X5_distance (i : Int) (j : Int) (M : zM) : Prop := (0 ≤ M 53 1 ∧ M 53 1 ≤ 7) ∧ (gSp (M 53 1) (M 7) (M 55)) ∧ (-1 ≤ i ∧ i < M 53 1) ∧ (0 ≤ j ∧ j < M 53 1)
abbrev po_X5_distance (i : Int) (j : Int) (M : zM) (r : Int) (M' : zM) : Prop := M' = M ∧ r = gPd (M 7) (M 55) i j
set_option maxHeartbeats 1000000 in
theorem ok_X5_distance : zSnd zS 145 0 0 yX5_distance cX5_distance 5 (some .int) 1 [2, 0, 0] (F_X5_distance pr_X5_distance po_X5_distance) := by
  refine (sn_X5_distance).mono ?_
  rintro xs P M hz hR ⟨i, j, rfl, ⟨hn, hS, hi, hj⟩, hP⟩
  refine ⟨_, _, rfl, ?_⟩
  have z_i := zall_h (zall_t hz) (by decide)
  have z_j := zall_h (zall_t (zall_t hz)) (by decide)
  change vc_X5_distance i j P M
  unfold vc_X5_distance
  have sj := hS j hj.1 hj.2
  intro K22 h_K22
  have k_K22 : ∀ (v1 : Int), (v1 = if i < 0 then 0 else M 7 (M 55 i)) → (0 ≤ v1 ∧ v1 < 192) → K22 v1 := by
    intro v1 hv hw
    refine h_K22 _ ?_
    intro z_v1
    have o1 : ((0 : Int) ≤ j ∧ j < 7) := by
      first | with_reducible assumption | omega | exact trivial | with_reducible rfl  -- o1
    refine ⟨o1, ?_⟩
    have o2 : ((0 : Int) ≤ (M 55 j) ∧ (M 55 j) < 192) := by
      first | with_reducible assumption | omega | exact trivial | with_reducible rfl  -- o2
    refine ⟨o2, ?_⟩
    have o3 : 0 ≤ (M 7 (M 55 j)) := by
      first | with_reducible assumption | omega | exact trivial | with_reducible rfl  -- o3
    refine ⟨o3, ?_⟩
    have o4 : 0 ≤ v1 := by
      first | with_reducible assumption | omega | exact trivial | with_reducible rfl  -- o4
    refine ⟨o4, ?_⟩
    have o5 : zin (((M 7 (M 55 j)) % 16) - (v1 % 16)) := by
      first | with_reducible assumption | omega | exact trivial | with_reducible rfl  -- o5
    refine ⟨o5, ?_⟩
    have o6 : zin (((M 7 (M 55 j)) / 16) - (v1 / 16)) := by
      first | with_reducible assumption | omega | exact trivial | with_reducible rfl  -- o6
    refine ⟨o6, ?_⟩
    have o7 : zin ((max (((M 7 (M 55 j)) % 16) - (v1 % 16)) (-(((M 7 (M 55 j)) % 16) - (v1 % 16)))) + (max (((M 7 (M 55 j)) / 16) - (v1 / 16)) (-(((M 7 (M 55 j)) / 16) - (v1 / 16))))) := by
      first | with_reducible assumption | omega | exact trivial | with_reducible rfl  -- o7
    refine ⟨o7, ?_⟩
    refine hP _ _ ⟨rfl, ?_⟩
    · unfold gPd gDi; rw [← hv]  -- p1
  refine ⟨fun b1 => ?_, fun b1 => ?_⟩
  · -- b1.1
    have si := hS i (by omega) hi.2
    have o8 : ((0 : Int) ≤ i ∧ i < 7) := by
      first | with_reducible assumption | omega | exact trivial | with_reducible rfl  -- o8
    refine ⟨o8, ?_⟩
    have o9 : ((0 : Int) ≤ (M 55 i) ∧ (M 55 i) < 192) := by
      first | with_reducible assumption | omega | exact trivial | with_reducible rfl  -- o9
    refine ⟨o9, ?_⟩
    refine k_K22 _ ?_ ?_
    · show (M 7 (M 55 i)) = if i < 0 then 0 else M 7 (M 55 i)  -- K22.1.hv
      rw [if_neg (by omega)]
    · show 0 ≤ (M 7 (M 55 i)) ∧ (M 7 (M 55 i)) < 192  -- K22.1.hw
      first | with_reducible assumption | omega | exact trivial | with_reducible rfl
  · -- b1.2
    refine k_K22 _ ?_ ?_
    · show 0 = if i < 0 then 0 else M 7 (M 55 i)  -- K22.2.hv
      rw [if_pos (by omega)]
    · show 0 ≤ 0 ∧ 0 < 192  -- K22.2.hw
      first | with_reducible assumption | omega | exact trivial | with_reducible rfl

abbrev pr_X5_wayOver (s : Int) (i : Int) (j : Int) (M : zM) : Prop := (1 ≤ M 53 1 ∧ M 53 1 ≤ 7) ∧ (gSp (M 53 1) (M 7) (M 55)) ∧ (0 ≤ s ∧ s < zshl 1 (M 53 1)) ∧ (-1 ≤ i ∧ i < M 53 1) ∧ (0 ≤ j ∧ j < M 53 1) ∧ (gLf (gPd (M 7) (M 55)) (M 53 1) s (M 56))
abbrev po_X5_wayOver (s : Int) (i : Int) (j : Int) (M : zM) (r : Int) (M' : zM) : Prop := M' = M ∧ r = gF (gPd (M 7) (M 55)) (M 53 1) (gTb (M 53 1) s - 1).toNat s i j
set_option maxHeartbeats 1000000 in
theorem ok_X5_wayOver : zSnd zS 145 0 0 yX5_wayOver cX5_wayOver 5 (some .int) 2 [2, 0, 0, 0] (F_X5_wayOver pr_X5_wayOver po_X5_wayOver) := by
  refine (sn_X5_wayOver ok_X5_distance).mono ?_
  rintro xs P M hz hR ⟨s, i, j, rfl, ⟨hn, hS, hs, hi, hj, hL⟩, hP⟩
  refine ⟨_, _, _, rfl, ?_⟩
  have z_s := zall_h (zall_t hz) (by decide)
  have z_i := zall_h (zall_t (zall_t hz)) (by decide)
  have z_j := zall_h (zall_t (zall_t (zall_t hz))) (by decide)
  change vc_X5_wayOver pr_X5_distance po_X5_distance s i j P M
  unfold vc_X5_wayOver
  have za := zs7a (n := M 53 1) (by omega)
  have zt := zbt_0 hs.1 (by omega) hj.1 (show j < 16 by omega)
  have z := zs7 (by omega) hs.1 hs.2 hj.1 hj.2
  refine ⟨fun b1 => ?_, fun b1 => ?_⟩
  · -- b1.1
    have out := zt.1.1 b1
    have zo := z.2.2.2 out
    have o1 : zin ((7 * (zlor s (zshl 1 j))) + j) := by
      first | with_reducible assumption | omega | exact trivial | with_reducible rfl  -- o1
    refine ⟨o1, ?_⟩
    refine ⟨fun b2 => ?_, fun b2 => ?_⟩
    · -- b2.1
      refine hP _ _ ⟨rfl, ?_⟩
      · exact absurd b2 (by omega)  -- p1
    · -- b2.2
      have gc1 : pr_X5_distance i j M := by
        refine ⟨?_, ?_, ?_, ?_⟩
        · show 0 ≤ M 53 1 ∧ M 53 1 ≤ 7  -- c1.hn
          first | with_reducible assumption | omega | exact trivial | with_reducible rfl
        · show gSp (M 53 1) (M 7) (M 55)  -- c1.hS
          first | with_reducible assumption | omega | exact trivial | with_reducible rfl
        · show -1 ≤ i ∧ i < M 53 1  -- c1.hi
          first | with_reducible assumption | omega | exact trivial | with_reducible rfl
        · show 0 ≤ j ∧ j < M 53 1  -- c1.hj
          first | with_reducible assumption | omega | exact trivial | with_reducible rfl
      refine ⟨gc1, ?_⟩
      rintro r4 M5 ⟨q_rfl, e_r4⟩ z_r4 z_M5
      have q_rfl := q_rfl.symm
      subst q_rfl
      have gb := gW_b (D := gPd (M 7) (M 55)) (n := M 53 1) hn.2 (fun a b a0 a1 b0 b1 => by have := gPd_b hS a0 a1 b0 b1; omega) (gTb (M 53 1) (zlor s (zshl 1 j))).toNat (zlor s (zshl 1 j)) j z.1 (by omega) (by omega) hj.2
      have db := gPd_b hS hi.1 hi.2 hj.1 hj.2
      have le := hL _ j zo.1 z.2.1 hj.1 hj.2
      have o2 : ((0 : Int) ≤ ((7 * (zlor s (zshl 1 j))) + j) ∧ ((7 * (zlor s (zshl 1 j))) + j) < 896) := by
        first | with_reducible assumption | omega | exact trivial | with_reducible rfl  -- o2
      refine ⟨o2, ?_⟩
      have o3 : zin (r4 + (M 56 ((7 * (zlor s (zshl 1 j))) + j))) := by
        rw [le, e_r4]; omega
      refine ⟨o3, ?_⟩
      refine hP _ _ ⟨rfl, ?_⟩
      · rw [gF_o out, le, e_r4, show (gTb (M 53 1) s - 1).toNat = (gTb (M 53 1) (zlor s (zshl 1 j))).toNat by omega]  -- p2
  · -- b1.2
    refine hP _ _ ⟨rfl, ?_⟩
    · rw [gF_i]  -- p3
      apply Classical.byContradiction
      exact fun k => b1 (zt.1.2 k)

abbrev pr_X5_leastFrom (s : Int) (i : Int) (M : zM) : Prop := (1 ≤ M 53 1 ∧ M 53 1 ≤ 7) ∧ (gSp (M 53 1) (M 7) (M 55)) ∧ (0 ≤ s ∧ s < zshl 1 (M 53 1) - 1) ∧ (-1 ≤ i ∧ i < M 53 1) ∧ (gLf (gPd (M 7) (M 55)) (M 53 1) s (M 56))
abbrev po_X5_leastFrom (s : Int) (i : Int) (M : zM) (r : Int) (M' : zM) : Prop := M' = M ∧ r = gW (gPd (M 7) (M 55)) (M 53 1) (gTb (M 53 1) s).toNat s i
set_option maxHeartbeats 1000000 in
theorem ok_X5_leastFrom : zSnd zS 145 0 0 yX5_leastFrom cX5_leastFrom 5 (some .int) 3 [2, 0, 0] (F_X5_leastFrom pr_X5_leastFrom po_X5_leastFrom) := by
  refine (sn_X5_leastFrom ok_X5_wayOver).mono ?_
  rintro xs P M hz hR ⟨s, i, rfl, ⟨hn, hS, hs, hi, hL⟩, hP⟩
  refine ⟨_, _, rfl, ?_⟩
  have z_s := zall_h (zall_t hz) (by decide)
  have z_i := zall_h (zall_t (zall_t hz)) (by decide)
  change vc_X5_leastFrom pr_X5_wayOver po_X5_wayOver s i P M
  unfold vc_X5_leastFrom
  refine ⟨fun v1 v2 M5 n7 => (n7 : Int) = (M 53 1 - v2) ∧ (0 ≤ v2 ∧ v2 ≤ M 53 1) ∧ (M5 = M) ∧ (v1 = gMi (gF (gPd (M 7) (M 55)) (M 53 1) (gTb (M 53 1) s - 1).toNat s i) (Int.toNat v2)), ⟨Int.toNat (M 53 1 - 0), by omega, ?_, ?_, ?_⟩, ?_⟩
  · show 0 ≤ 0 ∧ 0 ≤ M 53 1  -- I6.0.hv
    first | with_reducible assumption | omega | exact trivial | with_reducible rfl
  · first | with_reducible assumption | omega | exact trivial | with_reducible rfl  -- I6.0.rfl
  · show 1000000 = gMi (gF (gPd (M 7) (M 55)) (M 53 1) (gTb (M 53 1) s - 1).toNat s i) (Int.toNat 0)  -- I6.0.h1
    rfl
  rintro v1 v2 M5 n7 ⟨h_n7, hv, q_rfl, h1⟩ z_v1 z_v2 z_M5
  have q_rfl := q_rfl.symm
  subst q_rfl
  refine ⟨fun b1 => ?_, fun b1 => ?_⟩
  · -- b1.1
    refine hP _ _ ⟨rfl, ?_⟩
    · have t := zs7t (n := M 53 1) (by omega) hs.1 (show s < zshl 1 (M 53 1) by omega)  -- p1
      rw [show (gTb (M 53 1) s).toNat = (gTb (M 53 1) s - 1).toNat + 1 by omega, gW_s, h1, show v2 = M 53 1 by omega]
  · -- b1.2
    have gc1 : pr_X5_wayOver s i v2 M := by
      refine ⟨?_, ?_, ?_, ?_, ?_, ?_⟩
      · show 1 ≤ M 53 1 ∧ M 53 1 ≤ 7  -- c1.hn
        first | with_reducible assumption | omega | exact trivial | with_reducible rfl
      · show gSp (M 53 1) (M 7) (M 55)  -- c1.hS
        first | with_reducible assumption | omega | exact trivial | with_reducible rfl
      · show 0 ≤ s ∧ s < zshl 1 (M 53 1)  -- c1.hs
        first | with_reducible assumption | omega | exact trivial | with_reducible rfl
      · show -1 ≤ i ∧ i < M 53 1  -- c1.hi
        first | with_reducible assumption | omega | exact trivial | with_reducible rfl
      · show 0 ≤ v2 ∧ v2 < M 53 1  -- c1.hj
        first | with_reducible assumption | omega | exact trivial | with_reducible rfl
      · show gLf (gPd (M 7) (M 55)) (M 53 1) s (M 56)  -- c1.hL
        exact hL
    refine ⟨gc1, ?_⟩
    rintro r15 M16 ⟨q_rfl, e_r15⟩ z_r15 z_M16
    have q_rfl := q_rfl.symm
    subst q_rfl
    have o1 : zin (v2 + 1) := by
      first | with_reducible assumption | omega | exact trivial | with_reducible rfl  -- o1
    refine ⟨o1, ?_⟩
    refine ⟨Int.toNat (M 53 1 - (v2 + 1)), by omega, by omega, ?_, ?_, ?_⟩
    · show 0 ≤ (v2 + 1) ∧ (v2 + 1) ≤ M 53 1  -- I6.1.hv
      first | with_reducible assumption | omega | exact trivial | with_reducible rfl
    · first | with_reducible assumption | omega | exact trivial | with_reducible rfl  -- I6.1.rfl
    · show (min v1 r15) = gMi (gF (gPd (M 7) (M 55)) (M 53 1) (gTb (M 53 1) s - 1).toNat s i) (Int.toNat (v2 + 1))  -- I6.1.h1
      rw [show (v2 + 1).toNat = v2.toNat + 1 by omega]
      show _ = min (gMi _ v2.toNat) (gF _ _ _ _ _ ((v2.toNat : Nat) : Int))
      rw [Int.toNat_of_nonneg hv.1, ← h1, ← e_r15]

abbrev pr_X5_firstBest (s : Int) (i : Int) (M : zM) : Prop := (1 ≤ M 53 1 ∧ M 53 1 ≤ 7) ∧ (gSp (M 53 1) (M 7) (M 55)) ∧ (0 ≤ s ∧ s < zshl 1 (M 53 1) - 1) ∧ (-1 ≤ i ∧ i < M 53 1) ∧ (gLf (gPd (M 7) (M 55)) (M 53 1) s (M 56))
abbrev po_X5_firstBest (s : Int) (i : Int) (M : zM) (r : Int) (M' : zM) : Prop := (M' = M) ∧ (0 ≤ r ∧ r < M 53 1 ∧ ¬ zbt s r) ∧ (gF (gPd (M 7) (M 55)) (M 53 1) (gTb (M 53 1) s - 1).toNat s i r = gW (gPd (M 7) (M 55)) (M 53 1) (gTb (M 53 1) s).toNat s i) ∧ (∀ t, 0 ≤ t → t < r → gW (gPd (M 7) (M 55)) (M 53 1) (gTb (M 53 1) s).toNat s i < gF (gPd (M 7) (M 55)) (M 53 1) (gTb (M 53 1) s - 1).toNat s i t)
set_option maxHeartbeats 1000000 in
theorem ok_X5_firstBest : zSnd zS 145 0 0 yX5_firstBest cX5_firstBest 5 (some .int) 4 [2, 0, 0] (F_X5_firstBest pr_X5_firstBest po_X5_firstBest) := by
  refine (sn_X5_firstBest ok_X5_leastFrom ok_X5_wayOver).mono ?_
  rintro xs P M hz hR ⟨s, i, rfl, ⟨hn, hS, hs, hi, hL⟩, hP⟩
  refine ⟨_, _, rfl, ?_⟩
  have z_s := zall_h (zall_t hz) (by decide)
  have z_i := zall_h (zall_t (zall_t hz)) (by decide)
  change vc_X5_firstBest pr_X5_leastFrom po_X5_leastFrom pr_X5_wayOver po_X5_wayOver s i P M
  unfold vc_X5_firstBest
  have zt := zs7t (n := M 53 1) (by omega) hs.1 (show s < zshl 1 (M 53 1) by omega)
  have up := gW_up (D := gPd (M 7) (M 55)) (n := M 53 1) (by omega) (fun a b a0 a1 b0 b1 => gPd_b hS a0 a1 b0 b1) (gTb (M 53 1) s).toNat s i hs.1 (by omega) (by omega) hi.1 hi.2
  have pc : gTb (M 53 1) s ≤ 7 := by
    unfold gTb; have := zpc_le 7 s.toNat; omega
  have ge : gW (gPd (M 7) (M 55)) (M 53 1) (gTb (M 53 1) s).toNat s i = gMi (gF (gPd (M 7) (M 55)) (M 53 1) (gTb (M 53 1) s - 1).toNat s i) (M 53 1).toNat := by
    rw [show (gTb (M 53 1) s).toNat = (gTb (M 53 1) s - 1).toNat + 1 by omega, gW_s]
  have gc1 : pr_X5_leastFrom s i M := by
    refine ⟨?_, ?_, ?_, ?_, ?_⟩
    · show 1 ≤ M 53 1 ∧ M 53 1 ≤ 7  -- c1.hn
      first | with_reducible assumption | omega | exact trivial | with_reducible rfl
    · show gSp (M 53 1) (M 7) (M 55)  -- c1.hS
      first | with_reducible assumption | omega | exact trivial | with_reducible rfl
    · show 0 ≤ s ∧ s < zshl 1 (M 53 1) - 1  -- c1.hs
      first | with_reducible assumption | omega | exact trivial | with_reducible rfl
    · show -1 ≤ i ∧ i < M 53 1  -- c1.hi
      first | with_reducible assumption | omega | exact trivial | with_reducible rfl
    · show gLf (gPd (M 7) (M 55)) (M 53 1) s (M 56)  -- c1.hL
      exact hL
  refine ⟨gc1, ?_⟩
  rintro r1 M2 ⟨q_rfl, e_r1⟩ z_r1 z_M2
  have q_rfl := q_rfl.symm
  subst q_rfl
  refine ⟨fun v7 M9 n11 => (n11 : Int) = (M 53 1 - v7) ∧ (0 ≤ v7 ∧ v7 ≤ M 53 1) ∧ (M9 = M) ∧ (∀ t, 0 ≤ t → t < v7 → gF (gPd (M 7) (M 55)) (M 53 1) (gTb (M 53 1) s - 1).toNat s i t ≠ r1), ⟨Int.toNat (M 53 1 - 0), by omega, ?_, ?_, ?_⟩, ?_⟩
  · show 0 ≤ 0 ∧ 0 ≤ M 53 1  -- I10.0.hv
    first | with_reducible assumption | omega | exact trivial | with_reducible rfl
  · first | with_reducible assumption | omega | exact trivial | with_reducible rfl  -- I10.0.rfl
  · show ∀ t, 0 ≤ t → t < 0 → gF (gPd (M 7) (M 55)) (M 53 1) (gTb (M 53 1) s - 1).toNat s i t ≠ r1  -- I10.0.h1
    intro t t0 t1; omega
  rintro v7 M9 n11 ⟨h_n11, hv, q_rfl, h1⟩ z_v7 z_M9
  have q_rfl := q_rfl.symm
  subst q_rfl
  refine ⟨fun b1 => ?_, fun b1 => ?_⟩
  · -- b1.1
    obtain ⟨t, t0, t1, t2⟩ := gMi_at (f := gF (gPd (M 7) (M 55)) (M 53 1) (gTb (M 53 1) s - 1).toNat s i) (M 53 1).toNat (by omega)
    exact absurd (by omega) (h1 t t0 (by omega))
  · -- b1.2
    have gc2 : pr_X5_wayOver s i v7 M := by
      refine ⟨?_, ?_, ?_, ?_, ?_, ?_⟩
      · show 1 ≤ M 53 1 ∧ M 53 1 ≤ 7  -- c2.hn
        first | with_reducible assumption | omega | exact trivial | with_reducible rfl
      · show gSp (M 53 1) (M 7) (M 55)  -- c2.hS
        first | with_reducible assumption | omega | exact trivial | with_reducible rfl
      · show 0 ≤ s ∧ s < zshl 1 (M 53 1)  -- c2.hs
        first | with_reducible assumption | omega | exact trivial | with_reducible rfl
      · show -1 ≤ i ∧ i < M 53 1  -- c2.hi
        first | with_reducible assumption | omega | exact trivial | with_reducible rfl
      · show 0 ≤ v7 ∧ v7 < M 53 1  -- c2.hj
        first | with_reducible assumption | omega | exact trivial | with_reducible rfl
      · show gLf (gPd (M 7) (M 55)) (M 53 1) s (M 56)  -- c2.hL
        exact hL
    refine ⟨gc2, ?_⟩
    rintro r19 M20 ⟨q_rfl, e_r19⟩ z_r19 z_M20
    have q_rfl := q_rfl.symm
    subst q_rfl
    refine ⟨fun b2 => ?_, fun b2 => ?_⟩
    · -- b2.1
      have o1 : zin (v7 + 1) := by
        first | with_reducible assumption | omega | exact trivial | with_reducible rfl  -- o1
      refine ⟨o1, ?_⟩
      refine ⟨Int.toNat (M 53 1 - (v7 + 1)), by omega, by omega, ?_, ?_, ?_⟩
      · show 0 ≤ (v7 + 1) ∧ (v7 + 1) ≤ M 53 1  -- I10.1.hv
        first | with_reducible assumption | omega | exact trivial | with_reducible rfl
      · first | with_reducible assumption | omega | exact trivial | with_reducible rfl  -- I10.1.rfl
      · show ∀ t, 0 ≤ t → t < (v7 + 1) → gF (gPd (M 7) (M 55)) (M 53 1) (gTb (M 53 1) s - 1).toNat s i t ≠ r1  -- I10.1.h1
        intro t t0 t1
        by_cases c : t = v7
        · rw [c, ← e_r19]; exact b2
        · exact h1 t t0 (by omega)
    · -- b2.2
      refine hP _ _ ⟨?_, ?_, ?_, ?_⟩
      · show M = M  -- p2.rfl
        first | with_reducible assumption | omega | exact trivial | with_reducible rfl
      · show 0 ≤ v7 ∧ v7 < M 53 1 ∧ ¬ zbt s v7  -- p2.hr
        refine ⟨hv.1, by omega, fun k => ?_⟩
        rw [gF_i k] at e_r19
        omega
      · show gF (gPd (M 7) (M 55)) (M 53 1) (gTb (M 53 1) s - 1).toNat s i v7 = gW (gPd (M 7) (M 55)) (M 53 1) (gTb (M 53 1) s).toNat s i  -- p2.hb
        rw [← e_r19, b2, e_r1]
      · show ∀ t, 0 ≤ t → t < v7 → gW (gPd (M 7) (M 55)) (M 53 1) (gTb (M 53 1) s).toNat s i < gF (gPd (M 7) (M 55)) (M 53 1) (gTb (M 53 1) s - 1).toNat s i t  -- p2.hl
        intro t t0 t1
        have a := h1 t t0 t1
        have b := gMi_le (f := gF (gPd (M 7) (M 55)) (M 53 1) (gTb (M 53 1) s - 1).toNat s i) (M 53 1).toNat t t0 (by omega)
        omega

abbrev pr_X5_plan (M : zM) : Prop := (1 ≤ M 53 1 ∧ M 53 1 ≤ 7) ∧ (gSp (M 53 1) (M 7) (M 55))
abbrev po_X5_plan (M : zM) (M' : zM) : Prop := (∀ c i, c ≠ 54 → c ≠ 56 → ¬ (c = 53 ∧ i = 2) → M' c i = M c i) ∧ (∃ σ, gPn (gPd (M 7) (M 55)) (M 53 1) (M' 53 2) σ ∧ ∀ k, 0 ≤ k → k < M 53 1 → M' 54 k = M 55 (σ k))
set_option maxHeartbeats 1000000 in
theorem ok_X5_plan : zSnd zS 145 0 0 yX5_plan cX5_plan 5 none 5 [2] (F_X5_plan pr_X5_plan po_X5_plan) := by
  refine (sn_X5_plan ok_X5_leastFrom ok_X5_firstBest).mono ?_
  rintro xs P M hz hR ⟨rfl, ⟨hn, hS⟩, hP⟩
  refine ⟨rfl, ?_⟩
  change vc_X5_plan pr_X5_leastFrom po_X5_leastFrom pr_X5_firstBest po_X5_firstBest P M
  unfold vc_X5_plan
  have za := zs7a (n := M 53 1) (by omega)
  have o1 : zin ((zshl 1 (M 53 1)) - 1) := by
    first | with_reducible assumption | omega | exact trivial | with_reducible rfl  -- o1
  refine ⟨o1, ?_⟩
  refine ⟨fun v1 M4 n6 => (n6 : Int) = (v1) ∧ (0 ≤ v1 ∧ v1 < zshl 1 (M 53 1)) ∧ (∀ c i, c ≠ 56 → M4 c i = M c i) ∧ (gLf (gPd (M 7) (M 55)) (M 53 1) v1 (M4 56)), ⟨Int.toNat (((zshl 1 (M 53 1)) - 1)), by omega, ?_, ?_, ?_⟩, ?_⟩
  · show 0 ≤ ((zshl 1 (M 53 1)) - 1) ∧ ((zshl 1 (M 53 1)) - 1) < zshl 1 (M 53 1)  -- I11.0.hv
    first | with_reducible assumption | omega | exact trivial | with_reducible rfl
  · show ∀ c i, c ≠ 56 → M c i = M c i  -- I11.0.hf
    first | with_reducible assumption | omega | exact trivial | with_reducible rfl
  · show gLf (gPd (M 7) (M 55)) (M 53 1) ((zshl 1 (M 53 1)) - 1) (M 56)  -- I11.0.hL
    intro s c s0 s1; omega
  rintro v1 M4 n6 ⟨h_n6, hv, hf, hL⟩ z_v1 z_M4
  have m7 : M4 7 = M 7 := funext fun i => hf 7 i (by decide)
  have m55 : M4 55 = M 55 := funext fun i => hf 55 i (by decide)
  have m53 : M4 53 1 = M 53 1 := hf 53 1 (by decide)
  refine ⟨fun b1 => ?_, fun b1 => ?_⟩
  · -- b1.1
    have v0 : v1 = 0 := by omega
    rw [v0] at hL
    have gc1 : pr_X5_leastFrom 0 (-1) M4 := by
      refine ⟨?_, ?_, ?_, ?_, ?_⟩
      · show 1 ≤ M4 53 1 ∧ M4 53 1 ≤ 7  -- c1.hn
        rw [m53]; exact hn
      · show gSp (M4 53 1) (M4 7) (M4 55)  -- c1.hS
        rw [m53, m7, m55]; exact hS
      · show 0 ≤ 0 ∧ 0 < zshl 1 (M4 53 1) - 1  -- c1.hs
        rw [m53]; have := zs7b hn.1 hn.2; omega
      · show -1 ≤ (-1) ∧ (-1) < M4 53 1  -- c1.hi
        rw [m53]; omega
      · show gLf (gPd (M4 7) (M4 55)) (M4 53 1) 0 (M4 56)  -- c1.hL
        rw [m53, m7, m55]; exact hL
    refine ⟨gc1, ?_⟩
    rintro r14 M15 ⟨q_rfl, e_r14⟩ z_r14 z_M15
    have q_rfl := q_rfl.symm
    subst q_rfl
    rw [m53, m7, m55] at e_r14
    intro M20 e_M20
    refine ⟨fun v23 v24 v25 M29 n31 => (n31 : Int) = (M 53 1 - v25) ∧ (0 ≤ v25 ∧ v25 ≤ M 53 1) ∧ (∀ c i, c ≠ 54 → c ≠ 56 → ¬ (c = 53 ∧ i = 2) → M29 c i = M c i) ∧ (M29 53 2 = gW (gPd (M 7) (M 55)) (M 53 1) (M 53 1).toNat 0 (-1)) ∧ (gLf (gPd (M 7) (M 55)) (M 53 1) 0 (M29 56)) ∧ (0 ≤ v23 ∧ v23 < zshl 1 (M 53 1)) ∧ (gTb (M 53 1) v23 = M 53 1 - v25) ∧ (∃ σ, gQp (gPd (M 7) (M 55)) (M 53 1) σ v25 ∧ gSt2 (M 53 1) σ v25 v23 ∧ v24 = gPv σ v25 ∧ ∀ i, 0 ≤ i → i < v25 → M29 54 i = M 55 (σ i)), ⟨Int.toNat (M 53 1 - 0), by omega, ?_, ?_, ?_, ?_, ?_, ?_, ?_⟩, ?_⟩
    · show 0 ≤ 0 ∧ 0 ≤ M 53 1  -- I80.0.hk
      first | with_reducible assumption | omega | exact trivial | with_reducible rfl
    · show ∀ c i, c ≠ 54 → c ≠ 56 → ¬ (c = 53 ∧ i = 2) → M20 c i = M c i  -- I80.0.hf2
      intro c i c1 c2 c3; rw [e_M20, zset_n _ (by omega)]; exact hf c i c2
    · show M20 53 2 = gW (gPd (M 7) (M 55)) (M 53 1) (M 53 1).toNat 0 (-1)  -- I80.0.h2
      rw [e_M20, zset_s, e_r14, gTb_0]
    · show gLf (gPd (M 7) (M 55)) (M 53 1) 0 (M20 56)  -- I80.0.hL2
      rw [e_M20, zset_c (by decide)]; exact hL
    · show 0 ≤ 0 ∧ 0 < zshl 1 (M 53 1)  -- I80.0.hs
      first | with_reducible assumption | omega | exact trivial | with_reducible rfl
    · show gTb (M 53 1) 0 = M 53 1 - 0  -- I80.0.ht
      rw [gTb_0]; omega
    · show ∃ σ, gQp (gPd (M 7) (M 55)) (M 53 1) σ 0 ∧ gSt2 (M 53 1) σ 0 0 ∧ (-1) = gPv σ 0 ∧ ∀ i, 0 ≤ i → i < 0 → M20 54 i = M 55 (σ i)  -- I80.0.hx
      exact ⟨fun _ => 0, ⟨fun i i0 i1 => by omega, fun i i0 i1 => by omega⟩, ⟨by omega, fun s h => ⟨fun b => by unfold zbt at b; simp at b, fun ⟨i, a, b, _⟩ => by omega⟩⟩, rfl, fun i i0 i1 => by omega⟩
    rintro v23 v24 v25 M29 n31 ⟨h_n31, hk, hf2, h2, hL2, hs, ht, hx⟩ z_v23 z_v24 z_v25 z_M29
    have n7 : M29 7 = M 7 := funext fun i => hf2 7 i (by decide) (by decide) (by omega)
    have n55 : M29 55 = M 55 := funext fun i => hf2 55 i (by decide) (by decide) (by omega)
    have n53 : M29 53 1 = M 53 1 := hf2 53 1 (by decide) (by decide) (by omega)
    obtain ⟨σ, X1, X2, X3, X4⟩ := hx
    refine ⟨fun b2 => ?_, fun b2 => ?_⟩
    · -- b2.1
      have vn : v25 = M 53 1 := by omega
      refine hP _ ⟨?_, ?_⟩
      · show ∀ c i, c ≠ 54 → c ≠ 56 → ¬ (c = 53 ∧ i = 2) → M29 c i = M c i  -- p1.hf
        first | with_reducible assumption | omega | exact trivial | with_reducible rfl
      · show ∃ σ, gPn (gPd (M 7) (M 55)) (M 53 1) (M29 53 2) σ ∧ ∀ k, 0 ≤ k → k < M 53 1 → M29 54 k = M 55 (σ k)  -- p1.hw
        refine ⟨σ, ?_, fun k k0 k1 => X4 k k0 (by omega)⟩
        rw [h2]
        have al : v23 = zshl 1 (M 53 1) - 1 := (zs7t (n := M 53 1) (by omega) hs.1 hs.2).2.2.1 (by omega)
        refine gPn.of hn ⟨fun i i0 i1 => X1.1 i i0 (by omega), fun s s0 s1 => ?_⟩ (fun k set k0 k1 hset => ?_)
        · obtain ⟨i, i0, i1, e⟩ := (X2.2 s s0).1 ((zs7 (by omega) hs.1 hs.2 s0 s1).2.2.1 al)
          exact ⟨i, i0, by omega, e⟩
        · obtain ⟨set', a, b, c⟩ := X1.2 k k0 (by omega)
          have e : set = set' := zbt_ext hset.1.1 hset.1.2 a.1.1 a.1.2 (fun c c0 c1 => by rw [hset.2 c c0, a.2 c c0])
          rw [e]
          exact ⟨b, c⟩
    · -- b2.2
      have lt : v23 < zshl 1 (M 53 1) - 1 := by
        have := (zs7t (n := M 53 1) (by omega) hs.1 hs.2).2.2.2
        apply Classical.byContradiction
        intro c
        have := this (by omega)
        omega
      have lb : -1 ≤ v24 ∧ v24 < M 53 1 := by
        rw [X3]; unfold gPv
        split
        · omega
        · have := X1.1 (v25 - 1) (by omega) (by omega); omega
      have gc2 : pr_X5_firstBest v23 v24 M29 := by
        refine ⟨?_, ?_, ?_, ?_, ?_⟩
        · show 1 ≤ M29 53 1 ∧ M29 53 1 ≤ 7  -- c2.hn
          rw [n53]; exact hn
        · show gSp (M29 53 1) (M29 7) (M29 55)  -- c2.hS
          rw [n53, n7, n55]; exact hS
        · show 0 ≤ v23 ∧ v23 < zshl 1 (M29 53 1) - 1  -- c2.hs
          rw [n53]; exact ⟨hs.1, lt⟩
        · show -1 ≤ v24 ∧ v24 < M29 53 1  -- c2.hi
          rw [n53]; exact lb
        · show gLf (gPd (M29 7) (M29 55)) (M29 53 1) v23 (M29 56)  -- c2.hL
          rw [n53, n7, n55]; intro s c s0 s1; exact hL2 s c (by omega) s1
      refine ⟨gc2, ?_⟩
      rintro r39 M40 ⟨q_rfl, pc2_hr, pc2_hb, pc2_hl⟩ z_r39 z_M40
      have q_rfl := q_rfl.symm
      subst q_rfl
      rw [n53] at pc2_hr
      rw [n53, n7, n55, ht] at pc2_hb pc2_hl
      have z7 := zs7 (n := M 53 1) (by omega) hs.1 hs.2 pc2_hr.1 pc2_hr.2.1
      obtain ⟨τ, pre, at_⟩ : ∃ τ : Int → Int, (∀ i, 0 ≤ i → i < v25 → τ i = σ i) ∧ τ v25 = r39 := ⟨fun j => if j = v25 then r39 else σ j, fun i i0 i1 => if_neg (by omega), if_pos rfl⟩
      have o2 : ((0 : Int) ≤ r39 ∧ r39 < 7) := by
        have := pc2_hr; omega
      refine ⟨o2, ?_⟩
      have o3 : ((0 : Int) ≤ v25 ∧ v25 < 7) := by
        first | with_reducible assumption | omega | exact trivial | with_reducible rfl  -- o3
      refine ⟨o3, ?_⟩
      intro M47 e_M47
      have o4 : zin (v25 + 1) := by
        first | with_reducible assumption | omega | exact trivial | with_reducible rfl  -- o4
      refine ⟨o4, ?_⟩
      refine ⟨Int.toNat (M 53 1 - (v25 + 1)), by omega, by omega, ?_, ?_, ?_, ?_, ?_, ?_, ?_⟩
      · show 0 ≤ (v25 + 1) ∧ (v25 + 1) ≤ M 53 1  -- I80.1.hk
        first | with_reducible assumption | omega | exact trivial | with_reducible rfl
      · show ∀ c i, c ≠ 54 → c ≠ 56 → ¬ (c = 53 ∧ i = 2) → M47 c i = M c i  -- I80.1.hf2
        intro c i c1 c2 c3; rw [e_M47, zset_n _ (by omega)]; exact hf2 c i c1 c2 c3
      · show M47 53 2 = gW (gPd (M 7) (M 55)) (M 53 1) (M 53 1).toNat 0 (-1)  -- I80.1.h2
        rw [e_M47, zset_n _ (by omega)]; exact h2
      · show gLf (gPd (M 7) (M 55)) (M 53 1) 0 (M47 56)  -- I80.1.hL2
        rw [e_M47, zset_c (by decide)]; exact hL2
      · show 0 ≤ (zlor v23 (zshl 1 r39)) ∧ (zlor v23 (zshl 1 r39)) < zshl 1 (M 53 1)  -- I80.1.hs
        exact ⟨z7.1, z7.2.1⟩
      · show gTb (M 53 1) (zlor v23 (zshl 1 r39)) = M 53 1 - (v25 + 1)  -- I80.1.ht
        have := (z7.2.2.2 pc2_hr.2.2).2; omega
      · show ∃ σ, gQp (gPd (M 7) (M 55)) (M 53 1) σ (v25 + 1) ∧ gSt2 (M 53 1) σ (v25 + 1) (zlor v23 (zshl 1 r39)) ∧ r39 = gPv σ (v25 + 1) ∧ ∀ i, 0 ≤ i → i < (v25 + 1) → M47 54 i = M 55 (σ i)  -- I80.1.hx
        refine ⟨τ, ⟨?_, ?_⟩, ?_, ?_, ?_⟩
        · intro i i0 i1
          by_cases c : i = v25
          · rw [c, at_]; exact ⟨pc2_hr.1, pc2_hr.2.1⟩
          · rw [pre i i0 (by omega)]; exact X1.1 i i0 (by omega)
        · intro k k0 k1
          by_cases c : k = v25
          · subst c
            refine ⟨v23, gSt2_cg X2 (fun i i0 i1 => pre i i0 i1), ?_⟩
            rw [at_, gPv_cg (τ := σ) k0 (fun i i0 i1 => pre i i0 i1), ← X3]
            exact ⟨pc2_hb, pc2_hl⟩
          · obtain ⟨set', a, b⟩ := X1.2 k k0 (by omega)
            refine ⟨set', gSt2_cg a (fun i i0 i1 => pre i i0 (by omega)), ?_⟩
            rw [pre k k0 (by omega), gPv_cg (τ := σ) k0 (fun i i0 i1 => pre i i0 (by omega))]
            exact b
        · have := gSt2_s (gSt2_cg (τ := τ) X2 (fun i i0 i1 => pre i i0 i1)) hk.1 (by rw [at_]; omega) (by rw [at_]; omega)
          rw [at_] at this
          exact this
        · unfold gPv
          rw [if_neg (by omega), show v25 + 1 - 1 = v25 by omega, at_]
        · intro i i0 i1
          by_cases c : i = v25
          · rw [c, at_, e_M47, zset_s, n55]
          · rw [pre i i0 (by omega), e_M47, zset_n _ (by omega)]; exact X4 i i0 (by omega)
  · -- b1.2
    have vt := zs7t (n := M 53 1) (by omega) (show 0 ≤ v1 by omega) hv.2
    refine ⟨fun v54 M56 n58 => (n58 : Int) = (M 53 1 - v54) ∧ (0 ≤ v54 ∧ v54 ≤ M 53 1) ∧ (∀ c i, c ≠ 56 → M56 c i = M c i) ∧ (gLf (gPd (M 7) (M 55)) (M 53 1) v1 (M56 56)) ∧ (∀ c, 0 ≤ c → c < v54 → M56 56 (7 * v1 + c) = gW (gPd (M 7) (M 55)) (M 53 1) (gTb (M 53 1) v1).toNat v1 c), ⟨Int.toNat (M 53 1 - 0), by omega, ?_, ?_, ?_, ?_⟩, ?_⟩
    · show 0 ≤ 0 ∧ 0 ≤ M 53 1  -- I17.0.hk
      first | with_reducible assumption | omega | exact trivial | with_reducible rfl
    · show ∀ c i, c ≠ 56 → M4 c i = M c i  -- I17.0.hf2
      first | with_reducible assumption | omega | exact trivial | with_reducible rfl
    · show gLf (gPd (M 7) (M 55)) (M 53 1) v1 (M4 56)  -- I17.0.hL2
      first | with_reducible assumption | omega | exact trivial | with_reducible rfl
    · show ∀ c, 0 ≤ c → c < 0 → M4 56 (7 * v1 + c) = gW (gPd (M 7) (M 55)) (M 53 1) (gTb (M 53 1) v1).toNat v1 c  -- I17.0.hl
      intro c c0 c1; omega
    rintro v54 M56 n58 ⟨h_n58, hk, hf2, hL2, hl⟩ z_v54 z_M56
    have n7 : M56 7 = M 7 := funext fun i => hf2 7 i (by decide)
    have n55 : M56 55 = M 55 := funext fun i => hf2 55 i (by decide)
    have n53 : M56 53 1 = M 53 1 := hf2 53 1 (by decide)
    refine ⟨fun b3 => ?_, fun b3 => ?_⟩
    · -- b3.1
      have o5 : zin (v1 + (-1)) := by
        first | with_reducible assumption | omega | exact trivial | with_reducible rfl  -- o5
      refine ⟨o5, ?_⟩
      refine ⟨Int.toNat ((v1 + (-1))), by omega, by omega, ?_, ?_, ?_⟩
      · show 0 ≤ (v1 + (-1)) ∧ (v1 + (-1)) < zshl 1 (M 53 1)  -- I11.1.hv
        first | with_reducible assumption | omega | exact trivial | with_reducible rfl
      · show ∀ c i, c ≠ 56 → M56 c i = M c i  -- I11.1.hf
        exact hf2
      · show gLf (gPd (M 7) (M 55)) (M 53 1) (v1 + (-1)) (M56 56)  -- I11.1.hL
        intro s c s0 s1 c0 c1
        by_cases k : s = v1
        · rw [k]; exact hl c c0 (by omega)
        · exact hL2 s c (by omega) s1 c0 c1
    · -- b3.2
      refine ⟨fun b4 => ?_, fun b4 => ?_⟩
      · -- b4.1
        have gc3 : pr_X5_leastFrom v1 v54 M56 := by
          refine ⟨?_, ?_, ?_, ?_, ?_⟩
          · show 1 ≤ M56 53 1 ∧ M56 53 1 ≤ 7  -- c3.hn
            rw [n53]; exact hn
          · show gSp (M56 53 1) (M56 7) (M56 55)  -- c3.hS
            rw [n53, n7, n55]; exact hS
          · show 0 ≤ v1 ∧ v1 < zshl 1 (M56 53 1) - 1  -- c3.hs
            rw [n53]; omega
          · show -1 ≤ v54 ∧ v54 < M56 53 1  -- c3.hi
            rw [n53]; omega
          · show gLf (gPd (M56 7) (M56 55)) (M56 53 1) v1 (M56 56)  -- c3.hL
            rw [n53, n7, n55]; exact hL2
        refine ⟨gc3, ?_⟩
        rintro r71 M72 ⟨q_rfl, e_r71⟩ z_r71 z_M72
        have q_rfl := q_rfl.symm
        subst q_rfl
        rw [n53, n7, n55] at e_r71
        have o6 : ((0 : Int) ≤ ((7 * v1) + v54) ∧ ((7 * v1) + v54) < 896) := by
          first | with_reducible assumption | omega | exact trivial | with_reducible rfl  -- o6
        refine ⟨o6, ?_⟩
        intro M78 e_M78
        have o7 : zin (v54 + 1) := by
          first | with_reducible assumption | omega | exact trivial | with_reducible rfl  -- o7
        refine ⟨o7, ?_⟩
        refine ⟨Int.toNat (M 53 1 - (v54 + 1)), by omega, by omega, ?_, ?_, ?_, ?_⟩
        · show 0 ≤ (v54 + 1) ∧ (v54 + 1) ≤ M 53 1  -- I17.1.hk
          first | with_reducible assumption | omega | exact trivial | with_reducible rfl
        · show ∀ c i, c ≠ 56 → M78 c i = M c i  -- I17.1.hf2
          intro c i c1
          rw [e_M78, zset_n _ (by omega)]
          exact hf2 c i c1
        · show gLf (gPd (M 7) (M 55)) (M 53 1) v1 (M78 56)  -- I17.1.hL2
          intro s c s0 s1 c0 c1; rw [e_M78, zset_n _ (by omega)]; exact hL2 s c s0 s1 c0 c1
        · show ∀ c, 0 ≤ c → c < (v54 + 1) → M78 56 (7 * v1 + c) = gW (gPd (M 7) (M 55)) (M 53 1) (gTb (M 53 1) v1).toNat v1 c  -- I17.1.hl
          intro c c0 c1
          by_cases k : c = v54
          · rw [k, e_M78, zset_s, e_r71]
          · rw [e_M78, zset_n _ (by omega)]; exact hl c c0 (by omega)
      · -- b4.2
        have o8 : ((0 : Int) ≤ ((7 * v1) + v54) ∧ ((7 * v1) + v54) < 896) := by
          first | with_reducible assumption | omega | exact trivial | with_reducible rfl  -- o8
        refine ⟨o8, ?_⟩
        intro M86 e_M86
        have o9 : zin (v54 + 1) := by
          first | with_reducible assumption | omega | exact trivial | with_reducible rfl  -- o9
        refine ⟨o9, ?_⟩
        refine ⟨Int.toNat (M 53 1 - (v54 + 1)), by omega, by omega, ?_, ?_, ?_, ?_⟩
        · show 0 ≤ (v54 + 1) ∧ (v54 + 1) ≤ M 53 1  -- I17.2.hk
          first | with_reducible assumption | omega | exact trivial | with_reducible rfl
        · show ∀ c i, c ≠ 56 → M86 c i = M c i  -- I17.2.hf2
          intro c i c1
          rw [e_M86, zset_n _ (by omega)]
          exact hf2 c i c1
        · show gLf (gPd (M 7) (M 55)) (M 53 1) v1 (M86 56)  -- I17.2.hL2
          intro s c s0 s1 c0 c1; rw [e_M86, zset_n _ (by omega)]; exact hL2 s c s0 s1 c0 c1
        · show ∀ c, 0 ≤ c → c < (v54 + 1) → M86 56 (7 * v1 + c) = gW (gPd (M 7) (M 55)) (M 53 1) (gTb (M 53 1) v1).toNat v1 c  -- I17.2.hl
          intro c c0 c1
          by_cases k : c = v54
          · rw [k, e_M86, zset_s, show gTb (M 53 1) v1 = 0 by omega]; rfl
          · rw [e_M86, zset_n _ (by omega)]; exact hl c c0 (by omega)

