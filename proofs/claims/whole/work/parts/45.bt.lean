theorem zbv (n : Nat) (h : n < 2 ^ 31) : (Int32.ofInt (n : Int)).toBitVec = BitVec.ofNat 32 n := by
  rw [Int32.toBitVec_ofInt]
  exact BitVec.ofInt_natCast 32 n
theorem ztI {x : Int32} {n : Nat} (h : n < 2 ^ 31) (e : x.toBitVec = BitVec.ofNat 32 n) : x.toInt = (n : Int) := by
  show x.toBitVec.toInt = _
  rw [e, BitVec.toInt_eq_toNat_of_lt]
  · rw [BitVec.toNat_ofNat, Nat.mod_eq_of_lt (by omega)]
  · rw [BitVec.toNat_ofNat, Nat.mod_eq_of_lt (by omega)]; omega
theorem zland_N {a b : Nat} (ha : a < 2 ^ 31) (hb : b < 2 ^ 31) : zland a b = ((a &&& b : Nat) : Int) := by
  unfold zland
  refine ztI (Nat.lt_of_le_of_lt Nat.and_le_left ha) ?_
  rw [Int32.toBitVec_and, zbv a ha, zbv b hb, BitVec.ofNat_and]
theorem zlor_N {a b : Nat} (ha : a < 2 ^ 31) (hb : b < 2 ^ 31) : zlor a b = ((a ||| b : Nat) : Int) := by
  unfold zlor
  refine ztI (Nat.or_lt_two_pow ha hb) ?_
  rw [Int32.toBitVec_or, zbv a ha, zbv b hb, BitVec.ofNat_or]
theorem zshr_N {a c : Nat} (ha : a < 2 ^ 31) (hc : c < 16) : zshr a c = ((a >>> c : Nat) : Int) := by
  unfold zshr
  have h31 : ∀ c : Fin 16, (((Int32.ofInt ((c.val : Nat) : Int) &&& 31).toBitVec).smod 32).toNat = c.val := by decide +kernel
  have hle : a >>> c < 2 ^ 31 := Nat.lt_of_le_of_lt (by rw [Nat.shiftRight_eq_div_pow]; exact Nat.div_le_self _ _) ha
  refine ztI hle ?_
  have e := h31 ⟨c, hc⟩
  rw [Int32.toBitVec_shiftRight, BitVec.sshiftRight_eq', e, zbv a ha, BitVec.sshiftRight_eq_of_msb_false]
  · apply BitVec.eq_of_toNat_eq
    rw [BitVec.toNat_ushiftRight, BitVec.toNat_ofNat, BitVec.toNat_ofNat, Nat.mod_eq_of_lt (by omega), Nat.mod_eq_of_lt (by omega)]
  · rw [BitVec.msb_eq_decide, BitVec.toNat_ofNat, Nat.mod_eq_of_lt (by omega)]
    simp
    omega
/-- whether colour c is in a set of bits -/
def zbt (s c : Int) : Prop := s.toNat.testBit c.toNat = true
theorem zbt_1 {s c : Int} (s0 : 0 ≤ s) (s1 : s < 2147483648) (c0 : 0 ≤ c) (c1 : c < 16) : zland (zshr s c) 1 = if s.toNat.testBit c.toNat = true then 1 else 0 := by
  have e := zshr_N (a := s.toNat) (c := c.toNat) (by omega) (by omega)
  rw [Int.toNat_of_nonneg s0, Int.toNat_of_nonneg c0] at e
  have hle : s.toNat >>> c.toNat < 2 ^ 31 := Nat.lt_of_le_of_lt (by rw [Nat.shiftRight_eq_div_pow]; exact Nat.div_le_self _ _) (by omega)
  have e2 := zland_N (a := s.toNat >>> c.toNat) (b := 1) hle (by decide)
  rw [e]
  refine e2.trans ?_
  rw [Nat.testBit, Nat.and_comm]
  rw [Nat.one_and_eq_mod_two]
  by_cases h : (s.toNat >>> c.toNat) % 2 = 0
  · rw [h]; rfl
  · rw [show (s.toNat >>> c.toNat) % 2 = 1 by omega]; rfl
theorem zbt_0 {s c : Int} (s0 : 0 ≤ s) (s1 : s < 2147483648) (c0 : 0 ≤ c) (c1 : c < 16) : (zland (zshr s c) 1 = 0 ↔ ¬ zbt s c) ∧ (zland (zshr s c) 1 = 1 ↔ zbt s c) := by
  rw [zbt_1 s0 s1 c0 c1]
  unfold zbt
  split
  · rename_i h; simp [h]
  · rename_i h; simp [h]
theorem zsh1 : ∀ c : Fin 16, zshl 1 ((c.val : Nat) : Int) = ((2 ^ c.val : Nat) : Int) := by decide +kernel
theorem zbt_or {s c : Int} (s0 : 0 ≤ s) (s1 : s < 65536) (c0 : 0 ≤ c) (c1 : c < 16) : (0 ≤ zlor s (zshl 1 c) ∧ zlor s (zshl 1 c) < 65536) ∧ ∀ d, 0 ≤ d → (zbt (zlor s (zshl 1 c)) d ↔ zbt s d ∨ d = c) := by
  have e := zsh1 ⟨c.toNat, by omega⟩
  simp only [] at e
  rw [Int.toNat_of_nonneg c0] at e
  have p16 : 2 ^ c.toNat < 2 ^ 16 := Nat.pow_lt_pow_right (by decide) (by omega)
  have e2 := zlor_N (a := s.toNat) (b := 2 ^ c.toNat) (by omega) (by omega)
  rw [Int.toNat_of_nonneg s0] at e2
  rw [e, e2]
  have b : s.toNat ||| 2 ^ c.toNat < 2 ^ 16 := Nat.or_lt_two_pow (by omega) p16
  refine ⟨by omega, fun d d0 => ?_⟩
  unfold zbt
  rw [Int.toNat_natCast, Nat.testBit_or, Bool.or_eq_true, Nat.testBit_two_pow, decide_eq_true_iff]
  exact or_congr Iff.rfl ⟨fun h => by omega, fun h => by omega⟩
theorem zbt_hi {s c : Int} (s1 : s < 65536) (c1 : 16 ≤ c) : ¬ zbt s c := by
  unfold zbt
  rw [Nat.testBit_lt_two_pow]
  · simp
  · refine Nat.lt_of_lt_of_le (m := 2 ^ 16) (by omega) (Nat.pow_le_pow_right (by decide) (by omega))
theorem zbt_ext {s t : Int} (s0 : 0 ≤ s) (s1 : s < 65536) (t0 : 0 ≤ t) (t1 : t < 65536) (h : ∀ c, 0 ≤ c → c < 16 → (zbt s c ↔ zbt t c)) : s = t := by
  have : s.toNat = t.toNat := by
    apply Nat.eq_of_testBit_eq
    intro i
    by_cases c : i < 16
    · have := h i (by omega) (by omega)
      unfold zbt at this
      rw [Int.toNat_natCast] at this
      exact Bool.eq_iff_iff.2 this
    · rw [Nat.testBit_lt_two_pow, Nat.testBit_lt_two_pow]
      · refine Nat.lt_of_lt_of_le (m := 2 ^ 16) (by omega) (Nat.pow_le_pow_right (by decide) (by omega))
      · refine Nat.lt_of_lt_of_le (m := 2 ^ 16) (by omega) (Nat.pow_le_pow_right (by decide) (by omega))
  omega
theorem zlt_bit {x y i : Nat} (a : x.testBit i = false) (b : y.testBit i = true) (h : ∀ j, i < j → x.testBit j = y.testBit j) : x < y := by
  have a0 : (x >>> i).testBit 0 = false := by rw [Nat.testBit_shiftRight]; exact a
  have b0 : (y >>> i).testBit 0 = true := by rw [Nat.testBit_shiftRight]; exact b
  have e : (x >>> i) / 2 = (y >>> i) / 2 := by
    apply Nat.eq_of_testBit_eq
    intro j
    rw [← Nat.testBit_succ, ← Nat.testBit_succ, Nat.testBit_shiftRight, Nat.testBit_shiftRight]
    exact h _ (by omega)
  rw [Nat.testBit_zero] at a0 b0
  have a1 : ¬ (x >>> i) % 2 = 1 := of_decide_eq_false a0
  have b1 : (y >>> i) % 2 = 1 := of_decide_eq_true b0
  apply Classical.byContradiction
  intro c
  have := Nat.div_le_div_right (c := 2 ^ i) (show y ≤ x by omega)
  rw [← Nat.shiftRight_eq_div_pow, ← Nat.shiftRight_eq_div_pow] at this
  omega
/-- a greater set has the highest bit in which they differ -/
theorem zbt_lt {s t : Int} (s0 : 0 ≤ s) (s1 : s < 65536) (t0 : 0 ≤ t) (t1 : t < 65536) : s < t ↔ ∃ i, 0 ≤ i ∧ i < 16 ∧ ¬ zbt s i ∧ zbt t i ∧ ∀ j, i < j → j < 16 → (zbt s j ↔ zbt t j) := by
  have bwd : ∀ s t : Int, 0 ≤ s → s < 65536 → 0 ≤ t → t < 65536 → (∃ i, 0 ≤ i ∧ i < 16 ∧ ¬ zbt s i ∧ zbt t i ∧ ∀ j, i < j → j < 16 → (zbt s j ↔ zbt t j)) → s < t := by
    rintro s t s0 s1 t0 t1 ⟨i, i0, i1, a, b, h⟩
    have : s.toNat < t.toNat := by
      refine zlt_bit (i := i.toNat) (by unfold zbt at a; simpa using a) b ?_
      · intro j hj
        by_cases c : j < 16
        · have := h j (by omega) (by omega)
          unfold zbt at this
          rw [Int.toNat_natCast] at this
          exact Bool.eq_iff_iff.2 this
        · rw [Nat.testBit_lt_two_pow, Nat.testBit_lt_two_pow]
          · refine Nat.lt_of_lt_of_le (m := 2 ^ 16) (by omega) (Nat.pow_le_pow_right (by decide) (by omega))
          · refine Nat.lt_of_lt_of_le (m := 2 ^ 16) (by omega) (Nat.pow_le_pow_right (by decide) (by omega))
    omega
  have high : ∀ n : Nat, n ≤ 16 → (∃ i : Int, 0 ≤ i ∧ i < n ∧ ¬ (zbt s i ↔ zbt t i)) → (∀ j : Int, (n : Int) ≤ j → j < 16 → (zbt s j ↔ zbt t j)) → ∃ i, 0 ≤ i ∧ i < 16 ∧ ¬ (zbt s i ↔ zbt t i) ∧ ∀ j, i < j → j < 16 → (zbt s j ↔ zbt t j) := by
    intro n
    induction n with
    | zero => rintro _ ⟨i, i0, i1, _⟩ _; omega
    | succ n ih =>
      rintro hn ⟨i, i0, i1, d⟩ h
      by_cases c : (zbt s n ↔ zbt t n)
      · refine ih (by omega) ⟨i, i0, ?_, d⟩ (fun j j0 j1 => ?_)
        · apply Classical.byContradiction
          intro c2
          rw [show i = n by omega] at d
          exact d c
        · by_cases c2 : j = n
          · rw [c2]; exact c
          · exact h j (by omega) j1
      · exact ⟨n, by omega, by omega, c, fun j j0 j1 => h j (by omega) j1⟩
  constructor
  · intro l
    have ex : ∃ i : Int, 0 ≤ i ∧ i < (16 : Nat) ∧ ¬ (zbt s i ↔ zbt t i) := by
      apply Classical.byContradiction
      intro c
      have := zbt_ext s0 s1 t0 t1 (fun i i0 i1 => Classical.byContradiction fun d => c ⟨i, i0, by omega, d⟩)
      omega
    obtain ⟨i, i0, i1, d, h⟩ := high 16 (by omega) ex (fun j j0 j1 => by omega)
    by_cases a : zbt s i
    · have b : ¬ zbt t i := fun b => d ⟨fun _ => b, fun _ => a⟩
      have := bwd t s t0 t1 s0 s1 ⟨i, i0, i1, b, a, fun j j0 j1 => (h j j0 j1).symm⟩
      omega
    · have b : zbt t i := Classical.byContradiction fun b => d ⟨fun q => absurd q a, fun q => absurd q b⟩
      exact ⟨i, i0, i1, a, b, h⟩
  · exact bwd s t s0 s1 t0 t1
/-- a set with given bits -/
theorem zbt_mk (p : Int → Prop) : ∀ n : Nat, ∃ s : Int, 0 ≤ s ∧ s < 2 ^ n ∧ ∀ c : Int, 0 ≤ c → c < n → (zbt s c ↔ p c) := by
  intro n
  induction n with
  | zero => exact ⟨0, by decide, by decide, fun c c0 c1 => by omega⟩
  | succ n ih =>
    obtain ⟨s, s0, s1, h⟩ := ih
    have hs : s.toNat < 2 ^ n := by
      have e : ((2 ^ n : Nat) : Int) = 2 ^ n := by simp
      omega
    have e1 : ((2 ^ n : Nat) : Int) = 2 ^ n := by simp
    have e2 : (2 : Int) ^ (n + 1) = 2 ^ n * 2 := Int.pow_succ 2 n
    by_cases c : p n
    · refine ⟨((2 ^ n + s.toNat : Nat) : Int), by omega, by omega, fun d d0 d1 => ?_⟩
      unfold zbt
      rw [Int.toNat_natCast]
      by_cases k : d = n
      · subst k
        rw [Int.toNat_natCast, Nat.testBit_two_pow_add_eq, Nat.testBit_lt_two_pow hs]
        simp [c]
      · rw [Nat.testBit_two_pow_add_gt (by omega)]
        exact h d d0 (by omega)
    · refine ⟨s, s0, by omega, fun d d0 d1 => ?_⟩
      by_cases k : d = n
      · subst k
        unfold zbt
        rw [Int.toNat_natCast, Nat.testBit_lt_two_pow hs]
        simp [c]
      · exact h d d0 (by omega)
/-- how many bits -/
def zpc : Nat → Nat → Int
  | 0, _ => 0
  | k + 1, n => ((n % 2 : Nat) : Int) + zpc k (n / 2)
theorem zc_sh {p : Int → Prop} : ∀ v, 0 ≤ v → zc p (v + 1) = zc p 1 + zc (fun i => p (i + 1)) v := by
  apply zind
  · rw [zc_z]; simp
  · intro v hv ih
    by_cases c : p (v + 1)
    · rw [zc_p (by omega) c, zc_p (p := fun i => p (i + 1)) hv c, ih]; omega
    · rw [zc_n (by omega) c, zc_n (p := fun i => p (i + 1)) hv c, ih]
theorem zpc_c : ∀ (k n : Nat), zpc k n = zc (fun c => n.testBit c.toNat = true) k
  | 0, _ => rfl
  | k + 1, n => by
    unfold zpc
    rw [zpc_c k (n / 2), show ((k + 1 : Nat) : Int) = (k : Int) + 1 by omega, zc_sh (k : Int) (by omega)]
    have e1 : zc (fun c => n.testBit c.toNat = true) 1 = ((n % 2 : Nat) : Int) := by
      rw [show (1 : Int) = 0 + 1 by decide]
      by_cases c : n % 2 = 1
      · rw [zc_p (by decide) (by simp [c]), zc_z, c]; rfl
      · rw [zc_n (by decide) (by simp; omega), zc_z]; omega
    rw [e1]
    congr 1
    refine zc_c k (by omega) (fun i i0 i1 => ?_)
    rw [show (i + 1).toNat = i.toNat + 1 by omega, Nat.testBit_succ]
theorem zpc_0 : ∀ k, zpc k 0 = 0
  | 0 => rfl
  | k + 1 => by unfold zpc; rw [show 0 / 2 = 0 by decide, zpc_0 k]; rfl
theorem zland_sub {s a : Int} (s0 : 0 ≤ s) (s1 : s < 65536) (a0 : 0 ≤ a) (a1 : a < 65536) : zland s (zlxor a (-1)) = 0 ↔ ∀ c, 0 ≤ c → c < 16 → zbt s c → zbt a c := by
  have ex : (Int32.ofInt a ^^^ Int32.ofInt (-1)).toBitVec = ~~~ (BitVec.ofNat 32 a.toNat) := by
    rw [Int32.toBitVec_xor]
    have := zbv a.toNat (by omega)
    rw [Int.toNat_of_nonneg a0] at this
    rw [this, show (Int32.ofInt (-1)).toBitVec = BitVec.allOnes 32 by decide +kernel, BitVec.xor_allOnes]
  have ex2 : (Int32.ofInt (zlxor a (-1))).toBitVec = ~~~ (BitVec.ofNat 32 a.toNat) := by
    unfold zlxor
    rw [Int32.ofInt_toInt, ex]
  have es := zbv s.toNat (by omega)
  rw [Int.toNat_of_nonneg s0] at es
  unfold zland
  have key : (Int32.ofInt s &&& Int32.ofInt (zlxor a (-1))).toInt = 0 ↔ (BitVec.ofNat 32 s.toNat &&& ~~~ (BitVec.ofNat 32 a.toNat)) = 0#32 := by
    constructor
    · intro h
      have h2 : (Int32.ofInt s &&& Int32.ofInt (zlxor a (-1))) = 0 := by
        apply Int32.toInt_inj.1
        rw [h]; rfl
      have h3 := congrArg Int32.toBitVec h2
      rw [Int32.toBitVec_and, es, ex2] at h3
      exact h3
    · intro h
      have : (Int32.ofInt s &&& Int32.ofInt (zlxor a (-1))).toBitVec = 0#32 := by rw [Int32.toBitVec_and, es, ex2]; exact h
      show (Int32.ofInt s &&& Int32.ofInt (zlxor a (-1))).toBitVec.toInt = 0
      rw [this]; rfl
  rw [key]
  constructor
  · intro h c c0 c1 b
    have g := congrArg (fun v => v.getLsbD c.toNat) h
    unfold zbt at b ⊢
    rw [BitVec.getLsbD_and, BitVec.getLsbD_not, BitVec.getLsbD_ofNat, BitVec.getLsbD_ofNat, b] at g
    simp [show c.toNat < 32 by omega] at g
    exact g
  · intro h
    apply BitVec.eq_of_getLsbD_eq
    intro i hi
    rw [BitVec.getLsbD_and, BitVec.getLsbD_not, BitVec.getLsbD_ofNat, BitVec.getLsbD_ofNat, BitVec.getLsbD_zero]
    by_cases c : i < 16
    · have := h i (by omega) (by omega)
      unfold zbt at this
      rw [Int.toNat_natCast] at this
      by_cases b : s.toNat.testBit i = true
      · rw [b, this b]; simp [hi]
      · simp at b; rw [b]; simp
    · rw [Nat.testBit_lt_two_pow (x := s.toNat)]
      · simp
      · refine Nat.lt_of_lt_of_le (m := 2 ^ 16) (by omega) (Nat.pow_le_pow_right (by decide) (by omega))
