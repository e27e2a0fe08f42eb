theorem zsq_lt {a b : Int} : max a (-a) < max b (-b) ↔ a * a < b * b := by
  have key : ∀ x : Int, ∃ A : Int, 0 ≤ A ∧ A = max x (-x) ∧ x * x = A * A := fun x => by
    rcases Int.le_total 0 x with h | h
    · exact ⟨x, h, by omega, rfl⟩
    · exact ⟨-x, by omega, by omega, by rw [Int.neg_mul_neg]⟩
  obtain ⟨A, a0, a1, a2⟩ := key a
  obtain ⟨B, b0, b1, b2⟩ := key b
  rw [← a1, ← b1, a2, b2]
  constructor
  · intro l
    have h1 := Int.mul_le_mul_of_nonneg_left (show A ≤ B by omega) a0
    have h2 := Int.mul_lt_mul_of_pos_right l (show 0 < B by omega)
    omega
  · intro l
    apply Classical.byContradiction
    intro c
    have h1 := Int.mul_le_mul_of_nonneg_left (show B ≤ A by omega) b0
    have h2 := Int.mul_le_mul_of_nonneg_right (show B ≤ A by omega) a0
    omega
theorem zsq_b {a : Int} (h : -255 ≤ a ∧ a ≤ 255) : 0 ≤ a * a ∧ a * a ≤ 65025 := by
  have := zmb h h
  refine ⟨?_, by omega⟩
  rcases Int.le_total 0 a with k | k
  · exact Int.mul_nonneg k k
  · exact Int.mul_nonneg_of_nonpos_of_nonpos k k
/-- of the first k colours the kept one nearest to c, the least of several; -1: none -/
def gNb (tone : Int → Int) (set c : Int) : Nat → Int
  | 0 => -1
  | k + 1 => if set.toNat.testBit k = true ∧ (gNb tone set c k < 0 ∨ (tone k - tone c) * (tone k - tone c) < (tone (gNb tone set c k) - tone c) * (tone (gNb tone set c k) - tone c)) then (k : Int) else gNb tone set c k
theorem gNb_b {tone : Int → Int} {set c : Int} : ∀ k : Nat, -1 ≤ gNb tone set c k ∧ gNb tone set c k < k
  | 0 => by unfold gNb; omega
  | k + 1 => by
    have := @gNb_b tone set c k
    unfold gNb
    split <;> omega
theorem gNb_0 {tone : Int → Int} {set c : Int} : ∀ k : Nat, (∃ i : Nat, i < k ∧ set.toNat.testBit i = true) → 0 ≤ gNb tone set c k
  | 0, h => by obtain ⟨i, i0, _⟩ := h; omega
  | k + 1, h => by
    unfold gNb
    split
    · omega
    · rename_i n
      by_cases c0 : gNb tone set c k < 0
      · exfalso
        obtain ⟨i, i0, i1⟩ := h
        by_cases e : i = k
        · subst e; exact n ⟨i1, .inl c0⟩
        · have := @gNb_0 tone set c k ⟨i, by omega, i1⟩
          omega
      · omega
def gNe (tone : Int → Int) (set c v : Int) : Int := gNb tone set c v.toNat
theorem gNe_s {tone : Int → Int} {set c v : Int} (h : 0 ≤ v) (hs : 0 ≤ set) : gNe tone set c (v + 1) = v ∧ zbt set v ∧ (gNe tone set c v < 0 ∨ (tone v - tone c) * (tone v - tone c) < (tone (gNe tone set c v) - tone c) * (tone (gNe tone set c v) - tone c)) ∨ gNe tone set c (v + 1) = gNe tone set c v ∧ ¬ (zbt set v ∧ (gNe tone set c v < 0 ∨ (tone v - tone c) * (tone v - tone c) < (tone (gNe tone set c v) - tone c) * (tone (gNe tone set c v) - tone c))) := by
  unfold gNe zbt
  rw [show (v + 1).toNat = v.toNat + 1 by omega, gNb, Int.toNat_of_nonneg h]
  split
  · rename_i c; exact .inl ⟨rfl, c⟩
  · rename_i c; exact .inr ⟨rfl, c⟩
theorem gNe_b {tone : Int → Int} {set c v : Int} (h : 0 ≤ v) : -1 ≤ gNe tone set c v ∧ gNe tone set c v < max v 1 := by
  have := @gNb_b tone set c v.toNat
  unfold gNe
  omega
theorem gNe_0 {tone : Int → Int} {set c : Int} (h : ∃ k, 0 ≤ k ∧ k < 16 ∧ zbt set k) : 0 ≤ gNe tone set c 16 := by
  obtain ⟨k, k0, k1, k2⟩ := h
  exact gNb_0 16 ⟨k.toNat, by omega, k2⟩
/-- the sum over the first k colours -/
def gSmN (many tone : Int → Int) (set : Int) : Nat → Int
  | 0 => 0
  | k + 1 => gSmN many tone set k + if many k = 0 then 0 else many k * ((tone (gNe tone set k 16) - tone k) * (tone (gNe tone set k 16) - tone k))
def gSm (many tone : Int → Int) (set v : Int) : Int := gSmN many tone set v.toNat
theorem gSm_s {many tone : Int → Int} {set v : Int} (h : 0 ≤ v) : gSm many tone set (v + 1) = gSm many tone set v + if many v = 0 then 0 else many v * ((tone (gNe tone set v 16) - tone v) * (tone (gNe tone set v 16) - tone v)) := by
  unfold gSm
  rw [show (v + 1).toNat = v.toNat + 1 by omega, gSmN, Int.toNat_of_nonneg h]
theorem gTerm_b {n a : Int} (hn : 0 ≤ n ∧ n ≤ 192) (ha : -255 ≤ a ∧ a ≤ 255) : 0 ≤ n * (a * a) ∧ n * (a * a) ≤ 12484800 := by
  have q := zsq_b ha
  have h1 := Int.mul_nonneg hn.1 q.1
  have h2 := zmb (a := n) (b := a * a) (A := 192) (B := 65025) (by omega) (by omega)
  omega
theorem gSm_b {many tone : Int → Int} {set : Int} (hm : ∀ c, 0 ≤ c → c < 16 → 0 ≤ many c ∧ many c ≤ 192) (ht : ∀ c, 0 ≤ c → c < 16 → 0 ≤ tone c ∧ tone c ≤ 255) (hs : ∃ k, 0 ≤ k ∧ k < 16 ∧ zbt set k) : ∀ v, 0 ≤ v → v ≤ 16 → 0 ≤ gSm many tone set v ∧ gSm many tone set v ≤ 12484800 * v := by
  apply zind (P := fun v => v ≤ 16 → 0 ≤ gSm many tone set v ∧ gSm many tone set v ≤ 12484800 * v)
  · intro _; exact ⟨Int.le_refl _, Int.le_refl _⟩
  · intro v hv ih c
    have i := ih (by omega)
    rw [gSm_s hv]
    split
    · omega
    · have n0 := gNe_0 (tone := tone) (c := v) hs
      have n1 := @gNe_b tone set v 16 (by decide)
      have t1 := ht _ n0 (by omega)
      have t2 := ht v hv (by omega)
      have := gTerm_b (hm v hv (by omega)) (a := tone (gNe tone set v 16) - tone v) (by omega)
      omega
/-- how many dots are of colour c -/
noncomputable def gCn (w h : Int) (C : Int → Int) (c : Int) : Int := zc (fun a => gD w h a ∧ C a = c) 192
theorem gCn_b {w h : Int} {C : Int → Int} {c : Int} : 0 ≤ gCn w h C c ∧ gCn w h C c ≤ 192 := zc_b _ 192 (by decide)
/-- the colours that occur, in order -/
def gOc (many : Int → Int) (nC : Int) (occ : Int → Int) : Prop := nC = zc (fun c => 0 < many c) 16 ∧ ∀ c, 0 ≤ c → c < 16 → 0 < many c → occ (zc (fun c => 0 < many c) c) = c
theorem gOc.at {many : Int → Int} {nC : Int} {occ : Int → Int} (h : gOc many nC occ) {n : Int} (n0 : 0 ≤ n) (n1 : n < nC) : 0 ≤ occ n ∧ occ n < 16 ∧ 0 < many (occ n) ∧ zc (fun c => 0 < many c) (occ n) = n := by
  rw [h.1] at n1
  obtain ⟨i, i0, i1, i2, i3⟩ := zc_rk 16 (by decide) n n0 n1
  have e := h.2 i i0 i1 i2
  rw [i3] at e
  rw [e]
  exact ⟨i0, i1, i2, i3⟩
/-- T is the set of the colours that occur and whose places are chosen -/
def gAs (occ : Int → Int) (nC c T : Int) : Prop := (0 ≤ T ∧ T < 65536) ∧ ∀ d, 0 ≤ d → (zbt T d ↔ ∃ n, 0 ≤ n ∧ n < nC ∧ zbt c n ∧ occ n = d)
section
variable {many : Int → Int} {nC : Int} {occ : Int → Int}
theorem gAs_bit (h : gOc many nC occ) {c T n : Int} (a : gAs occ nC c T) (n0 : 0 ≤ n) (n1 : n < nC) : zbt T (occ n) ↔ zbt c n := by
  have o := h.at n0 n1
  rw [a.2 _ o.1]
  constructor
  · rintro ⟨m, m0, m1, m2, m3⟩
    have o2 := h.at m0 m1
    rw [m3, o.2.2.2] at o2
    rw [show n = m by omega]
    exact m2
  · intro b; exact ⟨n, n0, n1, b, rfl⟩
theorem zbt_lt2 {c n : Int} (c0 : 0 ≤ c) {k : Nat} (h : c < 2 ^ k) (hk : (k : Int) ≤ n) : ¬ zbt c n := by
  unfold zbt
  rw [Nat.testBit_lt_two_pow]
  · simp
  · have e1 : ((2 ^ k : Nat) : Int) = 2 ^ k := by simp
    exact Nat.lt_of_lt_of_le (m := 2 ^ k) (by omega) (Nat.pow_le_pow_right (by decide) (by omega))
theorem gAs_lt (h : gOc many nC occ) (hn : 0 ≤ nC ∧ nC ≤ 8) {c c' T T' : Int} (c0 : 0 ≤ c) (l : c < c') (l2 : c' < 2 ^ nC.toNat) (l3 : c' < 256) (a : gAs occ nC c T) (a' : gAs occ nC c' T') : T < T' := by
  obtain ⟨i, i0, i1, b1, b2, b3⟩ := (zbt_lt c0 (by omega) (by omega) (by omega)).1 l
  have iN : i < nC := by
    apply Classical.byContradiction
    intro k
    exact zbt_lt2 (by omega) l2 (by omega) b2
  have o := h.at i0 iN
  rw [zbt_lt a.1.1 a.1.2 a'.1.1 a'.1.2]
  refine ⟨occ i, o.1, o.2.1, fun b => b1 ((gAs_bit h a i0 iN).1 b), (gAs_bit h a' i0 iN).2 b2, fun j j0 j1 => ?_⟩
  rw [a.2 j (by omega), a'.2 j (by omega)]
  have key : ∀ n, 0 ≤ n → n < nC → occ n = j → i < n := by
    intro n n0 n1 e
    have o2 := h.at n0 n1
    rw [e] at o2
    have := zc_lt2 o.1 j0 (p := fun c => 0 < many c) o.2.2.1
    omega
  constructor
  · rintro ⟨n, n0, n1, n2, n3⟩
    exact ⟨n, n0, n1, (b3 n (key n n0 n1 n3) (by omega)).1 n2, n3⟩
  · rintro ⟨n, n0, n1, n2, n3⟩
    exact ⟨n, n0, n1, (b3 n (key n n0 n1 n3) (by omega)).2 n2, n3⟩
theorem gAs_pc (h : gOc many nC occ) (hn : 0 ≤ nC ∧ nC ≤ 8) {c T : Int} (c0 : 0 ≤ c) (l2 : c < 2 ^ nC.toNat) (a : gAs occ nC c T) : zc (zbt T) 16 = zc (zbt c) 16 := by
  have st : ∀ v, 0 ≤ v → v ≤ 16 → zc (zbt T) v = zc (zbt c) (zc (fun c => 0 < many c) v) := by
    apply zind (P := fun v => v ≤ 16 → zc (zbt T) v = zc (zbt c) (zc (fun c => 0 < many c) v))
    · intro _; rw [zc_z, zc_z, zc_z]
    · intro v hv ih k
      have i := ih (by omega)
      have rb := (zc_b (fun c => 0 < many c) v hv).1
      by_cases o : 0 < many v
      · have rl : zc (fun c => 0 < many c) v < nC := by rw [h.1]; exact zc_lt2 hv (by omega) o
        have e := h.2 v hv (by omega) o
        have bit := gAs_bit h a rb rl
        rw [e] at bit
        rw [zc_p (p := fun c => 0 < many c) hv o]
        by_cases b : zbt T v
        · rw [zc_p hv b, zc_p rb (bit.1 b), i]
        · rw [zc_n hv b, zc_n rb (fun q => b (bit.2 q)), i]
      · rw [zc_n (p := fun c => 0 < many c) hv o]
        have nb : ¬ zbt T v := by
          rw [a.2 v hv]
          rintro ⟨n, n0, n1, n2, n3⟩
          have o2 := h.at n0 n1
          rw [n3] at o2
          exact o o2.2.2.1
        rw [zc_n hv nb, i]
  rw [st 16 (by decide) (by decide), ← h.1]
  exact (zc_skip hn.1 16 (by omega) (fun i i0 i1 => zbt_lt2 c0 l2 (by omega))).symm
theorem gAs_ex (h : gOc many nC occ) (hn : 0 ≤ nC ∧ nC ≤ 8) {T : Int} (T0 : 0 ≤ T) (T1 : T < 65536) (sub : ∀ c, 0 ≤ c → c < 16 → zbt T c → 0 < many c) : ∃ c, 0 ≤ c ∧ c < 2 ^ nC.toNat ∧ gAs occ nC c T := by
  obtain ⟨c, c0, c1, c2⟩ := zbt_mk (fun n => zbt T (occ n)) nC.toNat
  refine ⟨c, c0, c1, ⟨T0, T1⟩, fun d d0 => ?_⟩
  constructor
  · intro b
    have d1 : d < 16 := Classical.byContradiction fun k => zbt_hi T1 (by omega) b
    have o := sub d d0 d1 b
    have rb := (zc_b (fun c => 0 < many c) d d0).1
    have rl : zc (fun c => 0 < many c) d < nC := by rw [h.1]; exact zc_lt2 d0 d1 o
    have e := h.2 d d0 d1 o
    refine ⟨_, rb, rl, (c2 _ rb (by omega)).2 ?_, e⟩
    rw [e]; exact b
  · rintro ⟨n, n0, n1, n2, n3⟩
    rw [← n3]
    exact (c2 n n0 (by omega)).1 n2
end
/-- the few colours: the least sum and the set -/
def gFw (many tone : Int → Int) (k least kept : Int) : Prop := (1 ≤ kept ∧ kept < 65536) ∧ (∀ c, 0 ≤ c → c < 16 → zbt kept c → 0 < many c) ∧ zc (zbt kept) 16 ≤ k ∧ least = gSm many tone kept 16 ∧
  ∀ T, 1 ≤ T → T < 65536 → (∀ c, 0 ≤ c → c < 16 → zbt T c → 0 < many c) → zc (zbt T) 16 ≤ k → least ≤ gSm many tone T 16 ∧ (T < kept → least < gSm many tone T 16)
theorem gFw.uq {many tone : Int → Int} {k l s l' s' : Int} (h : gFw many tone k l s) (g : gFw many tone k l' s') : l = l' ∧ s = s' := by
  obtain ⟨h1, h2, h3, h4, h5⟩ := h
  obtain ⟨g1, g2, g3, g4, g5⟩ := g
  have a := h5 s' g1.1 g1.2 g2 g3
  have b := g5 s h1.1 h1.2 h2 h3
  rw [← g4] at a
  rw [← h4] at b
  refine ⟨by omega, ?_⟩
  apply Classical.byContradiction
  intro c
  rcases Int.lt_or_gt_of_ne c with q | q
  · have := b.2 q; omega
  · have := a.2 q; omega
theorem zbt_ne {T : Int} (h : 1 ≤ T) (h2 : T < 65536) : ∃ k, 0 ≤ k ∧ k < 16 ∧ zbt T k := by
  apply Classical.byContradiction
  intro c
  have := zbt_ext (s := T) (t := 0) (by omega) h2 (by omega) (by omega) (fun k k0 k1 => ⟨fun b => absurd ⟨k, k0, k1, b⟩ c, fun b => by unfold zbt at b; simp at b⟩)
  omega
abbrev pr_X11_isColour (c : Int) (M : zM) : Prop := True
abbrev po_X11_isColour (c : Int) (M : zM) (r : Int) (M' : zM) : Prop := M' = M ∧ r = if 0 ≤ c ∧ c < 16 then 1 else 0
set_option maxHeartbeats 1000000 in
theorem ok_X11_isColour : zSnd zS 145 0 0 yX11_isColour cX11_isColour 1 (some .boolean) 0 [0] (F_X11_isColour pr_X11_isColour po_X11_isColour) := by
  refine (sn_X11_isColour).mono ?_
  rintro xs P M hz hR ⟨c, rfl, _, hP⟩
  refine ⟨_, rfl, ?_⟩
  have z_c := zall_h hz (by decide)
  change vc_X11_isColour c P M
  unfold vc_X11_isColour
  refine ⟨fun b1 => ?_, fun b1 => ?_⟩
  · -- b1.1
    refine hP _ _ ⟨rfl, ?_⟩
    · rw [if_neg (by omega)]  -- p1
  · -- b1.2
    refine ⟨fun b2 => ?_, fun b2 => ?_⟩
    · -- b2.1
      refine hP _ _ ⟨rfl, ?_⟩
      · rw [if_neg (by omega)]  -- p2
    · -- b2.2
      refine hP _ _ ⟨rfl, ?_⟩
      · rw [if_pos (by omega)]  -- p3

abbrev pr_X4_distance (a : Int) (b : Int) (M : zM) : Prop := (∀ c, 0 ≤ c → c < 16 → 0 ≤ M 3 c ∧ M 3 c ≤ 255) ∧ (0 ≤ a ∧ a < 16) ∧ (0 ≤ b ∧ b < 16)
abbrev po_X4_distance (a : Int) (b : Int) (M : zM) (r : Int) (M' : zM) : Prop := M' = M ∧ r = max (M 3 a - M 3 b) (-(M 3 a - M 3 b))
set_option maxHeartbeats 1000000 in
theorem ok_X4_distance : zSnd zS 145 0 0 yX4_distance cX4_distance 3 (some .int) 1 [2, 0, 0] (F_X4_distance pr_X4_distance po_X4_distance) := by
  refine (sn_X4_distance).mono ?_
  rintro xs P M hz hR ⟨a, b, rfl, ⟨ht, ha, hb⟩, hP⟩
  refine ⟨_, _, rfl, ?_⟩
  have z_a := zall_h (zall_t hz) (by decide)
  have z_b := zall_h (zall_t (zall_t hz)) (by decide)
  change vc_X4_distance a b P M
  unfold vc_X4_distance
  have h1 := ht a ha.1 ha.2
  have h2 := ht b hb.1 hb.2
  have o1 : ((0 : Int) ≤ a ∧ a < 16) := by
    first | with_reducible assumption | omega | exact trivial | with_reducible rfl  -- o1
  refine ⟨o1, ?_⟩
  have o2 : ((0 : Int) ≤ b ∧ b < 16) := by
    first | with_reducible assumption | omega | exact trivial | with_reducible rfl  -- o2
  refine ⟨o2, ?_⟩
  have o3 : zin ((M 3 a) - (M 3 b)) := by
    first | with_reducible assumption | omega | exact trivial | with_reducible rfl  -- o3
  refine ⟨o3, ?_⟩
  have o4 : zin (max ((M 3 a) - (M 3 b)) (-((M 3 a) - (M 3 b)))) := by
    first | with_reducible assumption | omega | exact trivial | with_reducible rfl  -- o4
  refine ⟨o4, ?_⟩
  refine hP _ _ ⟨rfl, ?_⟩
  · first | with_reducible assumption | omega | exact trivial | with_reducible rfl  -- p1

abbrev pr_X4_nearest (c : Int) (set : Int) (M : zM) : Prop := (∀ c, 0 ≤ c → c < 16 → 0 ≤ M 3 c ∧ M 3 c ≤ 255) ∧ (0 ≤ c ∧ c < 16) ∧ (0 ≤ set ∧ set < 65536)
abbrev po_X4_nearest (c : Int) (set : Int) (M : zM) (r : Int) (M' : zM) : Prop := M' = M ∧ r = if gNe (M 3) set c 16 < 0 then c else gNe (M 3) set c 16
set_option maxHeartbeats 1000000 in
theorem ok_X4_nearest : zSnd zS 145 0 0 yX4_nearest cX4_nearest 6 (some .int) 2 [2, 0, 0] (F_X4_nearest pr_X4_nearest po_X4_nearest) := by
  refine (sn_X4_nearest ok_X4_distance).mono ?_
  rintro xs P M hz hR ⟨c, set, rfl, ⟨ht, hc, hs⟩, hP⟩
  refine ⟨_, _, rfl, ?_⟩
  have z_c := zall_h (zall_t hz) (by decide)
  have z_set := zall_h (zall_t (zall_t hz)) (by decide)
  change vc_X4_nearest pr_X4_distance po_X4_distance c set P M
  unfold vc_X4_nearest
  refine ⟨fun v1 v2 v3 M7 n9 => (n9 : Int) = (16 - v3) ∧ (0 ≤ v3 ∧ v3 ≤ 16) ∧ (M7 = M) ∧ (v1 = if gNe (M 3) set c v3 < 0 then c else gNe (M 3) set c v3) ∧ (v2 = if gNe (M 3) set c v3 < 0 then 1000000 else max (M 3 c - M 3 (gNe (M 3) set c v3)) (-(M 3 c - M 3 (gNe (M 3) set c v3)))), ⟨Int.toNat (16 - 0), by omega, ?_, ?_, ?_, ?_⟩, ?_⟩
  · show 0 ≤ 0 ∧ 0 ≤ 16  -- I9.0.hv
    first | with_reducible assumption | omega | exact trivial | with_reducible rfl
  · first | with_reducible assumption | omega | exact trivial | with_reducible rfl  -- I9.0.rfl
  · show c = if gNe (M 3) set c 0 < 0 then c else gNe (M 3) set c 0  -- I9.0.h1
    rw [show gNe (M 3) set c 0 = -1 from rfl, if_pos (by decide)]
  · show 1000000 = if gNe (M 3) set c 0 < 0 then 1000000 else max (M 3 c - M 3 (gNe (M 3) set c 0)) (-(M 3 c - M 3 (gNe (M 3) set c 0)))  -- I9.0.h2
    rw [show gNe (M 3) set c 0 = -1 from rfl, if_pos (by decide)]
  rintro v1 v2 v3 M7 n9 ⟨h_n9, hv, q_rfl, h1, h2⟩ z_v1 z_v2 z_v3 z_M7
  have q_rfl := q_rfl.symm
  subst q_rfl
  refine ⟨fun b1 => ?_, fun b1 => ?_⟩
  · -- b1.1
    refine hP _ _ ⟨rfl, ?_⟩
    · rw [h1, show v3 = 16 by omega]  -- p1
  · -- b1.2
    have gs := @gNe_s (M 3) set c v3 hv.1 hs.1
    have gb := @gNe_b (M 3) set c v3 hv.1
    have zb := zbt_0 hs.1 (by omega) hv.1 (show v3 < 16 by omega)
    have tc := ht c hc.1 hc.2
    have tv := ht v3 hv.1 (by omega)
    refine ⟨fun b2 => ?_, fun b2 => ?_⟩
    · -- b2.1
      have e : gNe (M 3) set c (v3 + 1) = gNe (M 3) set c v3 := by
        rcases gs with ⟨_, b, _⟩ | ⟨e, _⟩
        · exact absurd b (zb.1.1 b2)
        · exact e
      have o1 : zin (v3 + 1) := by
        first | with_reducible assumption | omega | exact trivial | with_reducible rfl  -- o1
      refine ⟨o1, ?_⟩
      refine ⟨Int.toNat (16 - (v3 + 1)), by omega, by omega, ?_, ?_, ?_, ?_⟩
      · show 0 ≤ (v3 + 1) ∧ (v3 + 1) ≤ 16  -- I9.1.hv
        first | with_reducible assumption | omega | exact trivial | with_reducible rfl
      · first | with_reducible assumption | omega | exact trivial | with_reducible rfl  -- I9.1.rfl
      · show v1 = if gNe (M 3) set c (v3 + 1) < 0 then c else gNe (M 3) set c (v3 + 1)  -- I9.1.h1
        rw [e]; exact h1
      · show v2 = if gNe (M 3) set c (v3 + 1) < 0 then 1000000 else max (M 3 c - M 3 (gNe (M 3) set c (v3 + 1))) (-(M 3 c - M 3 (gNe (M 3) set c (v3 + 1))))  -- I9.1.h2
        rw [e]; exact h2
    · -- b2.2
      have bt : zbt set v3 := Classical.byContradiction fun n => b2 (zb.1.2 n)
      have gc1 : pr_X4_distance c v3 M := by
        refine ⟨?_, ?_, ?_⟩
        · show ∀ c, 0 ≤ c → c < 16 → 0 ≤ M 3 c ∧ M 3 c ≤ 255  -- c1.ht
          first | with_reducible assumption | omega | exact trivial | with_reducible rfl
        · show 0 ≤ c ∧ c < 16  -- c1.ha
          first | with_reducible assumption | omega | exact trivial | with_reducible rfl
        · show 0 ≤ v3 ∧ v3 < 16  -- c1.hb
          first | with_reducible assumption | omega | exact trivial | with_reducible rfl
      refine ⟨gc1, ?_⟩
      rintro r22 M23 ⟨q_rfl, e_r22⟩ z_r22 z_M23
      have q_rfl := q_rfl.symm
      subst q_rfl
      have cmp : gNe (M 3) set c v3 < 0 ∨ ((M 3 v3 - M 3 c) * (M 3 v3 - M 3 c) < (M 3 (gNe (M 3) set c v3) - M 3 c) * (M 3 (gNe (M 3) set c v3) - M 3 c) ↔ r22 < v2) := by
        by_cases n : gNe (M 3) set c v3 < 0
        · exact .inl n
        · refine .inr ?_
          rw [← zsq_lt, h2, if_neg n, e_r22]
          omega
      have c0 : gNe (M 3) set c v3 < 0 → v2 = 1000000 := fun n => by rw [h2, if_pos n]
      refine ⟨fun b3 => ?_, fun b3 => ?_⟩
      · -- b3.1
        have o2 : zin (v3 + 1) := by
          first | with_reducible assumption | omega | exact trivial | with_reducible rfl  -- o2
        refine ⟨o2, ?_⟩
        refine ⟨Int.toNat (16 - (v3 + 1)), by omega, by omega, ?_, ?_, ?_, ?_⟩
        · show 0 ≤ (v3 + 1) ∧ (v3 + 1) ≤ 16  -- I9.2.hv
          first | with_reducible assumption | omega | exact trivial | with_reducible rfl
        · first | with_reducible assumption | omega | exact trivial | with_reducible rfl  -- I9.2.rfl
        · show v1 = if gNe (M 3) set c (v3 + 1) < 0 then c else gNe (M 3) set c (v3 + 1)  -- I9.2.h1
          rw [show gNe (M 3) set c (v3 + 1) = gNe (M 3) set c v3 by
            rcases gs with ⟨_, _, q⟩ | ⟨e, _⟩
            · exfalso; omega
            · exact e]
          exact h1
        · show v2 = if gNe (M 3) set c (v3 + 1) < 0 then 1000000 else max (M 3 c - M 3 (gNe (M 3) set c (v3 + 1))) (-(M 3 c - M 3 (gNe (M 3) set c (v3 + 1))))  -- I9.2.h2
          rw [show gNe (M 3) set c (v3 + 1) = gNe (M 3) set c v3 by
            rcases gs with ⟨_, _, q⟩ | ⟨e, _⟩
            · exfalso; omega
            · exact e]
          exact h2
      · -- b3.2
        have e : gNe (M 3) set c (v3 + 1) = v3 := by
          rcases gs with ⟨e, _⟩ | ⟨_, q⟩
          · exact e
          · exfalso
            refine q ⟨bt, ?_⟩
            rcases cmp with h | h
            · exact .inl h
            · exact .inr (h.2 (by omega))
        have gc2 : pr_X4_distance c v3 M := by
          refine ⟨?_, ?_, ?_⟩
          · show ∀ c, 0 ≤ c → c < 16 → 0 ≤ M 3 c ∧ M 3 c ≤ 255  -- c2.ht
            first | with_reducible assumption | omega | exact trivial | with_reducible rfl
          · show 0 ≤ c ∧ c < 16  -- c2.ha
            first | with_reducible assumption | omega | exact trivial | with_reducible rfl
          · show 0 ≤ v3 ∧ v3 < 16  -- c2.hb
            first | with_reducible assumption | omega | exact trivial | with_reducible rfl
        refine ⟨gc2, ?_⟩
        rintro r33 M34 ⟨q_rfl, e_r33⟩ z_r33 z_M34
        have q_rfl := q_rfl.symm
        subst q_rfl
        have o3 : zin (v3 + 1) := by
          first | with_reducible assumption | omega | exact trivial | with_reducible rfl  -- o3
        refine ⟨o3, ?_⟩
        refine ⟨Int.toNat (16 - (v3 + 1)), by omega, by omega, ?_, ?_, ?_, ?_⟩
        · show 0 ≤ (v3 + 1) ∧ (v3 + 1) ≤ 16  -- I9.3.hv
          first | with_reducible assumption | omega | exact trivial | with_reducible rfl
        · first | with_reducible assumption | omega | exact trivial | with_reducible rfl  -- I9.3.rfl
        · show v3 = if gNe (M 3) set c (v3 + 1) < 0 then c else gNe (M 3) set c (v3 + 1)  -- I9.3.h1
          rw [e, if_neg (by omega)]
        · show r33 = if gNe (M 3) set c (v3 + 1) < 0 then 1000000 else max (M 3 c - M 3 (gNe (M 3) set c (v3 + 1))) (-(M 3 c - M 3 (gNe (M 3) set c (v3 + 1))))  -- I9.3.h2
          rw [e, if_neg (by omega)]; exact e_r33

abbrev pr_X4_sumWith (set : Int) (M : zM) : Prop := (∀ c, 0 ≤ c → c < 16 → 0 ≤ M 3 c ∧ M 3 c ≤ 255) ∧ (∀ c, 0 ≤ c → c < 16 → 0 ≤ M 51 c ∧ M 51 c ≤ 192) ∧ (0 ≤ set ∧ set < 65536) ∧ (∃ k, 0 ≤ k ∧ k < 16 ∧ zbt set k)
abbrev po_X4_sumWith (set : Int) (M : zM) (r : Int) (M' : zM) : Prop := M' = M ∧ r = gSm (M 51) (M 3) set 16
set_option maxHeartbeats 1000000 in
theorem ok_X4_sumWith : zSnd zS 145 0 0 yX4_sumWith cX4_sumWith 5 (some .int) 3 [2, 0] (F_X4_sumWith pr_X4_sumWith po_X4_sumWith) := by
  refine (sn_X4_sumWith ok_X4_nearest ok_X4_distance).mono ?_
  rintro xs P M hz hR ⟨set, rfl, ⟨ht, hm, hs, he⟩, hP⟩
  refine ⟨_, rfl, ?_⟩
  have z_set := zall_h (zall_t hz) (by decide)
  change vc_X4_sumWith pr_X4_nearest po_X4_nearest pr_X4_distance po_X4_distance set P M
  unfold vc_X4_sumWith
  refine ⟨fun v1 v2 M5 n7 => (n7 : Int) = (16 - v2) ∧ (0 ≤ v2 ∧ v2 ≤ 16) ∧ (M5 = M) ∧ (v1 = gSm (M 51) (M 3) set v2), ⟨Int.toNat (16 - 0), by omega, ?_, ?_, ?_⟩, ?_⟩
  · show 0 ≤ 0 ∧ 0 ≤ 16  -- I4.0.hv
    first | with_reducible assumption | omega | exact trivial | with_reducible rfl
  · first | with_reducible assumption | omega | exact trivial | with_reducible rfl  -- I4.0.rfl
  · show 0 = gSm (M 51) (M 3) set 0  -- I4.0.h1
    rfl
  rintro v1 v2 M5 n7 ⟨h_n7, hv, q_rfl, h1⟩ z_v1 z_v2 z_M5
  have q_rfl := q_rfl.symm
  subst q_rfl
  refine ⟨fun b1 => ?_, fun b1 => ?_⟩
  · -- b1.1
    refine hP _ _ ⟨rfl, ?_⟩
    · rw [h1, show v2 = 16 by omega]  -- p1
  · -- b1.2
    have gs := @gSm_s (M 51) (M 3) set v2 hv.1
    have gb := gSm_b hm ht he v2 hv.1 hv.2
    have hmv := hm v2 hv.1 (by omega)
    have o1 : ((0 : Int) ≤ v2 ∧ v2 < 16) := by
      first | with_reducible assumption | omega | exact trivial | with_reducible rfl  -- o1
    refine ⟨o1, ?_⟩
    refine ⟨fun b2 => ?_, fun b2 => ?_⟩
    · -- b2.1
      have o2 : zin (v2 + 1) := by
        first | with_reducible assumption | omega | exact trivial | with_reducible rfl  -- o2
      refine ⟨o2, ?_⟩
      refine ⟨Int.toNat (16 - (v2 + 1)), by omega, by omega, ?_, ?_, ?_⟩
      · show 0 ≤ (v2 + 1) ∧ (v2 + 1) ≤ 16  -- I4.1.hv
        first | with_reducible assumption | omega | exact trivial | with_reducible rfl
      · first | with_reducible assumption | omega | exact trivial | with_reducible rfl  -- I4.1.rfl
      · show v1 = gSm (M 51) (M 3) set (v2 + 1)  -- I4.1.h1
        rw [gs, if_pos (by omega)]; omega
    · -- b2.2
      have gc1 : pr_X4_nearest v2 set M := by
        refine ⟨?_, ?_, ?_⟩
        · show ∀ v2, 0 ≤ v2 → v2 < 16 → 0 ≤ M 3 v2 ∧ M 3 v2 ≤ 255  -- c1.ht
          first | with_reducible assumption | omega | exact trivial | with_reducible rfl
        · show 0 ≤ v2 ∧ v2 < 16  -- c1.hc
          first | with_reducible assumption | omega | exact trivial | with_reducible rfl
        · show 0 ≤ set ∧ set < 65536  -- c1.hs
          first | with_reducible assumption | omega | exact trivial | with_reducible rfl
      refine ⟨gc1, ?_⟩
      rintro r21 M22 ⟨q_rfl, e_r21⟩ z_r21 z_M22
      have q_rfl := q_rfl.symm
      subst q_rfl
      have gc2 : pr_X4_distance v2 r21 M := by
        refine ⟨?_, ?_, ?_⟩
        · show ∀ c, 0 ≤ c → c < 16 → 0 ≤ M 3 c ∧ M 3 c ≤ 255  -- c2.ht
          first | with_reducible assumption | omega | exact trivial | with_reducible rfl
        · show 0 ≤ v2 ∧ v2 < 16  -- c2.ha
          first | with_reducible assumption | omega | exact trivial | with_reducible rfl
        · show 0 ≤ r21 ∧ r21 < 16  -- c2.hb
          have := gNe_0 (tone := M 3) (c := v2) he
          have := @gNe_b (M 3) set v2 16 (by decide)
          rw [e_r21, if_neg (by omega)]; omega
      refine ⟨gc2, ?_⟩
      rintro r27 M28 ⟨q_rfl, e_r27⟩ z_r27 z_M28
      have q_rfl := q_rfl.symm
      subst q_rfl
      have n0 := gNe_0 (tone := M 3) (c := v2) he
      have n1 := @gNe_b (M 3) set v2 16 (by decide)
      rw [if_neg (by omega)] at e_r21
      have t1 := ht _ n0 (by omega)
      have t2 := ht v2 hv.1 (by omega)
      have tb := gTerm_b hmv (a := M 3 (gNe (M 3) set v2 16) - M 3 v2) (by omega)
      have et : (M 51 v2) * r27 * r27 = M 51 v2 * ((M 3 (gNe (M 3) set v2 16) - M 3 v2) * (M 3 (gNe (M 3) set v2 16) - M 3 v2)) := by
        rw [Int.mul_assoc]
        congr 1
        rw [e_r27, e_r21]
        rcases Int.le_total 0 (M 3 v2 - M 3 (gNe (M 3) set v2 16)) with h | h
        · rw [show max (M 3 v2 - M 3 (gNe (M 3) set v2 16)) (-(M 3 v2 - M 3 (gNe (M 3) set v2 16))) = -(M 3 (gNe (M 3) set v2 16) - M 3 v2) by omega, Int.neg_mul_neg]
        · rw [show max (M 3 v2 - M 3 (gNe (M 3) set v2 16)) (-(M 3 v2 - M 3 (gNe (M 3) set v2 16))) = M 3 (gNe (M 3) set v2 16) - M 3 v2 by omega]
      have o3 : zin (v1 + (((M 51 v2) * r27) * r27)) := by
        rw [et]; omega
      refine ⟨o3, ?_⟩
      have o4 : zin (v2 + 1) := by
        first | with_reducible assumption | omega | exact trivial | with_reducible rfl  -- o4
      refine ⟨o4, ?_⟩
      refine ⟨Int.toNat (16 - (v2 + 1)), by omega, by omega, ?_, ?_, ?_⟩
      · show 0 ≤ (v2 + 1) ∧ (v2 + 1) ≤ 16  -- I4.2.hv
        first | with_reducible assumption | omega | exact trivial | with_reducible rfl
      · first | with_reducible assumption | omega | exact trivial | with_reducible rfl  -- I4.2.rfl
      · show (v1 + (((M 51 v2) * r27) * r27)) = gSm (M 51) (M 3) set (v2 + 1)  -- I4.2.h1
        rw [gs, if_neg (by omega), et, h1]

abbrev pr_X4_asSet (c : Int) (n : Int) (M : zM) : Prop := (0 ≤ c ∧ c < 65536) ∧ (0 ≤ n ∧ n ≤ 16) ∧ (∀ i, 0 ≤ i → i < n → 0 ≤ M 52 i ∧ M 52 i < 16)
abbrev po_X4_asSet (c : Int) (n : Int) (M : zM) (r : Int) (M' : zM) : Prop := (M' = M) ∧ (gAs (M 52) n c r)
set_option maxHeartbeats 1000000 in
theorem ok_X4_asSet : zSnd zS 145 0 0 yX4_asSet cX4_asSet 5 (some .int) 0 [2, 0, 0] (F_X4_asSet pr_X4_asSet po_X4_asSet) := by
  refine (sn_X4_asSet).mono ?_
  rintro xs P M hz hR ⟨c, n, rfl, ⟨hc, hn, ho⟩, hP⟩
  refine ⟨_, _, rfl, ?_⟩
  have z_c := zall_h (zall_t hz) (by decide)
  have z_n := zall_h (zall_t (zall_t hz)) (by decide)
  change vc_X4_asSet c n P M
  unfold vc_X4_asSet
  refine ⟨fun v1 v2 n5 => (n5 : Int) = (16 - v2) ∧ (0 ≤ v2 ∧ v2 ≤ n) ∧ (0 ≤ v1 ∧ v1 < 65536) ∧ (∀ d, 0 ≤ d → (zbt v1 d ↔ ∃ i, 0 ≤ i ∧ i < v2 ∧ zbt c i ∧ M 52 i = d)), ⟨Int.toNat (16 - 0), by omega, ?_, ?_, ?_⟩, ?_⟩
  · show 0 ≤ 0 ∧ 0 ≤ n  -- I5.0.hv
    first | with_reducible assumption | omega | exact trivial | with_reducible rfl
  · show 0 ≤ 0 ∧ 0 < 65536  -- I5.0.hb
    first | with_reducible assumption | omega | exact trivial | with_reducible rfl
  · show ∀ d, 0 ≤ d → (zbt 0 d ↔ ∃ i, 0 ≤ i ∧ i < 0 ∧ zbt c i ∧ M 52 i = d)  -- I5.0.hq
    intro d d0
    constructor
    · intro b; unfold zbt at b; simp at b
    · rintro ⟨i, i0, i1, _⟩; omega
  rintro v1 v2 n5 ⟨h_n5, hv, hb, hq⟩ z_v1 z_v2
  refine ⟨fun b1 => ?_, fun b1 => ?_⟩
  · -- b1.1
    refine hP _ _ ⟨?_, ?_⟩
    · show M = M  -- p1.rfl
      first | with_reducible assumption | omega | exact trivial | with_reducible rfl
    · show gAs (M 52) n c v1  -- p1.hr
      rw [show v2 = n by omega] at hq; exact ⟨hb, hq⟩
  · -- b1.2
    refine ⟨fun b2 => ?_, fun b2 => ?_⟩
    · -- b2.1
      refine hP _ _ ⟨?_, ?_⟩
      · show M = M  -- p2.rfl
        first | with_reducible assumption | omega | exact trivial | with_reducible rfl
      · show gAs (M 52) n c v1  -- p2.hr
        rw [show v2 = n by omega] at hq; exact ⟨hb, hq⟩
    · -- b2.2
      have zb := zbt_0 hc.1 (by omega) hv.1 (show v2 < 16 by omega)
      refine ⟨fun b3 => ?_, fun b3 => ?_⟩
      · -- b3.1
        have o1 : zin (v2 + 1) := by
          first | with_reducible assumption | omega | exact trivial | with_reducible rfl  -- o1
        refine ⟨o1, ?_⟩
        refine ⟨Int.toNat (16 - (v2 + 1)), by omega, by omega, ?_, ?_, ?_⟩
        · show 0 ≤ (v2 + 1) ∧ (v2 + 1) ≤ n  -- I5.1.hv
          first | with_reducible assumption | omega | exact trivial | with_reducible rfl
        · show 0 ≤ v1 ∧ v1 < 65536  -- I5.1.hb
          first | with_reducible assumption | omega | exact trivial | with_reducible rfl
        · show ∀ d, 0 ≤ d → (zbt v1 d ↔ ∃ i, 0 ≤ i ∧ i < (v2 + 1) ∧ zbt c i ∧ M 52 i = d)  -- I5.1.hq
          intro d d0
          rw [hq d d0]
          constructor
          · rintro ⟨i, i0, i1, i2⟩; exact ⟨i, i0, by omega, i2⟩
          · rintro ⟨i, i0, i1, i2, i3⟩
            by_cases e : i = v2
            · subst e; exact absurd i2 (zb.1.1 b3)
            · exact ⟨i, i0, by omega, i2, i3⟩
      · -- b3.2
        have ov := ho v2 hv.1 (by omega)
        have zo := zbt_or hb.1 hb.2 ov.1 ov.2
        have o2 : ((0 : Int) ≤ v2 ∧ v2 < 16) := by
          first | with_reducible assumption | omega | exact trivial | with_reducible rfl  -- o2
        refine ⟨o2, ?_⟩
        have o3 : zin (v2 + 1) := by
          first | with_reducible assumption | omega | exact trivial | with_reducible rfl  -- o3
        refine ⟨o3, ?_⟩
        refine ⟨Int.toNat (16 - (v2 + 1)), by omega, by omega, ?_, ?_, ?_⟩
        · show 0 ≤ (v2 + 1) ∧ (v2 + 1) ≤ n  -- I5.2.hv
          first | with_reducible assumption | omega | exact trivial | with_reducible rfl
        · show 0 ≤ (zlor v1 (zshl 1 (M 52 v2))) ∧ (zlor v1 (zshl 1 (M 52 v2))) < 65536  -- I5.2.hb
          exact zo.1
        · show ∀ d, 0 ≤ d → (zbt (zlor v1 (zshl 1 (M 52 v2))) d ↔ ∃ i, 0 ≤ i ∧ i < (v2 + 1) ∧ zbt c i ∧ M 52 i = d)  -- I5.2.hq
          intro d d0
          rw [zo.2 d d0, hq d d0]
          constructor
          · rintro (⟨i, i0, i1, i2⟩ | e)
            · exact ⟨i, i0, by omega, i2⟩
            · exact ⟨v2, hv.1, by omega, Classical.byContradiction fun q => b3 (zb.1.2 q), e.symm⟩
          · rintro ⟨i, i0, i1, i2, i3⟩
            by_cases e : i = v2
            · subst e; exact .inr i3.symm
            · exact .inl ⟨i, i0, by omega, i2, i3⟩

abbrev pr_J6_bitCount_0f7a4 (a : Int) (M : zM) : Prop := (0 ≤ a ∧ a < 256)
abbrev po_J6_bitCount_0f7a4 (a : Int) (M : zM) (r : Int) (M' : zM) : Prop := M' = M ∧ r = zpc 8 a.toNat
set_option maxHeartbeats 1000000 in
theorem ok_J6_bitCount_0f7a4 : zSnd zS 145 0 0 yJ6_bitCount_0f7a4 cJ6_bitCount_0f7a4 1 (some .int) 0 [0] (F_J6_bitCount_0f7a4 pr_J6_bitCount_0f7a4 po_J6_bitCount_0f7a4) := by
  refine (sn_J6_bitCount_0f7a4).mono ?_
  rintro xs P M hz hR ⟨a, rfl, h, hP⟩
  refine ⟨_, rfl, ?_⟩
  have z_a := zall_h hz (by decide)
  change vc_J6_bitCount_0f7a4 a P M
  unfold vc_J6_bitCount_0f7a4
  refine hP _ _ ⟨rfl, ?_⟩
  · obtain ⟨n, rfl⟩ : ∃ n : Fin 256, a = ((n.val : Nat) : Int) := ⟨⟨a.toNat, by omega⟩, by simp; omega⟩  -- p1
    clear hP h z_a hz
    revert n
    decide +kernel

