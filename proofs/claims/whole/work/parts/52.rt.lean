/-- the byte of a text at a place; -1: none -/
def gBy (T : Int → Int) (n p : Int) : Int := if 0 ≤ p ∧ p < n then T p else -1
def gCl (b : Int) : Int := if 48 ≤ b ∧ b ≤ 57 then b - 48 else if 97 ≤ b ∧ b ≤ 102 then b - 97 + 10 else -1
/-- how many digits stand here -/
def gDn (T : Int → Int) (n p : Int) : Int := if ¬ (48 ≤ gBy T n p ∧ gBy T n p ≤ 57) then 0 else if gBy T n p ≠ 48 ∧ 48 ≤ gBy T n (p + 1) ∧ gBy T n (p + 1) ≤ 57 then 2 else 1
def gNm (T : Int → Int) (n p : Int) : Int := if gDn T n p = 0 then 0 else if gDn T n p = 1 then gBy T n p - 48 else 10 * (gBy T n p - 48) + gBy T n (p + 1) - 48
/-- the run that stands here, and what stands behind it -/
def gRu (T : Int → Int) (n p : Int) : Int := if gBy T n (p + 1) = 42 then gNm T n (p + 2) else 1
def gBh (T : Int → Int) (n p : Int) : Int := if gBy T n (p + 1) = 42 then p + 2 + gDn T n (p + 2) else p + 1
def gDr (D : Int → Int) (a run c : Int) : Int → Int := fun i => if a ≤ i ∧ i < a + run then c else D i
/-- a picture's text: its fault and -4 if there is none, how wide and high it is, its dots -/
def gEx (T : Int → Int) (n : Int) : Nat → Int → Int → Int → Int → (Int → Int) → Int × Int × Int × (Int → Int)
  | 0, _, _, _, _, D => (n, 0, 0, D)
  | f + 1, lim, p, x, y, D => if gCl (gBy T n p) < 0 ∨ lim ≤ x then (p, 0, 0, D) else if gRu T n p < 1 ∨ 16 < gRu T n p ∨ lim < x + gRu T n p then (p + 2, 0, 0, D) else if n ≤ gBh T n p ∨ gBy T n (gBh T n p) = 47 then (if 0 < y ∧ x + gRu T n p < lim then (gBh T n p, 0, 0, D) else if n ≤ gBh T n p then (-4, x + gRu T n p, y + 1, gDr D (16 * y + x) (gRu T n p) (gCl (gBy T n p))) else if 12 ≤ y + 1 then (gBh T n p, 0, 0, D) else gEx T n f (x + gRu T n p) (gBh T n p + 1) 0 (y + 1) (gDr D (16 * y + x) (gRu T n p) (gCl (gBy T n p)))) else gEx T n f lim (gBh T n p) (x + gRu T n p) y (gDr D (16 * y + x) (gRu T n p) (gCl (gBy T n p)))
section
variable {T : Int → Int} {n : Int} {f : Nat} {lim p x y : Int} {D : Int → Int}
theorem gEx_a (h : gCl (gBy T n p) < 0 ∨ lim ≤ x) : gEx T n (f + 1) lim p x y D = (p, 0, 0, D) := by
  unfold gEx; rw [if_pos h]
theorem gEx_b (h : ¬ (gCl (gBy T n p) < 0 ∨ lim ≤ x)) (h2 : gRu T n p < 1 ∨ 16 < gRu T n p ∨ lim < x + gRu T n p) : gEx T n (f + 1) lim p x y D = (p + 2, 0, 0, D) := by
  unfold gEx; rw [if_neg h, if_pos h2]
theorem gEx_c (h : ¬ (gCl (gBy T n p) < 0 ∨ lim ≤ x)) (h2 : ¬ (gRu T n p < 1 ∨ 16 < gRu T n p ∨ lim < x + gRu T n p)) (h3 : n ≤ gBh T n p ∨ gBy T n (gBh T n p) = 47) (h4 : 0 < y ∧ x + gRu T n p < lim) : gEx T n (f + 1) lim p x y D = (gBh T n p, 0, 0, D) := by
  unfold gEx; rw [if_neg h, if_neg h2, if_pos h3, if_pos h4]
theorem gEx_d (h : ¬ (gCl (gBy T n p) < 0 ∨ lim ≤ x)) (h2 : ¬ (gRu T n p < 1 ∨ 16 < gRu T n p ∨ lim < x + gRu T n p)) (h4 : ¬ (0 < y ∧ x + gRu T n p < lim)) (h5 : n ≤ gBh T n p) : gEx T n (f + 1) lim p x y D = (-4, x + gRu T n p, y + 1, gDr D (16 * y + x) (gRu T n p) (gCl (gBy T n p))) := by
  unfold gEx; rw [if_neg h, if_neg h2, if_pos (.inl h5), if_neg h4, if_pos h5]
theorem gEx_e (h : ¬ (gCl (gBy T n p) < 0 ∨ lim ≤ x)) (h2 : ¬ (gRu T n p < 1 ∨ 16 < gRu T n p ∨ lim < x + gRu T n p)) (h3 : gBy T n (gBh T n p) = 47) (h4 : ¬ (0 < y ∧ x + gRu T n p < lim)) (h5 : ¬ n ≤ gBh T n p) (h6 : 12 ≤ y + 1) : gEx T n (f + 1) lim p x y D = (gBh T n p, 0, 0, D) := by
  unfold gEx; rw [if_neg h, if_neg h2, if_pos (.inr h3), if_neg h4, if_neg h5, if_pos h6]
theorem gEx_f (h : ¬ (gCl (gBy T n p) < 0 ∨ lim ≤ x)) (h2 : ¬ (gRu T n p < 1 ∨ 16 < gRu T n p ∨ lim < x + gRu T n p)) (h3 : gBy T n (gBh T n p) = 47) (h4 : ¬ (0 < y ∧ x + gRu T n p < lim)) (h5 : ¬ n ≤ gBh T n p) (h6 : ¬ 12 ≤ y + 1) : gEx T n (f + 1) lim p x y D = gEx T n f (x + gRu T n p) (gBh T n p + 1) 0 (y + 1) (gDr D (16 * y + x) (gRu T n p) (gCl (gBy T n p))) := by
  conv => lhs; unfold gEx
  rw [if_neg h, if_neg h2, if_pos (.inr h3), if_neg h4, if_neg h5, if_neg h6]
theorem gEx_g (h : ¬ (gCl (gBy T n p) < 0 ∨ lim ≤ x)) (h2 : ¬ (gRu T n p < 1 ∨ 16 < gRu T n p ∨ lim < x + gRu T n p)) (h3 : ¬ (n ≤ gBh T n p ∨ gBy T n (gBh T n p) = 47)) : gEx T n (f + 1) lim p x y D = gEx T n f lim (gBh T n p) (x + gRu T n p) y (gDr D (16 * y + x) (gRu T n p) (gCl (gBy T n p))) := by
  conv => lhs; unfold gEx
  rw [if_neg h, if_neg h2, if_neg h3]
end
theorem gBy_i {T : Int → Int} {n p : Int} (h : gBy T n p ≠ -1) : 0 ≤ p ∧ p < n := by
  unfold gBy at h
  split at h
  · assumption
  · exact absurd rfl h
theorem gCl_i {T : Int → Int} {n p : Int} (h : ¬ gCl (gBy T n p) < 0) : (0 ≤ p ∧ p < n) ∧ 0 ≤ gCl (gBy T n p) ∧ gCl (gBy T n p) ≤ 15 := by
  refine ⟨gBy_i (fun e => h (by rw [e]; decide)), by omega, ?_⟩
  unfold gCl
  split
  · omega
  · split <;> omega
theorem gDn_b {T : Int → Int} {n p : Int} : 0 ≤ gDn T n p ∧ gDn T n p ≤ 2 ∧ (gDn T n p = 0 → gNm T n p = 0) ∧ (1 ≤ gDn T n p → p + gDn T n p ≤ n ∧ 0 ≤ gNm T n p ∧ gNm T n p ≤ 99 ∧ 48 ≤ gBy T n p ∧ gBy T n p ≤ 57) ∧ (gDn T n p = 2 → 48 ≤ gBy T n (p + 1) ∧ gBy T n (p + 1) ≤ 57) := by
  have i1 := @gBy_i T n p
  have i2 := @gBy_i T n (p + 1)
  unfold gNm gDn
  split
  · simp
  · split
    · simp only [show ¬ (2 : Int) = 0 by decide, show ¬ (2 : Int) = 1 by decide, if_false]
      have := i1 (by omega)
      have := i2 (by omega)
      refine ⟨by omega, by omega, fun h => ?_, fun h => ?_, fun h => ?_⟩ <;> first | omega | exact h.elim | exact absurd h (by decide)
    · simp only [show ¬ (1 : Int) = 0 by decide, if_false, if_true]
      have := i1 (by omega)
      refine ⟨by omega, by omega, fun h => ?_, fun h => ?_, fun h => ?_⟩ <;> first | omega | exact h.elim | exact absurd h (by decide)
theorem gRu_b {T : Int → Int} {n p : Int} (h : 0 ≤ p ∧ p < n) : p + 1 ≤ gBh T n p ∧ gBh T n p ≤ p + 4 ∧ (1 ≤ gRu T n p → gBh T n p ≤ n) := by
  have d := @gDn_b T n (p + 2)
  unfold gBh gRu
  split <;> omega
/-- what has been drawn -/
def gDo (lim x y i : Int) : Prop := 0 ≤ i ∧ ((i / 16 < y ∧ i % 16 < lim) ∨ (i / 16 = y ∧ i % 16 < x))
abbrev pr_X0_byteAt (a : Int) (n : Int) (p : Int) (M : zM) : Prop := (zia a) ∧ (n ≤ zlni a)
abbrev po_X0_byteAt (a : Int) (n : Int) (p : Int) (M : zM) (r : Int) (M' : zM) : Prop := M' = M ∧ r = gBy (M a) n p
set_option maxHeartbeats 1000000 in
theorem ok_X0_byteAt : zSnd zS 145 0 0 yX0_byteAt cX0_byteAt 3 (some .int) 0 [2, 0, 0] (F_X0_byteAt pr_X0_byteAt po_X0_byteAt) := by
  refine (sn_X0_byteAt).mono ?_
  rintro xs P M hz hR ⟨a, n, p, rfl, ⟨ha, hn⟩, hP⟩
  refine ⟨_, _, _, rfl, ?_⟩
  have z_n := zall_h (zall_t hz) (by decide)
  have z_p := zall_h (zall_t (zall_t hz)) (by decide)
  change vc_X0_byteAt a n p P M
  unfold vc_X0_byteAt
  have hl2 : ((zln a : Nat) : Int) = zlni a := rfl
  refine ⟨fun b1 => ?_, fun b1 => ?_⟩
  · -- b1.1
    refine hP _ _ ⟨rfl, ?_⟩
    · unfold gBy; rw [if_neg (by omega)]  -- p1
  · -- b1.2
    refine ⟨fun b2 => ?_, fun b2 => ?_⟩
    · -- b2.1
      refine hP _ _ ⟨rfl, ?_⟩
      · unfold gBy; rw [if_neg (by omega)]  -- p2
    · -- b2.2
      have o1 : zia a := by
        first | with_reducible assumption | omega | exact trivial | with_reducible rfl  -- o1
      refine ⟨o1, ?_⟩
      refine ⟨fun b3 => ?_, fun b3 => ?_⟩
      · -- b3.1
        refine hP _ _ ⟨rfl, ?_⟩
        · unfold gBy; rw [if_neg (by omega)]  -- p3
      · -- b3.2
        have o2 : ((0 : Int) ≤ p ∧ p < (zln a)) := by
          first | with_reducible assumption | omega | exact trivial | with_reducible rfl  -- o2
        refine ⟨o2, ?_⟩
        refine hP _ _ ⟨rfl, ?_⟩
        · unfold gBy; rw [if_pos (by omega)]  -- p4

abbrev pr_X0_colourSign (b : Int) (M : zM) : Prop := True
abbrev po_X0_colourSign (b : Int) (M : zM) (r : Int) (M' : zM) : Prop := M' = M ∧ r = gCl b
set_option maxHeartbeats 1000000 in
theorem ok_X0_colourSign : zSnd zS 145 0 0 yX0_colourSign cX0_colourSign 1 (some .int) 0 [0] (F_X0_colourSign pr_X0_colourSign po_X0_colourSign) := by
  refine (sn_X0_colourSign).mono ?_
  rintro xs P M hz hR ⟨b, rfl, _, hP⟩
  refine ⟨_, rfl, ?_⟩
  have z_b := zall_h hz (by decide)
  change vc_X0_colourSign b P M
  unfold vc_X0_colourSign
  intro K17 h_K17
  refine ⟨fun b1 => ?_, fun b1 => ?_⟩
  · -- b1.1
    refine h_K17 ?_
    refine ⟨fun b2 => ?_, fun b2 => ?_⟩
    · -- b2.1
      refine hP _ _ ⟨rfl, ?_⟩
      · unfold gCl; split <;> (try split) <;> omega  -- p1
    · -- b2.2
      refine ⟨fun b3 => ?_, fun b3 => ?_⟩
      · -- b3.1
        refine hP _ _ ⟨rfl, ?_⟩
        · unfold gCl; split <;> (try split) <;> omega  -- p2
      · -- b3.2
        have o1 : zin ((b - 97) + 10) := by
          first | with_reducible assumption | omega | exact trivial | with_reducible rfl  -- o1
        refine ⟨o1, ?_⟩
        refine hP _ _ ⟨rfl, ?_⟩
        · unfold gCl; split <;> (try split) <;> omega  -- p3
  · -- b1.2
    refine ⟨fun b4 => ?_, fun b4 => ?_⟩
    · -- b4.1
      refine h_K17 ?_
      refine ⟨fun b5 => ?_, fun b5 => ?_⟩
      · -- b5.1
        refine hP _ _ ⟨rfl, ?_⟩
        · unfold gCl; split <;> (try split) <;> omega  -- p4
      · -- b5.2
        refine ⟨fun b6 => ?_, fun b6 => ?_⟩
        · -- b6.1
          refine hP _ _ ⟨rfl, ?_⟩
          · unfold gCl; split <;> (try split) <;> omega  -- p5
        · -- b6.2
          have o2 : zin ((b - 97) + 10) := by
            first | with_reducible assumption | omega | exact trivial | with_reducible rfl  -- o2
          refine ⟨o2, ?_⟩
          refine hP _ _ ⟨rfl, ?_⟩
          · unfold gCl; split <;> (try split) <;> omega  -- p6
    · -- b4.2
      have o3 : zin (b - 48) := by
        first | with_reducible assumption | omega | exact trivial | with_reducible rfl  -- o3
      refine ⟨o3, ?_⟩
      refine hP _ _ ⟨rfl, ?_⟩
      · unfold gCl; split <;> (try split) <;> omega  -- p7

abbrev pr_X11_isDigit (b : Int) (M : zM) : Prop := True
abbrev po_X11_isDigit (b : Int) (M : zM) (r : Int) (M' : zM) : Prop := (M' = M) ∧ (zB r (48 ≤ b ∧ b ≤ 57))
set_option maxHeartbeats 1000000 in
theorem ok_X11_isDigit : zSnd zS 145 0 0 yX11_isDigit cX11_isDigit 1 (some .boolean) 0 [0] (F_X11_isDigit pr_X11_isDigit po_X11_isDigit) := by
  refine (sn_X11_isDigit).mono ?_
  rintro xs P M hz hR ⟨b, rfl, _, hP⟩
  refine ⟨_, rfl, ?_⟩
  have z_b := zall_h hz (by decide)
  change vc_X11_isDigit b P M
  unfold vc_X11_isDigit
  refine ⟨fun b1 => ?_, fun b1 => ?_⟩
  · -- b1.1
    refine hP _ _ ⟨?_, ?_⟩
    · show M = M  -- p1.rfl
      first | with_reducible assumption | omega | exact trivial | with_reducible rfl
    · show zB 0 (48 ≤ b ∧ b ≤ 57)  -- p1.pb
      exact zB.f (by omega)
  · -- b1.2
    refine ⟨fun b2 => ?_, fun b2 => ?_⟩
    · -- b2.1
      refine hP _ _ ⟨?_, ?_⟩
      · show M = M  -- p2.rfl
        first | with_reducible assumption | omega | exact trivial | with_reducible rfl
      · show zB 0 (48 ≤ b ∧ b ≤ 57)  -- p2.pb
        exact zB.f (by omega)
    · -- b2.2
      refine hP _ _ ⟨?_, ?_⟩
      · show M = M  -- p3.rfl
        first | with_reducible assumption | omega | exact trivial | with_reducible rfl
      · show zB 1 (48 ≤ b ∧ b ≤ 57)  -- p3.pb
        exact zB.t (by omega)

abbrev pr_X0_countDigits (a : Int) (n : Int) (p : Int) (M : zM) : Prop := (zia a) ∧ (n ≤ zlni a) ∧ (-10 ≤ p ∧ p ≤ 1000)
abbrev po_X0_countDigits (a : Int) (n : Int) (p : Int) (M : zM) (r : Int) (M' : zM) : Prop := M' = M ∧ r = gDn (M a) n p
set_option maxHeartbeats 1000000 in
theorem ok_X0_countDigits : zSnd zS 145 0 0 yX0_countDigits cX0_countDigits 3 (some .int) 1 [2, 0, 0] (F_X0_countDigits pr_X0_countDigits po_X0_countDigits) := by
  refine (sn_X0_countDigits ok_X0_byteAt ok_X11_isDigit).mono ?_
  rintro xs P M hz hR ⟨a, n, p, rfl, ⟨ha, hn, hp⟩, hP⟩
  refine ⟨_, _, _, rfl, ?_⟩
  have z_n := zall_h (zall_t hz) (by decide)
  have z_p := zall_h (zall_t (zall_t hz)) (by decide)
  change vc_X0_countDigits pr_X0_byteAt po_X0_byteAt pr_X11_isDigit po_X11_isDigit a n p P M
  unfold vc_X0_countDigits
  have gc1 : pr_X0_byteAt a n p M := by
    refine ⟨?_, ?_⟩
    · show zia a  -- c1.ha
      first | with_reducible assumption | omega | exact trivial | with_reducible rfl
    · show n ≤ zlni a  -- c1.hn
      first | with_reducible assumption | omega | exact trivial | with_reducible rfl
  refine ⟨gc1, ?_⟩
  rintro r1 M2 ⟨q_rfl, e_r1⟩ z_r1 z_M2
  have q_rfl := q_rfl.symm
  subst q_rfl
  have gc2 : pr_X11_isDigit r1 M := trivial
  refine ⟨gc2, ?_⟩
  rintro r7 M8 ⟨q_rfl, pc2_pb⟩ z_r7 z_M8
  have q_rfl := q_rfl.symm
  subst q_rfl
  refine ⟨fun b1 => ?_, fun b1 => ?_⟩
  · -- b1.1
    have gc3 : pr_X0_byteAt a n p M := by
      refine ⟨?_, ?_⟩
      · show zia a  -- c3.ha
        first | with_reducible assumption | omega | exact trivial | with_reducible rfl
      · show n ≤ zlni a  -- c3.hn
        first | with_reducible assumption | omega | exact trivial | with_reducible rfl
    refine ⟨gc3, ?_⟩
    rintro r14 M15 ⟨q_rfl, e_r14⟩ z_r14 z_M15
    have q_rfl := q_rfl.symm
    subst q_rfl
    refine ⟨fun b2 => ?_, fun b2 => ?_⟩
    · -- b2.1
      refine hP _ _ ⟨rfl, ?_⟩
      · unfold gDn; have := pc2_pb.ne.1 b1; rw [if_neg (by omega), if_neg (by omega)]  -- p1
    · -- b2.2
      have o1 : zin (p + 1) := by
        first | with_reducible assumption | omega | exact trivial | with_reducible rfl  -- o1
      refine ⟨o1, ?_⟩
      have gc4 : pr_X0_byteAt a n (p + 1) M := by
        refine ⟨?_, ?_⟩
        · show zia a  -- c4.ha
          first | with_reducible assumption | omega | exact trivial | with_reducible rfl
        · show n ≤ zlni a  -- c4.hn
          first | with_reducible assumption | omega | exact trivial | with_reducible rfl
      refine ⟨gc4, ?_⟩
      rintro r22 M23 ⟨q_rfl, e_r22⟩ z_r22 z_M23
      have q_rfl := q_rfl.symm
      subst q_rfl
      have gc5 : pr_X11_isDigit r22 M := trivial
      refine ⟨gc5, ?_⟩
      rintro r28 M29 ⟨q_rfl, pc5_pb⟩ z_r28 z_M29
      have q_rfl := q_rfl.symm
      subst q_rfl
      refine ⟨fun b3 => ?_, fun b3 => ?_⟩
      · -- b3.1
        refine hP _ _ ⟨rfl, ?_⟩
        · unfold gDn; have := pc2_pb.ne.1 b1; have := pc5_pb.z.1 b3; rw [if_neg (by omega), if_neg (by omega)]  -- p2
      · -- b3.2
        refine hP _ _ ⟨rfl, ?_⟩
        · unfold gDn; have := pc2_pb.ne.1 b1; have := pc5_pb.ne.1 b3; rw [if_neg (by omega), if_pos (by omega)]  -- p3
  · -- b1.2
    refine hP _ _ ⟨rfl, ?_⟩
    · unfold gDn; have := pc2_pb.z.1 b1; rw [if_pos (by omega)]  -- p4

abbrev pr_X0_numberOf (a : Int) (n : Int) (p : Int) (d : Int) (M : zM) : Prop := (zia a) ∧ (n ≤ zlni a) ∧ (-10 ≤ p ∧ p ≤ 1000) ∧ (d = gDn (M a) n p)
abbrev po_X0_numberOf (a : Int) (n : Int) (p : Int) (d : Int) (M : zM) (r : Int) (M' : zM) : Prop := M' = M ∧ r = gNm (M a) n p
set_option maxHeartbeats 1000000 in
theorem ok_X0_numberOf : zSnd zS 145 0 0 yX0_numberOf cX0_numberOf 6 (some .int) 1 [2, 0, 0, 0] (F_X0_numberOf pr_X0_numberOf po_X0_numberOf) := by
  refine (sn_X0_numberOf ok_X0_byteAt).mono ?_
  rintro xs P M hz hR ⟨a, n, p, d, rfl, ⟨ha, hn, hp, hd⟩, hP⟩
  refine ⟨_, _, _, _, rfl, ?_⟩
  have z_n := zall_h (zall_t hz) (by decide)
  have z_p := zall_h (zall_t (zall_t hz)) (by decide)
  have z_d := zall_h (zall_t (zall_t (zall_t hz))) (by decide)
  change vc_X0_numberOf pr_X0_byteAt po_X0_byteAt a n p d P M
  unfold vc_X0_numberOf
  have db := @gDn_b (M a) n p
  refine ⟨fun v1 v2 M5 n7 => (n7 : Int) = (d - v2) ∧ (0 ≤ v2 ∧ v2 ≤ d) ∧ (M5 = M) ∧ (v1 = if v2 = 0 then 0 else if v2 = 1 then gBy (M a) n p - 48 else 10 * (gBy (M a) n p - 48) + gBy (M a) n (p + 1) - 48), ⟨Int.toNat (d - 0), by omega, ?_, ?_, ?_⟩, ?_⟩
  · show 0 ≤ 0 ∧ 0 ≤ d  -- I6.0.hv
    first | with_reducible assumption | omega | exact trivial | with_reducible rfl
  · first | with_reducible assumption | omega | exact trivial | with_reducible rfl  -- I6.0.rfl
  · show 0 = if 0 = 0 then 0 else if 0 = 1 then gBy (M a) n p - 48 else 10 * (gBy (M a) n p - 48) + gBy (M a) n (p + 1) - 48  -- I6.0.h1
    rfl
  rintro v1 v2 M5 n7 ⟨h_n7, hv, q_rfl, h1⟩ z_v1 z_v2 z_M5
  have q_rfl := q_rfl.symm
  subst q_rfl
  refine ⟨fun b1 => ?_, fun b1 => ?_⟩
  · -- b1.1
    refine hP _ _ ⟨rfl, ?_⟩
    · rw [h1, show v2 = gDn (M a) n p by omega]; rfl  -- p1
  · -- b1.2
    have vv : v2 = 0 ∨ v2 = 1 := by omega
    have o1 : zin (p + v2) := by
      first | with_reducible assumption | omega | exact trivial | with_reducible rfl  -- o1
    refine ⟨o1, ?_⟩
    have gc1 : pr_X0_byteAt a n (p + v2) M := by
      refine ⟨?_, ?_⟩
      · show zia a  -- c1.ha
        first | with_reducible assumption | omega | exact trivial | with_reducible rfl
      · show n ≤ zlni a  -- c1.hn
        first | with_reducible assumption | omega | exact trivial | with_reducible rfl
    refine ⟨gc1, ?_⟩
    rintro r16 M17 ⟨q_rfl, e_r16⟩ z_r16 z_M17
    have q_rfl := q_rfl.symm
    subst q_rfl
    have rr : (v2 = 0 ∧ v1 = 0 ∧ r16 = gBy (M a) n p) ∨ (v2 = 1 ∧ v1 = gBy (M a) n p - 48 ∧ r16 = gBy (M a) n (p + 1)) := by
      rcases vv with k | k
      · rw [if_pos k] at h1
        exact .inl ⟨k, h1, by rw [e_r16, k, show p + 0 = p by omega]⟩
      · rw [if_neg (by omega), if_pos k] at h1
        exact .inr ⟨k, h1, by rw [e_r16, k]⟩
    have o2 : zin (((10 * v1) + r16) - 48) := by
      first | with_reducible assumption | omega | exact trivial | with_reducible rfl  -- o2
    refine ⟨o2, ?_⟩
    have o3 : zin (v2 + 1) := by
      first | with_reducible assumption | omega | exact trivial | with_reducible rfl  -- o3
    refine ⟨o3, ?_⟩
    refine ⟨Int.toNat (d - (v2 + 1)), by omega, by omega, ?_, ?_, ?_⟩
    · show 0 ≤ (v2 + 1) ∧ (v2 + 1) ≤ d  -- I6.1.hv
      first | with_reducible assumption | omega | exact trivial | with_reducible rfl
    · first | with_reducible assumption | omega | exact trivial | with_reducible rfl  -- I6.1.rfl
    · show (((10 * v1) + r16) - 48) = if (v2 + 1) = 0 then 0 else if (v2 + 1) = 1 then gBy (M a) n p - 48 else 10 * (gBy (M a) n p - 48) + gBy (M a) n (p + 1) - 48  -- I6.1.h1
      rcases rr with ⟨a, b, c⟩ | ⟨a, b, c⟩
      · rw [a, if_neg (by decide), if_pos (by decide)]; omega
      · rw [a, if_neg (by decide), if_neg (by decide)]; omega

abbrev pr_X0_drawRun (x : Int) (y : Int) (run : Int) (c : Int) (M : zM) : Prop := (0 ≤ x ∧ x + run ≤ 16) ∧ (0 ≤ run) ∧ (0 ≤ y ∧ y < 12) ∧ (0 ≤ c ∧ c ≤ 15)
abbrev po_X0_drawRun (x : Int) (y : Int) (run : Int) (c : Int) (M : zM) (M' : zM) : Prop := (∀ c i, c ≠ 4 → M' c i = M c i) ∧ (∀ i, M' 4 i = gDr (M 4) (16 * y + x) run c i)
set_option maxHeartbeats 1000000 in
theorem ok_X0_drawRun : zSnd zS 145 0 0 yX0_drawRun cX0_drawRun 6 none 0 [2, 0, 0, 0, 0] (F_X0_drawRun pr_X0_drawRun po_X0_drawRun) := by
  refine (sn_X0_drawRun).mono ?_
  rintro xs P M hz hR ⟨x, y, run, c, rfl, ⟨hx, hr, hy, hc⟩, hP⟩
  refine ⟨_, _, _, _, rfl, ?_⟩
  have z_x := zall_h (zall_t hz) (by decide)
  have z_y := zall_h (zall_t (zall_t hz)) (by decide)
  have z_run := zall_h (zall_t (zall_t (zall_t hz))) (by decide)
  have z_c := zall_h (zall_t (zall_t (zall_t (zall_t hz)))) (by decide)
  change vc_X0_drawRun x y run c P M
  unfold vc_X0_drawRun
  refine ⟨fun v1 M3 n5 => (n5 : Int) = (run - v1) ∧ (0 ≤ v1 ∧ v1 ≤ run) ∧ (∀ c i, c ≠ 4 → M3 c i = M c i) ∧ (∀ i, M3 4 i = gDr (M 4) (16 * y + x) v1 c i), ⟨Int.toNat (run - 0), by omega, ?_, ?_, ?_⟩, ?_⟩
  · show 0 ≤ 0 ∧ 0 ≤ run  -- I3.0.hv
    first | with_reducible assumption | omega | exact trivial | with_reducible rfl
  · show ∀ c i, c ≠ 4 → M c i = M c i  -- I3.0.hf
    first | with_reducible assumption | omega | exact trivial | with_reducible rfl
  · show ∀ i, M 4 i = gDr (M 4) (16 * y + x) 0 c i  -- I3.0.hd
    intro i; unfold gDr; rw [if_neg (by omega)]
  rintro v1 M3 n5 ⟨h_n5, hv, hf, hd⟩ z_v1 z_M3
  refine ⟨fun b1 => ?_, fun b1 => ?_⟩
  · -- b1.1
    refine hP _ ⟨?_, ?_⟩
    · show ∀ c i, c ≠ 4 → M3 c i = M c i  -- p1.hf
      first | with_reducible assumption | omega | exact trivial | with_reducible rfl
    · show ∀ i, M3 4 i = gDr (M 4) (16 * y + x) run c i  -- p1.hd
      rw [show run = v1 by omega]; exact hd
  · -- b1.2
    have o1 : zin (x + v1) := by
      first | with_reducible assumption | omega | exact trivial | with_reducible rfl  -- o1
    refine ⟨o1, ?_⟩
    refine ⟨fun b2 => ?_, fun b2 => ?_⟩
    · -- b2.1
      refine hP _ ⟨?_, ?_⟩
      · show ∀ c i, c ≠ 4 → M3 c i = M c i  -- p2.hf
        first | with_reducible assumption | omega | exact trivial | with_reducible rfl
      · show ∀ i, M3 4 i = gDr (M 4) (16 * y + x) run c i  -- p2.hd
        exact absurd b2 (by omega)
    · -- b2.2
      refine ⟨fun b3 => ?_, fun b3 => ?_⟩
      · -- b3.1
        refine hP _ ⟨?_, ?_⟩
        · show ∀ c i, c ≠ 4 → M3 c i = M c i  -- p3.hf
          first | with_reducible assumption | omega | exact trivial | with_reducible rfl
        · show ∀ i, M3 4 i = gDr (M 4) (16 * y + x) run c i  -- p3.hd
          exact absurd b3 (by omega)
      · -- b3.2
        have o2 : ((0 : Int) ≤ (((16 * y) + x) + v1) ∧ (((16 * y) + x) + v1) < 192) := by
          first | with_reducible assumption | omega | exact trivial | with_reducible rfl  -- o2
        refine ⟨o2, ?_⟩
        intro M17 e_M17
        have o3 : zin (v1 + 1) := by
          first | with_reducible assumption | omega | exact trivial | with_reducible rfl  -- o3
        refine ⟨o3, ?_⟩
        refine ⟨Int.toNat (run - (v1 + 1)), by omega, by omega, ?_, ?_, ?_⟩
        · show 0 ≤ (v1 + 1) ∧ (v1 + 1) ≤ run  -- I3.1.hv
          first | with_reducible assumption | omega | exact trivial | with_reducible rfl
        · show ∀ c i, c ≠ 4 → M17 c i = M c i  -- I3.1.hf
          intro c i h; rw [e_M17, zset_n _ (by omega)]; exact hf c i h
        · show ∀ i, M17 4 i = gDr (M 4) (16 * y + x) (v1 + 1) c i  -- I3.1.hd
          intro i
          by_cases k : i = 16 * y + x + v1
          · rw [e_M17, k, zset_s]; unfold gDr; rw [if_pos (by omega)]; exact zbm8 (by omega)
          · rw [e_M17, zset_n _ (by omega), hd i]
            unfold gDr
            by_cases l : 16 * y + x ≤ i ∧ i < 16 * y + x + v1
            · rw [if_pos l, if_pos (by omega)]
            · rw [if_neg l, if_neg (by omega)]

abbrev pr_X0_readText (a : Int) (n : Int) (M : zM) : Prop := (zia a) ∧ (0 ≤ n ∧ n ≤ 120 ∧ n ≤ zlni a) ∧ (a ≠ 4 ∧ a ≠ 1) ∧ (∀ i, 0 ≤ i → i < 192 → 0 ≤ M 4 i ∧ M 4 i ≤ 15)
abbrev po_X0_readText (a : Int) (n : Int) (M : zM) (r : Int) (M' : zM) : Prop := (∀ i, 0 ≤ i → i < 192 → 0 ≤ M' 4 i ∧ M' 4 i ≤ 15) ∧ (r = (gEx (M a) n (n + 1).toNat 16 0 0 0 (fun _ => 0)).1) ∧ (r = -4 → M' 1 7 = (gEx (M a) n (n + 1).toNat 16 0 0 0 (fun _ => 0)).2.1 ∧ M' 1 8 = (gEx (M a) n (n + 1).toNat 16 0 0 0 (fun _ => 0)).2.2.1 ∧ (1 ≤ M' 1 7 ∧ M' 1 7 ≤ 16) ∧ (1 ≤ M' 1 8 ∧ M' 1 8 ≤ 12) ∧ ∀ i, gDo (M' 1 7) 0 (M' 1 8) i → M' 4 i = (gEx (M a) n (n + 1).toNat 16 0 0 0 (fun _ => 0)).2.2.2 i ∧ 0 ≤ M' 4 i ∧ M' 4 i ≤ 15) ∧ (∀ c i, c ≠ 4 → ¬ (c = 1 ∧ (i = 7 ∨ i = 8)) → M' c i = M c i)
set_option maxHeartbeats 1000000 in
theorem ok_X0_readText : zSnd zS 145 0 0 yX0_readText cX0_readText 12 (some .int) 2 [2, 2, 0] (F_X0_readText pr_X0_readText po_X0_readText) := by
  refine (sn_X0_readText ok_X0_byteAt ok_X0_colourSign ok_X0_drawRun ok_X0_countDigits ok_X0_numberOf).mono ?_
  rintro xs P M hz hR ⟨a, n, rfl, ⟨ha, hn, hb, hq⟩, hP⟩
  refine ⟨_, _, rfl, ?_⟩
  have z_n := zall_h (zall_t (zall_t hz)) (by decide)
  change vc_X0_readText pr_X0_byteAt po_X0_byteAt pr_X0_colourSign po_X0_colourSign pr_X0_drawRun po_X0_drawRun pr_X0_countDigits po_X0_countDigits pr_X0_numberOf po_X0_numberOf a n P M
  unfold vc_X0_readText
  refine ⟨fun v1 v2 v3 v4 v5 M11 n13 => (n13 : Int) = (n + 1 - v5) ∧ (0 ≤ v5 ∧ v5 ≤ n + 1) ∧ (1 ≤ v1 ∧ v1 ≤ 16) ∧ (v5 ≤ v2 ∧ v2 ≤ n) ∧ (0 ≤ v3 ∧ v3 ≤ v1) ∧ (0 ≤ v4 ∧ v4 < 12) ∧ (∀ c i, c ≠ 4 → M11 c i = M c i) ∧ (∀ i, 0 ≤ i → i < 192 → 0 ≤ M11 4 i ∧ M11 4 i ≤ 15) ∧ (∃ D, gEx (M a) n (n + 1).toNat 16 0 0 0 (fun _ => 0) = gEx (M a) n (Int.toNat (n + 1 - v5)) v1 v2 v3 v4 D ∧ ∀ i, gDo v1 v3 v4 i → M11 4 i = D i ∧ 0 ≤ D i ∧ D i ≤ 15), ⟨Int.toNat (n + 1 - 0), by omega, ?_, ?_, ?_, ?_, ?_, ?_, ?_, ?_⟩, ?_⟩
  · show 0 ≤ 0 ∧ 0 ≤ n + 1  -- I15.0.hv
    first | with_reducible assumption | omega | exact trivial | with_reducible rfl
  · show 1 ≤ 16 ∧ 16 ≤ 16  -- I15.0.h1
    first | with_reducible assumption | omega | exact trivial | with_reducible rfl
  · show 0 ≤ 0 ∧ 0 ≤ n  -- I15.0.h2
    first | with_reducible assumption | omega | exact trivial | with_reducible rfl
  · show 0 ≤ 0 ∧ 0 ≤ 16  -- I15.0.h3
    first | with_reducible assumption | omega | exact trivial | with_reducible rfl
  · show 0 ≤ 0 ∧ 0 < 12  -- I15.0.h4
    first | with_reducible assumption | omega | exact trivial | with_reducible rfl
  · show ∀ c i, c ≠ 4 → M c i = M c i  -- I15.0.hf
    first | with_reducible assumption | omega | exact trivial | with_reducible rfl
  · show ∀ i, 0 ≤ i → i < 192 → 0 ≤ M 4 i ∧ M 4 i ≤ 15  -- I15.0.hq1
    first | with_reducible assumption | omega | exact trivial | with_reducible rfl
  · show ∃ D, gEx (M a) n (n + 1).toNat 16 0 0 0 (fun _ => 0) = gEx (M a) n (Int.toNat (n + 1 - 0)) 16 0 0 0 D ∧ ∀ i, gDo 16 0 0 i → M 4 i = D i ∧ 0 ≤ D i ∧ D i ≤ 15  -- I15.0.hx
    exact ⟨fun _ => 0, by rw [show n + 1 - 0 = n + 1 by omega], fun i h => by unfold gDo at h; omega⟩
  rintro v1 v2 v3 v4 v5 M11 n13 ⟨h_n13, hv, h1, h2, h3, h4, hf, hq1, hx⟩ z_v1 z_v2 z_v3 z_v4 z_v5 z_M11
  have hT : M11 a = M a := funext fun i => hf a i hb.1
  obtain ⟨D, X, XD⟩ := hx
  refine ⟨fun b1 => ?_, fun b1 => ?_⟩
  · -- b1.1
    refine hP _ _ ⟨?_, ?_, ?_, ?_⟩
    · show ∀ i, 0 ≤ i → i < 192 → 0 ≤ M11 4 i ∧ M11 4 i ≤ 15  -- p1.hq
      exact hq1
    · show n = (gEx (M a) n (n + 1).toNat 16 0 0 0 (fun _ => 0)).1  -- p1.hr
      exact absurd b1 (by omega)
    · show n = -4 → M11 1 7 = (gEx (M a) n (n + 1).toNat 16 0 0 0 (fun _ => 0)).2.1 ∧ M11 1 8 = (gEx (M a) n (n + 1).toNat 16 0 0 0 (fun _ => 0)).2.2.1 ∧ (1 ≤ M11 1 7 ∧ M11 1 7 ≤ 16) ∧ (1 ≤ M11 1 8 ∧ M11 1 8 ≤ 12) ∧ ∀ i, gDo (M11 1 7) 0 (M11 1 8) i → M11 4 i = (gEx (M a) n (n + 1).toNat 16 0 0 0 (fun _ => 0)).2.2.2 i ∧ 0 ≤ M11 4 i ∧ M11 4 i ≤ 15  -- p1.hw
      exact absurd b1 (by omega)
    · show ∀ c i, c ≠ 4 → ¬ (c = 1 ∧ (i = 7 ∨ i = 8)) → M11 c i = M c i  -- p1.hf
      intro c i c1 c2; exact hf c i c1
  · -- b1.2
    rw [show Int.toNat (n + 1 - v5) = Int.toNat (n - v5) + 1 by omega] at X
    have gc1 : pr_X0_byteAt a n v2 M11 := by
      refine ⟨?_, ?_⟩
      · show zia a  -- c1.ha
        first | with_reducible assumption | omega | exact trivial | with_reducible rfl
      · show n ≤ zlni a  -- c1.hn
        first | with_reducible assumption | omega | exact trivial | with_reducible rfl
    refine ⟨gc1, ?_⟩
    rintro r21 M22 ⟨q_rfl, e_r21⟩ z_r21 z_M22
    have q_rfl := q_rfl.symm
    subst q_rfl
    rw [hT] at e_r21
    rw [e_r21]
    have gc2 : pr_X0_colourSign r21 M11 := trivial
    refine ⟨gc2, ?_⟩
    rintro r27 M28 ⟨q_rfl, e_r27⟩ z_r27 z_M28
    have q_rfl := q_rfl.symm
    subst q_rfl
    have rb := @gRu_b (M a) n v2
    have rc := @gCl_i (M a) n v2
    have rn := @gDn_b (M a) n (v2 + 2)
    rw [← e_r27] at rc
    refine ⟨fun b2 => ?_, fun b2 => ?_⟩
    · -- b2.1
      refine hP _ _ ⟨?_, ?_, ?_, ?_⟩
      · show ∀ i, 0 ≤ i → i < 192 → 0 ≤ M11 4 i ∧ M11 4 i ≤ 15  -- p2.hq
        exact hq1
      · show v2 = (gEx (M a) n (n + 1).toNat 16 0 0 0 (fun _ => 0)).1  -- p2.hr
        rw [X, gEx_a (.inl (by rw [← e_r27]; exact b2))]
      · show v2 = -4 → M11 1 7 = (gEx (M a) n (n + 1).toNat 16 0 0 0 (fun _ => 0)).2.1 ∧ M11 1 8 = (gEx (M a) n (n + 1).toNat 16 0 0 0 (fun _ => 0)).2.2.1 ∧ (1 ≤ M11 1 7 ∧ M11 1 7 ≤ 16) ∧ (1 ≤ M11 1 8 ∧ M11 1 8 ≤ 12) ∧ ∀ i, gDo (M11 1 7) 0 (M11 1 8) i → M11 4 i = (gEx (M a) n (n + 1).toNat 16 0 0 0 (fun _ => 0)).2.2.2 i ∧ 0 ≤ M11 4 i ∧ M11 4 i ≤ 15  -- p2.hw
        intro h; omega
      · show ∀ c i, c ≠ 4 → ¬ (c = 1 ∧ (i = 7 ∨ i = 8)) → M11 c i = M c i  -- p2.hf
        intro c i c1 c2; exact hf c i c1
    · -- b2.2
      refine ⟨fun b3 => ?_, fun b3 => ?_⟩
      · -- b3.1
        have na : ¬ (gCl (gBy (M a) n v2) < 0 ∨ v1 ≤ v3) := by rw [← e_r27]; omega
        have rc2 := rc b2
        have o1 : zin (v2 + 1) := by
          first | with_reducible assumption | omega | exact trivial | with_reducible rfl  -- o1
        refine ⟨o1, ?_⟩
        have gc3 : pr_X0_byteAt a n (v2 + 1) M11 := by
          refine ⟨?_, ?_⟩
          · show zia a  -- c3.ha
            first | with_reducible assumption | omega | exact trivial | with_reducible rfl
          · show n ≤ zlni a  -- c3.hn
            first | with_reducible assumption | omega | exact trivial | with_reducible rfl
        refine ⟨gc3, ?_⟩
        rintro r36 M37 ⟨q_rfl, e_r36⟩ z_r36 z_M37
        have q_rfl := q_rfl.symm
        subst q_rfl
        rw [hT] at e_r36
        intro K128 h_K128
        have k_K128 : ∀ (v42 : Int) (v43 : Int) (M46 : zM), (v42 = gRu (M a) n v2) → (v43 = gBh (M a) n v2) → (1 ≤ v42 ∧ v42 ≤ 16 ∧ v3 + v42 ≤ v1) → (v2 + 1 ≤ v43 ∧ v43 ≤ n) → (M46 = M11) → K128 v42 v43 M46 := by
          intro v42 v43 M46 k1 k2 k3 k4 rfl
          refine h_K128 _ _ _ ?_
          intro z_v42 z_v43 z_M46
          have nb : ¬ (gRu (M a) n v2 < 1 ∨ 16 < gRu (M a) n v2 ∨ v1 < v3 + gRu (M a) n v2) := by omega
          have gc4 : pr_X0_drawRun v3 v4 v42 r27 M46 := by
            refine ⟨?_, ?_, ?_, ?_⟩
            · show 0 ≤ v3 ∧ v3 + v42 ≤ 16  -- c4.hx
              first | with_reducible assumption | omega | exact trivial | with_reducible rfl
            · show 0 ≤ v42  -- c4.hr
              first | with_reducible assumption | omega | exact trivial | with_reducible rfl
            · show 0 ≤ v4 ∧ v4 < 12  -- c4.hy
              first | with_reducible assumption | omega | exact trivial | with_reducible rfl
            · show 0 ≤ r27 ∧ r27 ≤ 15  -- c4.hc
              first | with_reducible assumption | omega | exact trivial | with_reducible rfl
          refine ⟨gc4, ?_⟩
          rintro M48 ⟨pc4_hf, pc4_hd⟩ z_M48
          have mf : ∀ c i, c ≠ 4 → M48 c i = M c i := fun c i c1 => (pc4_hf c i c1).trans (hf c i c1)
          have q48 : ∀ i, 0 ≤ i → i < 192 → 0 ≤ M48 4 i ∧ M48 4 i ≤ 15 := fun i i0 i1 => by
            rw [pc4_hd i]
            unfold gDr
            split
            · omega
            · exact hq1 i i0 i1
          have hT4 : M48 a = M a := funext fun i => mf a i hb.1
          have up : ∀ i, gDo v1 (v3 + v42) v4 i → M48 4 i = gDr D (16 * v4 + v3) v42 r27 i ∧ 0 ≤ gDr D (16 * v4 + v3) v42 r27 i ∧ gDr D (16 * v4 + v3) v42 r27 i ≤ 15 := fun i h => by
            rw [pc4_hd i]
            unfold gDr
            by_cases k : 16 * v4 + v3 ≤ i ∧ i < 16 * v4 + v3 + v42
            · rw [if_pos k, if_pos k]; omega
            · rw [if_neg k, if_neg k]
              exact XD i (by unfold gDo at h ⊢; omega)
          have up2 : ∀ i, gDo (v3 + v42) 0 (v4 + 1) i → M48 4 i = gDr D (16 * v4 + v3) v42 r27 i ∧ 0 ≤ gDr D (16 * v4 + v3) v42 r27 i ∧ gDr D (16 * v4 + v3) v42 r27 i ≤ 15 := fun i h => up i (by unfold gDo at h ⊢; omega)
          intro K169 h_K169
          have k_K169 : ∀ (M53 : zM), (M53 = M48) → (n ≤ v43 ∨ gBy (M a) n v43 = 47) → K169 M53 := by
            intro M53 rfl hs
            refine h_K169 _ ?_
            intro z_M53
            intro K183 h_K183
            have k_K183 : (¬ (0 < v4 ∧ v3 + v42 < v1)) → K183  := by
              intro  hy
              refine h_K183 ?_
              refine ⟨fun b4 => ?_, fun b4 => ?_⟩
              · -- b4.1
                have o2 : zin (v4 + 1) := by
                  first | with_reducible assumption | omega | exact trivial | with_reducible rfl  -- o2
                refine ⟨o2, ?_⟩
                refine ⟨fun b5 => ?_, fun b5 => ?_⟩
                · -- b5.1
                  have o3 : zin (v3 + v42) := by
                    first | with_reducible assumption | omega | exact trivial | with_reducible rfl  -- o3
                  refine ⟨o3, ?_⟩
                  have o4 : zin (v43 + 1) := by
                    first | with_reducible assumption | omega | exact trivial | with_reducible rfl  -- o4
                  refine ⟨o4, ?_⟩
                  have o5 : zin (v5 + 1) := by
                    first | with_reducible assumption | omega | exact trivial | with_reducible rfl  -- o5
                  refine ⟨o5, ?_⟩
                  refine ⟨Int.toNat (n + 1 - (v5 + 1)), by omega, by omega, ?_, ?_, ?_, ?_, ?_, ?_, ?_, ?_⟩
                  · show 0 ≤ (v5 + 1) ∧ (v5 + 1) ≤ n + 1  -- I15.1.hv
                    first | with_reducible assumption | omega | exact trivial | with_reducible rfl
                  · show 1 ≤ (v3 + v42) ∧ (v3 + v42) ≤ 16  -- I15.1.h1
                    first | with_reducible assumption | omega | exact trivial | with_reducible rfl
                  · show (v5 + 1) ≤ (v43 + 1) ∧ (v43 + 1) ≤ n  -- I15.1.h2
                    first | with_reducible assumption | omega | exact trivial | with_reducible rfl
                  · show 0 ≤ 0 ∧ 0 ≤ (v3 + v42)  -- I15.1.h3
                    first | with_reducible assumption | omega | exact trivial | with_reducible rfl
                  · show 0 ≤ (v4 + 1) ∧ (v4 + 1) < 12  -- I15.1.h4
                    first | with_reducible assumption | omega | exact trivial | with_reducible rfl
                  · show ∀ c i, c ≠ 4 → M53 c i = M c i  -- I15.1.hf
                    exact mf
                  · show ∀ i, 0 ≤ i → i < 192 → 0 ≤ M53 4 i ∧ M53 4 i ≤ 15  -- I15.1.hq1
                    exact q48
                  · show ∃ D, gEx (M a) n (n + 1).toNat 16 0 0 0 (fun _ => 0) = gEx (M a) n (Int.toNat (n + 1 - (v5 + 1))) (v3 + v42) (v43 + 1) 0 (v4 + 1) D ∧ ∀ i, gDo (v3 + v42) 0 (v4 + 1) i → M53 4 i = D i ∧ 0 ≤ D i ∧ D i ≤ 15  -- I15.1.hx
                    refine ⟨gDr D (16 * v4 + v3) v42 r27, ?_, up2⟩
                    rw [X, gEx_f na nb (by rw [← k2]; omega) (by rw [← k1]; exact hy) (by rw [← k2]; omega) (by omega), ← k1, ← k2, ← e_r27, show n + 1 - (v5 + 1) = n - v5 by omega]
                · -- b5.2
                  refine hP _ _ ⟨?_, ?_, ?_, ?_⟩
                  · show ∀ i, 0 ≤ i → i < 192 → 0 ≤ M53 4 i ∧ M53 4 i ≤ 15  -- p3.hq
                    exact q48
                  · show v43 = (gEx (M a) n (n + 1).toNat 16 0 0 0 (fun _ => 0)).1  -- p3.hr
                    rw [X, gEx_e na nb (by rw [← k2]; omega) (by rw [← k1]; exact hy) (by rw [← k2]; omega) (by omega)]; exact k2
                  · show v43 = -4 → M53 1 7 = (gEx (M a) n (n + 1).toNat 16 0 0 0 (fun _ => 0)).2.1 ∧ M53 1 8 = (gEx (M a) n (n + 1).toNat 16 0 0 0 (fun _ => 0)).2.2.1 ∧ (1 ≤ M53 1 7 ∧ M53 1 7 ≤ 16) ∧ (1 ≤ M53 1 8 ∧ M53 1 8 ≤ 12) ∧ ∀ i, gDo (M53 1 7) 0 (M53 1 8) i → M53 4 i = (gEx (M a) n (n + 1).toNat 16 0 0 0 (fun _ => 0)).2.2.2 i ∧ 0 ≤ M53 4 i ∧ M53 4 i ≤ 15  -- p3.hw
                    intro h; omega
                  · show ∀ c i, c ≠ 4 → ¬ (c = 1 ∧ (i = 7 ∨ i = 8)) → M53 c i = M c i  -- p3.hf
                    intro c i c1 c2; exact mf c i c1
              · -- b4.2
                have o6 : zin (v3 + v42) := by
                  first | with_reducible assumption | omega | exact trivial | with_reducible rfl  -- o6
                refine ⟨o6, ?_⟩
                intro M65 e_M65
                have o7 : zin (v4 + 1) := by
                  first | with_reducible assumption | omega | exact trivial | with_reducible rfl  -- o7
                refine ⟨o7, ?_⟩
                intro M69 e_M69
                refine hP _ _ ⟨?_, ?_, ?_, ?_⟩
                · show ∀ i, 0 ≤ i → i < 192 → 0 ≤ M69 4 i ∧ M69 4 i ≤ 15  -- p4.hq
                  rw [e_M69, zset_c (by decide), e_M65, zset_c (by decide)]; exact q48
                · show (-4) = (gEx (M a) n (n + 1).toNat 16 0 0 0 (fun _ => 0)).1  -- p4.hr
                  rw [X, gEx_d na nb (by rw [← k1]; exact hy) (by rw [← k2]; omega)]
                · show (-4) = -4 → M69 1 7 = (gEx (M a) n (n + 1).toNat 16 0 0 0 (fun _ => 0)).2.1 ∧ M69 1 8 = (gEx (M a) n (n + 1).toNat 16 0 0 0 (fun _ => 0)).2.2.1 ∧ (1 ≤ M69 1 7 ∧ M69 1 7 ≤ 16) ∧ (1 ≤ M69 1 8 ∧ M69 1 8 ≤ 12) ∧ ∀ i, gDo (M69 1 7) 0 (M69 1 8) i → M69 4 i = (gEx (M a) n (n + 1).toNat 16 0 0 0 (fun _ => 0)).2.2.2 i ∧ 0 ≤ M69 4 i ∧ M69 4 i ≤ 15  -- p4.hw
                  intro _
                  have q7 : M69 1 7 = v3 + v42 := by rw [e_M69, zset_n _ (by omega), e_M65, zset_s]
                  have q8 : M69 1 8 = v4 + 1 := by rw [e_M69, zset_s]
                  have q4 : M69 4 = M53 4 := by rw [e_M69, zset_c (by decide), e_M65, zset_c (by decide)]
                  rw [X, gEx_d na nb (by rw [← k1]; exact hy) (by rw [← k2]; omega), q7, q8, q4, ← k1, ← e_r27]
                  refine ⟨rfl, rfl, by omega, by omega, fun i hi => ?_⟩
                  have u := up2 i hi
                  refine ⟨u.1, ?_⟩
                  rw [u.1]; exact u.2
                · show ∀ c i, c ≠ 4 → ¬ (c = 1 ∧ (i = 7 ∨ i = 8)) → M69 c i = M c i  -- p4.hf
                  intro c i c1 c2; rw [e_M69, zset_n _ (by omega), e_M65, zset_n _ (by omega)]; exact mf c i c1
            refine ⟨fun b6 => ?_, fun b6 => ?_⟩
            · -- b6.1
              refine k_K183 ?_
              · show ¬ (0 < v4 ∧ v3 + v42 < v1)  -- K183.1.hy
                first | with_reducible assumption | omega | exact trivial | with_reducible rfl
            · -- b6.2
              have o8 : zin (v3 + v42) := by
                first | with_reducible assumption | omega | exact trivial | with_reducible rfl  -- o8
              refine ⟨o8, ?_⟩
              refine ⟨fun b7 => ?_, fun b7 => ?_⟩
              · -- b7.1
                refine k_K183 ?_
                · show ¬ (0 < v4 ∧ v3 + v42 < v1)  -- K183.2.hy
                  first | with_reducible assumption | omega | exact trivial | with_reducible rfl
              · -- b7.2
                refine hP _ _ ⟨?_, ?_, ?_, ?_⟩
                · show ∀ i, 0 ≤ i → i < 192 → 0 ≤ M53 4 i ∧ M53 4 i ≤ 15  -- p5.hq
                  exact q48
                · show v43 = (gEx (M a) n (n + 1).toNat 16 0 0 0 (fun _ => 0)).1  -- p5.hr
                  rw [X, gEx_c na nb (by rw [← k2]; exact hs) (by rw [← k1]; omega)]; exact k2
                · show v43 = -4 → M53 1 7 = (gEx (M a) n (n + 1).toNat 16 0 0 0 (fun _ => 0)).2.1 ∧ M53 1 8 = (gEx (M a) n (n + 1).toNat 16 0 0 0 (fun _ => 0)).2.2.1 ∧ (1 ≤ M53 1 7 ∧ M53 1 7 ≤ 16) ∧ (1 ≤ M53 1 8 ∧ M53 1 8 ≤ 12) ∧ ∀ i, gDo (M53 1 7) 0 (M53 1 8) i → M53 4 i = (gEx (M a) n (n + 1).toNat 16 0 0 0 (fun _ => 0)).2.2.2 i ∧ 0 ≤ M53 4 i ∧ M53 4 i ≤ 15  -- p5.hw
                  intro h; omega
                · show ∀ c i, c ≠ 4 → ¬ (c = 1 ∧ (i = 7 ∨ i = 8)) → M53 c i = M c i  -- p5.hf
                  intro c i c1 c2; exact mf c i c1
          refine ⟨fun b8 => ?_, fun b8 => ?_⟩
          · -- b8.1
            refine k_K169 _ ?_ ?_
            · show M48 = M48  -- K169.1.rfl
              first | with_reducible assumption | omega | exact trivial | with_reducible rfl
            · show n ≤ v43 ∨ gBy (M a) n v43 = 47  -- K169.1.hs
              exact .inl (by omega)
          · -- b8.2
            have gc5 : pr_X0_byteAt a n v43 M48 := by
              refine ⟨?_, ?_⟩
              · show zia a  -- c5.ha
                first | with_reducible assumption | omega | exact trivial | with_reducible rfl
              · show n ≤ zlni a  -- c5.hn
                first | with_reducible assumption | omega | exact trivial | with_reducible rfl
            refine ⟨gc5, ?_⟩
            rintro r76 M77 ⟨q_rfl, e_r76⟩ z_r76 z_M77
            have q_rfl := q_rfl.symm
            subst q_rfl
            rw [hT4] at e_r76
            refine ⟨fun b9 => ?_, fun b9 => ?_⟩
            · -- b9.1
              have o9 : zin (v3 + v42) := by
                first | with_reducible assumption | omega | exact trivial | with_reducible rfl  -- o9
              refine ⟨o9, ?_⟩
              have o10 : zin (v5 + 1) := by
                first | with_reducible assumption | omega | exact trivial | with_reducible rfl  -- o10
              refine ⟨o10, ?_⟩
              refine ⟨Int.toNat (n + 1 - (v5 + 1)), by omega, by omega, ?_, ?_, ?_, ?_, ?_, ?_, ?_, ?_⟩
              · show 0 ≤ (v5 + 1) ∧ (v5 + 1) ≤ n + 1  -- I15.2.hv
                first | with_reducible assumption | omega | exact trivial | with_reducible rfl
              · show 1 ≤ v1 ∧ v1 ≤ 16  -- I15.2.h1
                first | with_reducible assumption | omega | exact trivial | with_reducible rfl
              · show (v5 + 1) ≤ v43 ∧ v43 ≤ n  -- I15.2.h2
                first | with_reducible assumption | omega | exact trivial | with_reducible rfl
              · show 0 ≤ (v3 + v42) ∧ (v3 + v42) ≤ v1  -- I15.2.h3
                first | with_reducible assumption | omega | exact trivial | with_reducible rfl
              · show 0 ≤ v4 ∧ v4 < 12  -- I15.2.h4
                first | with_reducible assumption | omega | exact trivial | with_reducible rfl
              · show ∀ c i, c ≠ 4 → M48 c i = M c i  -- I15.2.hf
                exact mf
              · show ∀ i, 0 ≤ i → i < 192 → 0 ≤ M48 4 i ∧ M48 4 i ≤ 15  -- I15.2.hq1
                exact q48
              · show ∃ D, gEx (M a) n (n + 1).toNat 16 0 0 0 (fun _ => 0) = gEx (M a) n (Int.toNat (n + 1 - (v5 + 1))) v1 v43 (v3 + v42) v4 D ∧ ∀ i, gDo v1 (v3 + v42) v4 i → M48 4 i = D i ∧ 0 ≤ D i ∧ D i ≤ 15  -- I15.2.hx
                refine ⟨gDr D (16 * v4 + v3) v42 r27, ?_, up⟩
                rw [X, gEx_g na nb (by rw [← k2]; omega), ← k1, ← k2, ← e_r27, show n + 1 - (v5 + 1) = n - v5 by omega]
            · -- b9.2
              refine k_K169 _ ?_ ?_
              · show M48 = M48  -- K169.2.rfl
                first | with_reducible assumption | omega | exact trivial | with_reducible rfl
              · show n ≤ v43 ∨ gBy (M a) n v43 = 47  -- K169.2.hs
                exact .inr (by omega)
        refine ⟨fun b10 => ?_, fun b10 => ?_⟩
        · -- b10.1
          refine k_K128 _ _ _ ?_ ?_ ?_ ?_ ?_
          · show 1 = gRu (M a) n v2  -- K128.1.k1
            unfold gRu; rw [← e_r36, if_neg b10]
          · show (v2 + 1) = gBh (M a) n v2  -- K128.1.k2
            unfold gBh; rw [← e_r36, if_neg b10]
          · show 1 ≤ 1 ∧ 1 ≤ 16 ∧ v3 + 1 ≤ v1  -- K128.1.k3
            first | with_reducible assumption | omega | exact trivial | with_reducible rfl
          · show v2 + 1 ≤ (v2 + 1) ∧ (v2 + 1) ≤ n  -- K128.1.k4
            first | with_reducible assumption | omega | exact trivial | with_reducible rfl
          · show M11 = M11  -- K128.1.rfl
            first | with_reducible assumption | omega | exact trivial | with_reducible rfl
        · -- b10.2
          have o11 : zin ((v2 + 1) + 1) := by
            first | with_reducible assumption | omega | exact trivial | with_reducible rfl  -- o11
          refine ⟨o11, ?_⟩
          have gc6 : pr_X0_countDigits a n ((v2 + 1) + 1) M11 := by
            refine ⟨?_, ?_, ?_⟩
            · show zia a  -- c6.ha
              first | with_reducible assumption | omega | exact trivial | with_reducible rfl
            · show n ≤ zlni a  -- c6.hn
              first | with_reducible assumption | omega | exact trivial | with_reducible rfl
            · show -10 ≤ ((v2 + 1) + 1) ∧ ((v2 + 1) + 1) ≤ 1000  -- c6.hp
              first | with_reducible assumption | omega | exact trivial | with_reducible rfl
          refine ⟨gc6, ?_⟩
          rintro r90 M91 ⟨q_rfl, e_r90⟩ z_r90 z_M91
          have q_rfl := q_rfl.symm
          subst q_rfl
          have gc7 : pr_X0_numberOf a n ((v2 + 1) + 1) r90 M11 := by
            refine ⟨?_, ?_, ?_, ?_⟩
            · show zia a  -- c7.ha
              first | with_reducible assumption | omega | exact trivial | with_reducible rfl
            · show n ≤ zlni a  -- c7.hn
              first | with_reducible assumption | omega | exact trivial | with_reducible rfl
            · show -10 ≤ ((v2 + 1) + 1) ∧ ((v2 + 1) + 1) ≤ 1000  -- c7.hp
              first | with_reducible assumption | omega | exact trivial | with_reducible rfl
            · show r90 = gDn (M11 a) n ((v2 + 1) + 1)  -- c7.hd
              first | with_reducible assumption | omega | exact trivial | with_reducible rfl
          refine ⟨gc7, ?_⟩
          rintro r96 M97 ⟨q_rfl, e_r96⟩ z_r96 z_M97
          have q_rfl := q_rfl.symm
          subst q_rfl
          rw [hT, show v2 + 1 + 1 = v2 + 2 by omega] at e_r90 e_r96
          have gu : gRu (M a) n v2 = r96 := by unfold gRu; rw [← e_r36, if_pos b10, e_r96]
          have gh : gBh (M a) n v2 = v2 + 2 + r90 := by unfold gBh; rw [← e_r36, if_pos b10, e_r90]
          refine ⟨fun b11 => ?_, fun b11 => ?_⟩
          · -- b11.1
            refine hP _ _ ⟨?_, ?_, ?_, ?_⟩
            · show ∀ i, 0 ≤ i → i < 192 → 0 ≤ M11 4 i ∧ M11 4 i ≤ 15  -- p6.hq
              exact hq1
            · show ((v2 + 1) + 1) = (gEx (M a) n (n + 1).toNat 16 0 0 0 (fun _ => 0)).1  -- p6.hr
              rw [X, gEx_b na (by rw [gu]; omega)]; omega
            · show ((v2 + 1) + 1) = -4 → M11 1 7 = (gEx (M a) n (n + 1).toNat 16 0 0 0 (fun _ => 0)).2.1 ∧ M11 1 8 = (gEx (M a) n (n + 1).toNat 16 0 0 0 (fun _ => 0)).2.2.1 ∧ (1 ≤ M11 1 7 ∧ M11 1 7 ≤ 16) ∧ (1 ≤ M11 1 8 ∧ M11 1 8 ≤ 12) ∧ ∀ i, gDo (M11 1 7) 0 (M11 1 8) i → M11 4 i = (gEx (M a) n (n + 1).toNat 16 0 0 0 (fun _ => 0)).2.2.2 i ∧ 0 ≤ M11 4 i ∧ M11 4 i ≤ 15  -- p6.hw
              intro h; omega
            · show ∀ c i, c ≠ 4 → ¬ (c = 1 ∧ (i = 7 ∨ i = 8)) → M11 c i = M c i  -- p6.hf
              intro c i c1 c2; exact hf c i c1
          · -- b11.2
            refine ⟨fun b12 => ?_, fun b12 => ?_⟩
            · -- b12.1
              refine hP _ _ ⟨?_, ?_, ?_, ?_⟩
              · show ∀ i, 0 ≤ i → i < 192 → 0 ≤ M11 4 i ∧ M11 4 i ≤ 15  -- p7.hq
                exact hq1
              · show ((v2 + 1) + 1) = (gEx (M a) n (n + 1).toNat 16 0 0 0 (fun _ => 0)).1  -- p7.hr
                rw [X, gEx_b na (by rw [gu]; omega)]; omega
              · show ((v2 + 1) + 1) = -4 → M11 1 7 = (gEx (M a) n (n + 1).toNat 16 0 0 0 (fun _ => 0)).2.1 ∧ M11 1 8 = (gEx (M a) n (n + 1).toNat 16 0 0 0 (fun _ => 0)).2.2.1 ∧ (1 ≤ M11 1 7 ∧ M11 1 7 ≤ 16) ∧ (1 ≤ M11 1 8 ∧ M11 1 8 ≤ 12) ∧ ∀ i, gDo (M11 1 7) 0 (M11 1 8) i → M11 4 i = (gEx (M a) n (n + 1).toNat 16 0 0 0 (fun _ => 0)).2.2.2 i ∧ 0 ≤ M11 4 i ∧ M11 4 i ≤ 15  -- p7.hw
                intro h; omega
              · show ∀ c i, c ≠ 4 → ¬ (c = 1 ∧ (i = 7 ∨ i = 8)) → M11 c i = M c i  -- p7.hf
                intro c i c1 c2; exact hf c i c1
            · -- b12.2
              have o12 : zin (v3 + r96) := by
                first | with_reducible assumption | omega | exact trivial | with_reducible rfl  -- o12
              refine ⟨o12, ?_⟩
              refine ⟨fun b13 => ?_, fun b13 => ?_⟩
              · -- b13.1
                have o13 : zin ((v2 + 1) + (1 + r90)) := by
                  first | with_reducible assumption | omega | exact trivial | with_reducible rfl  -- o13
                refine ⟨o13, ?_⟩
                refine k_K128 _ _ _ ?_ ?_ ?_ ?_ ?_
                · show r96 = gRu (M a) n v2  -- K128.2.k1
                  first | with_reducible assumption | omega | exact trivial | with_reducible rfl
                · show ((v2 + 1) + (1 + r90)) = gBh (M a) n v2  -- K128.2.k2
                  first | with_reducible assumption | omega | exact trivial | with_reducible rfl
                · show 1 ≤ r96 ∧ r96 ≤ 16 ∧ v3 + r96 ≤ v1  -- K128.2.k3
                  first | with_reducible assumption | omega | exact trivial | with_reducible rfl
                · show v2 + 1 ≤ ((v2 + 1) + (1 + r90)) ∧ ((v2 + 1) + (1 + r90)) ≤ n  -- K128.2.k4
                  first | with_reducible assumption | omega | exact trivial | with_reducible rfl
                · show M11 = M11  -- K128.2.rfl
                  first | with_reducible assumption | omega | exact trivial | with_reducible rfl
              · -- b13.2
                refine hP _ _ ⟨?_, ?_, ?_, ?_⟩
                · show ∀ i, 0 ≤ i → i < 192 → 0 ≤ M11 4 i ∧ M11 4 i ≤ 15  -- p8.hq
                  exact hq1
                · show ((v2 + 1) + 1) = (gEx (M a) n (n + 1).toNat 16 0 0 0 (fun _ => 0)).1  -- p8.hr
                  rw [X, gEx_b na (by rw [gu]; omega)]; omega
                · show ((v2 + 1) + 1) = -4 → M11 1 7 = (gEx (M a) n (n + 1).toNat 16 0 0 0 (fun _ => 0)).2.1 ∧ M11 1 8 = (gEx (M a) n (n + 1).toNat 16 0 0 0 (fun _ => 0)).2.2.1 ∧ (1 ≤ M11 1 7 ∧ M11 1 7 ≤ 16) ∧ (1 ≤ M11 1 8 ∧ M11 1 8 ≤ 12) ∧ ∀ i, gDo (M11 1 7) 0 (M11 1 8) i → M11 4 i = (gEx (M a) n (n + 1).toNat 16 0 0 0 (fun _ => 0)).2.2.2 i ∧ 0 ≤ M11 4 i ∧ M11 4 i ≤ 15  -- p8.hw
                  intro h; omega
                · show ∀ c i, c ≠ 4 → ¬ (c = 1 ∧ (i = 7 ∨ i = 8)) → M11 c i = M c i  -- p8.hf
                  intro c i c1 c2; exact hf c i c1
      · -- b3.2
        refine hP _ _ ⟨?_, ?_, ?_, ?_⟩
        · show ∀ i, 0 ≤ i → i < 192 → 0 ≤ M11 4 i ∧ M11 4 i ≤ 15  -- p9.hq
          exact hq1
        · show v2 = (gEx (M a) n (n + 1).toNat 16 0 0 0 (fun _ => 0)).1  -- p9.hr
          rw [X, gEx_a (.inr (by omega))]
        · show v2 = -4 → M11 1 7 = (gEx (M a) n (n + 1).toNat 16 0 0 0 (fun _ => 0)).2.1 ∧ M11 1 8 = (gEx (M a) n (n + 1).toNat 16 0 0 0 (fun _ => 0)).2.2.1 ∧ (1 ≤ M11 1 7 ∧ M11 1 7 ≤ 16) ∧ (1 ≤ M11 1 8 ∧ M11 1 8 ≤ 12) ∧ ∀ i, gDo (M11 1 7) 0 (M11 1 8) i → M11 4 i = (gEx (M a) n (n + 1).toNat 16 0 0 0 (fun _ => 0)).2.2.2 i ∧ 0 ≤ M11 4 i ∧ M11 4 i ≤ 15  -- p9.hw
          intro h; omega
        · show ∀ c i, c ≠ 4 → ¬ (c = 1 ∧ (i = 7 ∨ i = 8)) → M11 c i = M c i  -- p9.hf
          intro c i c1 c2; exact hf c i c1

