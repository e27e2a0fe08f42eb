def gLt (c : Int) : Int := if c = 98 then 11 else if c = 99 then 1 else if c = 100 then 9 else if c = 103 then 10 else if c = 104 then 7 else if c = 107 then 12 else if c = 110 then 8 else if c = 115 then 0 else if c = 116 then 6 else if c = 119 then 5 else if c = 120 then 3 else if c = 121 then 4 else -1
theorem gLt_b (c : Int) : -1 ≤ gLt c ∧ gLt c ≤ 12 ∧ gLt c ≠ 2 ∧ (0 ≤ gLt c → 98 ≤ c ∧ c ≤ 121) := by
  unfold gLt
  repeat' (split; · omega)
  omega
def gNu (T : Int → Int) (n : Int) : Nat → Int → Int → Int × Int
  | 0, p, v => (p, v)
  | k + 1, p, v => if 48 ≤ gBy T n p ∧ gBy T n p ≤ 57 then gNu T n k (p + 1) (10 * v + gBy T n p - 48) else (p, v)
theorem gNu_y {T : Int → Int} {n p v : Int} {k : Nat} (h : 48 ≤ gBy T n p ∧ gBy T n p ≤ 57) : gNu T n (k + 1) p v = gNu T n k (p + 1) (10 * v + gBy T n p - 48) := if_pos h
theorem gNu_n {T : Int → Int} {n p v : Int} {k : Nat} (h : ¬ (48 ≤ gBy T n p ∧ gBy T n p ≤ 57)) : gNu T n (k + 1) p v = (p, v) := if_neg h
theorem gNu_b {T : Int → Int} {n : Int} : ∀ (k : Nat) (p v : Int), 0 ≤ p → p ≤ n → p ≤ (gNu T n k p v).1 ∧ (gNu T n k p v).1 ≤ n
  | 0, p, v, _, h => ⟨Int.le_refl _, h⟩
  | k + 1, p, v, h0, h => by
    by_cases d : 48 ≤ gBy T n p ∧ gBy T n p ≤ 57
    · rw [gNu_y d]
      have i := gBy_i (T := T) (n := n) (p := p) (by omega)
      have := gNu_b (T := T) (n := n) k (p + 1) (10 * v + gBy T n p - 48) (by omega) (by omega)
      omega
    · rw [gNu_n d]; exact ⟨Int.le_refl _, h⟩
def gAt (T : Int → Int) (n : Int) (φ : Int → Int) (p : Int) : Int × Int × Int :=
  if 0 ≤ gLt (gBy T n p) then (0, p + 1, φ (gLt (gBy T n p))) else if 48 ≤ gBy T n p ∧ gBy T n p ≤ 57 then (if gBy T n p = 48 then (0, p + 1, 0) else (0, (gNu T n 4 p 0).1, (gNu T n 4 p 0).2)) else (1, p, 0)
section
variable {T : Int → Int} {n p : Int} {φ : Int → Int}
theorem gAt_b (h0 : 0 ≤ p) (h1 : p ≤ n) : ((gAt T n φ p).1 = 0 ∧ p + 1 ≤ (gAt T n φ p).2.1 ∧ (gAt T n φ p).2.1 ≤ n) ∨ ((gAt T n φ p).1 = 1 ∧ (gAt T n φ p).2.1 = p) := by
  unfold gAt
  by_cases a : 0 ≤ gLt (gBy T n p)
  · rw [if_pos a]
    have b := (gLt_b (gBy T n p)).2.2.2 a
    have i := gBy_i (T := T) (n := n) (p := p) (by omega)
    exact .inl ⟨rfl, Int.le_refl _, by show p + 1 ≤ n; omega⟩
  · rw [if_neg a]
    by_cases d : 48 ≤ gBy T n p ∧ gBy T n p ≤ 57
    · rw [if_pos d]
      have i := gBy_i (T := T) (n := n) (p := p) (by omega)
      by_cases z : gBy T n p = 48
      · rw [if_pos z]; exact .inl ⟨rfl, Int.le_refl _, by show p + 1 ≤ n; omega⟩
      · rw [if_neg z]
        have b := gNu_b (T := T) (n := n) 3 (p + 1) (10 * 0 + gBy T n p - 48) (by omega) (by omega)
        rw [← gNu_y d] at b
        exact .inl ⟨rfl, b.1, b.2⟩
    · rw [if_neg d]; exact .inr ⟨rfl, rfl⟩
end
def gSu (T : Int → Int) (n : Int) (φ : Int → Int) : Nat → Int → Int → Int × Int × Int
  | 0, p, v => (0, p, v)
  | k + 1, p, v => if gBy T n p = 43 ∨ gBy T n p = 45 then (if (gAt T n φ (p + 1)).1 = 0 then gSu T n φ k (gAt T n φ (p + 1)).2.1 (if gBy T n p = 43 then v + (gAt T n φ (p + 1)).2.2 else v - (gAt T n φ (p + 1)).2.2) else (1, (gAt T n φ (p + 1)).2.1, 0)) else (0, p, v)
section
variable {T : Int → Int} {n p v : Int} {φ : Int → Int} {k : Nat}
theorem gSu_0 : gSu T n φ 0 p v = (0, p, v) := rfl
theorem gSu_n (h : ¬ (gBy T n p = 43 ∨ gBy T n p = 45)) : gSu T n φ k p v = (0, p, v) := by
  cases k with
  | zero => rfl
  | succ k => exact if_neg h
theorem gSu_b1 (h : gBy T n p = 43 ∨ gBy T n p = 45) (a : (gAt T n φ (p + 1)).1 ≠ 0) : gSu T n φ (k + 1) p v = (1, (gAt T n φ (p + 1)).2.1, 0) := (if_pos h).trans (if_neg a)
theorem gSu_y (h : gBy T n p = 43 ∨ gBy T n p = 45) (a : (gAt T n φ (p + 1)).1 = 0) : gSu T n φ (k + 1) p v = gSu T n φ k (gAt T n φ (p + 1)).2.1 (if gBy T n p = 43 then v + (gAt T n φ (p + 1)).2.2 else v - (gAt T n φ (p + 1)).2.2) := (if_pos h).trans (if_pos a)
end
theorem gSu_b {T : Int → Int} {n : Int} {φ : Int → Int} : ∀ (k : Nat) (p v : Int), 0 ≤ p → p ≤ n → ((gSu T n φ k p v).1 = 0 ∨ (gSu T n φ k p v).1 = 1) ∧ p ≤ (gSu T n φ k p v).2.1 ∧ (gSu T n φ k p v).2.1 ≤ n
  | 0, p, v, _, h => ⟨.inl rfl, Int.le_refl _, h⟩
  | k + 1, p, v, h0, h => by
    by_cases o : gBy T n p = 43 ∨ gBy T n p = 45
    · have i := gBy_i (T := T) (n := n) (p := p) (by omega)
      have ab := gAt_b (T := T) (φ := φ) (show 0 ≤ p + 1 by omega) (show p + 1 ≤ n by omega)
      by_cases a : (gAt T n φ (p + 1)).1 = 0
      · rw [gSu_y o a]
        have := gSu_b (T := T) (n := n) (φ := φ) k (gAt T n φ (p + 1)).2.1 (if gBy T n p = 43 then v + (gAt T n φ (p + 1)).2.2 else v - (gAt T n φ (p + 1)).2.2) (by omega) (by omega)
        omega
      · rw [gSu_b1 o a]
        refine ⟨.inr rfl, ?_, ?_⟩
        · show p ≤ (gAt T n φ (p + 1)).2.1; omega
        · show (gAt T n φ (p + 1)).2.1 ≤ n; omega
    · rw [gSu_n o]; exact ⟨.inl rfl, Int.le_refl _, h⟩
def gSS (T : Int → Int) (n : Int) (φ : Int → Int) (p : Int) : Int × Int × Int := if (gAt T n φ p).1 = 0 then gSu T n φ n.toNat (gAt T n φ p).2.1 (gAt T n φ p).2.2 else (1, (gAt T n φ p).2.1, 0)
theorem gSS_b {T : Int → Int} {n p : Int} {φ : Int → Int} (h0 : 0 ≤ p) (h1 : p ≤ n) : ((gSS T n φ p).1 = 0 ∧ p + 1 ≤ (gSS T n φ p).2.1 ∧ (gSS T n φ p).2.1 ≤ n) ∨ ((gSS T n φ p).1 = 1 ∧ p ≤ (gSS T n φ p).2.1 ∧ (gSS T n φ p).2.1 ≤ n) := by
  have ab := gAt_b (T := T) (φ := φ) h0 h1
  unfold gSS
  by_cases a : (gAt T n φ p).1 = 0
  · rw [if_pos a]
    have := gSu_b (T := T) (n := n) (φ := φ) n.toNat (gAt T n φ p).2.1 (gAt T n φ p).2.2 (by omega) (by omega)
    omega
  · rw [if_neg a]
    refine .inr ⟨rfl, ?_, ?_⟩
    · show p ≤ (gAt T n φ p).2.1; omega
    · show (gAt T n φ p).2.1 ≤ n; omega
def gTs (T : Int → Int) (n : Int) (φ : Int → Int) (p : Int) : Int × Int × Int :=
  if (gSS T n φ p).1 = 0 then
    (if gBy T n (gSS T n φ p).2.1 = 60 ∨ gBy T n (gSS T n φ p).2.1 = 62 ∨ gBy T n (gSS T n φ p).2.1 = 61 then
      (if (gSS T n φ ((gSS T n φ p).2.1 + 1)).1 = 0 then (0, (gSS T n φ ((gSS T n φ p).2.1 + 1)).2.1,
        (if gBy T n (gSS T n φ p).2.1 = 61 then (if (gSS T n φ p).2.2 = (gSS T n φ ((gSS T n φ p).2.1 + 1)).2.2 then 1 else 0)
         else if gBy T n (gSS T n φ p).2.1 = 60 then (if (gSS T n φ p).2.2 < (gSS T n φ ((gSS T n φ p).2.1 + 1)).2.2 then 1 else 0)
         else (if (gSS T n φ ((gSS T n φ p).2.1 + 1)).2.2 < (gSS T n φ p).2.2 then 1 else 0)))
       else (1, (gSS T n φ ((gSS T n φ p).2.1 + 1)).2.1, 0))
     else (1, (gSS T n φ p).2.1, 0))
  else (1, (gSS T n φ p).2.1, 0)
section
variable {T : Int → Int} {n p : Int} {φ : Int → Int}
theorem gTs_a (a : (gSS T n φ p).1 ≠ 0) : gTs T n φ p = (1, (gSS T n φ p).2.1, 0) := if_neg a
theorem gTs_c (a : (gSS T n φ p).1 = 0) (c : ¬ (gBy T n (gSS T n φ p).2.1 = 60 ∨ gBy T n (gSS T n φ p).2.1 = 62 ∨ gBy T n (gSS T n φ p).2.1 = 61)) : gTs T n φ p = (1, (gSS T n φ p).2.1, 0) := (if_pos a).trans (if_neg c)
theorem gTs_d (a : (gSS T n φ p).1 = 0) (c : gBy T n (gSS T n φ p).2.1 = 60 ∨ gBy T n (gSS T n φ p).2.1 = 62 ∨ gBy T n (gSS T n φ p).2.1 = 61) (d : (gSS T n φ ((gSS T n φ p).2.1 + 1)).1 ≠ 0) : gTs T n φ p = (1, (gSS T n φ ((gSS T n φ p).2.1 + 1)).2.1, 0) := ((if_pos a).trans (if_pos c)).trans (if_neg d)
theorem gTs_e (a : (gSS T n φ p).1 = 0) (c : gBy T n (gSS T n φ p).2.1 = 60 ∨ gBy T n (gSS T n φ p).2.1 = 62 ∨ gBy T n (gSS T n φ p).2.1 = 61) (d : (gSS T n φ ((gSS T n φ p).2.1 + 1)).1 = 0) : gTs T n φ p = (0, (gSS T n φ ((gSS T n φ p).2.1 + 1)).2.1,
        (if gBy T n (gSS T n φ p).2.1 = 61 then (if (gSS T n φ p).2.2 = (gSS T n φ ((gSS T n φ p).2.1 + 1)).2.2 then 1 else 0)
         else if gBy T n (gSS T n φ p).2.1 = 60 then (if (gSS T n φ p).2.2 < (gSS T n φ ((gSS T n φ p).2.1 + 1)).2.2 then 1 else 0)
         else (if (gSS T n φ ((gSS T n φ p).2.1 + 1)).2.2 < (gSS T n φ p).2.2 then 1 else 0))) := ((if_pos a).trans (if_pos c)).trans (if_pos d)
theorem gTs_b (h0 : 0 ≤ p) (h1 : p ≤ n) : ((gTs T n φ p).1 = 0 ∧ p + 3 ≤ (gTs T n φ p).2.1 ∧ (gTs T n φ p).2.1 ≤ n ∧ ((gTs T n φ p).2.2 = 0 ∨ (gTs T n φ p).2.2 = 1)) ∨ ((gTs T n φ p).1 = 1 ∧ p ≤ (gTs T n φ p).2.1 ∧ (gTs T n φ p).2.1 ≤ n) := by
  have sb := gSS_b (T := T) (φ := φ) h0 h1
  by_cases a : (gSS T n φ p).1 = 0
  · by_cases c : gBy T n (gSS T n φ p).2.1 = 60 ∨ gBy T n (gSS T n φ p).2.1 = 62 ∨ gBy T n (gSS T n φ p).2.1 = 61
    · have i := gBy_i (T := T) (n := n) (p := (gSS T n φ p).2.1) (by omega)
      have sc := gSS_b (T := T) (φ := φ) (show 0 ≤ (gSS T n φ p).2.1 + 1 by omega) (show (gSS T n φ p).2.1 + 1 ≤ n by omega)
      by_cases d : (gSS T n φ ((gSS T n φ p).2.1 + 1)).1 = 0
      · rw [gTs_e a c d]
        refine .inl ⟨rfl, ?_, ?_, ?_⟩
        · show p + 3 ≤ (gSS T n φ ((gSS T n φ p).2.1 + 1)).2.1; omega
        · show (gSS T n φ ((gSS T n φ p).2.1 + 1)).2.1 ≤ n; omega
        · dsimp only
          split
          · split <;> omega
          · split
            · split <;> omega
            · split <;> omega
      · rw [gTs_d a c d]
        refine .inr ⟨rfl, ?_, ?_⟩
        · show p ≤ (gSS T n φ ((gSS T n φ p).2.1 + 1)).2.1; omega
        · show (gSS T n φ ((gSS T n φ p).2.1 + 1)).2.1 ≤ n; omega
    · rw [gTs_c a c]
      refine .inr ⟨rfl, ?_, ?_⟩
      · show p ≤ (gSS T n φ p).2.1; omega
      · show (gSS T n φ p).2.1 ≤ n; omega
  · rw [gTs_a a]
    refine .inr ⟨rfl, ?_, ?_⟩
    · show p ≤ (gSS T n φ p).2.1; omega
    · show (gSS T n φ p).2.1 ≤ n; omega
end
def rC (M : zM) : Prop := zia (M 74 2) ∧ M 74 2 ≠ 74 ∧ (0 ≤ M 74 3 ∧ M 74 3 ≤ 120 ∧ M 74 3 ≤ zlni (M 74 2)) ∧ (0 ≤ M 74 4 ∧ M 74 4 ≤ M 74 3) ∧ ∀ k, 0 ≤ k → k < 13 → -100000 ≤ M 75 k ∧ M 75 k ≤ 100000
abbrev rB (M : zM) : Int := gBy (M (M 74 2)) (M 74 3) (M 74 4)
theorem rC.fr {M M' : zM} (H : rC M) (hf : ∀ c i, ¬ (c = 74 ∧ (i = 1 ∨ i = 4)) → M' c i = M c i) (h4 : 0 ≤ M' 74 4 ∧ M' 74 4 ≤ M 74 3) : rC M' := by
  obtain ⟨a, b, c, d, e⟩ := H
  have e2 := hf 74 2 (by omega)
  have e3 := hf 74 3 (by omega)
  refine ⟨by rw [e2]; exact a, by rw [e2]; exact b, by rw [e2, e3]; exact c, by rw [e3]; exact h4, fun k k0 k1 => by rw [hf 75 k (by omega)]; exact e k k0 k1⟩
theorem rC.T {M M' : zM} (H : rC M) (hf : ∀ c i, ¬ (c = 74 ∧ (i = 1 ∨ i = 4)) → M' c i = M c i) : M' (M' 74 2) = M (M 74 2) ∧ M' 74 3 = M 74 3 ∧ M' 75 = M 75 := by
  have e2 := hf 74 2 (by omega)
  exact ⟨by rw [e2]; exact funext fun i => hf _ i (by have := H.2.1; omega), hf 74 3 (by omega), funext fun i => hf 75 i (by omega)⟩
abbrev pr_X7_fieldOf (c : Int) (M : zM) : Prop := True
abbrev po_X7_fieldOf (c : Int) (M : zM) (r : Int) (M' : zM) : Prop := M' = M ∧ r = gLt c
set_option maxHeartbeats 1000000 in
theorem ok_X7_fieldOf : zSnd zS 145 0 0 yX7_fieldOf cX7_fieldOf 1 (some .int) 0 [0] (F_X7_fieldOf pr_X7_fieldOf po_X7_fieldOf) := by
  refine (sn_X7_fieldOf).mono ?_
  rintro xs P M hz hR ⟨c, rfl, _, hP⟩
  refine ⟨_, rfl, ?_⟩
  have z_c := zall_h hz (by decide)
  change vc_X7_fieldOf c P M
  unfold vc_X7_fieldOf
  refine ⟨fun b1 => ?_, fun b1 => ?_⟩
  · -- b1.1
    refine hP _ _ ⟨rfl, ?_⟩
    · first | (subst_vars; rfl) | (unfold gLt; repeat rw [if_neg (by omega)])  -- p1
  · -- b1.2
    refine ⟨fun b2 => ?_, fun b2 => ?_⟩
    · -- b2.1
      refine hP _ _ ⟨rfl, ?_⟩
      · first | (subst_vars; rfl) | (unfold gLt; repeat rw [if_neg (by omega)])  -- p2
    · -- b2.2
      refine ⟨fun b3 => ?_, fun b3 => ?_⟩
      · -- b3.1
        refine hP _ _ ⟨rfl, ?_⟩
        · first | (subst_vars; rfl) | (unfold gLt; repeat rw [if_neg (by omega)])  -- p3
      · -- b3.2
        refine ⟨fun b4 => ?_, fun b4 => ?_⟩
        · -- b4.1
          refine hP _ _ ⟨rfl, ?_⟩
          · first | (subst_vars; rfl) | (unfold gLt; repeat rw [if_neg (by omega)])  -- p4
        · -- b4.2
          refine ⟨fun b5 => ?_, fun b5 => ?_⟩
          · -- b5.1
            refine hP _ _ ⟨rfl, ?_⟩
            · first | (subst_vars; rfl) | (unfold gLt; repeat rw [if_neg (by omega)])  -- p5
          · -- b5.2
            refine ⟨fun b6 => ?_, fun b6 => ?_⟩
            · -- b6.1
              refine hP _ _ ⟨rfl, ?_⟩
              · first | (subst_vars; rfl) | (unfold gLt; repeat rw [if_neg (by omega)])  -- p6
            · -- b6.2
              refine ⟨fun b7 => ?_, fun b7 => ?_⟩
              · -- b7.1
                refine hP _ _ ⟨rfl, ?_⟩
                · first | (subst_vars; rfl) | (unfold gLt; repeat rw [if_neg (by omega)])  -- p7
              · -- b7.2
                refine ⟨fun b8 => ?_, fun b8 => ?_⟩
                · -- b8.1
                  refine hP _ _ ⟨rfl, ?_⟩
                  · first | (subst_vars; rfl) | (unfold gLt; repeat rw [if_neg (by omega)])  -- p8
                · -- b8.2
                  refine ⟨fun b9 => ?_, fun b9 => ?_⟩
                  · -- b9.1
                    refine hP _ _ ⟨rfl, ?_⟩
                    · first | (subst_vars; rfl) | (unfold gLt; repeat rw [if_neg (by omega)])  -- p9
                  · -- b9.2
                    refine ⟨fun b10 => ?_, fun b10 => ?_⟩
                    · -- b10.1
                      refine hP _ _ ⟨rfl, ?_⟩
                      · first | (subst_vars; rfl) | (unfold gLt; repeat rw [if_neg (by omega)])  -- p10
                    · -- b10.2
                      refine ⟨fun b11 => ?_, fun b11 => ?_⟩
                      · -- b11.1
                        refine hP _ _ ⟨rfl, ?_⟩
                        · first | (subst_vars; rfl) | (unfold gLt; repeat rw [if_neg (by omega)])  -- p11
                      · -- b11.2
                        refine ⟨fun b12 => ?_, fun b12 => ?_⟩
                        · -- b12.1
                          refine hP _ _ ⟨rfl, ?_⟩
                          · first | (subst_vars; rfl) | (unfold gLt; repeat rw [if_neg (by omega)])  -- p12
                        · -- b12.2
                          refine ⟨fun b13 => ?_, fun b13 => ?_⟩
                          · -- b13.1
                            refine hP _ _ ⟨rfl, ?_⟩
                            · first | (subst_vars; rfl) | (unfold gLt; repeat rw [if_neg (by omega)])  -- p13
                          · -- b13.2
                            refine ⟨fun b14 => ?_, fun b14 => ?_⟩
                            · -- b14.1
                              refine hP _ _ ⟨rfl, ?_⟩
                              · first | (subst_vars; rfl) | (unfold gLt; repeat rw [if_neg (by omega)])  -- p14
                            · -- b14.2
                              refine ⟨fun b15 => ?_, fun b15 => ?_⟩
                              · -- b15.1
                                refine hP _ _ ⟨rfl, ?_⟩
                                · first | (subst_vars; rfl) | (unfold gLt; repeat rw [if_neg (by omega)])  -- p15
                              · -- b15.2
                                refine ⟨fun b16 => ?_, fun b16 => ?_⟩
                                · -- b16.1
                                  refine hP _ _ ⟨rfl, ?_⟩
                                  · first | (subst_vars; rfl) | (unfold gLt; repeat rw [if_neg (by omega)])  -- p16
                                · -- b16.2
                                  refine ⟨fun b17 => ?_, fun b17 => ?_⟩
                                  · -- b17.1
                                    refine hP _ _ ⟨rfl, ?_⟩
                                    · first | (subst_vars; rfl) | (unfold gLt; repeat rw [if_neg (by omega)])  -- p17
                                  · -- b17.2
                                    refine ⟨fun b18 => ?_, fun b18 => ?_⟩
                                    · -- b18.1
                                      refine hP _ _ ⟨rfl, ?_⟩
                                      · first | (subst_vars; rfl) | (unfold gLt; repeat rw [if_neg (by omega)])  -- p18
                                    · -- b18.2
                                      refine ⟨fun b19 => ?_, fun b19 => ?_⟩
                                      · -- b19.1
                                        refine hP _ _ ⟨rfl, ?_⟩
                                        · first | (subst_vars; rfl) | (unfold gLt; repeat rw [if_neg (by omega)])  -- p19
                                      · -- b19.2
                                        refine ⟨fun b20 => ?_, fun b20 => ?_⟩
                                        · -- b20.1
                                          refine hP _ _ ⟨rfl, ?_⟩
                                          · first | (subst_vars; rfl) | (unfold gLt; repeat rw [if_neg (by omega)])  -- p20
                                        · -- b20.2
                                          refine ⟨fun b21 => ?_, fun b21 => ?_⟩
                                          · -- b21.1
                                            refine hP _ _ ⟨rfl, ?_⟩
                                            · first | (subst_vars; rfl) | (unfold gLt; repeat rw [if_neg (by omega)])  -- p21
                                          · -- b21.2
                                            refine ⟨fun b22 => ?_, fun b22 => ?_⟩
                                            · -- b22.1
                                              refine hP _ _ ⟨rfl, ?_⟩
                                              · first | (subst_vars; rfl) | (unfold gLt; repeat rw [if_neg (by omega)])  -- p22
                                            · -- b22.2
                                              refine ⟨fun b23 => ?_, fun b23 => ?_⟩
                                              · -- b23.1
                                                refine hP _ _ ⟨rfl, ?_⟩
                                                · first | (subst_vars; rfl) | (unfold gLt; repeat rw [if_neg (by omega)])  -- p23
                                              · -- b23.2
                                                refine ⟨fun b24 => ?_, fun b24 => ?_⟩
                                                · -- b24.1
                                                  refine hP _ _ ⟨rfl, ?_⟩
                                                  · first | (subst_vars; rfl) | (unfold gLt; repeat rw [if_neg (by omega)])  -- p24
                                                · -- b24.2
                                                  refine hP _ _ ⟨rfl, ?_⟩
                                                  · first | (subst_vars; rfl) | (unfold gLt; repeat rw [if_neg (by omega)])  -- p25

abbrev pr_X12_letterOf (c : Int) (M : zM) : Prop := True
abbrev po_X12_letterOf (c : Int) (M : zM) (r : Int) (M' : zM) : Prop := M' = M ∧ r = gLt c
set_option maxHeartbeats 1000000 in
theorem ok_X12_letterOf : zSnd zS 145 0 0 yX12_letterOf cX12_letterOf 1 (some .int) 0 [0] (F_X12_letterOf pr_X12_letterOf po_X12_letterOf) := by
  refine (sn_X12_letterOf).mono ?_
  rintro xs P M hz hR ⟨c, rfl, _, hP⟩
  refine ⟨_, rfl, ?_⟩
  have z_c := zall_h hz (by decide)
  change vc_X12_letterOf c P M
  unfold vc_X12_letterOf
  refine ⟨fun b1 => ?_, fun b1 => ?_⟩
  · -- b1.1
    refine hP _ _ ⟨rfl, ?_⟩
    · first | (subst_vars; rfl) | (unfold gLt; repeat rw [if_neg (by omega)])  -- p1
  · -- b1.2
    refine ⟨fun b2 => ?_, fun b2 => ?_⟩
    · -- b2.1
      refine hP _ _ ⟨rfl, ?_⟩
      · first | (subst_vars; rfl) | (unfold gLt; repeat rw [if_neg (by omega)])  -- p2
    · -- b2.2
      refine ⟨fun b3 => ?_, fun b3 => ?_⟩
      · -- b3.1
        refine hP _ _ ⟨rfl, ?_⟩
        · first | (subst_vars; rfl) | (unfold gLt; repeat rw [if_neg (by omega)])  -- p3
      · -- b3.2
        refine ⟨fun b4 => ?_, fun b4 => ?_⟩
        · -- b4.1
          refine hP _ _ ⟨rfl, ?_⟩
          · first | (subst_vars; rfl) | (unfold gLt; repeat rw [if_neg (by omega)])  -- p4
        · -- b4.2
          refine ⟨fun b5 => ?_, fun b5 => ?_⟩
          · -- b5.1
            refine hP _ _ ⟨rfl, ?_⟩
            · first | (subst_vars; rfl) | (unfold gLt; repeat rw [if_neg (by omega)])  -- p5
          · -- b5.2
            refine ⟨fun b6 => ?_, fun b6 => ?_⟩
            · -- b6.1
              refine hP _ _ ⟨rfl, ?_⟩
              · first | (subst_vars; rfl) | (unfold gLt; repeat rw [if_neg (by omega)])  -- p6
            · -- b6.2
              refine ⟨fun b7 => ?_, fun b7 => ?_⟩
              · -- b7.1
                refine hP _ _ ⟨rfl, ?_⟩
                · first | (subst_vars; rfl) | (unfold gLt; repeat rw [if_neg (by omega)])  -- p7
              · -- b7.2
                refine ⟨fun b8 => ?_, fun b8 => ?_⟩
                · -- b8.1
                  refine hP _ _ ⟨rfl, ?_⟩
                  · first | (subst_vars; rfl) | (unfold gLt; repeat rw [if_neg (by omega)])  -- p8
                · -- b8.2
                  refine ⟨fun b9 => ?_, fun b9 => ?_⟩
                  · -- b9.1
                    refine hP _ _ ⟨rfl, ?_⟩
                    · first | (subst_vars; rfl) | (unfold gLt; repeat rw [if_neg (by omega)])  -- p9
                  · -- b9.2
                    refine ⟨fun b10 => ?_, fun b10 => ?_⟩
                    · -- b10.1
                      refine hP _ _ ⟨rfl, ?_⟩
                      · first | (subst_vars; rfl) | (unfold gLt; repeat rw [if_neg (by omega)])  -- p10
                    · -- b10.2
                      refine ⟨fun b11 => ?_, fun b11 => ?_⟩
                      · -- b11.1
                        refine hP _ _ ⟨rfl, ?_⟩
                        · first | (subst_vars; rfl) | (unfold gLt; repeat rw [if_neg (by omega)])  -- p11
                      · -- b11.2
                        refine ⟨fun b12 => ?_, fun b12 => ?_⟩
                        · -- b12.1
                          refine hP _ _ ⟨rfl, ?_⟩
                          · first | (subst_vars; rfl) | (unfold gLt; repeat rw [if_neg (by omega)])  -- p12
                        · -- b12.2
                          refine ⟨fun b13 => ?_, fun b13 => ?_⟩
                          · -- b13.1
                            refine hP _ _ ⟨rfl, ?_⟩
                            · first | (subst_vars; rfl) | (unfold gLt; repeat rw [if_neg (by omega)])  -- p13
                          · -- b13.2
                            refine ⟨fun b14 => ?_, fun b14 => ?_⟩
                            · -- b14.1
                              refine hP _ _ ⟨rfl, ?_⟩
                              · first | (subst_vars; rfl) | (unfold gLt; repeat rw [if_neg (by omega)])  -- p14
                            · -- b14.2
                              refine ⟨fun b15 => ?_, fun b15 => ?_⟩
                              · -- b15.1
                                refine hP _ _ ⟨rfl, ?_⟩
                                · first | (subst_vars; rfl) | (unfold gLt; repeat rw [if_neg (by omega)])  -- p15
                              · -- b15.2
                                refine ⟨fun b16 => ?_, fun b16 => ?_⟩
                                · -- b16.1
                                  refine hP _ _ ⟨rfl, ?_⟩
                                  · first | (subst_vars; rfl) | (unfold gLt; repeat rw [if_neg (by omega)])  -- p16
                                · -- b16.2
                                  refine ⟨fun b17 => ?_, fun b17 => ?_⟩
                                  · -- b17.1
                                    refine hP _ _ ⟨rfl, ?_⟩
                                    · first | (subst_vars; rfl) | (unfold gLt; repeat rw [if_neg (by omega)])  -- p17
                                  · -- b17.2
                                    refine ⟨fun b18 => ?_, fun b18 => ?_⟩
                                    · -- b18.1
                                      refine hP _ _ ⟨rfl, ?_⟩
                                      · first | (subst_vars; rfl) | (unfold gLt; repeat rw [if_neg (by omega)])  -- p18
                                    · -- b18.2
                                      refine ⟨fun b19 => ?_, fun b19 => ?_⟩
                                      · -- b19.1
                                        refine hP _ _ ⟨rfl, ?_⟩
                                        · first | (subst_vars; rfl) | (unfold gLt; repeat rw [if_neg (by omega)])  -- p19
                                      · -- b19.2
                                        refine ⟨fun b20 => ?_, fun b20 => ?_⟩
                                        · -- b20.1
                                          refine hP _ _ ⟨rfl, ?_⟩
                                          · first | (subst_vars; rfl) | (unfold gLt; repeat rw [if_neg (by omega)])  -- p20
                                        · -- b20.2
                                          refine ⟨fun b21 => ?_, fun b21 => ?_⟩
                                          · -- b21.1
                                            refine hP _ _ ⟨rfl, ?_⟩
                                            · first | (subst_vars; rfl) | (unfold gLt; repeat rw [if_neg (by omega)])  -- p21
                                          · -- b21.2
                                            refine ⟨fun b22 => ?_, fun b22 => ?_⟩
                                            · -- b22.1
                                              refine hP _ _ ⟨rfl, ?_⟩
                                              · first | (subst_vars; rfl) | (unfold gLt; repeat rw [if_neg (by omega)])  -- p22
                                            · -- b22.2
                                              refine ⟨fun b23 => ?_, fun b23 => ?_⟩
                                              · -- b23.1
                                                refine hP _ _ ⟨rfl, ?_⟩
                                                · first | (subst_vars; rfl) | (unfold gLt; repeat rw [if_neg (by omega)])  -- p23
                                              · -- b23.2
                                                refine ⟨fun b24 => ?_, fun b24 => ?_⟩
                                                · -- b24.1
                                                  refine hP _ _ ⟨rfl, ?_⟩
                                                  · first | (subst_vars; rfl) | (unfold gLt; repeat rw [if_neg (by omega)])  -- p24
                                                · -- b24.2
                                                  refine hP _ _ ⟨rfl, ?_⟩
                                                  · first | (subst_vars; rfl) | (unfold gLt; repeat rw [if_neg (by omega)])  -- p25

abbrev pr_X7_byteAhead (M : zM) : Prop := (rC M)
abbrev po_X7_byteAhead (M : zM) (r : Int) (M' : zM) : Prop := M' = M ∧ r = if M 74 1 = -4 then rB M else -1
set_option maxHeartbeats 1000000 in
theorem ok_X7_byteAhead : zSnd zS 145 0 0 yX7_byteAhead cX7_byteAhead 1 (some .int) 0 [2] (F_X7_byteAhead pr_X7_byteAhead po_X7_byteAhead) := by
  refine (sn_X7_byteAhead).mono ?_
  rintro xs P M hz hR ⟨rfl, hC, hP⟩
  refine ⟨rfl, ?_⟩
  change vc_X7_byteAhead P M
  unfold vc_X7_byteAhead
  refine ⟨fun b1 => ?_, fun b1 => ?_⟩
  · -- b1.1
    refine hP _ _ ⟨rfl, ?_⟩
    · rw [if_neg b1]  -- p1
  · -- b1.2
    refine ⟨fun b2 => ?_, fun b2 => ?_⟩
    · -- b2.1
      refine hP _ _ ⟨rfl, ?_⟩
      · have := hC.2.2.2.1; omega  -- p2
    · -- b2.2
      refine ⟨fun b3 => ?_, fun b3 => ?_⟩
      · -- b3.1
        refine hP _ _ ⟨rfl, ?_⟩
        · rw [if_pos b1]; exact (if_neg (by omega)).symm  -- p3
      · -- b3.2
        have o1 : zia (M 74 2) := by
          exact hC.1
        refine ⟨o1, ?_⟩
        have o2 : ((0 : Int) ≤ (M 74 4) ∧ (M 74 4) < (zln (M 74 2))) := by
          have a := hC.2.2.1.2.2; unfold zlni at a; omega
        refine ⟨o2, ?_⟩
        refine hP _ _ ⟨rfl, ?_⟩
        · rw [if_pos b1]; exact (if_pos (by omega)).symm  -- p4

abbrev pr_X7_stop (M : zM) : Prop := True
abbrev po_X7_stop (M : zM) (M' : zM) : Prop := (M' = if M 74 1 = -4 then zset M 74 1 (M 74 4) else M)
set_option maxHeartbeats 1000000 in
theorem ok_X7_stop : zSnd zS 145 0 0 yX7_stop cX7_stop 1 none 0 [2] (F_X7_stop pr_X7_stop po_X7_stop) := by
  refine (sn_X7_stop).mono ?_
  rintro xs P M hz hR ⟨rfl, _, hP⟩
  refine ⟨rfl, ?_⟩
  change vc_X7_stop P M
  unfold vc_X7_stop
  refine ⟨fun b1 => ?_, fun b1 => ?_⟩
  · -- b1.1
    refine hP _ ?_
    · show M = if M 74 1 = -4 then zset M 74 1 (M 74 4) else M  -- p1.e
      rw [if_neg b1]
  · -- b1.2
    intro M2 e_M2
    refine hP _ ?_
    · show M2 = if M 74 1 = -4 then zset M 74 1 (M 74 4) else M  -- p2.e
      rw [if_pos b1]; exact e_M2

abbrev pr_X7_take (c : Int) (M : zM) : Prop := (rC M) ∧ (0 ≤ c)
abbrev po_X7_take (c : Int) (M : zM) (M' : zM) : Prop := (M 74 1 = -4 → rB M = c → M' = zset M 74 4 (M 74 4 + 1) ∧ M 74 4 < M 74 3) ∧ (M 74 1 = -4 → rB M ≠ c → M' = zset M 74 1 (M 74 4)) ∧ (M 74 1 ≠ -4 → M' = M)
set_option maxHeartbeats 1000000 in
theorem ok_X7_take : zSnd zS 145 0 0 yX7_take cX7_take 2 none 1 [2, 0] (F_X7_take pr_X7_take po_X7_take) := by
  refine (sn_X7_take ok_X7_byteAhead ok_X7_stop).mono ?_
  rintro xs P M hz hR ⟨c, rfl, ⟨hC, hc⟩, hP⟩
  refine ⟨_, rfl, ?_⟩
  have z_c := zall_h (zall_t hz) (by decide)
  change vc_X7_take pr_X7_byteAhead po_X7_byteAhead pr_X7_stop po_X7_stop c P M
  unfold vc_X7_take
  have gc1 : pr_X7_byteAhead M := by
    show rC M
    exact hC
  refine ⟨gc1, ?_⟩
  rintro r1 M2 ⟨q_rfl, e_r1⟩ z_r1 z_M2
  have q_rfl := q_rfl.symm
  subst q_rfl
  refine ⟨fun b1 => ?_, fun b1 => ?_⟩
  · -- b1.1
    have gc2 : pr_X7_stop M := trivial
    refine ⟨gc2, ?_⟩
    rintro M8 pc2_e z_M8
    unfold po_X7_stop at pc2_e
    refine hP _ ⟨?_, ?_, ?_⟩
    · show M 74 1 = -4 → rB M = c → M8 = zset M 74 4 (M 74 4 + 1) ∧ M 74 4 < M 74 3  -- p1.hy
      intro a b; rw [if_pos a] at e_r1; omega
    · show M 74 1 = -4 → rB M ≠ c → M8 = zset M 74 1 (M 74 4)  -- p1.hn
      intro a _; rw [if_pos a] at pc2_e; exact pc2_e
    · show M 74 1 ≠ -4 → M8 = M  -- p1.hb
      intro a; rw [if_neg a] at pc2_e; exact pc2_e
  · -- b1.2
    have k1 : M 74 1 = -4 := by
      apply Classical.byContradiction
      intro k; rw [if_neg k] at e_r1; omega
    rw [if_pos k1] at e_r1
    have i := gBy_i (T := M (M 74 2)) (n := M 74 3) (p := M 74 4) (show rB M ≠ -1 by omega)
    have o1 : zin ((M 74 4) + 1) := by
      have := hC.2.2.1; omega
    refine ⟨o1, ?_⟩
    intro M14 e_M14
    refine hP _ ⟨?_, ?_, ?_⟩
    · show M 74 1 = -4 → rB M = c → M14 = zset M 74 4 (M 74 4 + 1) ∧ M 74 4 < M 74 3  -- p2.hy
      intro _ _; exact ⟨e_M14, i.2⟩
    · show M 74 1 = -4 → rB M ≠ c → M14 = zset M 74 1 (M 74 4)  -- p2.hn
      intro _ k; exact absurd (e_r1.symm.trans b1) k
    · show M 74 1 ≠ -4 → M14 = M  -- p2.hb
      intro k; exact absurd k1 k

abbrev pr_X7_readNumber (M : zM) : Prop := (rC M) ∧ (M 74 1 = -4) ∧ (48 ≤ rB M ∧ rB M ≤ 57)
abbrev po_X7_readNumber (M : zM) (r : Int) (M' : zM) : Prop := (∀ c i, ¬ (c = 74 ∧ i = 4) → M' c i = M c i) ∧ (rB M = 48 → M' 74 4 = M 74 4 + 1 ∧ r = 0) ∧ (rB M ≠ 48 → gNu (M (M 74 2)) (M 74 3) 4 (M 74 4) 0 = (M' 74 4, r)) ∧ (0 ≤ r ∧ r ≤ 9999)
set_option maxHeartbeats 1000000 in
theorem ok_X7_readNumber : zSnd zS 145 0 0 yX7_readNumber cX7_readNumber 3 (some .int) 1 [2] (F_X7_readNumber pr_X7_readNumber po_X7_readNumber) := by
  refine (sn_X7_readNumber ok_X7_byteAhead ok_X11_isDigit).mono ?_
  rintro xs P M hz hR ⟨rfl, ⟨hC, h1, hd⟩, hP⟩
  refine ⟨rfl, ?_⟩
  change vc_X7_readNumber pr_X7_byteAhead po_X7_byteAhead pr_X11_isDigit po_X11_isDigit P M
  unfold vc_X7_readNumber
  have gc1 : pr_X7_byteAhead M := by
    show rC M
    exact hC
  refine ⟨gc1, ?_⟩
  rintro r1 M2 ⟨q_rfl, e_r1⟩ z_r1 z_M2
  have q_rfl := q_rfl.symm
  subst q_rfl
  rw [if_pos h1] at e_r1
  have i := gBy_i (T := M (M 74 2)) (n := M 74 3) (p := M 74 4) (show rB M ≠ -1 by omega)
  have C := hC.2.2.1
  refine ⟨fun b1 => ?_, fun b1 => ?_⟩
  · -- b1.1
    refine ⟨fun v8 v9 M12 n14 => (n14 : Int) = (4 - v9) ∧ ((v9 = 0 ∧ v8 = 0) ∨ (v9 = 1 ∧ 0 ≤ v8 ∧ v8 ≤ 9) ∨ (v9 = 2 ∧ 0 ≤ v8 ∧ v8 ≤ 99) ∨ (v9 = 3 ∧ 0 ≤ v8 ∧ v8 ≤ 999) ∨ (v9 = 4 ∧ 0 ≤ v8 ∧ v8 ≤ 9999)) ∧ (∀ c i, ¬ (c = 74 ∧ i = 4) → M12 c i = M c i) ∧ (0 ≤ M12 74 4 ∧ M12 74 4 ≤ M 74 3) ∧ (gNu (M (M 74 2)) (M 74 3) 4 (M 74 4) 0 = gNu (M (M 74 2)) (M 74 3) (Int.toNat (4 - v9)) (M12 74 4) v8), ⟨Int.toNat (4 - 0), by omega, ?_, ?_, ?_, ?_⟩, ?_⟩
    · show (0 = 0 ∧ 0 = 0) ∨ (0 = 1 ∧ 0 ≤ 0 ∧ 0 ≤ 9) ∨ (0 = 2 ∧ 0 ≤ 0 ∧ 0 ≤ 99) ∨ (0 = 3 ∧ 0 ≤ 0 ∧ 0 ≤ 999) ∨ (0 = 4 ∧ 0 ≤ 0 ∧ 0 ≤ 9999)  -- I25.0.hv
      first | with_reducible assumption | omega | exact trivial | with_reducible rfl
    · show ∀ c i, ¬ (c = 74 ∧ i = 4) → M c i = M c i  -- I25.0.kf
      intro c i _; rfl
    · show 0 ≤ M 74 4 ∧ M 74 4 ≤ M 74 3  -- I25.0.kp
      first | with_reducible assumption | omega | exact trivial | with_reducible rfl
    · show gNu (M (M 74 2)) (M 74 3) 4 (M 74 4) 0 = gNu (M (M 74 2)) (M 74 3) (Int.toNat (4 - 0)) (M 74 4) 0  -- I25.0.kx
      rfl
    rintro v8 v9 M12 n14 ⟨h_n14, hv, kf, kp, kx⟩ z_v8 z_v9 z_M12
    have C5 := hC.fr (M' := M12) (fun c i k => kf c i (by omega)) kp
    have T5 := hC.T (M' := M12) (fun c i k => kf c i (by omega))
    have k1 : M12 74 1 = -4 := by rw [kf 74 1 (by omega)]; exact h1
    refine ⟨fun b2 => ?_, fun b2 => ?_⟩
    · -- b2.1
      refine hP _ _ ⟨?_, ?_, ?_, ?_⟩
      · show ∀ c i, ¬ (c = 74 ∧ i = 4) → M12 c i = M c i  -- p1.hf
        exact kf
      · show rB M = 48 → M12 74 4 = M 74 4 + 1 ∧ v8 = 0  -- p1.hz
        intro q; omega
      · show rB M ≠ 48 → gNu (M (M 74 2)) (M 74 3) 4 (M 74 4) 0 = (M12 74 4, v8)  -- p1.ho
        intro _; rw [kx, show Int.toNat (4 - v9) = 0 by omega]; rfl
      · show 0 ≤ v8 ∧ v8 ≤ 9999  -- p1.hb
        first | with_reducible assumption | omega | exact trivial | with_reducible rfl
    · -- b2.2
      have gc2 : pr_X7_byteAhead M12 := by
        show rC M12
        exact C5
      refine ⟨gc2, ?_⟩
      rintro r22 M23 ⟨q_rfl, e_r22⟩ z_r22 z_M23
      have q_rfl := q_rfl.symm
      subst q_rfl
      have gc3 : pr_X11_isDigit r22 M12 := trivial
      refine ⟨gc3, ?_⟩
      rintro r28 M29 ⟨q_rfl, pc3_pb⟩ z_r28 z_M29
      have q_rfl := q_rfl.symm
      subst q_rfl
      rw [if_pos k1] at e_r22
      rw [show rB M12 = gBy (M (M 74 2)) (M 74 3) (M12 74 4) by unfold rB; rw [T5.1, T5.2.1]] at e_r22
      have st : Int.toNat (4 - v9) = Int.toNat (4 - (v9 + 1)) + 1 := by omega
      refine ⟨fun b3 => ?_, fun b3 => ?_⟩
      · -- b3.1
        refine hP _ _ ⟨?_, ?_, ?_, ?_⟩
        · show ∀ c i, ¬ (c = 74 ∧ i = 4) → M12 c i = M c i  -- p2.hf
          exact kf
        · show rB M = 48 → M12 74 4 = M 74 4 + 1 ∧ v8 = 0  -- p2.hz
          intro q; omega
        · show rB M ≠ 48 → gNu (M (M 74 2)) (M 74 3) 4 (M 74 4) 0 = (M12 74 4, v8)  -- p2.ho
          intro _; rw [kx, st, gNu_n (by rw [← e_r22]; exact pc3_pb.z.1 b3)]
        · show 0 ≤ v8 ∧ v8 ≤ 9999  -- p2.hb
          first | with_reducible assumption | omega | exact trivial | with_reducible rfl
      · -- b3.2
        have dg := pc3_pb.ne.1 b3
        have i2 := gBy_i (T := M (M 74 2)) (n := M 74 3) (p := M12 74 4) (by omega)
        have gc4 : pr_X7_byteAhead M12 := by
          show rC M12
          exact C5
        refine ⟨gc4, ?_⟩
        rintro r35 M36 ⟨q_rfl, e_r35⟩ z_r35 z_M36
        have q_rfl := q_rfl.symm
        subst q_rfl
        rw [if_pos k1] at e_r35
        rw [show rB M12 = gBy (M (M 74 2)) (M 74 3) (M12 74 4) by unfold rB; rw [T5.1, T5.2.1], ← e_r22] at e_r35
        have o1 : zin ((M12 74 4) + 1) := by
          omega
        refine ⟨o1, ?_⟩
        intro M42 e_M42
        have m4 : M42 74 4 = M12 74 4 + 1 := by rw [e_M42, zset_s]
        have o2 : zin (((10 * v8) + r35) - 48) := by
          omega
        refine ⟨o2, ?_⟩
        have o3 : zin (v9 + 1) := by
          first | with_reducible assumption | omega | exact trivial | with_reducible rfl  -- o3
        refine ⟨o3, ?_⟩
        refine ⟨Int.toNat (4 - (v9 + 1)), by omega, by omega, ?_, ?_, ?_, ?_⟩
        · show ((v9 + 1) = 0 ∧ (((10 * v8) + r35) - 48) = 0) ∨ ((v9 + 1) = 1 ∧ 0 ≤ (((10 * v8) + r35) - 48) ∧ (((10 * v8) + r35) - 48) ≤ 9) ∨ ((v9 + 1) = 2 ∧ 0 ≤ (((10 * v8) + r35) - 48) ∧ (((10 * v8) + r35) - 48) ≤ 99) ∨ ((v9 + 1) = 3 ∧ 0 ≤ (((10 * v8) + r35) - 48) ∧ (((10 * v8) + r35) - 48) ≤ 999) ∨ ((v9 + 1) = 4 ∧ 0 ≤ (((10 * v8) + r35) - 48) ∧ (((10 * v8) + r35) - 48) ≤ 9999)  -- I25.1.hv
          first | with_reducible assumption | omega | exact trivial | with_reducible rfl
        · show ∀ c i, ¬ (c = 74 ∧ i = 4) → M42 c i = M c i  -- I25.1.kf
          intro c i k; rw [e_M42, zset_n _ (by omega)]; exact kf c i k
        · show 0 ≤ M42 74 4 ∧ M42 74 4 ≤ M 74 3  -- I25.1.kp
          omega
        · show gNu (M (M 74 2)) (M 74 3) 4 (M 74 4) 0 = gNu (M (M 74 2)) (M 74 3) (Int.toNat (4 - (v9 + 1))) (M42 74 4) (((10 * v8) + r35) - 48)  -- I25.1.kx
          rw [kx, st, gNu_y (by rw [← e_r22]; exact dg), m4, e_r35, e_r22]
  · -- b1.2
    have o4 : zin ((M 74 4) + 1) := by
      omega
    refine ⟨o4, ?_⟩
    intro M51 e_M51
    refine hP _ _ ⟨?_, ?_, ?_, ?_⟩
    · show ∀ c i, ¬ (c = 74 ∧ i = 4) → M51 c i = M c i  -- p3.hf
      intro c i k; rw [e_M51, zset_n _ (by omega)]
    · show rB M = 48 → M51 74 4 = M 74 4 + 1 ∧ 0 = 0  -- p3.hz
      intro _; exact ⟨by rw [e_M51, zset_s], rfl⟩
    · show rB M ≠ 48 → gNu (M (M 74 2)) (M 74 3) 4 (M 74 4) 0 = (M51 74 4, 0)  -- p3.ho
      intro k; exact absurd (e_r1.symm.trans b1) k
    · show 0 ≤ 0 ∧ 0 ≤ 9999  -- p3.hb
      first | with_reducible assumption | omega | exact trivial | with_reducible rfl

def rA (M : zM) : Int × Int × Int := gAt (M (M 74 2)) (M 74 3) (M 75) (M 74 4)
abbrev pr_X7_readAtom (M : zM) : Prop := (rC M)
abbrev po_X7_readAtom (M : zM) (r : Int) (M' : zM) : Prop := (∀ c i, ¬ (c = 74 ∧ (i = 1 ∨ i = 4)) → M' c i = M c i) ∧ (-100000 ≤ r ∧ r ≤ 100000) ∧ (M 74 1 ≠ -4 → M' = M) ∧ (M 74 1 = -4 → ((rA M).1 = 0 ∧ M' 74 1 = -4 ∧ M' 74 4 = (rA M).2.1 ∧ r = (rA M).2.2) ∨ ((rA M).1 = 1 ∧ M' 74 1 = (rA M).2.1 ∧ M' 74 4 = (rA M).2.1))
set_option maxHeartbeats 1000000 in
theorem ok_X7_readAtom : zSnd zS 145 0 0 yX7_readAtom cX7_readAtom 2 (some .int) 2 [2] (F_X7_readAtom pr_X7_readAtom po_X7_readAtom) := by
  refine (sn_X7_readAtom ok_X7_byteAhead ok_X11_isDigit ok_X7_fieldOf ok_X7_stop ok_X7_readNumber).mono ?_
  rintro xs P M hz hR ⟨rfl, hC, hP⟩
  refine ⟨rfl, ?_⟩
  change vc_X7_readAtom pr_X7_byteAhead po_X7_byteAhead pr_X11_isDigit po_X11_isDigit pr_X7_fieldOf po_X7_fieldOf pr_X7_stop po_X7_stop pr_X7_readNumber po_X7_readNumber P M
  unfold vc_X7_readAtom
  have gc1 : pr_X7_byteAhead M := by
    show rC M
    exact hC
  refine ⟨gc1, ?_⟩
  rintro r1 M2 ⟨q_rfl, e_r1⟩ z_r1 z_M2
  have q_rfl := q_rfl.symm
  subst q_rfl
  have rg := hC.2.2.1
  have rp := hC.2.2.2.1
  have gc2 : pr_X11_isDigit r1 M := trivial
  refine ⟨gc2, ?_⟩
  rintro r7 M8 ⟨q_rfl, pc2_pb⟩ z_r7 z_M8
  have q_rfl := q_rfl.symm
  subst q_rfl
  refine ⟨fun b1 => ?_, fun b1 => ?_⟩
  · -- b1.1
    have gc3 : pr_X7_byteAhead M := by
      show rC M
      exact hC
    refine ⟨gc3, ?_⟩
    rintro r14 M15 ⟨q_rfl, e_r14⟩ z_r14 z_M15
    have q_rfl := q_rfl.symm
    subst q_rfl
    have gc4 : pr_X7_fieldOf r14 M := trivial
    refine ⟨gc4, ?_⟩
    rintro r20 M21 ⟨q_rfl, e_r20⟩ z_r20 z_M21
    have q_rfl := q_rfl.symm
    subst q_rfl
    have e14 : r14 = r1 := by rw [e_r14, e_r1]
    rw [e14] at e_r20
    have nd := pc2_pb.z.1 b1
    have lb := gLt_b r1
    refine ⟨fun b2 => ?_, fun b2 => ?_⟩
    · -- b2.1
      have k1 : M 74 1 = -4 := by
        apply Classical.byContradiction
        intro k; rw [if_neg k] at e_r1; omega
      rw [if_pos k1] at e_r1
      have i := gBy_i (T := M (M 74 2)) (n := M 74 3) (p := M 74 4) (show rB M ≠ -1 by omega)
      have o1 : zin ((M 74 4) + 1) := by
        omega
      refine ⟨o1, ?_⟩
      intro M28 e_M28
      have m4 : M28 74 4 = M 74 4 + 1 := by rw [e_M28, zset_s]
      have m75 : M28 75 r20 = M 75 r20 := by rw [e_M28, zset_n _ (by omega)]
      have o2 : ((0 : Int) ≤ r20 ∧ r20 < 13) := by
        omega
      refine ⟨o2, ?_⟩
      refine hP _ _ ⟨?_, ?_, ?_, ?_⟩
      · show ∀ c i, ¬ (c = 74 ∧ (i = 1 ∨ i = 4)) → M28 c i = M c i  -- p1.hf
        intro c i k; rw [e_M28, zset_n _ (by omega)]
      · show -100000 ≤ (M28 75 r20) ∧ (M28 75 r20) ≤ 100000  -- p1.hb
        rw [m75]; exact hC.2.2.2.2 r20 b2 (by omega)
      · show M 74 1 ≠ -4 → M28 = M  -- p1.hz
        intro k; exact absurd k1 k
      · show M 74 1 = -4 → ((rA M).1 = 0 ∧ M28 74 1 = -4 ∧ M28 74 4 = (rA M).2.1 ∧ (M28 75 r20) = (rA M).2.2) ∨ ((rA M).1 = 1 ∧ M28 74 1 = (rA M).2.1 ∧ M28 74 4 = (rA M).2.1)  -- p1.ho
        intro _; unfold rA gAt; rw [e_r1] at e_r20; rw [← e_r20, if_pos b2]
        exact .inl ⟨rfl, by rw [e_M28, zset_n _ (by omega)]; exact k1, m4, m75⟩
    · -- b2.2
      have gc5 : pr_X7_stop M := trivial
      refine ⟨gc5, ?_⟩
      rintro M32 pc5_e z_M32
      unfold po_X7_stop at pc5_e
      refine hP _ _ ⟨?_, ?_, ?_, ?_⟩
      · show ∀ c i, ¬ (c = 74 ∧ (i = 1 ∨ i = 4)) → M32 c i = M c i  -- p2.hf
        intro c i k; rw [pc5_e]; split
        · rw [zset_n _ (by omega)]
        · rfl
      · show -100000 ≤ 0 ∧ 0 ≤ 100000  -- p2.hb
        first | with_reducible assumption | omega | exact trivial | with_reducible rfl
      · show M 74 1 ≠ -4 → M32 = M  -- p2.hz
        intro k; rw [if_neg k] at pc5_e; exact pc5_e
      · show M 74 1 = -4 → ((rA M).1 = 0 ∧ M32 74 1 = -4 ∧ M32 74 4 = (rA M).2.1 ∧ 0 = (rA M).2.2) ∨ ((rA M).1 = 1 ∧ M32 74 1 = (rA M).2.1 ∧ M32 74 4 = (rA M).2.1)  -- p2.ho
        intro k; rw [if_pos k] at pc5_e e_r1; rw [e_r1] at e_r20 nd; unfold rA gAt; rw [← e_r20, if_neg b2, if_neg nd]
        exact .inr ⟨rfl, by rw [pc5_e, zset_s], by rw [pc5_e, zset_n _ (by omega)]⟩
  · -- b1.2
    have dg := pc2_pb.ne.1 b1
    have k1 : M 74 1 = -4 := by
      apply Classical.byContradiction
      intro k; rw [if_neg k] at e_r1; omega
    rw [if_pos k1] at e_r1
    rw [e_r1] at dg
    have gc6 : pr_X7_readNumber M := by
      refine ⟨?_, ?_, ?_⟩
      · show rC M  -- c6.hC
        exact hC
      · show M 74 1 = -4  -- c6.h1
        exact k1
      · show 48 ≤ rB M ∧ rB M ≤ 57  -- c6.hd
        exact dg
    refine ⟨gc6, ?_⟩
    rintro r37 M38 ⟨pc6_hf, pc6_hz, pc6_ho, pc6_hb⟩ z_r37 z_M38
    refine hP _ _ ⟨?_, ?_, ?_, ?_⟩
    · show ∀ c i, ¬ (c = 74 ∧ (i = 1 ∨ i = 4)) → M38 c i = M c i  -- p3.hf
      intro c i k; exact pc6_hf c i (by omega)
    · show -100000 ≤ r37 ∧ r37 ≤ 100000  -- p3.hb
      omega
    · show M 74 1 ≠ -4 → M38 = M  -- p3.hz
      intro k; exact absurd k1 k
    · show M 74 1 = -4 → ((rA M).1 = 0 ∧ M38 74 1 = -4 ∧ M38 74 4 = (rA M).2.1 ∧ r37 = (rA M).2.2) ∨ ((rA M).1 = 1 ∧ M38 74 1 = (rA M).2.1 ∧ M38 74 4 = (rA M).2.1)  -- p3.ho
      intro _
      have lb := gLt_b (gBy (M (M 74 2)) (M 74 3) (M 74 4))
      have dg' : 48 ≤ gBy (M (M 74 2)) (M 74 3) (M 74 4) ∧ gBy (M (M 74 2)) (M 74 3) (M 74 4) ≤ 57 := dg
      unfold rA gAt
      rw [if_neg (by omega), if_pos dg']
      refine .inl ?_
      by_cases z : rB M = 48
      · rw [if_pos z]; exact ⟨rfl, by rw [pc6_hf 74 1 (by omega)]; exact k1, (pc6_hz z).1, (pc6_hz z).2⟩
      · rw [if_neg z, pc6_ho z]; exact ⟨rfl, by rw [pc6_hf 74 1 (by omega)]; exact k1, rfl, rfl⟩

