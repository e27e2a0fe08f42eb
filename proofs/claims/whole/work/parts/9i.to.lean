/-- a step of the script that reads an element -/
def lwEl (QQ : State → Prop) (Γ : zG) (b LL : Nat) : Prop := ∀ (i v : Int) (k n : Nat) (M : zM), 0 ≤ i ∧ i + 6 ≤ LL → k + 64 ≤ 601024 ∧ n + 1024 ≤ 7293034 → zJn v M → (∀ M' (k' n' : Nat), k' ≤ k + 64 → n' ≤ n + 1024 → zJn (v + 1) M' → zU room_1 QQ Γ mcL (145, k', n') 1699 (lwL Γ b i) [] M') → zU room_1 QQ Γ mcL (145, k, n) 1509 (lwL Γ b i) [] M
section
variable {QQ : State → Prop} {Γ : zG} {b LL : Nat} {xs : Nat → Int32}
theorem lw_loop (C : zC Γ mcL) (X : lwX Γ b LL xs) (el : lwEl QQ Γ b LL) (fin : ∀ (i : Int) (k n : Nat) (M : zM), k ≤ 601024 ∧ n ≤ 7293034 → zU room_1 QQ Γ mcL (145, k, n) 1705 (lwL Γ b i) [] M) : ∀ (N : Nat) (i v : Int) (k n : Nat) (M : zM), 0 ≤ v → i = 6 * v → (LL : Int) - i ≤ N → i ≤ LL → (k : Int) ≤ 1000 + 64 * v → (n : Int) ≤ 1300000 + 1024 * v → zJn v M → zU room_1 QQ Γ mcL (145, k, n) 23 (lwL Γ b i) [] M := by
  have X4 := X.2.2.2
  intro N
  induction N with
  | zero =>
    intro i v k n M v0 ei hN hL hk hn J
    refine zu_iload C 0 rfl (zdec_at dm_Lh 13 rfl) ?_
    refine zu_aloadv C 4 rfl (zdec_at dm_Lh 14 rfl) rfl ⟨_, rfl⟩ ?_
    refine zu_slen C X (zdec_at dm_Lh 15 rfl) ?_
    refine zu_bipush C (zdec_at dm_Lh 16 rfl) (by decide) ?_
    refine zu_isub C (zdec_at dm_Lh 17 rfl) ?_
    refine zu_icmp_gt C ⟨by omega, by omega⟩ ⟨by omega, by omega⟩ (zdec_at dm_Lh 18 rfl) rfl (fun _ => fin _ _ _ _ ⟨by omega, by omega⟩) (fun g => absurd (show ((LL : Nat) : Int) - 6 < i by omega) g)
  | succ N ih =>
    intro i v k n M v0 ei hN hL hk hn J
    refine zu_iload C 0 rfl (zdec_at dm_Lh 13 rfl) ?_
    refine zu_aloadv C 4 rfl (zdec_at dm_Lh 14 rfl) rfl ⟨_, rfl⟩ ?_
    refine zu_slen C X (zdec_at dm_Lh 15 rfl) ?_
    refine zu_bipush C (zdec_at dm_Lh 16 rfl) (by decide) ?_
    refine zu_isub C (zdec_at dm_Lh 17 rfl) ?_
    refine zu_icmp_gt C ⟨by omega, by omega⟩ ⟨by omega, by omega⟩ (zdec_at dm_Lh 18 rfl) rfl (fun _ => fin _ _ _ _ ⟨by omega, by omega⟩) (fun g => ?_)
    have hi : 0 ≤ i ∧ i + 6 ≤ LL := by omega
    have hv : v < 999999998 := by omega
    have hk9 : k ≤ 601024 ∧ n ≤ 7293034 := by omega
    have nx : ∀ M' (k' n' : Nat), (k' : Int) ≤ 1000 + 64 * (v + 1) → (n' : Int) ≤ 1300000 + 1024 * (v + 1) → zJn (v + 1) M' → zU room_1 QQ Γ mcL (145, k', n') 1699 (lwL Γ b i) [] M' := fun M' k' n' a c J' => by
      refine zu_iinc (L1 := lwL Γ b (i + 6)) C 0 rfl (zdec_at dm_Lt 0 rfl) (by decide) rfl ?_
      refine zu_goto C (zdec_at dm_Lt 1 rfl) rfl ?_
      exact ih (i + 6) (v + 1) k' n' M' (by omega) (by omega) (by omega) (by omega) a c J'
    have nx1 : ∀ M', zJn (v + 1) M' → zU room_1 QQ Γ mcL (145, k, n) 1699 (lwL Γ b i) [] M' := fun M' J' => nx M' k n (by omega) (by omega) J'
    have skip : zU room_1 QQ Γ mcL (145, k, n) 1699 (lwL Γ b i) [] M := nx1 M (J.q bW.r J.2.1 mW.r)
    refine zu_aloadv C 4 rfl (zdec_at dm_Lh 19 rfl) rfl ⟨_, rfl⟩ ?_
    refine zu_iload C 0 rfl (zdec_at dm_Lh 20 rfl) ?_
    refine zu_sld C X (by omega) (zdec_at dm_Lh 21 rfl) ?_
    refine zu_bipush C (zdec_at dm_Lh 22 rfl) (by decide) ?_
    refine zu_iand C (zdec_at dm_Lh 23 rfl) ?_
    have zx := zland_z (xs i.toNat).toInt 63
    generalize zland (xs i.toNat).toInt 63 = x at zx ⊢
    have q0 := zts_0 x 0
    by_cases c0 : x = 0
    · exact zu_tsin C 0 (by rw [c0]; rfl) zx (by decide) (zdec_at dm_Lh 24 rfl) rfl rfl (lc_0 C hk9 X hi hv J nx1)
    have q1 := zts_s 1 q0 c0
    by_cases c1 : x = 1
    · exact zu_tsin C 1 (by rw [c1]; rfl) zx (by decide) (zdec_at dm_Lh 24 rfl) rfl rfl (lc_1 C hk9 X hi hv J nx1)
    have q2 := zts_s 2 q1 c1
    by_cases c2 : x = 2
    · exact zu_tsin C 2 (by rw [c2]; rfl) zx (by decide) (zdec_at dm_Lh 24 rfl) rfl rfl (lc_2 C hk9 X hi hv J nx1)
    have q3 := zts_s 3 q2 c2
    by_cases c3 : x = 3
    · exact zu_tsin C 3 (by rw [c3]; rfl) zx (by decide) (zdec_at dm_Lh 24 rfl) rfl rfl (lc_3 C hk9 X hi hv J nx1)
    have q4 := zts_s 4 q3 c3
    by_cases c4 : x = 4
    · exact zu_tsin C 4 (by rw [c4]; rfl) zx (by decide) (zdec_at dm_Lh 24 rfl) rfl rfl (lc_4 C hk9 X hi hv J nx1)
    have q5 := zts_s 5 q4 c4
    by_cases c5 : x = 5
    · exact zu_tsin C 5 (by rw [c5]; rfl) zx (by decide) (zdec_at dm_Lh 24 rfl) rfl rfl (lc_5 C hk9 X hi hv J nx1)
    have q6 := zts_s 6 q5 c5
    by_cases c6 : x = 6
    · exact zu_tsin C 6 (by rw [c6]; rfl) zx (by decide) (zdec_at dm_Lh 24 rfl) rfl rfl (lc_6 C hk9 X hi hv J nx1)
    have q7 := zts_s 7 q6 c6
    by_cases c7 : x = 7
    · exact zu_tsin C 7 (by rw [c7]; rfl) zx (by decide) (zdec_at dm_Lh 24 rfl) rfl rfl (lc_7 C hk9 X hi hv J nx1)
    have q8 := zts_s 8 q7 c7
    by_cases c8 : x = 8
    · exact zu_tsin C 8 (by rw [c8]; rfl) zx (by decide) (zdec_at dm_Lh 24 rfl) rfl rfl (lc_8 C hk9 X hi hv J nx1)
    have q9 := zts_s 9 q8 c8
    by_cases c9 : x = 9
    · exact zu_tsin C 9 (by rw [c9]; rfl) zx (by decide) (zdec_at dm_Lh 24 rfl) rfl rfl (lc_9 C hk9 X hi hv J nx1)
    have q10 := zts_s 10 q9 c9
    by_cases c10 : x = 10
    · exact zu_tsin C 10 (by rw [c10]; rfl) zx (by decide) (zdec_at dm_Lh 24 rfl) rfl rfl (lc_10 C hk9 X hi hv J nx1)
    have q11 := zts_s 11 q10 c10
    by_cases c11 : x = 11
    · exact zu_tsin C 11 (by rw [c11]; rfl) zx (by decide) (zdec_at dm_Lh 24 rfl) rfl rfl (lc_11 C hk9 X hi hv J nx1)
    have q12 := zts_s 12 q11 c11
    by_cases c12 : x = 12
    · exact zu_tsin C 12 (by rw [c12]; rfl) zx (by decide) (zdec_at dm_Lh 24 rfl) rfl rfl (lc_12 C hk9 X hi hv J nx1)
    have q13 := zts_s 13 q12 c12
    by_cases c13 : x = 13
    · exact zu_tsin C 13 (by rw [c13]; rfl) zx (by decide) (zdec_at dm_Lh 24 rfl) rfl rfl (lc_13 C hk9 X hi hv J nx1)
    have q14 := zts_s 14 q13 c13
    by_cases c14 : x = 14
    · exact zu_tsin C 14 (by rw [c14]; rfl) zx (by decide) (zdec_at dm_Lh 24 rfl) rfl rfl (lc_14 C hk9 X hi hv J nx1)
    have q15 := zts_s 15 q14 c14
    by_cases c15 : x = 15
    · exact zu_tsin C 15 (by rw [c15]; rfl) zx (by decide) (zdec_at dm_Lh 24 rfl) rfl rfl (lc_15 C hk9 X hi hv J nx1)
    have q16 := zts_s 16 q15 c15
    by_cases c16 : x = 16
    · exact zu_tsin C 16 (by rw [c16]; rfl) zx (by decide) (zdec_at dm_Lh 24 rfl) rfl rfl (lc_16 C hk9 X hi hv J nx1)
    have q17 := zts_s 17 q16 c16
    by_cases c17 : x = 17
    · exact zu_tsin C 17 (by rw [c17]; rfl) zx (by decide) (zdec_at dm_Lh 24 rfl) rfl rfl (lc_17 C hk9 X hi hv J nx1)
    have q18 := zts_s 18 q17 c17
    by_cases c18 : x = 18
    · exact zu_tsin C 18 (by rw [c18]; rfl) zx (by decide) (zdec_at dm_Lh 24 rfl) rfl rfl (lc_18 C hk9 X hi hv J nx1)
    have q19 := zts_s 19 q18 c18
    by_cases c19 : x = 19
    · exact zu_tsin C 19 (by rw [c19]; rfl) zx (by decide) (zdec_at dm_Lh 24 rfl) rfl rfl (lc_19 C hk9 X hi hv J nx1)
    have q20 := zts_s 20 q19 c19
    by_cases c20 : x = 20
    · exact zu_tsin C 20 (by rw [c20]; rfl) zx (by decide) (zdec_at dm_Lh 24 rfl) rfl rfl (lc_20 C hk9 X hi hv J nx1)
    have q21 := zts_s 21 q20 c20
    by_cases c21 : x = 21
    · exact zu_tsin C 21 (by rw [c21]; rfl) zx (by decide) (zdec_at dm_Lh 24 rfl) rfl rfl (lc_21 C hk9 X hi hv J nx1)
    have q22 := zts_s 22 q21 c21
    by_cases c22 : x = 22
    · exact zu_tsin C 22 (by rw [c22]; rfl) zx (by decide) (zdec_at dm_Lh 24 rfl) rfl rfl (lc_22 C hk9 X hi hv J nx1)
    have q23 := zts_s 23 q22 c22
    by_cases c23 : x = 23
    · exact zu_tsin C 23 (by rw [c23]; rfl) zx (by decide) (zdec_at dm_Lh 24 rfl) rfl rfl (lc_23 C hk9 X hi hv J nx1)
    have q24 := zts_s 24 q23 c23
    by_cases c24 : x = 24
    · exact zu_tsin C 24 (by rw [c24]; rfl) zx (by decide) (zdec_at dm_Lh 24 rfl) rfl rfl (lc_24 C hk9 X hi hv J nx1)
    have q25 := zts_s 25 q24 c24
    by_cases c25 : x = 25
    · exact zu_tsin C 25 (by rw [c25]; rfl) zx (by decide) (zdec_at dm_Lh 24 rfl) rfl rfl (lc_25 C hk9 X hi hv J nx1)
    have q26 := zts_s 26 q25 c25
    by_cases c26 : x = 26
    · exact zu_tsin C 26 (by rw [c26]; rfl) zx (by decide) (zdec_at dm_Lh 24 rfl) rfl rfl (lc_26 C hk9 X hi hv J nx1)
    have q27 := zts_s 27 q26 c26
    by_cases c27 : x = 27
    · exact zu_tsin C 27 (by rw [c27]; rfl) zx (by decide) (zdec_at dm_Lh 24 rfl) rfl rfl (lc_27 C hk9 X hi hv J nx1)
    have q28 := zts_s 28 q27 c27
    by_cases c28 : x = 28
    · exact zu_tsin C 28 (by rw [c28]; rfl) zx (by decide) (zdec_at dm_Lh 24 rfl) rfl rfl (lc_28 C hk9 X hi hv J nx1)
    have q29 := zts_s 29 q28 c28
    by_cases c29 : x = 29
    · exact zu_tsin C 29 (by rw [c29]; rfl) zx (by decide) (zdec_at dm_Lh 24 rfl) rfl rfl (lc_29 C hk9 X hi hv J nx1)
    have q30 := zts_s 30 q29 c29
    by_cases c30 : x = 30
    · exact zu_tsin C 30 (by rw [c30]; rfl) zx (by decide) (zdec_at dm_Lh 24 rfl) rfl rfl (lc_30 C hk9 X hi hv J nx1)
    have q31 := zts_s 31 q30 c30
    by_cases c31 : x = 31
    · exact zu_tsin C 31 (by rw [c31]; rfl) zx (by decide) (zdec_at dm_Lh 24 rfl) rfl rfl (lc_31 C hk9 X hi hv J nx1)
    have q32 := zts_s 32 q31 c31
    by_cases c32 : x = 32
    · exact zu_tsin C 32 (by rw [c32]; rfl) zx (by decide) (zdec_at dm_Lh 24 rfl) rfl rfl (lc_32 C hk9 X hi hv J nx1)
    have q33 := zts_s 33 q32 c32
    by_cases c33 : x = 33
    · exact zu_tsin C 33 (by rw [c33]; rfl) zx (by decide) (zdec_at dm_Lh 24 rfl) rfl rfl (lc_33 C hk9 X hi hv J nx1)
    have q34 := zts_s 34 q33 c33
    by_cases c34 : x = 34
    · exact zu_tsin C 34 (by rw [c34]; rfl) zx (by decide) (zdec_at dm_Lh 24 rfl) rfl rfl (lc_34 C hk9 X hi hv J nx1)
    have q35 := zts_s 35 q34 c34
    by_cases c35 : x = 35
    · exact zu_tsin C 35 (by rw [c35]; rfl) zx (by decide) (zdec_at dm_Lh 24 rfl) rfl rfl (lc_35 C hk9 X hi hv J nx1)
    have q36 := zts_s 36 q35 c35
    by_cases c36 : x = 36
    · exact zu_tsin C 36 (by rw [c36]; rfl) zx (by decide) (zdec_at dm_Lh 24 rfl) rfl rfl (lc_36 C hk9 X hi hv J nx1)
    have q37 := zts_s 37 q36 c36
    by_cases c37 : x = 37
    · exact zu_tsin C 37 (by rw [c37]; rfl) zx (by decide) (zdec_at dm_Lh 24 rfl) rfl rfl (el i v k n M hi ⟨by omega, by omega⟩ J (fun M' k' n' a c J' => nx M' k' n' (by omega) (by omega) J'))
    have q38 := zts_s 38 q37 c37
    by_cases c38 : x = 38
    · exact zu_tsin C 38 (by rw [c38]; rfl) zx (by decide) (zdec_at dm_Lh 24 rfl) rfl rfl (lc_38 C hk9 X hi hv J nx1)
    have q39 := zts_s 39 q38 c38
    by_cases c39 : x = 39
    · exact zu_tsin C 39 (by rw [c39]; rfl) zx (by decide) (zdec_at dm_Lh 24 rfl) rfl rfl (lc_39 C hk9 X hi hv J nx1)
    have q40 := zts_s 40 q39 c39
    by_cases c40 : x = 40
    · exact zu_tsin C 40 (by rw [c40]; rfl) zx (by decide) (zdec_at dm_Lh 24 rfl) rfl rfl (lc_40 C hk9 X hi hv J nx1)
    have q41 := zts_s 41 q40 c40
    exact zu_tsout C (q41.imp id (fun q => Int.lt_of_lt_of_le (by decide) q)) zx (zdec_at dm_Lh 24 rfl) rfl skip
end
