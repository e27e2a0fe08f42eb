theorem cw_X12_element : Cond.initialized yX12_element.cls ∈ zTG ∧ Cond.code yX12_element cX12_element 4 (some .long) ∈ zTG ∧ (yX12_element.cls ≠ "java/lang/invoke/MethodHandle" ∧ yX12_element.cls ≠ "java/lang/invoke/VarHandle" ∧ (parseMethodDescriptor yX12_element.desc).map (fun d => d.parameters.length) = some 2) := ⟨zTG_1 (i := 13) rfl rfl, zTG_9 (i := 53) rfl rfl, by decide +kernel⟩
theorem iv_X12_element : Cond.instanceMethod yX12_element ∈ zTG ∧ Cond.selects yX12_element.cls yX12_element yX12_element ∈ zTG := ⟨zTG_9 (i := 51) rfl rfl, zTG_9 (i := 52) rfl rfl⟩
theorem ck_RL_181 : zCK RL 181 yX12_element cX12_element 4 (some .long) 2 := ⟨Or.inl (zTG_9 (i := 50) rfl rfl), cw_X12_element⟩
theorem cw_X12_thrown : Cond.initialized yX12_thrown.cls ∈ zTG ∧ Cond.code yX12_thrown cX12_thrown 1 (some .int) ∈ zTG ∧ (yX12_thrown.cls ≠ "java/lang/invoke/MethodHandle" ∧ yX12_thrown.cls ≠ "java/lang/invoke/VarHandle" ∧ (parseMethodDescriptor yX12_thrown.desc).map (fun d => d.parameters.length) = some 0) := ⟨zTG_1 (i := 13) rfl rfl, zTG_7 (i := 96) rfl rfl, by decide +kernel⟩
theorem iv_X12_thrown : Cond.instanceMethod yX12_thrown ∈ zTG ∧ Cond.selects yX12_thrown.cls yX12_thrown yX12_thrown ∈ zTG := ⟨zTG_7 (i := 94) rfl rfl, zTG_7 (i := 95) rfl rfl⟩
theorem ck_RL_182 : zCK RL 182 yX12_thrown cX12_thrown 1 (some .int) 0 := ⟨Or.inl (zTG_7 (i := 93) rfl rfl), cw_X12_thrown⟩
theorem mI.mo {M M' : zM} (H : mI M) (w : ∀ c i, c ≠ 144 → M' c i = M c i) : mI M' :=
  ⟨H.d' (fun c i k => w c i (by omega)), H.t' (fun c i k => w c i (by omega)), H.c' (fun c i k => w c i (by omega)), H.tn' (fun c i k => w c i (by omega)), H.h' (fun c i k => w c i (by omega)), H.i' (fun c i k => w c i (by omega)), H.r' (fun c i k => w c i (by omega)), H.s' (fun c i k => w c i (by omega))⟩
theorem zJn.out {v : Int} {M M' : zM} (J : zJn v M) (w : ∀ c i, c ≠ 144 → M' c i = M c i) : zJn v M' := by
  obtain ⟨j1, j2, j3, j4, R, j6, j7⟩ := J
  have hI := j1
  exact ⟨j1.fr (fun c i _ l => w c i (by omega)), j2.fr (fun c i l => w c i (by omega)), fun k k0 k1 => by rw [w 75 k (by omega)]; exact j3 k k0 k1, j4.mo w, ⟨R.d' (fun c i l => w c i (by omega)), R.p' (fun c i l => w c i (by omega)), R.tn' (fun c i l => w c i (by omega)), R.h' (fun c i l => w c i (by omega)), R.r' hI (fun c i l => w c i (by omega)), R.i' (fun c i l => w c i (by omega)), R.s' (fun c i l => w c i (by omega))⟩, by rw [w 1 3 (by omega)]; exact j6, by rw [w 99 3 (by omega)]; exact j7⟩
/-- what the law's element does -/
def elR (x1 x2 : Int) (M : zM) (r : Int) (M' : zM) : Prop := (¬ (0 ≤ x1 ∧ x1 < 8) → r = 1 ∧ M' = M) ∧ (0 ≤ x1 ∧ x1 < 8 → ¬ (M (26 + 2 * x1) 0 = 2 ∧ 0 ≤ x2 ∧ x2 < M (26 + 2 * x1) 2) → r = 2 ∧ M' = M) ∧ (0 ≤ x1 ∧ x1 < 8 → M (26 + 2 * x1) 0 = 2 ∧ 0 ≤ x2 ∧ x2 < M (26 + 2 * x1) 2 → r = 0 ∧ M' = zset M 144 0 (M (26 + 2 * x1 + 1) x2))
/-- the law's call of its element -/
def lwCall (QQ : State → Prop) (Γ : zG) (b : Nat) : Prop := ∀ (i v : Int) (k n : Nat) (M : zM) (x1 x2 : Int), zin x1 → zin x2 → k + 64 ≤ 601024 ∧ n + 1024 ≤ 7293034 → zJn v M → (∀ r M' (k' n' : Nat), k' ≤ k + 64 → n' ≤ n + 1024 → zin r → elR x1 x2 M r M' → zU room_1 QQ Γ mcL (145, k', n') 1526 (lwL Γ b i) [zI r] M') → zU room_1 QQ Γ mcL (145, k, n) 1523 (lwL Γ b i) [zRf (zad Γ) 144, zI x2, zI x1, zRf (zad Γ) 0] M
section
variable {QQ : State → Prop} {Γ : zG} {b LL : Nat} {xs : Nat → Int32}
theorem zu_arg5 {k n : Nat} {pc : Nat} {st : List Value} {M : zM} {i : Int} {y : Value} (C : zC Γ mcL) (X : lwX Γ b LL xs) {j : Int} (hi : 0 ≤ i + j ∧ i + j < LL) (d0 : decode code pc = .ok (.aload_n 0, 1)) (d1 : decode code (pc + 1) = .ok (.iload 4, 2)) (d2 : decode code (pc + 3) = .ok (.iconst j, 1)) (d3 : decode code (pc + 4) = .ok (.iadd, 1)) (d4 : decode code (pc + 5) = .ok (.iaload, 1)) (kk : zU room_1 QQ Γ mcL (145, k, n) (pc + 6) ((5, y) :: lwL Γ b i) (zI (xs (i + j).toNat).toInt :: st) M) : zU room_1 QQ Γ mcL (145, k, n) pc ((5, y) :: lwL Γ b i) st M := by
  refine zu_aloadv C 5 rfl d0 rfl ⟨_, rfl⟩ ?_
  refine zu_iload C 1 rfl d1 ?_
  refine zu_iconst C d2 ?_
  refine zu_iadd C d3 ?_
  exact zu_sld C X hi d4 kk
theorem lw_el (C : zC Γ mcL) (X : lwX Γ b LL xs) (ca : lwCall QQ Γ b) : lwEl QQ Γ b LL := by
  intro i v k n M hi hk J nx
  refine zu_aload_n C 3 rfl (zdec_at dm_L37 0 rfl) rfl ?_
  refine zu_arg C X (j := 1) (by omega) (zdec_at dm_L37 1 rfl) (zdec_at dm_L37 2 rfl) (zdec_at dm_L37 3 rfl) (zdec_at dm_L37 4 rfl) (zdec_at dm_L37 5 rfl) ?_
  refine zu_arg C X (j := 2) (by omega) (zdec_at dm_L37 6 rfl) (zdec_at dm_L37 7 rfl) (zdec_at dm_L37 8 rfl) (zdec_at dm_L37 9 rfl) (zdec_at dm_L37 10 rfl) ?_
  refine zu_aload_n C 1 rfl (zdec_at dm_L37 11 rfl) rfl ?_
  have z1 := z_rtz (xs (i + 1).toNat)
  have z2 := z_rtz (xs (i + 2).toNat)
  refine ca i v k n M _ _ z1 z2 hk J (fun r M' k' n' hk' hn' zr E => ?_)
  have J' : zJn v M' := by
    by_cases c1 : 0 ≤ (xs (i + 1).toNat).toInt ∧ (xs (i + 1).toNat).toInt < 8
    · by_cases c2 : M (26 + 2 * (xs (i + 1).toNat).toInt) 0 = 2 ∧ 0 ≤ (xs (i + 2).toNat).toInt ∧ (xs (i + 2).toNat).toInt < M (26 + 2 * (xs (i + 1).toNat).toInt) 2
      · rw [(E.2.2 c1 c2).2]; exact J.out (fun c i l => zset_n _ (.inl l))
      · rw [(E.2.1 c1 c2).2]; exact J
    · rw [(E.1 c1).2]; exact J
  refine zu_istore (L1 := (5, zI r) :: lwL Γ b i) C (zdec_at dm_L37 13 rfl) (Nat.le_of_ble_eq_true rfl) rfl ?_
  refine zu_aload_n C 3 rfl (zdec_at dm_L37 14 rfl) rfl ?_
  refine zu_arg5 C X (j := 1) (by omega) (zdec_at dm_L37 15 rfl) (zdec_at dm_L37 16 rfl) (zdec_at dm_L37 17 rfl) (zdec_at dm_L37 18 rfl) (zdec_at dm_L37 19 rfl) ?_
  refine zu_arg5 C X (j := 2) (by omega) (zdec_at dm_L37 20 rfl) (zdec_at dm_L37 21 rfl) (zdec_at dm_L37 22 rfl) (zdec_at dm_L37 23 rfl) (zdec_at dm_L37 24 rfl) ?_
  refine zu_callV C [(xs (i + 1).toNat).toInt, (xs (i + 2).toNat).toInt] ok_X12_element ck_RL_181 iv_X12_element vc_X12 oc_103 rfl rfl (zdec_at dm_L37 25 rfl) ⟨rfl, by show k' ≤ 601024; omega, by show n' ≤ 7293034; omega⟩ ⟨by decide, by decide⟩ (Nat.le_of_ble_eq_true rfl) (zall_0 z1 (zall_0 z2 zall_n)) ?_
  refine ⟨_, _, rfl, J'.2.2.2.1, fun r2 M2 h zr2 hR2 => ?_⟩
  change zU room_1 QQ Γ mcL (145, k', n') 1544 ((5, zI r) :: lwL Γ b i) [zJ r2] M2
  refine zu_lstore (L1 := (6, zJ r2) :: (5, zI r) :: lwL Γ b i) C (zdec_at dm_L37 26 rfl) (Nat.le_of_ble_eq_true rfl) rfl ?_
  refine zu_aload_n C 4 rfl (zdec_at dm_L37 27 rfl) rfl ?_
  refine zu_callV C [] ok_X12_thrown ck_RL_182 iv_X12_thrown vc_X12 oc_103 rfl rfl (zdec_at dm_L37 28 rfl) ⟨rfl, by show k' ≤ 601024; omega, by show n' ≤ 7293034; omega⟩ ⟨by decide, by decide⟩ (Nat.le_of_ble_eq_true rfl) zall_n ?_
  refine ⟨rfl, trivial, fun r3 M3 g zr3 hR3 => ?_⟩
  change zU room_1 QQ Γ mcL (145, k', n') 1550 ((6, zJ r2) :: (5, zI r) :: lwL Γ b i) [zI r3] M3
  obtain ⟨g1, g2⟩ := g
  subst g1
  generalize (xs (i + 1).toNat).toInt = x1 at E h z1
  generalize (xs (i + 2).toNat).toInt = x2 at E h z2
  have R := J.2.2.2.2.1.2.2.2.2.2.2
  have fin : r3 = r ∧ (r = 0 → M3 144 0 = r2) ∧ zJn (v + 1) M3 := by
    by_cases c1 : 0 ≤ x1 ∧ x1 < 8
    · have S := R x1 c1.1 c1.2
      by_cases c2 : M (26 + 2 * x1) 0 = 2 ∧ 0 ≤ x2 ∧ x2 < M (26 + 2 * x1) 2
      · obtain ⟨er, eM⟩ := E.2.2 c1 c2
        have U := S.2.1 (by rw [← S.1.1]; exact c2.1)
        have m : ∀ c i, c ≠ 144 → M' c i = M c i := fun c i l => by rw [eM]; exact zset_n _ (.inl l)
        obtain ⟨e2, eM2⟩ := h.2.2 c1 ⟨by rw [m 134 x1 (by omega), ← S.1.1]; exact c2.1, c2.2.1, by rw [m 141 x1 (by omega), ← U.1.2]; exact c2.2.2⟩
        have sz := (J.1.s x1 c1.1 c1.2).1
        refine ⟨by rw [g2, eM2, zset_s, er], fun _ => ?_, ?_⟩
        · rw [eM2, zset_n _ (by omega), eM, zset_s, e2, m 142 _ (by omega)]; exact U.2.1 x2 c2.2.1 (by omega)
        · rw [eM2]; exact J'.q bW.r J'.2.1 (mW.z0 0)
      · obtain ⟨er, eM⟩ := E.2.1 c1 c2
        have eM2 := h.2.1 c1 (fun q => c2 (by
          rw [eM] at q
          have U := S.2.1 q.1
          exact ⟨by rw [S.1.1]; exact q.1, q.2.1, by rw [U.1.2]; exact q.2.2⟩))
        refine ⟨by rw [g2, eM2, zset_s, er], fun q => by omega, ?_⟩
        rw [eM2]; exact J'.q bW.r J'.2.1 (mW.z0 2)
    · obtain ⟨er, eM⟩ := E.1 c1
      have eM2 := h.1 c1
      refine ⟨by rw [g2, eM2, zset_s, er], fun q => by omega, ?_⟩
      rw [eM2]; exact J'.q bW.r J'.2.1 (mW.z0 1)
  obtain ⟨f1, f2, f3⟩ := fin
  have out : zU room_1 QQ Γ mcL (145, k', n') 1573 ((6, zJ r2) :: (5, zI r) :: lwL Γ b i) [] M3 := by
    refine zu_goto C (zdec_at dm_L37 43 rfl) rfl ?_
    exact zu_sub [2, 3, 4, 5, 6] rfl (nx M3 k' n' hk' hn' f3)
  refine zu_iload C 1 rfl (zdec_at dm_L37 29 rfl) ?_
  refine zu_icmp_eq C zr3 zr (zdec_at dm_L37 30 rfl) rfl (fun _ => ?_) (fun e => absurd f1 e)
  refine zu_iload C 1 rfl (zdec_at dm_L37 33 rfl) ?_
  refine zu_if_ne C zr (zdec_at dm_L37 34 rfl) rfl (fun _ => out) (fun e0 => ?_)
  refine zu_aload_n C 3 rfl (zdec_at dm_L37 35 rfl) rfl ?_
  refine zu_iconst C (zdec_at dm_L37 36 rfl) ?_
  refine zu_lald (c := 144) (len := 1) C (show zai zS 145 144 15 1 = true from by decide +kernel) (by decide) (zdec_at dm_L37 37 rfl) ?_
  refine zu_lload C 0 rfl (zdec_at dm_L37 38 rfl) ?_
  have zz := f2 e0
  rw [zz]
  exact zu_lcmp_eq C ⟨by have := zr2.1; omega, by have := zr2.2; omega⟩ ⟨by have := zr2.1; omega, by have := zr2.2; omega⟩ (zdec_at dm_L37 39 rfl) (zdec_at dm_L37 40 rfl) rfl (fun _ => out) (fun e => absurd rfl e)
end
