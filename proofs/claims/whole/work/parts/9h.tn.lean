abbrev mcL : zMc := (code, RL, 8, some .boolean, 2, zS, 145, 0, 0)
abbrev lwL (Γ : zG) (b : Nat) (i : Int) : List (Nat × Value) := [(4, zI i), (3, zRf (zad Γ) 144), (2, zRf (zad Γ) 103), (1, zRf (zad Γ) 0), (0, Value.ref b)]
/-- the script at the cell b, from the start on -/
def lwX (Γ : zG) (b L : Nat) (xs : Nat → Int32) : Prop := va_X b L xs Γ.2.2.2.1 Γ.2.2.2.1.heap ∧ b < Γ.2.2.2.1.heap.size ∧ ¬ Γ.2.2.2.2.2.2.2.2.2.2.2.2.1 b ∧ L ≤ 3072
section
variable {RR : Room} {QQ : State → Prop} {Γ : zG} {μ : zMc} {κ : Nat × Nat × Nat} {pc : Nat} {L : List (Nat × Value)} {st : List Value} {M : zM} {b LL : Nat} {xs : Nat → Int32}
theorem zu_aloadv (C : zC Γ μ) {j : Fin 4} {i : Nat} {x : Value} (k : Nat) (hk : L[k]? = some (i, x)) (hd : decode μ.1 pc = .ok (.aload_n j, 1)) (hi : (j : Nat) = i) (hx0 : ∃ a, x = .ref a) (kk : zU RR QQ Γ μ κ (pc + 1) L (x :: st) M) : zU RR QQ Γ μ κ pc L st M := by
  obtain ⟨p, l, e, s, m, args, below, meth, c, D, cA, ad, A, t1, t2, P⟩ := Γ
  obtain ⟨⟨hx, hb, hml, hown, hts⟩, hr, hlk, hK, hA, hSt, hNs⟩ := C
  obtain ⟨a, rfl⟩ := hx0
  intro H locs ls hR hP hD hS hz hv
  exact lv_aload_n hx hb hd hi (lv_at hv k hk) (kk H locs ls hR hP hD hS hz hv)
theorem zu_sld (C : zC Γ μ) (X : lwX Γ b LL xs) {i : Int} (h : 0 ≤ i ∧ i < LL) (hd : decode μ.1 pc = .ok (.iaload, 1)) (kk : zU RR QQ Γ μ κ (pc + 1) L (zI (xs i.toNat).toInt :: st) M) : zU RR QQ Γ μ κ pc L (zI i :: .ref b :: st) M := by
  obtain ⟨p, l, e, s, m, args, below, meth, c, D, cA, ad, A, t1, t2, P⟩ := Γ
  obtain ⟨⟨hx, hb, hml, hown, hts⟩, hr, hlk, hK, hA, hSt, hNs⟩ := C
  obtain ⟨X1, X2, X3, X4⟩ := X
  intro H locs ls hR hP hD hS hz hv
  refine va_sld hx hb X1 X2 X3 hS (z_in h.1 h.2 (by omega)) hd ?_
  rw [z_cl h.1 (by omega)]
  have h9 := kk H locs ls hR hP hD hS hz hv
  rw [zI, z_rt] at h9
  exact h9
theorem zu_slen (C : zC Γ μ) (X : lwX Γ b LL xs) (hd : decode μ.1 pc = .ok (.arraylength, 1)) (kk : zU RR QQ Γ μ κ (pc + 1) L (zI (LL : Nat) :: st) M) : zU RR QQ Γ μ κ pc L (.ref b :: st) M := by
  obtain ⟨p, l, e, s, m, args, below, meth, c, D, cA, ad, A, t1, t2, P⟩ := Γ
  obtain ⟨⟨hx, hb, hml, hown, hts⟩, hr, hlk, hK, hA, hSt, hNs⟩ := C
  obtain ⟨X1, X2, X3, X4⟩ := X
  intro H locs ls hR hP hD hS hz hv
  refine va_slen hx hb X1 X2 X3 hS hd ?_
  have h9 := kk H locs ls hR hP hD hS hz hv
  have e9 : Int32.ofNat LL = Int32.ofInt (LL : Nat) := by
    rw [← Int32.toInt_inj, z_tI ⟨by omega, by omega⟩, Int32.toInt_ofNat_of_lt (by omega)]
  rw [e9]
  exact h9
end
section
variable {QQ : State → Prop} {Γ : zG} {k n : Nat} {pc : Nat} {st : List Value} {M : zM} {b LL : Nat} {xs : Nat → Int32} {i v : Int}
theorem zu_arg (C : zC Γ mcL) (X : lwX Γ b LL xs) {j : Int} (hi : 0 ≤ i + j ∧ i + j < LL) (d0 : decode code pc = .ok (.aload_n 0, 1)) (d1 : decode code (pc + 1) = .ok (.iload 4, 2)) (d2 : decode code (pc + 3) = .ok (.iconst j, 1)) (d3 : decode code (pc + 4) = .ok (.iadd, 1)) (d4 : decode code (pc + 5) = .ok (.iaload, 1)) (kk : zU room_1 QQ Γ mcL (145, k, n) (pc + 6) (lwL Γ b i) (zI (xs (i + j).toNat).toInt :: st) M) : zU room_1 QQ Γ mcL (145, k, n) pc (lwL Γ b i) st M := by
  refine zu_aloadv C 4 rfl d0 rfl ⟨_, rfl⟩ ?_
  refine zu_iload C 0 rfl d1 ?_
  refine zu_iconst C d2 ?_
  refine zu_iadd C d3 ?_
  exact zu_sld C X hi d4 kk
theorem lc_0 (C : zC Γ mcL) (hk : k ≤ 601024 ∧ n ≤ 7293034) (X : lwX Γ b LL xs) (hi : 0 ≤ i ∧ i + 6 ≤ LL) (hv : v < 999999998) (J : zJn v M) (nx : ∀ M', zJn (v + 1) M' → zU room_1 QQ Γ mcL (145, k, n) 1699 (lwL Γ b i) [] M') : zU room_1 QQ Γ mcL (145, k, n) 220 (lwL Γ b i) [] M := by
  refine zu_aload_n C 3 rfl (zdec_at dm_L0 0 rfl) rfl ?_
  refine zu_arg C X (j := 1) (by omega) (zdec_at dm_L0 1 rfl) (zdec_at dm_L0 2 rfl) (zdec_at dm_L0 3 rfl) (zdec_at dm_L0 4 rfl) (zdec_at dm_L0 5 rfl) ?_
  refine zu_callV C [(xs (i + 1).toNat).toInt] ok_X11_fault ck_RL_21 iv_X11_fault vc_X11 oc_0 rfl rfl (zdec_at dm_L0 6 rfl) ⟨rfl, hk.1, hk.2⟩ ⟨by decide, by decide⟩ (Nat.le_of_ble_eq_true rfl) (zall_0 (z_rtz _) zall_n) ?_
  refine ⟨(xs (i + 1).toNat).toInt, rfl, pq_fault J, fun r M1 h zr1 hR1 => ?_⟩
  change zU room_1 QQ Γ mcL (145, k, n) 230 (lwL Γ b i) [zI r] M1
  refine zu_aload_n C 2 rfl (zdec_at dm_L0 7 rfl) rfl ?_
  refine zu_arg C X (j := 1) (by omega) (zdec_at dm_L0 8 rfl) (zdec_at dm_L0 9 rfl) (zdec_at dm_L0 10 rfl) (zdec_at dm_L0 11 rfl) (zdec_at dm_L0 12 rfl) ?_
  refine zu_callV C [(xs (i + 1).toNat).toInt] ok_X12_fault ck_RL_25 iv_X12_fault vc_X12 oc_103 rfl rfl (zdec_at dm_L0 13 rfl) ⟨rfl, hk.1, hk.2⟩ ⟨by decide, by decide⟩ (Nat.le_of_ble_eq_true rfl) (zall_0 (z_rtz _) zall_n) ?_
  refine ⟨(xs (i + 1).toNat).toInt, rfl, pk_fault J h, fun r' M2 g zr2 hR2 => ?_⟩
  change zU room_1 QQ Γ mcL (145, k, n) 240 (lwL Γ b i) [zI r', zI r] M2
  have q := zq_fault J h g
  exact zu_icmp_eq C zr1 zr2 (zdec_at dm_L0 14 rfl) rfl (fun _ => nx _ q.2) (fun e => absurd q.1 e)
theorem lc_1 (C : zC Γ mcL) (hk : k ≤ 601024 ∧ n ≤ 7293034) (X : lwX Γ b LL xs) (hi : 0 ≤ i ∧ i + 6 ≤ LL) (hv : v < 999999998) (J : zJn v M) (nx : ∀ M', zJn (v + 1) M' → zU room_1 QQ Γ mcL (145, k, n) 1699 (lwL Γ b i) [] M') : zU room_1 QQ Γ mcL (145, k, n) 245 (lwL Γ b i) [] M := by
  refine zu_aload_n C 3 rfl (zdec_at dm_L1 0 rfl) rfl ?_
  refine zu_arg C X (j := 1) (by omega) (zdec_at dm_L1 1 rfl) (zdec_at dm_L1 2 rfl) (zdec_at dm_L1 3 rfl) (zdec_at dm_L1 4 rfl) (zdec_at dm_L1 5 rfl) ?_
  refine zu_callV C [(xs (i + 1).toNat).toInt] ok_X11_picture ck_RL_26 iv_X11_picture vc_X11 oc_0 rfl rfl (zdec_at dm_L1 6 rfl) ⟨rfl, hk.1, hk.2⟩ ⟨by decide, by decide⟩ (Nat.le_of_ble_eq_true rfl) (zall_0 (z_rtz _) zall_n) ?_
  refine ⟨(xs (i + 1).toNat).toInt, rfl, pq_picture J, fun r M1 h zr1 hR1 => ?_⟩
  change zU room_1 QQ Γ mcL (145, k, n) 255 (lwL Γ b i) [zI r] M1
  refine zu_aload_n C 2 rfl (zdec_at dm_L1 7 rfl) rfl ?_
  refine zu_arg C X (j := 1) (by omega) (zdec_at dm_L1 8 rfl) (zdec_at dm_L1 9 rfl) (zdec_at dm_L1 10 rfl) (zdec_at dm_L1 11 rfl) (zdec_at dm_L1 12 rfl) ?_
  refine zu_callV C [(xs (i + 1).toNat).toInt] ok_X12_picture ck_RL_29 iv_X12_picture vc_X12 oc_103 rfl rfl (zdec_at dm_L1 13 rfl) ⟨rfl, hk.1, hk.2⟩ ⟨by decide, by decide⟩ (Nat.le_of_ble_eq_true rfl) (zall_0 (z_rtz _) zall_n) ?_
  refine ⟨(xs (i + 1).toNat).toInt, rfl, pk_picture J h, fun r' M2 g zr2 hR2 => ?_⟩
  change zU room_1 QQ Γ mcL (145, k, n) 265 (lwL Γ b i) [zI r', zI r] M2
  have q := zq_picture hv J h g
  exact zu_icmp_eq C zr1 zr2 (zdec_at dm_L1 14 rfl) rfl (fun _ => nx _ q.2) (fun e => absurd q.1 e)
theorem lc_2 (C : zC Γ mcL) (hk : k ≤ 601024 ∧ n ≤ 7293034) (X : lwX Γ b LL xs) (hi : 0 ≤ i ∧ i + 6 ≤ LL) (hv : v < 999999998) (J : zJn v M) (nx : ∀ M', zJn (v + 1) M' → zU room_1 QQ Γ mcL (145, k, n) 1699 (lwL Γ b i) [] M') : zU room_1 QQ Γ mcL (145, k, n) 270 (lwL Γ b i) [] M := by
  refine zu_aload_n C 3 rfl (zdec_at dm_L2 0 rfl) rfl ?_
  refine zu_arg C X (j := 1) (by omega) (zdec_at dm_L2 1 rfl) (zdec_at dm_L2 2 rfl) (zdec_at dm_L2 3 rfl) (zdec_at dm_L2 4 rfl) (zdec_at dm_L2 5 rfl) ?_
  refine zu_callV C [(xs (i + 1).toNat).toInt] ok_X11_dot ck_RL_30 iv_X11_dot vc_X11 oc_0 rfl rfl (zdec_at dm_L2 6 rfl) ⟨rfl, hk.1, hk.2⟩ ⟨by decide, by decide⟩ (Nat.le_of_ble_eq_true rfl) (zall_0 (z_rtz _) zall_n) ?_
  refine ⟨(xs (i + 1).toNat).toInt, rfl, pq_dot J, fun r M1 h zr1 hR1 => ?_⟩
  change zU room_1 QQ Γ mcL (145, k, n) 280 (lwL Γ b i) [zI r] M1
  refine zu_aload_n C 2 rfl (zdec_at dm_L2 7 rfl) rfl ?_
  refine zu_arg C X (j := 1) (by omega) (zdec_at dm_L2 8 rfl) (zdec_at dm_L2 9 rfl) (zdec_at dm_L2 10 rfl) (zdec_at dm_L2 11 rfl) (zdec_at dm_L2 12 rfl) ?_
  refine zu_callV C [(xs (i + 1).toNat).toInt] ok_X12_dot ck_RL_33 iv_X12_dot vc_X12 oc_103 rfl rfl (zdec_at dm_L2 13 rfl) ⟨rfl, hk.1, hk.2⟩ ⟨by decide, by decide⟩ (Nat.le_of_ble_eq_true rfl) (zall_0 (z_rtz _) zall_n) ?_
  refine ⟨(xs (i + 1).toNat).toInt, rfl, pk_dot J h, fun r' M2 g zr2 hR2 => ?_⟩
  change zU room_1 QQ Γ mcL (145, k, n) 290 (lwL Γ b i) [zI r', zI r] M2
  have q := zq_dot J h g
  exact zu_icmp_eq C zr1 zr2 (zdec_at dm_L2 14 rfl) rfl (fun _ => nx _ q.2) (fun e => absurd q.1 e)
theorem lc_3 (C : zC Γ mcL) (hk : k ≤ 601024 ∧ n ≤ 7293034) (X : lwX Γ b LL xs) (hi : 0 ≤ i ∧ i + 6 ≤ LL) (hv : v < 999999998) (J : zJn v M) (nx : ∀ M', zJn (v + 1) M' → zU room_1 QQ Γ mcL (145, k, n) 1699 (lwL Γ b i) [] M') : zU room_1 QQ Γ mcL (145, k, n) 295 (lwL Γ b i) [] M := by
  refine zu_aload_n C 3 rfl (zdec_at dm_L3 0 rfl) rfl ?_
  refine zu_arg C X (j := 1) (by omega) (zdec_at dm_L3 1 rfl) (zdec_at dm_L3 2 rfl) (zdec_at dm_L3 3 rfl) (zdec_at dm_L3 4 rfl) (zdec_at dm_L3 5 rfl) ?_
  refine zu_arg C X (j := 2) (by omega) (zdec_at dm_L3 6 rfl) (zdec_at dm_L3 7 rfl) (zdec_at dm_L3 8 rfl) (zdec_at dm_L3 9 rfl) (zdec_at dm_L3 10 rfl) ?_
  refine zu_callV C [(xs (i + 1).toNat).toInt, (xs (i + 2).toNat).toInt] ok_X11_paint ck_RL_34 iv_X11_paint vc_X11 oc_0 rfl rfl (zdec_at dm_L3 11 rfl) ⟨rfl, hk.1, hk.2⟩ ⟨by decide, by decide⟩ (Nat.le_of_ble_eq_true rfl) (zall_0 (z_rtz _) (zall_0 (z_rtz _) zall_n)) ?_
  refine ⟨(xs (i + 1).toNat).toInt, (xs (i + 2).toNat).toInt, rfl, pq_paint J, fun r M1 h zr1 hR1 => ?_⟩
  change zU room_1 QQ Γ mcL (145, k, n) 311 (lwL Γ b i) [zI r] M1
  refine zu_aload_n C 2 rfl (zdec_at dm_L3 12 rfl) rfl ?_
  refine zu_arg C X (j := 1) (by omega) (zdec_at dm_L3 13 rfl) (zdec_at dm_L3 14 rfl) (zdec_at dm_L3 15 rfl) (zdec_at dm_L3 16 rfl) (zdec_at dm_L3 17 rfl) ?_
  refine zu_arg C X (j := 2) (by omega) (zdec_at dm_L3 18 rfl) (zdec_at dm_L3 19 rfl) (zdec_at dm_L3 20 rfl) (zdec_at dm_L3 21 rfl) (zdec_at dm_L3 22 rfl) ?_
  refine zu_callV C [(xs (i + 1).toNat).toInt, (xs (i + 2).toNat).toInt] ok_X12_paint ck_RL_38 iv_X12_paint vc_X12 oc_103 rfl rfl (zdec_at dm_L3 23 rfl) ⟨rfl, hk.1, hk.2⟩ ⟨by decide, by decide⟩ (Nat.le_of_ble_eq_true rfl) (zall_0 (z_rtz _) (zall_0 (z_rtz _) zall_n)) ?_
  refine ⟨(xs (i + 1).toNat).toInt, (xs (i + 2).toNat).toInt, rfl, pk_paint J h, fun r' M2 g zr2 hR2 => ?_⟩
  change zU room_1 QQ Γ mcL (145, k, n) 327 (lwL Γ b i) [zI r', zI r] M2
  have q := zq_paint hv J h g
  exact zu_icmp_eq C zr1 zr2 (zdec_at dm_L3 24 rfl) rfl (fun _ => nx _ q.2) (fun e => absurd q.1 e)
theorem lc_4 (C : zC Γ mcL) (hk : k ≤ 601024 ∧ n ≤ 7293034) (X : lwX Γ b LL xs) (hi : 0 ≤ i ∧ i + 6 ≤ LL) (hv : v < 999999998) (J : zJn v M) (nx : ∀ M', zJn (v + 1) M' → zU room_1 QQ Γ mcL (145, k, n) 1699 (lwL Γ b i) [] M') : zU room_1 QQ Γ mcL (145, k, n) 332 (lwL Γ b i) [] M := by
  refine zu_aload_n C 3 rfl (zdec_at dm_L4 0 rfl) rfl ?_
  refine zu_arg C X (j := 1) (by omega) (zdec_at dm_L4 1 rfl) (zdec_at dm_L4 2 rfl) (zdec_at dm_L4 3 rfl) (zdec_at dm_L4 4 rfl) (zdec_at dm_L4 5 rfl) ?_
  refine zu_arg C X (j := 2) (by omega) (zdec_at dm_L4 6 rfl) (zdec_at dm_L4 7 rfl) (zdec_at dm_L4 8 rfl) (zdec_at dm_L4 9 rfl) (zdec_at dm_L4 10 rfl) ?_
  refine zu_callV C [(xs (i + 1).toNat).toInt, (xs (i + 2).toNat).toInt] ok_X11_tone ck_RL_39 iv_X11_tone vc_X11 oc_0 rfl rfl (zdec_at dm_L4 11 rfl) ⟨rfl, hk.1, hk.2⟩ ⟨by decide, by decide⟩ (Nat.le_of_ble_eq_true rfl) (zall_0 (z_rtz _) (zall_0 (z_rtz _) zall_n)) ?_
  refine ⟨(xs (i + 1).toNat).toInt, (xs (i + 2).toNat).toInt, rfl, pq_tone J, fun r M1 h zr1 hR1 => ?_⟩
  change zU room_1 QQ Γ mcL (145, k, n) 348 (lwL Γ b i) [zI r] M1
  refine zu_aload_n C 2 rfl (zdec_at dm_L4 12 rfl) rfl ?_
  refine zu_arg C X (j := 1) (by omega) (zdec_at dm_L4 13 rfl) (zdec_at dm_L4 14 rfl) (zdec_at dm_L4 15 rfl) (zdec_at dm_L4 16 rfl) (zdec_at dm_L4 17 rfl) ?_
  refine zu_arg C X (j := 2) (by omega) (zdec_at dm_L4 18 rfl) (zdec_at dm_L4 19 rfl) (zdec_at dm_L4 20 rfl) (zdec_at dm_L4 21 rfl) (zdec_at dm_L4 22 rfl) ?_
  refine zu_callV C [(xs (i + 1).toNat).toInt, (xs (i + 2).toNat).toInt] ok_X12_tone ck_RL_42 iv_X12_tone vc_X12 oc_103 rfl rfl (zdec_at dm_L4 23 rfl) ⟨rfl, hk.1, hk.2⟩ ⟨by decide, by decide⟩ (Nat.le_of_ble_eq_true rfl) (zall_0 (z_rtz _) (zall_0 (z_rtz _) zall_n)) ?_
  refine ⟨(xs (i + 1).toNat).toInt, (xs (i + 2).toNat).toInt, rfl, pk_tone J h, fun r' M2 g zr2 hR2 => ?_⟩
  change zU room_1 QQ Γ mcL (145, k, n) 364 (lwL Γ b i) [zI r', zI r] M2
  have q := zq_tone hv J h g
  exact zu_icmp_eq C zr1 zr2 (zdec_at dm_L4 24 rfl) rfl (fun _ => nx _ q.2) (fun e => absurd q.1 e)
theorem lc_5 (C : zC Γ mcL) (hk : k ≤ 601024 ∧ n ≤ 7293034) (X : lwX Γ b LL xs) (hi : 0 ≤ i ∧ i + 6 ≤ LL) (hv : v < 999999998) (J : zJn v M) (nx : ∀ M', zJn (v + 1) M' → zU room_1 QQ Γ mcL (145, k, n) 1699 (lwL Γ b i) [] M') : zU room_1 QQ Γ mcL (145, k, n) 369 (lwL Γ b i) [] M := by
  refine zu_aload_n C 3 rfl (zdec_at dm_L5 0 rfl) rfl ?_
  refine zu_arg C X (j := 1) (by omega) (zdec_at dm_L5 1 rfl) (zdec_at dm_L5 2 rfl) (zdec_at dm_L5 3 rfl) (zdec_at dm_L5 4 rfl) (zdec_at dm_L5 5 rfl) ?_
  refine zu_callV C [(xs (i + 1).toNat).toInt] ok_X11_touch ck_RL_43 iv_X11_touch vc_X11 oc_0 rfl rfl (zdec_at dm_L5 6 rfl) ⟨rfl, hk.1, hk.2⟩ ⟨by decide, by decide⟩ (Nat.le_of_ble_eq_true rfl) (zall_0 (z_rtz _) zall_n) ?_
  refine ⟨(xs (i + 1).toNat).toInt, rfl, pq_touch J, fun r M1 h zr1 hR1 => ?_⟩
  change zU room_1 QQ Γ mcL (145, k, n) 379 (lwL Γ b i) [zI r] M1
  refine zu_aload_n C 2 rfl (zdec_at dm_L5 7 rfl) rfl ?_
  refine zu_arg C X (j := 1) (by omega) (zdec_at dm_L5 8 rfl) (zdec_at dm_L5 9 rfl) (zdec_at dm_L5 10 rfl) (zdec_at dm_L5 11 rfl) (zdec_at dm_L5 12 rfl) ?_
  refine zu_callV C [(xs (i + 1).toNat).toInt] ok_X12_touch ck_RL_46 iv_X12_touch vc_X12 oc_103 rfl rfl (zdec_at dm_L5 13 rfl) ⟨rfl, hk.1, hk.2⟩ ⟨by decide, by decide⟩ (Nat.le_of_ble_eq_true rfl) (zall_0 (z_rtz _) zall_n) ?_
  refine ⟨(xs (i + 1).toNat).toInt, rfl, pk_touch J h, fun r' M2 g zr2 hR2 => ?_⟩
  change zU room_1 QQ Γ mcL (145, k, n) 389 (lwL Γ b i) [zI r', zI r] M2
  have q := zq_touch hv J h g
  exact zu_icmp_eq C zr1 zr2 (zdec_at dm_L5 14 rfl) rfl (fun _ => nx _ q.2) (fun e => absurd q.1 e)
theorem lc_6 (C : zC Γ mcL) (hk : k ≤ 601024 ∧ n ≤ 7293034) (X : lwX Γ b LL xs) (hi : 0 ≤ i ∧ i + 6 ≤ LL) (hv : v < 999999998) (J : zJn v M) (nx : ∀ M', zJn (v + 1) M' → zU room_1 QQ Γ mcL (145, k, n) 1699 (lwL Γ b i) [] M') : zU room_1 QQ Γ mcL (145, k, n) 394 (lwL Γ b i) [] M := by
  refine zu_aload_n C 3 rfl (zdec_at dm_L6 0 rfl) rfl ?_
  refine zu_arg C X (j := 1) (by omega) (zdec_at dm_L6 1 rfl) (zdec_at dm_L6 2 rfl) (zdec_at dm_L6 3 rfl) (zdec_at dm_L6 4 rfl) (zdec_at dm_L6 5 rfl) ?_
  refine zu_callV C [(xs (i + 1).toNat).toInt] ok_X11_clean ck_RL_47 iv_X11_clean vc_X11 oc_0 rfl rfl (zdec_at dm_L6 6 rfl) ⟨rfl, hk.1, hk.2⟩ ⟨by decide, by decide⟩ (Nat.le_of_ble_eq_true rfl) (zall_0 (z_rtz _) zall_n) ?_
  refine ⟨(xs (i + 1).toNat).toInt, rfl, pq_clean J, fun r M1 h zr1 hR1 => ?_⟩
  change zU room_1 QQ Γ mcL (145, k, n) 404 (lwL Γ b i) [zI r] M1
  refine zu_aload_n C 2 rfl (zdec_at dm_L6 7 rfl) rfl ?_
  refine zu_arg C X (j := 1) (by omega) (zdec_at dm_L6 8 rfl) (zdec_at dm_L6 9 rfl) (zdec_at dm_L6 10 rfl) (zdec_at dm_L6 11 rfl) (zdec_at dm_L6 12 rfl) ?_
  refine zu_callV C [(xs (i + 1).toNat).toInt] ok_X12_clean ck_RL_50 iv_X12_clean vc_X12 oc_103 rfl rfl (zdec_at dm_L6 13 rfl) ⟨rfl, hk.1, hk.2⟩ ⟨by decide, by decide⟩ (Nat.le_of_ble_eq_true rfl) (zall_0 (z_rtz _) zall_n) ?_
  refine ⟨(xs (i + 1).toNat).toInt, rfl, pk_clean J h, fun r' M2 g zr2 hR2 => ?_⟩
  change zU room_1 QQ Γ mcL (145, k, n) 414 (lwL Γ b i) [zI r', zI r] M2
  have q := zq_clean hv J h g
  exact zu_icmp_eq C zr1 zr2 (zdec_at dm_L6 14 rfl) rfl (fun _ => nx _ q.2) (fun e => absurd q.1 e)
theorem lc_7 (C : zC Γ mcL) (hk : k ≤ 601024 ∧ n ≤ 7293034) (X : lwX Γ b LL xs) (hi : 0 ≤ i ∧ i + 6 ≤ LL) (hv : v < 999999998) (J : zJn v M) (nx : ∀ M', zJn (v + 1) M' → zU room_1 QQ Γ mcL (145, k, n) 1699 (lwL Γ b i) [] M') : zU room_1 QQ Γ mcL (145, k, n) 419 (lwL Γ b i) [] M := by
  refine zu_aload_n C 3 rfl (zdec_at dm_L7 0 rfl) rfl ?_
  refine zu_arg C X (j := 1) (by omega) (zdec_at dm_L7 1 rfl) (zdec_at dm_L7 2 rfl) (zdec_at dm_L7 3 rfl) (zdec_at dm_L7 4 rfl) (zdec_at dm_L7 5 rfl) ?_
  refine zu_callV C [(xs (i + 1).toNat).toInt] ok_X11_faceOf ck_RL_51 iv_X11_faceOf vc_X11 oc_0 rfl rfl (zdec_at dm_L7 6 rfl) ⟨rfl, hk.1, hk.2⟩ ⟨by decide, by decide⟩ (Nat.le_of_ble_eq_true rfl) (zall_0 (z_rtz _) zall_n) ?_
  refine ⟨(xs (i + 1).toNat).toInt, rfl, pq_faceOf J, fun r M1 h zr1 hR1 => ?_⟩
  change zU room_1 QQ Γ mcL (145, k, n) 429 (lwL Γ b i) [zI r] M1
  refine zu_aload_n C 2 rfl (zdec_at dm_L7 7 rfl) rfl ?_
  refine zu_arg C X (j := 1) (by omega) (zdec_at dm_L7 8 rfl) (zdec_at dm_L7 9 rfl) (zdec_at dm_L7 10 rfl) (zdec_at dm_L7 11 rfl) (zdec_at dm_L7 12 rfl) ?_
  refine zu_callV C [(xs (i + 1).toNat).toInt] ok_X12_faceOf ck_RL_54 iv_X12_faceOf vc_X12 oc_103 rfl rfl (zdec_at dm_L7 13 rfl) ⟨rfl, hk.1, hk.2⟩ ⟨by decide, by decide⟩ (Nat.le_of_ble_eq_true rfl) (zall_0 (z_rtz _) zall_n) ?_
  refine ⟨(xs (i + 1).toNat).toInt, rfl, pk_faceOf J h, fun r' M2 g zr2 hR2 => ?_⟩
  change zU room_1 QQ Γ mcL (145, k, n) 439 (lwL Γ b i) [zI r', zI r] M2
  have q := zq_faceOf J h g
  exact zu_icmp_eq C zr1 zr2 (zdec_at dm_L7 14 rfl) rfl (fun _ => nx _ q.2) (fun e => absurd q.1 e)
theorem lc_8 (C : zC Γ mcL) (hk : k ≤ 601024 ∧ n ≤ 7293034) (X : lwX Γ b LL xs) (hi : 0 ≤ i ∧ i + 6 ≤ LL) (hv : v < 999999998) (J : zJn v M) (nx : ∀ M', zJn (v + 1) M' → zU room_1 QQ Γ mcL (145, k, n) 1699 (lwL Γ b i) [] M') : zU room_1 QQ Γ mcL (145, k, n) 444 (lwL Γ b i) [] M := by
  refine zu_aload_n C 3 rfl (zdec_at dm_L8 0 rfl) rfl ?_
  refine zu_arg C X (j := 1) (by omega) (zdec_at dm_L8 1 rfl) (zdec_at dm_L8 2 rfl) (zdec_at dm_L8 3 rfl) (zdec_at dm_L8 4 rfl) (zdec_at dm_L8 5 rfl) ?_
  refine zu_arg C X (j := 2) (by omega) (zdec_at dm_L8 6 rfl) (zdec_at dm_L8 7 rfl) (zdec_at dm_L8 8 rfl) (zdec_at dm_L8 9 rfl) (zdec_at dm_L8 10 rfl) ?_
  refine zu_callV C [(xs (i + 1).toNat).toInt, (xs (i + 2).toNat).toInt] ok_X11_face ck_RL_55 iv_X11_face vc_X11 oc_0 rfl rfl (zdec_at dm_L8 11 rfl) ⟨rfl, hk.1, hk.2⟩ ⟨by decide, by decide⟩ (Nat.le_of_ble_eq_true rfl) (zall_0 (z_rtz _) (zall_0 (z_rtz _) zall_n)) ?_
  refine ⟨(xs (i + 1).toNat).toInt, (xs (i + 2).toNat).toInt, rfl, pq_face J, fun r M1 h zr1 hR1 => ?_⟩
  change zU room_1 QQ Γ mcL (145, k, n) 460 (lwL Γ b i) [zI r] M1
  refine zu_aload_n C 2 rfl (zdec_at dm_L8 12 rfl) rfl ?_
  refine zu_arg C X (j := 1) (by omega) (zdec_at dm_L8 13 rfl) (zdec_at dm_L8 14 rfl) (zdec_at dm_L8 15 rfl) (zdec_at dm_L8 16 rfl) (zdec_at dm_L8 17 rfl) ?_
  refine zu_arg C X (j := 2) (by omega) (zdec_at dm_L8 18 rfl) (zdec_at dm_L8 19 rfl) (zdec_at dm_L8 20 rfl) (zdec_at dm_L8 21 rfl) (zdec_at dm_L8 22 rfl) ?_
  refine zu_callV C [(xs (i + 1).toNat).toInt, (xs (i + 2).toNat).toInt] ok_X12_face ck_RL_58 iv_X12_face vc_X12 oc_103 rfl rfl (zdec_at dm_L8 23 rfl) ⟨rfl, hk.1, hk.2⟩ ⟨by decide, by decide⟩ (Nat.le_of_ble_eq_true rfl) (zall_0 (z_rtz _) (zall_0 (z_rtz _) zall_n)) ?_
  refine ⟨(xs (i + 1).toNat).toInt, (xs (i + 2).toNat).toInt, rfl, pk_face J h, fun r' M2 g zr2 hR2 => ?_⟩
  change zU room_1 QQ Γ mcL (145, k, n) 476 (lwL Γ b i) [zI r', zI r] M2
  have q := zq_face J h g
  exact zu_icmp_eq C zr1 zr2 (zdec_at dm_L8 24 rfl) rfl (fun _ => nx _ q.2) (fun e => absurd q.1 e)
theorem lc_9 (C : zC Γ mcL) (hk : k ≤ 601024 ∧ n ≤ 7293034) (X : lwX Γ b LL xs) (hi : 0 ≤ i ∧ i + 6 ≤ LL) (hv : v < 999999998) (J : zJn v M) (nx : ∀ M', zJn (v + 1) M' → zU room_1 QQ Γ mcL (145, k, n) 1699 (lwL Γ b i) [] M') : zU room_1 QQ Γ mcL (145, k, n) 481 (lwL Γ b i) [] M := by
  refine zu_aload_n C 3 rfl (zdec_at dm_L9 0 rfl) rfl ?_
  refine zu_arg C X (j := 1) (by omega) (zdec_at dm_L9 1 rfl) (zdec_at dm_L9 2 rfl) (zdec_at dm_L9 3 rfl) (zdec_at dm_L9 4 rfl) (zdec_at dm_L9 5 rfl) ?_
  refine zu_arg C X (j := 2) (by omega) (zdec_at dm_L9 6 rfl) (zdec_at dm_L9 7 rfl) (zdec_at dm_L9 8 rfl) (zdec_at dm_L9 9 rfl) (zdec_at dm_L9 10 rfl) ?_
  refine zu_arg C X (j := 3) (by omega) (zdec_at dm_L9 11 rfl) (zdec_at dm_L9 12 rfl) (zdec_at dm_L9 13 rfl) (zdec_at dm_L9 14 rfl) (zdec_at dm_L9 15 rfl) ?_
  refine zu_callV C [(xs (i + 1).toNat).toInt, (xs (i + 2).toNat).toInt, (xs (i + 3).toNat).toInt] ok_X11_pair ck_RL_59 iv_X11_pair vc_X11 oc_0 rfl rfl (zdec_at dm_L9 16 rfl) ⟨rfl, hk.1, hk.2⟩ ⟨by decide, by decide⟩ (Nat.le_of_ble_eq_true rfl) (zall_0 (z_rtz _) (zall_0 (z_rtz _) (zall_0 (z_rtz _) zall_n))) ?_
  refine ⟨(xs (i + 1).toNat).toInt, (xs (i + 2).toNat).toInt, (xs (i + 3).toNat).toInt, rfl, pq_pair J, fun r M1 h zr1 hR1 => ?_⟩
  change zU room_1 QQ Γ mcL (145, k, n) 503 (lwL Γ b i) [zI r] M1
  refine zu_aload_n C 2 rfl (zdec_at dm_L9 17 rfl) rfl ?_
  refine zu_arg C X (j := 1) (by omega) (zdec_at dm_L9 18 rfl) (zdec_at dm_L9 19 rfl) (zdec_at dm_L9 20 rfl) (zdec_at dm_L9 21 rfl) (zdec_at dm_L9 22 rfl) ?_
  refine zu_arg C X (j := 2) (by omega) (zdec_at dm_L9 23 rfl) (zdec_at dm_L9 24 rfl) (zdec_at dm_L9 25 rfl) (zdec_at dm_L9 26 rfl) (zdec_at dm_L9 27 rfl) ?_
  refine zu_arg C X (j := 3) (by omega) (zdec_at dm_L9 28 rfl) (zdec_at dm_L9 29 rfl) (zdec_at dm_L9 30 rfl) (zdec_at dm_L9 31 rfl) (zdec_at dm_L9 32 rfl) ?_
  refine zu_callV C [(xs (i + 1).toNat).toInt, (xs (i + 2).toNat).toInt, (xs (i + 3).toNat).toInt] ok_X12_pair ck_RL_63 iv_X12_pair vc_X12 oc_103 rfl rfl (zdec_at dm_L9 33 rfl) ⟨rfl, hk.1, hk.2⟩ ⟨by decide, by decide⟩ (Nat.le_of_ble_eq_true rfl) (zall_0 (z_rtz _) (zall_0 (z_rtz _) (zall_0 (z_rtz _) zall_n))) ?_
  refine ⟨(xs (i + 1).toNat).toInt, (xs (i + 2).toNat).toInt, (xs (i + 3).toNat).toInt, rfl, pk_pair J h, fun r' M2 g zr2 hR2 => ?_⟩
  change zU room_1 QQ Γ mcL (145, k, n) 525 (lwL Γ b i) [zI r', zI r] M2
  have q := zq_pair J h g
  exact zu_icmp_eq C zr1 zr2 (zdec_at dm_L9 34 rfl) rfl (fun _ => nx _ q.2) (fun e => absurd q.1 e)
theorem lc_10 (C : zC Γ mcL) (hk : k ≤ 601024 ∧ n ≤ 7293034) (X : lwX Γ b LL xs) (hi : 0 ≤ i ∧ i + 6 ≤ LL) (hv : v < 999999998) (J : zJn v M) (nx : ∀ M', zJn (v + 1) M' → zU room_1 QQ Γ mcL (145, k, n) 1699 (lwL Γ b i) [] M') : zU room_1 QQ Γ mcL (145, k, n) 530 (lwL Γ b i) [] M := by
  refine zu_aload_n C 3 rfl (zdec_at dm_L10 0 rfl) rfl ?_
  refine zu_arg C X (j := 1) (by omega) (zdec_at dm_L10 1 rfl) (zdec_at dm_L10 2 rfl) (zdec_at dm_L10 3 rfl) (zdec_at dm_L10 4 rfl) (zdec_at dm_L10 5 rfl) ?_
  refine zu_arg C X (j := 2) (by omega) (zdec_at dm_L10 6 rfl) (zdec_at dm_L10 7 rfl) (zdec_at dm_L10 8 rfl) (zdec_at dm_L10 9 rfl) (zdec_at dm_L10 10 rfl) ?_
  refine zu_arg C X (j := 3) (by omega) (zdec_at dm_L10 11 rfl) (zdec_at dm_L10 12 rfl) (zdec_at dm_L10 13 rfl) (zdec_at dm_L10 14 rfl) (zdec_at dm_L10 15 rfl) ?_
  refine zu_callV C [(xs (i + 1).toNat).toInt, (xs (i + 2).toNat).toInt, (xs (i + 3).toNat).toInt] ok_X11_step ck_RL_64 iv_X11_step vc_X11 oc_0 rfl rfl (zdec_at dm_L10 16 rfl) ⟨rfl, hk.1, hk.2⟩ ⟨by decide, by decide⟩ (Nat.le_of_ble_eq_true rfl) (zall_0 (z_rtz _) (zall_0 (z_rtz _) (zall_0 (z_rtz _) zall_n))) ?_
  refine ⟨(xs (i + 1).toNat).toInt, (xs (i + 2).toNat).toInt, (xs (i + 3).toNat).toInt, rfl, pq_step J, fun r M1 h zr1 hR1 => ?_⟩
  change zU room_1 QQ Γ mcL (145, k, n) 552 (lwL Γ b i) [zI r] M1
  refine zu_aload_n C 2 rfl (zdec_at dm_L10 17 rfl) rfl ?_
  refine zu_arg C X (j := 1) (by omega) (zdec_at dm_L10 18 rfl) (zdec_at dm_L10 19 rfl) (zdec_at dm_L10 20 rfl) (zdec_at dm_L10 21 rfl) (zdec_at dm_L10 22 rfl) ?_
  refine zu_arg C X (j := 2) (by omega) (zdec_at dm_L10 23 rfl) (zdec_at dm_L10 24 rfl) (zdec_at dm_L10 25 rfl) (zdec_at dm_L10 26 rfl) (zdec_at dm_L10 27 rfl) ?_
  refine zu_arg C X (j := 3) (by omega) (zdec_at dm_L10 28 rfl) (zdec_at dm_L10 29 rfl) (zdec_at dm_L10 30 rfl) (zdec_at dm_L10 31 rfl) (zdec_at dm_L10 32 rfl) ?_
  refine zu_callV C [(xs (i + 1).toNat).toInt, (xs (i + 2).toNat).toInt, (xs (i + 3).toNat).toInt] ok_X12_step ck_RL_67 iv_X12_step vc_X12 oc_103 rfl rfl (zdec_at dm_L10 33 rfl) ⟨rfl, hk.1, hk.2⟩ ⟨by decide, by decide⟩ (Nat.le_of_ble_eq_true rfl) (zall_0 (z_rtz _) (zall_0 (z_rtz _) (zall_0 (z_rtz _) zall_n))) ?_
  refine ⟨(xs (i + 1).toNat).toInt, (xs (i + 2).toNat).toInt, (xs (i + 3).toNat).toInt, rfl, pk_step J h, fun r' M2 g zr2 hR2 => ?_⟩
  change zU room_1 QQ Γ mcL (145, k, n) 574 (lwL Γ b i) [zI r', zI r] M2
  have q := zq_step J h g
  exact zu_icmp_eq C zr1 zr2 (zdec_at dm_L10 34 rfl) rfl (fun _ => nx _ q.2) (fun e => absurd q.1 e)
theorem lc_11 (C : zC Γ mcL) (hk : k ≤ 601024 ∧ n ≤ 7293034) (X : lwX Γ b LL xs) (hi : 0 ≤ i ∧ i + 6 ≤ LL) (hv : v < 999999998) (J : zJn v M) (nx : ∀ M', zJn (v + 1) M' → zU room_1 QQ Γ mcL (145, k, n) 1699 (lwL Γ b i) [] M') : zU room_1 QQ Γ mcL (145, k, n) 579 (lwL Γ b i) [] M := by
  refine zu_aload_n C 3 rfl (zdec_at dm_L11 0 rfl) rfl ?_
  refine zu_arg C X (j := 1) (by omega) (zdec_at dm_L11 1 rfl) (zdec_at dm_L11 2 rfl) (zdec_at dm_L11 3 rfl) (zdec_at dm_L11 4 rfl) (zdec_at dm_L11 5 rfl) ?_
  refine zu_arg C X (j := 2) (by omega) (zdec_at dm_L11 6 rfl) (zdec_at dm_L11 7 rfl) (zdec_at dm_L11 8 rfl) (zdec_at dm_L11 9 rfl) (zdec_at dm_L11 10 rfl) ?_
  refine zu_callV C [(xs (i + 1).toNat).toInt, (xs (i + 2).toNat).toInt] ok_X11_corners ck_RL_68 iv_X11_corners vc_X11 oc_0 rfl rfl (zdec_at dm_L11 11 rfl) ⟨rfl, hk.1, hk.2⟩ ⟨by decide, by decide⟩ (Nat.le_of_ble_eq_true rfl) (zall_0 (z_rtz _) (zall_0 (z_rtz _) zall_n)) ?_
  refine ⟨(xs (i + 1).toNat).toInt, (xs (i + 2).toNat).toInt, rfl, pq_corners J, fun r M1 h zr1 hR1 => ?_⟩
  change zU room_1 QQ Γ mcL (145, k, n) 595 (lwL Γ b i) [zI r] M1
  refine zu_aload_n C 2 rfl (zdec_at dm_L11 12 rfl) rfl ?_
  refine zu_arg C X (j := 1) (by omega) (zdec_at dm_L11 13 rfl) (zdec_at dm_L11 14 rfl) (zdec_at dm_L11 15 rfl) (zdec_at dm_L11 16 rfl) (zdec_at dm_L11 17 rfl) ?_
  refine zu_arg C X (j := 2) (by omega) (zdec_at dm_L11 18 rfl) (zdec_at dm_L11 19 rfl) (zdec_at dm_L11 20 rfl) (zdec_at dm_L11 21 rfl) (zdec_at dm_L11 22 rfl) ?_
  refine zu_callV C [(xs (i + 1).toNat).toInt, (xs (i + 2).toNat).toInt] ok_X12_corners ck_RL_71 iv_X12_corners vc_X12 oc_103 rfl rfl (zdec_at dm_L11 23 rfl) ⟨rfl, hk.1, hk.2⟩ ⟨by decide, by decide⟩ (Nat.le_of_ble_eq_true rfl) (zall_0 (z_rtz _) (zall_0 (z_rtz _) zall_n)) ?_
  refine ⟨(xs (i + 1).toNat).toInt, (xs (i + 2).toNat).toInt, rfl, pk_corners J h, fun r' M2 g zr2 hR2 => ?_⟩
  change zU room_1 QQ Γ mcL (145, k, n) 611 (lwL Γ b i) [zI r', zI r] M2
  have q := zq_corners J h g
  exact zu_icmp_eq C zr1 zr2 (zdec_at dm_L11 24 rfl) rfl (fun _ => nx _ q.2) (fun e => absurd q.1 e)
theorem lc_12 (C : zC Γ mcL) (hk : k ≤ 601024 ∧ n ≤ 7293034) (X : lwX Γ b LL xs) (hi : 0 ≤ i ∧ i + 6 ≤ LL) (hv : v < 999999998) (J : zJn v M) (nx : ∀ M', zJn (v + 1) M' → zU room_1 QQ Γ mcL (145, k, n) 1699 (lwL Γ b i) [] M') : zU room_1 QQ Γ mcL (145, k, n) 616 (lwL Γ b i) [] M := by
  refine zu_aload_n C 3 rfl (zdec_at dm_L12 0 rfl) rfl ?_
  refine zu_arg C X (j := 1) (by omega) (zdec_at dm_L12 1 rfl) (zdec_at dm_L12 2 rfl) (zdec_at dm_L12 3 rfl) (zdec_at dm_L12 4 rfl) (zdec_at dm_L12 5 rfl) ?_
  refine zu_arg C X (j := 2) (by omega) (zdec_at dm_L12 6 rfl) (zdec_at dm_L12 7 rfl) (zdec_at dm_L12 8 rfl) (zdec_at dm_L12 9 rfl) (zdec_at dm_L12 10 rfl) ?_
  refine zu_arg C X (j := 3) (by omega) (zdec_at dm_L12 11 rfl) (zdec_at dm_L12 12 rfl) (zdec_at dm_L12 13 rfl) (zdec_at dm_L12 14 rfl) (zdec_at dm_L12 15 rfl) ?_
  refine zu_callV C [(xs (i + 1).toNat).toInt, (xs (i + 2).toNat).toInt, (xs (i + 3).toNat).toInt] ok_X11_cornered ck_RL_72 iv_X11_cornered vc_X11 oc_0 rfl rfl (zdec_at dm_L12 16 rfl) ⟨rfl, hk.1, hk.2⟩ ⟨by decide, by decide⟩ (Nat.le_of_ble_eq_true rfl) (zall_0 (z_rtz _) (zall_0 (z_rtz _) (zall_0 (z_rtz _) zall_n))) ?_
  refine ⟨(xs (i + 1).toNat).toInt, (xs (i + 2).toNat).toInt, (xs (i + 3).toNat).toInt, rfl, pq_cornered J, fun r M1 h zr1 hR1 => ?_⟩
  change zU room_1 QQ Γ mcL (145, k, n) 638 (lwL Γ b i) [zI r] M1
  refine zu_aload_n C 2 rfl (zdec_at dm_L12 17 rfl) rfl ?_
  refine zu_arg C X (j := 1) (by omega) (zdec_at dm_L12 18 rfl) (zdec_at dm_L12 19 rfl) (zdec_at dm_L12 20 rfl) (zdec_at dm_L12 21 rfl) (zdec_at dm_L12 22 rfl) ?_
  refine zu_arg C X (j := 2) (by omega) (zdec_at dm_L12 23 rfl) (zdec_at dm_L12 24 rfl) (zdec_at dm_L12 25 rfl) (zdec_at dm_L12 26 rfl) (zdec_at dm_L12 27 rfl) ?_
  refine zu_arg C X (j := 3) (by omega) (zdec_at dm_L12 28 rfl) (zdec_at dm_L12 29 rfl) (zdec_at dm_L12 30 rfl) (zdec_at dm_L12 31 rfl) (zdec_at dm_L12 32 rfl) ?_
  refine zu_callV C [(xs (i + 1).toNat).toInt, (xs (i + 2).toNat).toInt, (xs (i + 3).toNat).toInt] ok_X12_cornered ck_RL_75 iv_X12_cornered vc_X12 oc_103 rfl rfl (zdec_at dm_L12 33 rfl) ⟨rfl, hk.1, hk.2⟩ ⟨by decide, by decide⟩ (Nat.le_of_ble_eq_true rfl) (zall_0 (z_rtz _) (zall_0 (z_rtz _) (zall_0 (z_rtz _) zall_n))) ?_
  refine ⟨(xs (i + 1).toNat).toInt, (xs (i + 2).toNat).toInt, (xs (i + 3).toNat).toInt, rfl, pk_cornered J h, fun r' M2 g zr2 hR2 => ?_⟩
  change zU room_1 QQ Γ mcL (145, k, n) 660 (lwL Γ b i) [zI r', zI r] M2
  have q := zq_cornered J h g
  exact zu_icmp_eq C zr1 zr2 (zdec_at dm_L12 34 rfl) rfl (fun _ => nx _ q.2) (fun e => absurd q.1 e)
theorem lc_13 (C : zC Γ mcL) (hk : k ≤ 601024 ∧ n ≤ 7293034) (X : lwX Γ b LL xs) (hi : 0 ≤ i ∧ i + 6 ≤ LL) (hv : v < 999999998) (J : zJn v M) (nx : ∀ M', zJn (v + 1) M' → zU room_1 QQ Γ mcL (145, k, n) 1699 (lwL Γ b i) [] M') : zU room_1 QQ Γ mcL (145, k, n) 665 (lwL Γ b i) [] M := by
  refine zu_aload_n C 3 rfl (zdec_at dm_L13 0 rfl) rfl ?_
  refine zu_arg C X (j := 1) (by omega) (zdec_at dm_L13 1 rfl) (zdec_at dm_L13 2 rfl) (zdec_at dm_L13 3 rfl) (zdec_at dm_L13 4 rfl) (zdec_at dm_L13 5 rfl) ?_
  refine zu_arg C X (j := 2) (by omega) (zdec_at dm_L13 6 rfl) (zdec_at dm_L13 7 rfl) (zdec_at dm_L13 8 rfl) (zdec_at dm_L13 9 rfl) (zdec_at dm_L13 10 rfl) ?_
  refine zu_arg C X (j := 3) (by omega) (zdec_at dm_L13 11 rfl) (zdec_at dm_L13 12 rfl) (zdec_at dm_L13 13 rfl) (zdec_at dm_L13 14 rfl) (zdec_at dm_L13 15 rfl) ?_
  refine zu_arg C X (j := 4) (by omega) (zdec_at dm_L13 16 rfl) (zdec_at dm_L13 17 rfl) (zdec_at dm_L13 18 rfl) (zdec_at dm_L13 19 rfl) (zdec_at dm_L13 20 rfl) ?_
  refine zu_callV C [(xs (i + 1).toNat).toInt, (xs (i + 2).toNat).toInt, (xs (i + 3).toNat).toInt, (xs (i + 4).toNat).toInt] ok_X11_inBand ck_RL_76 iv_X11_inBand vc_X11 oc_0 rfl rfl (zdec_at dm_L13 21 rfl) ⟨rfl, hk.1, hk.2⟩ ⟨by decide, by decide⟩ (Nat.le_of_ble_eq_true rfl) (zall_0 (z_rtz _) (zall_0 (z_rtz _) (zall_0 (z_rtz _) (zall_0 (z_rtz _) zall_n)))) ?_
  refine ⟨(xs (i + 1).toNat).toInt, (xs (i + 2).toNat).toInt, (xs (i + 3).toNat).toInt, (xs (i + 4).toNat).toInt, rfl, pq_inBand J, fun r M1 h zr1 hR1 => ?_⟩
  change zU room_1 QQ Γ mcL (145, k, n) 693 (lwL Γ b i) [zI r] M1
  refine zu_aload_n C 2 rfl (zdec_at dm_L13 22 rfl) rfl ?_
  refine zu_arg C X (j := 1) (by omega) (zdec_at dm_L13 23 rfl) (zdec_at dm_L13 24 rfl) (zdec_at dm_L13 25 rfl) (zdec_at dm_L13 26 rfl) (zdec_at dm_L13 27 rfl) ?_
  refine zu_arg C X (j := 2) (by omega) (zdec_at dm_L13 28 rfl) (zdec_at dm_L13 29 rfl) (zdec_at dm_L13 30 rfl) (zdec_at dm_L13 31 rfl) (zdec_at dm_L13 32 rfl) ?_
  refine zu_arg C X (j := 3) (by omega) (zdec_at dm_L13 33 rfl) (zdec_at dm_L13 34 rfl) (zdec_at dm_L13 35 rfl) (zdec_at dm_L13 36 rfl) (zdec_at dm_L13 37 rfl) ?_
  refine zu_arg C X (j := 4) (by omega) (zdec_at dm_L13 38 rfl) (zdec_at dm_L13 39 rfl) (zdec_at dm_L13 40 rfl) (zdec_at dm_L13 41 rfl) (zdec_at dm_L13 42 rfl) ?_
  refine zu_callV C [(xs (i + 1).toNat).toInt, (xs (i + 2).toNat).toInt, (xs (i + 3).toNat).toInt, (xs (i + 4).toNat).toInt] ok_X12_inBand ck_RL_80 iv_X12_inBand vc_X12 oc_103 rfl rfl (zdec_at dm_L13 43 rfl) ⟨rfl, hk.1, hk.2⟩ ⟨by decide, by decide⟩ (Nat.le_of_ble_eq_true rfl) (zall_0 (z_rtz _) (zall_0 (z_rtz _) (zall_0 (z_rtz _) (zall_0 (z_rtz _) zall_n)))) ?_
  refine ⟨(xs (i + 1).toNat).toInt, (xs (i + 2).toNat).toInt, (xs (i + 3).toNat).toInt, (xs (i + 4).toNat).toInt, rfl, pk_inBand J h, fun r' M2 g zr2 hR2 => ?_⟩
  change zU room_1 QQ Γ mcL (145, k, n) 721 (lwL Γ b i) [zI r', zI r] M2
  have q := zq_inBand J h g
  exact zu_icmp_eq C zr1 zr2 (zdec_at dm_L13 44 rfl) rfl (fun _ => nx _ q.2) (fun e => absurd q.1 e)
theorem lc_14 (C : zC Γ mcL) (hk : k ≤ 601024 ∧ n ≤ 7293034) (X : lwX Γ b LL xs) (hi : 0 ≤ i ∧ i + 6 ≤ LL) (hv : v < 999999998) (J : zJn v M) (nx : ∀ M', zJn (v + 1) M' → zU room_1 QQ Γ mcL (145, k, n) 1699 (lwL Γ b i) [] M') : zU room_1 QQ Γ mcL (145, k, n) 726 (lwL Γ b i) [] M := by
  refine zu_aload_n C 3 rfl (zdec_at dm_L14 0 rfl) rfl ?_
  refine zu_arg C X (j := 1) (by omega) (zdec_at dm_L14 1 rfl) (zdec_at dm_L14 2 rfl) (zdec_at dm_L14 3 rfl) (zdec_at dm_L14 4 rfl) (zdec_at dm_L14 5 rfl) ?_
  refine zu_arg C X (j := 2) (by omega) (zdec_at dm_L14 6 rfl) (zdec_at dm_L14 7 rfl) (zdec_at dm_L14 8 rfl) (zdec_at dm_L14 9 rfl) (zdec_at dm_L14 10 rfl) ?_
  refine zu_arg C X (j := 3) (by omega) (zdec_at dm_L14 11 rfl) (zdec_at dm_L14 12 rfl) (zdec_at dm_L14 13 rfl) (zdec_at dm_L14 14 rfl) (zdec_at dm_L14 15 rfl) ?_
  refine zu_callV C [(xs (i + 1).toNat).toInt, (xs (i + 2).toNat).toInt, (xs (i + 3).toNat).toInt] ok_X11_fewest ck_RL_81 iv_X11_fewest vc_X11 oc_0 rfl rfl (zdec_at dm_L14 16 rfl) ⟨rfl, hk.1, hk.2⟩ ⟨by decide, by decide⟩ (Nat.le_of_ble_eq_true rfl) (zall_0 (z_rtz _) (zall_0 (z_rtz _) (zall_0 (z_rtz _) zall_n))) ?_
  refine ⟨(xs (i + 1).toNat).toInt, (xs (i + 2).toNat).toInt, (xs (i + 3).toNat).toInt, rfl, pq_fewest J, fun r M1 h zr1 hR1 => ?_⟩
  change zU room_1 QQ Γ mcL (145, k, n) 748 (lwL Γ b i) [zI r] M1
  refine zu_aload_n C 2 rfl (zdec_at dm_L14 17 rfl) rfl ?_
  refine zu_arg C X (j := 1) (by omega) (zdec_at dm_L14 18 rfl) (zdec_at dm_L14 19 rfl) (zdec_at dm_L14 20 rfl) (zdec_at dm_L14 21 rfl) (zdec_at dm_L14 22 rfl) ?_
  refine zu_arg C X (j := 2) (by omega) (zdec_at dm_L14 23 rfl) (zdec_at dm_L14 24 rfl) (zdec_at dm_L14 25 rfl) (zdec_at dm_L14 26 rfl) (zdec_at dm_L14 27 rfl) ?_
  refine zu_arg C X (j := 3) (by omega) (zdec_at dm_L14 28 rfl) (zdec_at dm_L14 29 rfl) (zdec_at dm_L14 30 rfl) (zdec_at dm_L14 31 rfl) (zdec_at dm_L14 32 rfl) ?_
  refine zu_callV C [(xs (i + 1).toNat).toInt, (xs (i + 2).toNat).toInt, (xs (i + 3).toNat).toInt] ok_X12_fewest ck_RL_84 iv_X12_fewest vc_X12 oc_103 rfl rfl (zdec_at dm_L14 33 rfl) ⟨rfl, hk.1, hk.2⟩ ⟨by decide, by decide⟩ (Nat.le_of_ble_eq_true rfl) (zall_0 (z_rtz _) (zall_0 (z_rtz _) (zall_0 (z_rtz _) zall_n))) ?_
  refine ⟨(xs (i + 1).toNat).toInt, (xs (i + 2).toNat).toInt, (xs (i + 3).toNat).toInt, rfl, pk_fewest J h, fun r' M2 g zr2 hR2 => ?_⟩
  change zU room_1 QQ Γ mcL (145, k, n) 770 (lwL Γ b i) [zI r', zI r] M2
  have q := zq_fewest J h g
  exact zu_icmp_eq C zr1 zr2 (zdec_at dm_L14 34 rfl) rfl (fun _ => nx _ q.2) (fun e => absurd q.1 e)
theorem lc_15 (C : zC Γ mcL) (hk : k ≤ 601024 ∧ n ≤ 7293034) (X : lwX Γ b LL xs) (hi : 0 ≤ i ∧ i + 6 ≤ LL) (hv : v < 999999998) (J : zJn v M) (nx : ∀ M', zJn (v + 1) M' → zU room_1 QQ Γ mcL (145, k, n) 1699 (lwL Γ b i) [] M') : zU room_1 QQ Γ mcL (145, k, n) 775 (lwL Γ b i) [] M := by
  refine zu_aload_n C 3 rfl (zdec_at dm_L15 0 rfl) rfl ?_
  refine zu_arg C X (j := 1) (by omega) (zdec_at dm_L15 1 rfl) (zdec_at dm_L15 2 rfl) (zdec_at dm_L15 3 rfl) (zdec_at dm_L15 4 rfl) (zdec_at dm_L15 5 rfl) ?_
  refine zu_arg C X (j := 2) (by omega) (zdec_at dm_L15 6 rfl) (zdec_at dm_L15 7 rfl) (zdec_at dm_L15 8 rfl) (zdec_at dm_L15 9 rfl) (zdec_at dm_L15 10 rfl) ?_
  refine zu_arg C X (j := 3) (by omega) (zdec_at dm_L15 11 rfl) (zdec_at dm_L15 12 rfl) (zdec_at dm_L15 13 rfl) (zdec_at dm_L15 14 rfl) (zdec_at dm_L15 15 rfl) ?_
  refine zu_callV C [(xs (i + 1).toNat).toInt, (xs (i + 2).toNat).toInt, (xs (i + 3).toNat).toInt] ok_X11_drawn ck_RL_85 iv_X11_drawn vc_X11 oc_0 rfl rfl (zdec_at dm_L15 16 rfl) ⟨rfl, hk.1, hk.2⟩ ⟨by decide, by decide⟩ (Nat.le_of_ble_eq_true rfl) (zall_0 (z_rtz _) (zall_0 (z_rtz _) (zall_0 (z_rtz _) zall_n))) ?_
  refine ⟨(xs (i + 1).toNat).toInt, (xs (i + 2).toNat).toInt, (xs (i + 3).toNat).toInt, rfl, pq_drawn J, fun r M1 h zr1 hR1 => ?_⟩
  change zU room_1 QQ Γ mcL (145, k, n) 797 (lwL Γ b i) [zI r] M1
  refine zu_aload_n C 2 rfl (zdec_at dm_L15 17 rfl) rfl ?_
  refine zu_arg C X (j := 1) (by omega) (zdec_at dm_L15 18 rfl) (zdec_at dm_L15 19 rfl) (zdec_at dm_L15 20 rfl) (zdec_at dm_L15 21 rfl) (zdec_at dm_L15 22 rfl) ?_
  refine zu_arg C X (j := 2) (by omega) (zdec_at dm_L15 23 rfl) (zdec_at dm_L15 24 rfl) (zdec_at dm_L15 25 rfl) (zdec_at dm_L15 26 rfl) (zdec_at dm_L15 27 rfl) ?_
  refine zu_arg C X (j := 3) (by omega) (zdec_at dm_L15 28 rfl) (zdec_at dm_L15 29 rfl) (zdec_at dm_L15 30 rfl) (zdec_at dm_L15 31 rfl) (zdec_at dm_L15 32 rfl) ?_
  refine zu_callV C [(xs (i + 1).toNat).toInt, (xs (i + 2).toNat).toInt, (xs (i + 3).toNat).toInt] ok_X12_drawn ck_RL_88 iv_X12_drawn vc_X12 oc_103 rfl rfl (zdec_at dm_L15 33 rfl) ⟨rfl, hk.1, hk.2⟩ ⟨by decide, by decide⟩ (Nat.le_of_ble_eq_true rfl) (zall_0 (z_rtz _) (zall_0 (z_rtz _) (zall_0 (z_rtz _) zall_n))) ?_
  refine ⟨(xs (i + 1).toNat).toInt, (xs (i + 2).toNat).toInt, (xs (i + 3).toNat).toInt, rfl, pk_drawn J h, fun r' M2 g zr2 hR2 => ?_⟩
  change zU room_1 QQ Γ mcL (145, k, n) 819 (lwL Γ b i) [zI r', zI r] M2
  have q := zq_drawn J h g
  exact zu_icmp_eq C zr1 zr2 (zdec_at dm_L15 34 rfl) rfl (fun _ => nx _ q.2) (fun e => absurd q.1 e)
theorem lc_16 (C : zC Γ mcL) (hk : k ≤ 601024 ∧ n ≤ 7293034) (X : lwX Γ b LL xs) (hi : 0 ≤ i ∧ i + 6 ≤ LL) (hv : v < 999999998) (J : zJn v M) (nx : ∀ M', zJn (v + 1) M' → zU room_1 QQ Γ mcL (145, k, n) 1699 (lwL Γ b i) [] M') : zU room_1 QQ Γ mcL (145, k, n) 824 (lwL Γ b i) [] M := by
  refine zu_aload_n C 3 rfl (zdec_at dm_L16 0 rfl) rfl ?_
  refine zu_arg C X (j := 1) (by omega) (zdec_at dm_L16 1 rfl) (zdec_at dm_L16 2 rfl) (zdec_at dm_L16 3 rfl) (zdec_at dm_L16 4 rfl) (zdec_at dm_L16 5 rfl) ?_
  refine zu_arg C X (j := 2) (by omega) (zdec_at dm_L16 6 rfl) (zdec_at dm_L16 7 rfl) (zdec_at dm_L16 8 rfl) (zdec_at dm_L16 9 rfl) (zdec_at dm_L16 10 rfl) ?_
  refine zu_callV C [(xs (i + 1).toNat).toInt, (xs (i + 2).toNat).toInt] ok_X11_differ ck_RL_89 iv_X11_differ vc_X11 oc_0 rfl rfl (zdec_at dm_L16 11 rfl) ⟨rfl, hk.1, hk.2⟩ ⟨by decide, by decide⟩ (Nat.le_of_ble_eq_true rfl) (zall_0 (z_rtz _) (zall_0 (z_rtz _) zall_n)) ?_
  refine ⟨(xs (i + 1).toNat).toInt, (xs (i + 2).toNat).toInt, rfl, pq_differ J, fun r M1 h zr1 hR1 => ?_⟩
  change zU room_1 QQ Γ mcL (145, k, n) 840 (lwL Γ b i) [zI r] M1
  refine zu_aload_n C 2 rfl (zdec_at dm_L16 12 rfl) rfl ?_
  refine zu_arg C X (j := 1) (by omega) (zdec_at dm_L16 13 rfl) (zdec_at dm_L16 14 rfl) (zdec_at dm_L16 15 rfl) (zdec_at dm_L16 16 rfl) (zdec_at dm_L16 17 rfl) ?_
  refine zu_arg C X (j := 2) (by omega) (zdec_at dm_L16 18 rfl) (zdec_at dm_L16 19 rfl) (zdec_at dm_L16 20 rfl) (zdec_at dm_L16 21 rfl) (zdec_at dm_L16 22 rfl) ?_
  refine zu_callV C [(xs (i + 1).toNat).toInt, (xs (i + 2).toNat).toInt] ok_X12_differ ck_RL_92 iv_X12_differ vc_X12 oc_103 rfl rfl (zdec_at dm_L16 23 rfl) ⟨rfl, hk.1, hk.2⟩ ⟨by decide, by decide⟩ (Nat.le_of_ble_eq_true rfl) (zall_0 (z_rtz _) (zall_0 (z_rtz _) zall_n)) ?_
  refine ⟨(xs (i + 1).toNat).toInt, (xs (i + 2).toNat).toInt, rfl, pk_differ J h, fun r' M2 g zr2 hR2 => ?_⟩
  change zU room_1 QQ Γ mcL (145, k, n) 856 (lwL Γ b i) [zI r', zI r] M2
  have q := zq_differ J h g
  exact zu_icmp_eq C zr1 zr2 (zdec_at dm_L16 24 rfl) rfl (fun _ => nx _ q.2) (fun e => absurd q.1 e)
theorem lc_17 (C : zC Γ mcL) (hk : k ≤ 601024 ∧ n ≤ 7293034) (X : lwX Γ b LL xs) (hi : 0 ≤ i ∧ i + 6 ≤ LL) (hv : v < 999999998) (J : zJn v M) (nx : ∀ M', zJn (v + 1) M' → zU room_1 QQ Γ mcL (145, k, n) 1699 (lwL Γ b i) [] M') : zU room_1 QQ Γ mcL (145, k, n) 861 (lwL Γ b i) [] M := by
  refine zu_aload_n C 3 rfl (zdec_at dm_L17 0 rfl) rfl ?_
  refine zu_arg C X (j := 1) (by omega) (zdec_at dm_L17 1 rfl) (zdec_at dm_L17 2 rfl) (zdec_at dm_L17 3 rfl) (zdec_at dm_L17 4 rfl) (zdec_at dm_L17 5 rfl) ?_
  refine zu_arg C X (j := 2) (by omega) (zdec_at dm_L17 6 rfl) (zdec_at dm_L17 7 rfl) (zdec_at dm_L17 8 rfl) (zdec_at dm_L17 9 rfl) (zdec_at dm_L17 10 rfl) ?_
  refine zu_callV C [(xs (i + 1).toNat).toInt, (xs (i + 2).toNat).toInt] ok_X11_breadth ck_RL_93 iv_X11_breadth vc_X11 oc_0 rfl rfl (zdec_at dm_L17 11 rfl) ⟨rfl, hk.1, hk.2⟩ ⟨by decide, by decide⟩ (Nat.le_of_ble_eq_true rfl) (zall_0 (z_rtz _) (zall_0 (z_rtz _) zall_n)) ?_
  refine ⟨(xs (i + 1).toNat).toInt, (xs (i + 2).toNat).toInt, rfl, pq_breadth J, fun r M1 h zr1 hR1 => ?_⟩
  change zU room_1 QQ Γ mcL (145, k, n) 877 (lwL Γ b i) [zI r] M1
  refine zu_aload_n C 2 rfl (zdec_at dm_L17 12 rfl) rfl ?_
  refine zu_arg C X (j := 1) (by omega) (zdec_at dm_L17 13 rfl) (zdec_at dm_L17 14 rfl) (zdec_at dm_L17 15 rfl) (zdec_at dm_L17 16 rfl) (zdec_at dm_L17 17 rfl) ?_
  refine zu_arg C X (j := 2) (by omega) (zdec_at dm_L17 18 rfl) (zdec_at dm_L17 19 rfl) (zdec_at dm_L17 20 rfl) (zdec_at dm_L17 21 rfl) (zdec_at dm_L17 22 rfl) ?_
  refine zu_callV C [(xs (i + 1).toNat).toInt, (xs (i + 2).toNat).toInt] ok_X12_breadth ck_RL_96 iv_X12_breadth vc_X12 oc_103 rfl rfl (zdec_at dm_L17 23 rfl) ⟨rfl, hk.1, hk.2⟩ ⟨by decide, by decide⟩ (Nat.le_of_ble_eq_true rfl) (zall_0 (z_rtz _) (zall_0 (z_rtz _) zall_n)) ?_
  refine ⟨(xs (i + 1).toNat).toInt, (xs (i + 2).toNat).toInt, rfl, pk_breadth J h, fun r' M2 g zr2 hR2 => ?_⟩
  change zU room_1 QQ Γ mcL (145, k, n) 893 (lwL Γ b i) [zI r', zI r] M2
  have q := zq_breadth J h g
  exact zu_icmp_eq C zr1 zr2 (zdec_at dm_L17 24 rfl) rfl (fun _ => nx _ q.2) (fun e => absurd q.1 e)
theorem lc_18 (C : zC Γ mcL) (hk : k ≤ 601024 ∧ n ≤ 7293034) (X : lwX Γ b LL xs) (hi : 0 ≤ i ∧ i + 6 ≤ LL) (hv : v < 999999998) (J : zJn v M) (nx : ∀ M', zJn (v + 1) M' → zU room_1 QQ Γ mcL (145, k, n) 1699 (lwL Γ b i) [] M') : zU room_1 QQ Γ mcL (145, k, n) 898 (lwL Γ b i) [] M := by
  refine zu_aload_n C 3 rfl (zdec_at dm_L18 0 rfl) rfl ?_
  refine zu_arg C X (j := 1) (by omega) (zdec_at dm_L18 1 rfl) (zdec_at dm_L18 2 rfl) (zdec_at dm_L18 3 rfl) (zdec_at dm_L18 4 rfl) (zdec_at dm_L18 5 rfl) ?_
  refine zu_arg C X (j := 2) (by omega) (zdec_at dm_L18 6 rfl) (zdec_at dm_L18 7 rfl) (zdec_at dm_L18 8 rfl) (zdec_at dm_L18 9 rfl) (zdec_at dm_L18 10 rfl) ?_
  refine zu_callV C [(xs (i + 1).toNat).toInt, (xs (i + 2).toNat).toInt] ok_X11_stroke ck_RL_97 iv_X11_stroke vc_X11 oc_0 rfl rfl (zdec_at dm_L18 11 rfl) ⟨rfl, hk.1, hk.2⟩ ⟨by decide, by decide⟩ (Nat.le_of_ble_eq_true rfl) (zall_0 (z_rtz _) (zall_0 (z_rtz _) zall_n)) ?_
  refine ⟨(xs (i + 1).toNat).toInt, (xs (i + 2).toNat).toInt, rfl, pq_stroke J, fun r M1 h zr1 hR1 => ?_⟩
  change zU room_1 QQ Γ mcL (145, k, n) 914 (lwL Γ b i) [zI r] M1
  refine zu_aload_n C 2 rfl (zdec_at dm_L18 12 rfl) rfl ?_
  refine zu_arg C X (j := 1) (by omega) (zdec_at dm_L18 13 rfl) (zdec_at dm_L18 14 rfl) (zdec_at dm_L18 15 rfl) (zdec_at dm_L18 16 rfl) (zdec_at dm_L18 17 rfl) ?_
  refine zu_arg C X (j := 2) (by omega) (zdec_at dm_L18 18 rfl) (zdec_at dm_L18 19 rfl) (zdec_at dm_L18 20 rfl) (zdec_at dm_L18 21 rfl) (zdec_at dm_L18 22 rfl) ?_
  refine zu_callV C [(xs (i + 1).toNat).toInt, (xs (i + 2).toNat).toInt] ok_X12_stroke ck_RL_100 iv_X12_stroke vc_X12 oc_103 rfl rfl (zdec_at dm_L18 23 rfl) ⟨rfl, hk.1, hk.2⟩ ⟨by decide, by decide⟩ (Nat.le_of_ble_eq_true rfl) (zall_0 (z_rtz _) (zall_0 (z_rtz _) zall_n)) ?_
  refine ⟨(xs (i + 1).toNat).toInt, (xs (i + 2).toNat).toInt, rfl, pk_stroke J h, fun r' M2 g zr2 hR2 => ?_⟩
  change zU room_1 QQ Γ mcL (145, k, n) 930 (lwL Γ b i) [zI r', zI r] M2
  have q := zq_stroke J h g
  exact zu_icmp_eq C zr1 zr2 (zdec_at dm_L18 24 rfl) rfl (fun _ => nx _ q.2) (fun e => absurd q.1 e)
theorem lc_19 (C : zC Γ mcL) (hk : k ≤ 601024 ∧ n ≤ 7293034) (X : lwX Γ b LL xs) (hi : 0 ≤ i ∧ i + 6 ≤ LL) (hv : v < 999999998) (J : zJn v M) (nx : ∀ M', zJn (v + 1) M' → zU room_1 QQ Γ mcL (145, k, n) 1699 (lwL Γ b i) [] M') : zU room_1 QQ Γ mcL (145, k, n) 935 (lwL Γ b i) [] M := by
  refine zu_aload_n C 3 rfl (zdec_at dm_L19 0 rfl) rfl ?_
  refine zu_arg C X (j := 1) (by omega) (zdec_at dm_L19 1 rfl) (zdec_at dm_L19 2 rfl) (zdec_at dm_L19 3 rfl) (zdec_at dm_L19 4 rfl) (zdec_at dm_L19 5 rfl) ?_
  refine zu_arg C X (j := 2) (by omega) (zdec_at dm_L19 6 rfl) (zdec_at dm_L19 7 rfl) (zdec_at dm_L19 8 rfl) (zdec_at dm_L19 9 rfl) (zdec_at dm_L19 10 rfl) ?_
  refine zu_callV C [(xs (i + 1).toNat).toInt, (xs (i + 2).toNat).toInt] ok_X11_like ck_RL_101 iv_X11_like vc_X11 oc_0 rfl rfl (zdec_at dm_L19 11 rfl) ⟨rfl, hk.1, hk.2⟩ ⟨by decide, by decide⟩ (Nat.le_of_ble_eq_true rfl) (zall_0 (z_rtz _) (zall_0 (z_rtz _) zall_n)) ?_
  refine ⟨(xs (i + 1).toNat).toInt, (xs (i + 2).toNat).toInt, rfl, pq_like J, fun r M1 h zr1 hR1 => ?_⟩
  change zU room_1 QQ Γ mcL (145, k, n) 951 (lwL Γ b i) [zI r] M1
  refine zu_aload_n C 2 rfl (zdec_at dm_L19 12 rfl) rfl ?_
  refine zu_arg C X (j := 1) (by omega) (zdec_at dm_L19 13 rfl) (zdec_at dm_L19 14 rfl) (zdec_at dm_L19 15 rfl) (zdec_at dm_L19 16 rfl) (zdec_at dm_L19 17 rfl) ?_
  refine zu_arg C X (j := 2) (by omega) (zdec_at dm_L19 18 rfl) (zdec_at dm_L19 19 rfl) (zdec_at dm_L19 20 rfl) (zdec_at dm_L19 21 rfl) (zdec_at dm_L19 22 rfl) ?_
  refine zu_callV C [(xs (i + 1).toNat).toInt, (xs (i + 2).toNat).toInt] ok_X12_like ck_RL_104 iv_X12_like vc_X12 oc_103 rfl rfl (zdec_at dm_L19 23 rfl) ⟨rfl, hk.1, hk.2⟩ ⟨by decide, by decide⟩ (Nat.le_of_ble_eq_true rfl) (zall_0 (z_rtz _) (zall_0 (z_rtz _) zall_n)) ?_
  refine ⟨(xs (i + 1).toNat).toInt, (xs (i + 2).toNat).toInt, rfl, pk_like J h, fun r' M2 g zr2 hR2 => ?_⟩
  change zU room_1 QQ Γ mcL (145, k, n) 967 (lwL Γ b i) [zI r', zI r] M2
  have q := zq_like J h g
  exact zu_icmp_eq C zr1 zr2 (zdec_at dm_L19 24 rfl) rfl (fun _ => nx _ q.2) (fun e => absurd q.1 e)
theorem lc_20 (C : zC Γ mcL) (hk : k ≤ 601024 ∧ n ≤ 7293034) (X : lwX Γ b LL xs) (hi : 0 ≤ i ∧ i + 6 ≤ LL) (hv : v < 999999998) (J : zJn v M) (nx : ∀ M', zJn (v + 1) M' → zU room_1 QQ Γ mcL (145, k, n) 1699 (lwL Γ b i) [] M') : zU room_1 QQ Γ mcL (145, k, n) 972 (lwL Γ b i) [] M := by
  refine zu_aload_n C 3 rfl (zdec_at dm_L20 0 rfl) rfl ?_
  refine zu_arg C X (j := 1) (by omega) (zdec_at dm_L20 1 rfl) (zdec_at dm_L20 2 rfl) (zdec_at dm_L20 3 rfl) (zdec_at dm_L20 4 rfl) (zdec_at dm_L20 5 rfl) ?_
  refine zu_arg C X (j := 2) (by omega) (zdec_at dm_L20 6 rfl) (zdec_at dm_L20 7 rfl) (zdec_at dm_L20 8 rfl) (zdec_at dm_L20 9 rfl) (zdec_at dm_L20 10 rfl) ?_
  refine zu_callV C [(xs (i + 1).toNat).toInt, (xs (i + 2).toNat).toInt] ok_X11_butFor ck_RL_105 iv_X11_butFor vc_X11 oc_0 rfl rfl (zdec_at dm_L20 11 rfl) ⟨rfl, hk.1, hk.2⟩ ⟨by decide, by decide⟩ (Nat.le_of_ble_eq_true rfl) (zall_0 (z_rtz _) (zall_0 (z_rtz _) zall_n)) ?_
  refine ⟨(xs (i + 1).toNat).toInt, (xs (i + 2).toNat).toInt, rfl, pq_butFor J, fun r M1 h zr1 hR1 => ?_⟩
  change zU room_1 QQ Γ mcL (145, k, n) 988 (lwL Γ b i) [zI r] M1
  refine zu_aload_n C 2 rfl (zdec_at dm_L20 12 rfl) rfl ?_
  refine zu_arg C X (j := 1) (by omega) (zdec_at dm_L20 13 rfl) (zdec_at dm_L20 14 rfl) (zdec_at dm_L20 15 rfl) (zdec_at dm_L20 16 rfl) (zdec_at dm_L20 17 rfl) ?_
  refine zu_arg C X (j := 2) (by omega) (zdec_at dm_L20 18 rfl) (zdec_at dm_L20 19 rfl) (zdec_at dm_L20 20 rfl) (zdec_at dm_L20 21 rfl) (zdec_at dm_L20 22 rfl) ?_
  refine zu_callV C [(xs (i + 1).toNat).toInt, (xs (i + 2).toNat).toInt] ok_X12_butFor ck_RL_108 iv_X12_butFor vc_X12 oc_103 rfl rfl (zdec_at dm_L20 23 rfl) ⟨rfl, hk.1, hk.2⟩ ⟨by decide, by decide⟩ (Nat.le_of_ble_eq_true rfl) (zall_0 (z_rtz _) (zall_0 (z_rtz _) zall_n)) ?_
  refine ⟨(xs (i + 1).toNat).toInt, (xs (i + 2).toNat).toInt, rfl, pk_butFor J h, fun r' M2 g zr2 hR2 => ?_⟩
  change zU room_1 QQ Γ mcL (145, k, n) 1004 (lwL Γ b i) [zI r', zI r] M2
  have q := zq_butFor J h g
  exact zu_icmp_eq C zr1 zr2 (zdec_at dm_L20 24 rfl) rfl (fun _ => nx _ q.2) (fun e => absurd q.1 e)
theorem lc_21 (C : zC Γ mcL) (hk : k ≤ 601024 ∧ n ≤ 7293034) (X : lwX Γ b LL xs) (hi : 0 ≤ i ∧ i + 6 ≤ LL) (hv : v < 999999998) (J : zJn v M) (nx : ∀ M', zJn (v + 1) M' → zU room_1 QQ Γ mcL (145, k, n) 1699 (lwL Γ b i) [] M') : zU room_1 QQ Γ mcL (145, k, n) 1009 (lwL Γ b i) [] M := by
  refine zu_aload_n C 3 rfl (zdec_at dm_L21 0 rfl) rfl ?_
  refine zu_arg C X (j := 1) (by omega) (zdec_at dm_L21 1 rfl) (zdec_at dm_L21 2 rfl) (zdec_at dm_L21 3 rfl) (zdec_at dm_L21 4 rfl) (zdec_at dm_L21 5 rfl) ?_
  refine zu_callV C [(xs (i + 1).toNat).toInt] ok_X11_leader ck_RL_109 iv_X11_leader vc_X11 oc_0 rfl rfl (zdec_at dm_L21 6 rfl) ⟨rfl, hk.1, hk.2⟩ ⟨by decide, by decide⟩ (Nat.le_of_ble_eq_true rfl) (zall_0 (z_rtz _) zall_n) ?_
  refine ⟨(xs (i + 1).toNat).toInt, rfl, pq_leader J, fun r M1 h zr1 hR1 => ?_⟩
  change zU room_1 QQ Γ mcL (145, k, n) 1019 (lwL Γ b i) [zI r] M1
  refine zu_aload_n C 2 rfl (zdec_at dm_L21 7 rfl) rfl ?_
  refine zu_arg C X (j := 1) (by omega) (zdec_at dm_L21 8 rfl) (zdec_at dm_L21 9 rfl) (zdec_at dm_L21 10 rfl) (zdec_at dm_L21 11 rfl) (zdec_at dm_L21 12 rfl) ?_
  refine zu_callV C [(xs (i + 1).toNat).toInt] ok_X12_leader ck_RL_112 iv_X12_leader vc_X12 oc_103 rfl rfl (zdec_at dm_L21 13 rfl) ⟨rfl, hk.1, hk.2⟩ ⟨by decide, by decide⟩ (Nat.le_of_ble_eq_true rfl) (zall_0 (z_rtz _) zall_n) ?_
  refine ⟨(xs (i + 1).toNat).toInt, rfl, pk_leader J h, fun r' M2 g zr2 hR2 => ?_⟩
  change zU room_1 QQ Γ mcL (145, k, n) 1029 (lwL Γ b i) [zI r', zI r] M2
  have q := zq_leader J h g
  exact zu_icmp_eq C zr1 zr2 (zdec_at dm_L21 14 rfl) rfl (fun _ => nx _ q.2) (fun e => absurd q.1 e)
theorem lc_22 (C : zC Γ mcL) (hk : k ≤ 601024 ∧ n ≤ 7293034) (X : lwX Γ b LL xs) (hi : 0 ≤ i ∧ i + 6 ≤ LL) (hv : v < 999999998) (J : zJn v M) (nx : ∀ M', zJn (v + 1) M' → zU room_1 QQ Γ mcL (145, k, n) 1699 (lwL Γ b i) [] M') : zU room_1 QQ Γ mcL (145, k, n) 1034 (lwL Γ b i) [] M := by
  refine zu_aload_n C 3 rfl (zdec_at dm_L22 0 rfl) rfl ?_
  refine zu_arg C X (j := 1) (by omega) (zdec_at dm_L22 1 rfl) (zdec_at dm_L22 2 rfl) (zdec_at dm_L22 3 rfl) (zdec_at dm_L22 4 rfl) (zdec_at dm_L22 5 rfl) ?_
  refine zu_arg C X (j := 2) (by omega) (zdec_at dm_L22 6 rfl) (zdec_at dm_L22 7 rfl) (zdec_at dm_L22 8 rfl) (zdec_at dm_L22 9 rfl) (zdec_at dm_L22 10 rfl) ?_
  refine zu_callV C [(xs (i + 1).toNat).toInt, (xs (i + 2).toNat).toInt] ok_X11_few ck_RL_113 iv_X11_few vc_X11 oc_0 rfl rfl (zdec_at dm_L22 11 rfl) ⟨rfl, hk.1, hk.2⟩ ⟨by decide, by decide⟩ (Nat.le_of_ble_eq_true rfl) (zall_0 (z_rtz _) (zall_0 (z_rtz _) zall_n)) ?_
  refine ⟨(xs (i + 1).toNat).toInt, (xs (i + 2).toNat).toInt, rfl, pq_few J, fun r M1 h zr1 hR1 => ?_⟩
  change zU room_1 QQ Γ mcL (145, k, n) 1050 (lwL Γ b i) [zI r] M1
  refine zu_aload_n C 2 rfl (zdec_at dm_L22 12 rfl) rfl ?_
  refine zu_arg C X (j := 1) (by omega) (zdec_at dm_L22 13 rfl) (zdec_at dm_L22 14 rfl) (zdec_at dm_L22 15 rfl) (zdec_at dm_L22 16 rfl) (zdec_at dm_L22 17 rfl) ?_
  refine zu_arg C X (j := 2) (by omega) (zdec_at dm_L22 18 rfl) (zdec_at dm_L22 19 rfl) (zdec_at dm_L22 20 rfl) (zdec_at dm_L22 21 rfl) (zdec_at dm_L22 22 rfl) ?_
  refine zu_callV C [(xs (i + 1).toNat).toInt, (xs (i + 2).toNat).toInt] ok_X12_few ck_RL_116 iv_X12_few vc_X12 oc_103 rfl rfl (zdec_at dm_L22 23 rfl) ⟨rfl, hk.1, hk.2⟩ ⟨by decide, by decide⟩ (Nat.le_of_ble_eq_true rfl) (zall_0 (z_rtz _) (zall_0 (z_rtz _) zall_n)) ?_
  refine ⟨(xs (i + 1).toNat).toInt, (xs (i + 2).toNat).toInt, rfl, pk_few J h, fun r' M2 g zr2 hR2 => ?_⟩
  change zU room_1 QQ Γ mcL (145, k, n) 1066 (lwL Γ b i) [zI r', zI r] M2
  have q := zq_few J h g
  exact zu_icmp_eq C zr1 zr2 (zdec_at dm_L22 24 rfl) rfl (fun _ => nx _ q.2) (fun e => absurd q.1 e)
theorem lc_23 (C : zC Γ mcL) (hk : k ≤ 601024 ∧ n ≤ 7293034) (X : lwX Γ b LL xs) (hi : 0 ≤ i ∧ i + 6 ≤ LL) (hv : v < 999999998) (J : zJn v M) (nx : ∀ M', zJn (v + 1) M' → zU room_1 QQ Γ mcL (145, k, n) 1699 (lwL Γ b i) [] M') : zU room_1 QQ Γ mcL (145, k, n) 1071 (lwL Γ b i) [] M := by
  refine zu_aload_n C 3 rfl (zdec_at dm_L23 0 rfl) rfl ?_
  refine zu_arg C X (j := 1) (by omega) (zdec_at dm_L23 1 rfl) (zdec_at dm_L23 2 rfl) (zdec_at dm_L23 3 rfl) (zdec_at dm_L23 4 rfl) (zdec_at dm_L23 5 rfl) ?_
  refine zu_callV C [(xs (i + 1).toNat).toInt] ok_X11_makeFew ck_RL_117 iv_X11_makeFew vc_X11 oc_0 rfl rfl (zdec_at dm_L23 6 rfl) ⟨rfl, hk.1, hk.2⟩ ⟨by decide, by decide⟩ (Nat.le_of_ble_eq_true rfl) (zall_0 (z_rtz _) zall_n) ?_
  refine ⟨(xs (i + 1).toNat).toInt, rfl, pq_makeFew J, fun r M1 h zr1 hR1 => ?_⟩
  change zU room_1 QQ Γ mcL (145, k, n) 1081 (lwL Γ b i) [zI r] M1
  refine zu_aload_n C 2 rfl (zdec_at dm_L23 7 rfl) rfl ?_
  refine zu_arg C X (j := 1) (by omega) (zdec_at dm_L23 8 rfl) (zdec_at dm_L23 9 rfl) (zdec_at dm_L23 10 rfl) (zdec_at dm_L23 11 rfl) (zdec_at dm_L23 12 rfl) ?_
  refine zu_callV C [(xs (i + 1).toNat).toInt] ok_X12_makeFew ck_RL_120 iv_X12_makeFew vc_X12 oc_103 rfl rfl (zdec_at dm_L23 13 rfl) ⟨rfl, hk.1, hk.2⟩ ⟨by decide, by decide⟩ (Nat.le_of_ble_eq_true rfl) (zall_0 (z_rtz _) zall_n) ?_
  refine ⟨(xs (i + 1).toNat).toInt, rfl, pk_makeFew J h, fun r' M2 g zr2 hR2 => ?_⟩
  change zU room_1 QQ Γ mcL (145, k, n) 1091 (lwL Γ b i) [zI r', zI r] M2
  have q := zq_makeFew hv J h g
  exact zu_icmp_eq C zr1 zr2 (zdec_at dm_L23 14 rfl) rfl (fun _ => nx _ q.2) (fun e => absurd q.1 e)
theorem lc_24 (C : zC Γ mcL) (hk : k ≤ 601024 ∧ n ≤ 7293034) (X : lwX Γ b LL xs) (hi : 0 ≤ i ∧ i + 6 ≤ LL) (hv : v < 999999998) (J : zJn v M) (nx : ∀ M', zJn (v + 1) M' → zU room_1 QQ Γ mcL (145, k, n) 1699 (lwL Γ b i) [] M') : zU room_1 QQ Γ mcL (145, k, n) 1096 (lwL Γ b i) [] M := by
  refine zu_aload_n C 3 rfl (zdec_at dm_L24 0 rfl) rfl ?_
  refine zu_arg C X (j := 1) (by omega) (zdec_at dm_L24 1 rfl) (zdec_at dm_L24 2 rfl) (zdec_at dm_L24 3 rfl) (zdec_at dm_L24 4 rfl) (zdec_at dm_L24 5 rfl) ?_
  refine zu_arg C X (j := 2) (by omega) (zdec_at dm_L24 6 rfl) (zdec_at dm_L24 7 rfl) (zdec_at dm_L24 8 rfl) (zdec_at dm_L24 9 rfl) (zdec_at dm_L24 10 rfl) ?_
  refine zu_callV C [(xs (i + 1).toNat).toInt, (xs (i + 2).toNat).toInt] ok_X11_pen ck_RL_121 iv_X11_pen vc_X11 oc_0 rfl rfl (zdec_at dm_L24 11 rfl) ⟨rfl, hk.1, hk.2⟩ ⟨by decide, by decide⟩ (Nat.le_of_ble_eq_true rfl) (zall_0 (z_rtz _) (zall_0 (z_rtz _) zall_n)) ?_
  refine ⟨(xs (i + 1).toNat).toInt, (xs (i + 2).toNat).toInt, rfl, pq_pen J, fun r M1 h zr1 hR1 => ?_⟩
  change zU room_1 QQ Γ mcL (145, k, n) 1112 (lwL Γ b i) [zI r] M1
  refine zu_aload_n C 2 rfl (zdec_at dm_L24 12 rfl) rfl ?_
  refine zu_arg C X (j := 1) (by omega) (zdec_at dm_L24 13 rfl) (zdec_at dm_L24 14 rfl) (zdec_at dm_L24 15 rfl) (zdec_at dm_L24 16 rfl) (zdec_at dm_L24 17 rfl) ?_
  refine zu_arg C X (j := 2) (by omega) (zdec_at dm_L24 18 rfl) (zdec_at dm_L24 19 rfl) (zdec_at dm_L24 20 rfl) (zdec_at dm_L24 21 rfl) (zdec_at dm_L24 22 rfl) ?_
  refine zu_callV C [(xs (i + 1).toNat).toInt, (xs (i + 2).toNat).toInt] ok_X12_pen ck_RL_124 iv_X12_pen vc_X12 oc_103 rfl rfl (zdec_at dm_L24 23 rfl) ⟨rfl, hk.1, hk.2⟩ ⟨by decide, by decide⟩ (Nat.le_of_ble_eq_true rfl) (zall_0 (z_rtz _) (zall_0 (z_rtz _) zall_n)) ?_
  refine ⟨(xs (i + 1).toNat).toInt, (xs (i + 2).toNat).toInt, rfl, pk_pen J h, fun r' M2 g zr2 hR2 => ?_⟩
  change zU room_1 QQ Γ mcL (145, k, n) 1128 (lwL Γ b i) [zI r', zI r] M2
  have q := zq_pen J h g
  exact zu_icmp_eq C zr1 zr2 (zdec_at dm_L24 24 rfl) rfl (fun _ => nx _ q.2) (fun e => absurd q.1 e)
theorem lc_25 (C : zC Γ mcL) (hk : k ≤ 601024 ∧ n ≤ 7293034) (X : lwX Γ b LL xs) (hi : 0 ≤ i ∧ i + 6 ≤ LL) (hv : v < 999999998) (J : zJn v M) (nx : ∀ M', zJn (v + 1) M' → zU room_1 QQ Γ mcL (145, k, n) 1699 (lwL Γ b i) [] M') : zU room_1 QQ Γ mcL (145, k, n) 1133 (lwL Γ b i) [] M := by
  refine zu_aload_n C 3 rfl (zdec_at dm_L25 0 rfl) rfl ?_
  refine zu_arg C X (j := 1) (by omega) (zdec_at dm_L25 1 rfl) (zdec_at dm_L25 2 rfl) (zdec_at dm_L25 3 rfl) (zdec_at dm_L25 4 rfl) (zdec_at dm_L25 5 rfl) ?_
  refine zu_callV C [(xs (i + 1).toNat).toInt] ok_X11_ruleFault ck_RL_125 iv_X11_ruleFault vc_X11 oc_0 rfl rfl (zdec_at dm_L25 6 rfl) ⟨rfl, hk.1, hk.2⟩ ⟨by decide, by decide⟩ (Nat.le_of_ble_eq_true rfl) (zall_0 (z_rtz _) zall_n) ?_
  refine ⟨(xs (i + 1).toNat).toInt, rfl, pq_ruleFault J, fun r M1 h zr1 hR1 => ?_⟩
  change zU room_1 QQ Γ mcL (145, k, n) 1143 (lwL Γ b i) [zI r] M1
  refine zu_aload_n C 2 rfl (zdec_at dm_L25 7 rfl) rfl ?_
  refine zu_arg C X (j := 1) (by omega) (zdec_at dm_L25 8 rfl) (zdec_at dm_L25 9 rfl) (zdec_at dm_L25 10 rfl) (zdec_at dm_L25 11 rfl) (zdec_at dm_L25 12 rfl) ?_
  refine zu_callV C [(xs (i + 1).toNat).toInt] ok_X12_ruleFault ck_RL_128 iv_X12_ruleFault vc_X12 oc_103 rfl rfl (zdec_at dm_L25 13 rfl) ⟨rfl, hk.1, hk.2⟩ ⟨by decide, by decide⟩ (Nat.le_of_ble_eq_true rfl) (zall_0 (z_rtz _) zall_n) ?_
  refine ⟨(xs (i + 1).toNat).toInt, rfl, pk_ruleFault J h, fun r' M2 g zr2 hR2 => ?_⟩
  change zU room_1 QQ Γ mcL (145, k, n) 1153 (lwL Γ b i) [zI r', zI r] M2
  have q := zq_ruleFault J h g
  exact zu_icmp_eq C zr1 zr2 (zdec_at dm_L25 14 rfl) rfl (fun _ => nx _ q.2) (fun e => absurd q.1 e)
theorem lc_26 (C : zC Γ mcL) (hk : k ≤ 601024 ∧ n ≤ 7293034) (X : lwX Γ b LL xs) (hi : 0 ≤ i ∧ i + 6 ≤ LL) (hv : v < 999999998) (J : zJn v M) (nx : ∀ M', zJn (v + 1) M' → zU room_1 QQ Γ mcL (145, k, n) 1699 (lwL Γ b i) [] M') : zU room_1 QQ Γ mcL (145, k, n) 1158 (lwL Γ b i) [] M := by
  refine zu_aload_n C 3 rfl (zdec_at dm_L26 0 rfl) rfl ?_
  refine zu_arg C X (j := 1) (by omega) (zdec_at dm_L26 1 rfl) (zdec_at dm_L26 2 rfl) (zdec_at dm_L26 3 rfl) (zdec_at dm_L26 4 rfl) (zdec_at dm_L26 5 rfl) ?_
  refine zu_callV C [(xs (i + 1).toNat).toInt] ok_X11_rule ck_RL_129 iv_X11_rule vc_X11 oc_0 rfl rfl (zdec_at dm_L26 6 rfl) ⟨rfl, hk.1, hk.2⟩ ⟨by decide, by decide⟩ (Nat.le_of_ble_eq_true rfl) (zall_0 (z_rtz _) zall_n) ?_
  refine ⟨(xs (i + 1).toNat).toInt, rfl, pq_rule J, fun r M1 h zr1 hR1 => ?_⟩
  change zU room_1 QQ Γ mcL (145, k, n) 1168 (lwL Γ b i) [zI r] M1
  refine zu_aload_n C 2 rfl (zdec_at dm_L26 7 rfl) rfl ?_
  refine zu_arg C X (j := 1) (by omega) (zdec_at dm_L26 8 rfl) (zdec_at dm_L26 9 rfl) (zdec_at dm_L26 10 rfl) (zdec_at dm_L26 11 rfl) (zdec_at dm_L26 12 rfl) ?_
  refine zu_callV C [(xs (i + 1).toNat).toInt] ok_X12_rule ck_RL_132 iv_X12_rule vc_X12 oc_103 rfl rfl (zdec_at dm_L26 13 rfl) ⟨rfl, hk.1, hk.2⟩ ⟨by decide, by decide⟩ (Nat.le_of_ble_eq_true rfl) (zall_0 (z_rtz _) zall_n) ?_
  refine ⟨(xs (i + 1).toNat).toInt, rfl, pk_rule J h, fun r' M2 g zr2 hR2 => ?_⟩
  change zU room_1 QQ Γ mcL (145, k, n) 1178 (lwL Γ b i) [zI r', zI r] M2
  have q := zq_rule J h g
  exact zu_icmp_eq C zr1 zr2 (zdec_at dm_L26 14 rfl) rfl (fun _ => nx _ q.2) (fun e => absurd q.1 e)
theorem lc_27 (C : zC Γ mcL) (hk : k ≤ 601024 ∧ n ≤ 7293034) (X : lwX Γ b LL xs) (hi : 0 ≤ i ∧ i + 6 ≤ LL) (hv : v < 999999998) (J : zJn v M) (nx : ∀ M', zJn (v + 1) M' → zU room_1 QQ Γ mcL (145, k, n) 1699 (lwL Γ b i) [] M') : zU room_1 QQ Γ mcL (145, k, n) 1183 (lwL Γ b i) [] M := by
  obtain ⟨w, hw, h0, h1⟩ : ∃ w : Int, (w = 0 ∨ w = 1) ∧ ((xs (i + 2).toNat).toInt = 0 → w = 0) ∧ (¬ (xs (i + 2).toNat).toInt = 0 → w = 1) := by
    by_cases e : (xs (i + 2).toNat).toInt = 0
    · exact ⟨0, .inl rfl, fun _ => rfl, fun c => absurd e c⟩
    · exact ⟨1, .inr rfl, fun c => absurd c e, fun _ => rfl⟩
  refine zu_aload_n C 3 rfl (zdec_at dm_L27 0 rfl) rfl ?_
  refine zu_arg C X (j := 1) (by omega) (zdec_at dm_L27 1 rfl) (zdec_at dm_L27 2 rfl) (zdec_at dm_L27 3 rfl) (zdec_at dm_L27 4 rfl) (zdec_at dm_L27 5 rfl) ?_
  refine zu_arg C X (j := 2) (by omega) (zdec_at dm_L27 6 rfl) (zdec_at dm_L27 7 rfl) (zdec_at dm_L27 8 rfl) (zdec_at dm_L27 9 rfl) (zdec_at dm_L27 10 rfl) ?_
  have go : zU room_1 QQ Γ mcL (145, k, n) 1204 (lwL Γ b i) (zI w :: [zI (xs (i + 1).toNat).toInt, zRf (zad Γ) 0]) M → zU room_1 QQ Γ mcL (145, k, n) 1196 (lwL Γ b i) (zI (xs (i + 2).toNat).toInt :: [zI (xs (i + 1).toNat).toInt, zRf (zad Γ) 0]) M := fun kk => by
    refine zu_if_eq C (z_rtz _) (zdec_at dm_L27 11 rfl) rfl (fun e => ?_) (fun e => ?_)
    · refine zu_iconst C (zdec_at dm_L27 14 rfl) ?_
      rw [h0 e] at kk; exact kk
    · refine zu_iconst C (zdec_at dm_L27 12 rfl) ?_
      refine zu_goto C (zdec_at dm_L27 13 rfl) rfl ?_
      rw [h1 e] at kk; exact kk
  refine go ?_
  clear go
  refine zu_callV C [(xs (i + 1).toNat).toInt, w] ok_X11_tell ck_RL_133 iv_X11_tell vc_X11 oc_0 rfl rfl (zdec_at dm_L27 15 rfl) ⟨rfl, hk.1, hk.2⟩ ⟨by decide, by decide⟩ (Nat.le_of_ble_eq_true rfl) (zall_0 (z_rtz _) (zall_0 (by omega) zall_n)) ?_
  refine ⟨(xs (i + 1).toNat).toInt, w, rfl, pq_tell hw J, fun r M1 h zr1 hR1 => ?_⟩
  change zU room_1 QQ Γ mcL (145, k, n) 1207 (lwL Γ b i) [zI r] M1
  refine zu_aload_n C 2 rfl (zdec_at dm_L27 16 rfl) rfl ?_
  refine zu_arg C X (j := 1) (by omega) (zdec_at dm_L27 17 rfl) (zdec_at dm_L27 18 rfl) (zdec_at dm_L27 19 rfl) (zdec_at dm_L27 20 rfl) (zdec_at dm_L27 21 rfl) ?_
  refine zu_arg C X (j := 2) (by omega) (zdec_at dm_L27 22 rfl) (zdec_at dm_L27 23 rfl) (zdec_at dm_L27 24 rfl) (zdec_at dm_L27 25 rfl) (zdec_at dm_L27 26 rfl) ?_
  have go : zU room_1 QQ Γ mcL (145, k, n) 1228 (lwL Γ b i) (zI w :: [zI (xs (i + 1).toNat).toInt, zRf (zad Γ) 103, zI r]) M1 → zU room_1 QQ Γ mcL (145, k, n) 1220 (lwL Γ b i) (zI (xs (i + 2).toNat).toInt :: [zI (xs (i + 1).toNat).toInt, zRf (zad Γ) 103, zI r]) M1 := fun kk => by
    refine zu_if_eq C (z_rtz _) (zdec_at dm_L27 27 rfl) rfl (fun e => ?_) (fun e => ?_)
    · refine zu_iconst C (zdec_at dm_L27 30 rfl) ?_
      rw [h0 e] at kk; exact kk
    · refine zu_iconst C (zdec_at dm_L27 28 rfl) ?_
      refine zu_goto C (zdec_at dm_L27 29 rfl) rfl ?_
      rw [h1 e] at kk; exact kk
  refine go ?_
  clear go
  refine zu_callV C [(xs (i + 1).toNat).toInt, w] ok_X12_tell ck_RL_137 iv_X12_tell vc_X12 oc_103 rfl rfl (zdec_at dm_L27 31 rfl) ⟨rfl, hk.1, hk.2⟩ ⟨by decide, by decide⟩ (Nat.le_of_ble_eq_true rfl) (zall_0 (z_rtz _) (zall_0 (by omega) zall_n)) ?_
  refine ⟨(xs (i + 1).toNat).toInt, w, rfl, pk_tell hw J h, fun r' M2 g zr2 hR2 => ?_⟩
  change zU room_1 QQ Γ mcL (145, k, n) 1231 (lwL Γ b i) [zI r', zI r] M2
  have q := zq_tell hw J h g
  exact zu_icmp_eq C zr1 zr2 (zdec_at dm_L27 32 rfl) rfl (fun _ => nx _ q.2) (fun e => absurd q.1 e)
theorem lc_28 (C : zC Γ mcL) (hk : k ≤ 601024 ∧ n ≤ 7293034) (X : lwX Γ b LL xs) (hi : 0 ≤ i ∧ i + 6 ≤ LL) (hv : v < 999999998) (J : zJn v M) (nx : ∀ M', zJn (v + 1) M' → zU room_1 QQ Γ mcL (145, k, n) 1699 (lwL Γ b i) [] M') : zU room_1 QQ Γ mcL (145, k, n) 1236 (lwL Γ b i) [] M := by
  refine zu_aload_n C 3 rfl (zdec_at dm_L28 0 rfl) rfl ?_
  refine zu_arg C X (j := 1) (by omega) (zdec_at dm_L28 1 rfl) (zdec_at dm_L28 2 rfl) (zdec_at dm_L28 3 rfl) (zdec_at dm_L28 4 rfl) (zdec_at dm_L28 5 rfl) ?_
  refine zu_callV C [(xs (i + 1).toNat).toInt] ok_X11_sign ck_RL_138 iv_X11_sign vc_X11 oc_0 rfl rfl (zdec_at dm_L28 6 rfl) ⟨rfl, hk.1, hk.2⟩ ⟨by decide, by decide⟩ (Nat.le_of_ble_eq_true rfl) (zall_0 (z_rtz _) zall_n) ?_
  refine ⟨(xs (i + 1).toNat).toInt, rfl, pq_sign J, fun r M1 h zr1 hR1 => ?_⟩
  change zU room_1 QQ Γ mcL (145, k, n) 1246 (lwL Γ b i) [zI r] M1
  refine zu_aload_n C 2 rfl (zdec_at dm_L28 7 rfl) rfl ?_
  refine zu_arg C X (j := 1) (by omega) (zdec_at dm_L28 8 rfl) (zdec_at dm_L28 9 rfl) (zdec_at dm_L28 10 rfl) (zdec_at dm_L28 11 rfl) (zdec_at dm_L28 12 rfl) ?_
  refine zu_callV C [(xs (i + 1).toNat).toInt] ok_X12_sign ck_RL_141 iv_X12_sign vc_X12 oc_103 rfl rfl (zdec_at dm_L28 13 rfl) ⟨rfl, hk.1, hk.2⟩ ⟨by decide, by decide⟩ (Nat.le_of_ble_eq_true rfl) (zall_0 (z_rtz _) zall_n) ?_
  refine ⟨(xs (i + 1).toNat).toInt, rfl, pk_sign J h, fun r' M2 g zr2 hR2 => ?_⟩
  change zU room_1 QQ Γ mcL (145, k, n) 1256 (lwL Γ b i) [zI r', zI r] M2
  have q := zq_sign J h g
  exact zu_icmp_eq C zr1 zr2 (zdec_at dm_L28 14 rfl) rfl (fun _ => nx _ q.2) (fun e => absurd q.1 e)
theorem lc_29 (C : zC Γ mcL) (hk : k ≤ 601024 ∧ n ≤ 7293034) (X : lwX Γ b LL xs) (hi : 0 ≤ i ∧ i + 6 ≤ LL) (hv : v < 999999998) (J : zJn v M) (nx : ∀ M', zJn (v + 1) M' → zU room_1 QQ Γ mcL (145, k, n) 1699 (lwL Γ b i) [] M') : zU room_1 QQ Γ mcL (145, k, n) 1261 (lwL Γ b i) [] M := by
  refine zu_aload_n C 3 rfl (zdec_at dm_L29 0 rfl) rfl ?_
  refine zu_callV C [] ok_X11_undo ck_RL_142 iv_X11_undo vc_X11 oc_0 rfl rfl (zdec_at dm_L29 1 rfl) ⟨rfl, hk.1, hk.2⟩ ⟨by decide, by decide⟩ (Nat.le_of_ble_eq_true rfl) zall_n ?_
  refine ⟨rfl, pq_undo J, fun r M1 h zr1 hR1 => ?_⟩
  change zU room_1 QQ Γ mcL (145, k, n) 1265 (lwL Γ b i) [zI r] M1
  refine zu_aload_n C 2 rfl (zdec_at dm_L29 2 rfl) rfl ?_
  refine zu_callV C [] ok_X12_undo ck_RL_146 iv_X12_undo vc_X12 oc_103 rfl rfl (zdec_at dm_L29 3 rfl) ⟨rfl, hk.1, hk.2⟩ ⟨by decide, by decide⟩ (Nat.le_of_ble_eq_true rfl) zall_n ?_
  refine ⟨rfl, pk_undo J h, fun r' M2 g zr2 hR2 => ?_⟩
  change zU room_1 QQ Γ mcL (145, k, n) 1269 (lwL Γ b i) [zI r', zI r] M2
  have q := zq_undo hv J h g
  exact zu_icmp_eq C zr1 zr2 (zdec_at dm_L29 4 rfl) rfl (fun _ => nx _ q.2) (fun e => absurd q.1 e)
theorem lc_30 (C : zC Γ mcL) (hk : k ≤ 601024 ∧ n ≤ 7293034) (X : lwX Γ b LL xs) (hi : 0 ≤ i ∧ i + 6 ≤ LL) (hv : v < 999999998) (J : zJn v M) (nx : ∀ M', zJn (v + 1) M' → zU room_1 QQ Γ mcL (145, k, n) 1699 (lwL Γ b i) [] M') : zU room_1 QQ Γ mcL (145, k, n) 1274 (lwL Γ b i) [] M := by
  refine zu_aload_n C 3 rfl (zdec_at dm_L30 0 rfl) rfl ?_
  refine zu_callV C [] ok_X11_redo ck_RL_147 iv_X11_redo vc_X11 oc_0 rfl rfl (zdec_at dm_L30 1 rfl) ⟨rfl, hk.1, hk.2⟩ ⟨by decide, by decide⟩ (Nat.le_of_ble_eq_true rfl) zall_n ?_
  refine ⟨rfl, pq_redo J, fun r M1 h zr1 hR1 => ?_⟩
  change zU room_1 QQ Γ mcL (145, k, n) 1278 (lwL Γ b i) [zI r] M1
  refine zu_aload_n C 2 rfl (zdec_at dm_L30 2 rfl) rfl ?_
  refine zu_callV C [] ok_X12_redo ck_RL_150 iv_X12_redo vc_X12 oc_103 rfl rfl (zdec_at dm_L30 3 rfl) ⟨rfl, hk.1, hk.2⟩ ⟨by decide, by decide⟩ (Nat.le_of_ble_eq_true rfl) zall_n ?_
  refine ⟨rfl, pk_redo J h, fun r' M2 g zr2 hR2 => ?_⟩
  change zU room_1 QQ Γ mcL (145, k, n) 1282 (lwL Γ b i) [zI r', zI r] M2
  have q := zq_redo hv J h g
  exact zu_icmp_eq C zr1 zr2 (zdec_at dm_L30 4 rfl) rfl (fun _ => nx _ q.2) (fun e => absurd q.1 e)
theorem lc_31 (C : zC Γ mcL) (hk : k ≤ 601024 ∧ n ≤ 7293034) (X : lwX Γ b LL xs) (hi : 0 ≤ i ∧ i + 6 ≤ LL) (hv : v < 999999998) (J : zJn v M) (nx : ∀ M', zJn (v + 1) M' → zU room_1 QQ Γ mcL (145, k, n) 1699 (lwL Γ b i) [] M') : zU room_1 QQ Γ mcL (145, k, n) 1287 (lwL Γ b i) [] M := by
  refine zu_aload_n C 3 rfl (zdec_at dm_L31 0 rfl) rfl ?_
  refine zu_callV C [] ok_X11_image ck_RL_151 iv_X11_image vc_X11 oc_0 rfl rfl (zdec_at dm_L31 1 rfl) ⟨rfl, hk.1, hk.2⟩ ⟨by decide, by decide⟩ (Nat.le_of_ble_eq_true rfl) zall_n ?_
  refine ⟨rfl, pq_image J, fun r M1 h zr1 hR1 => ?_⟩
  change zU room_1 QQ Γ mcL (145, k, n) 1291 (lwL Γ b i) [zI r] M1
  refine zu_aload_n C 2 rfl (zdec_at dm_L31 2 rfl) rfl ?_
  refine zu_callV C [] ok_X12_image ck_RL_154 iv_X12_image vc_X12 oc_103 rfl rfl (zdec_at dm_L31 3 rfl) ⟨rfl, hk.1, hk.2⟩ ⟨by decide, by decide⟩ (Nat.le_of_ble_eq_true rfl) zall_n ?_
  refine ⟨rfl, pk_image J h, fun r' M2 g zr2 hR2 => ?_⟩
  change zU room_1 QQ Γ mcL (145, k, n) 1295 (lwL Γ b i) [zI r', zI r] M2
  have q := zq_image hv J h g
  exact zu_icmp_eq C zr1 zr2 (zdec_at dm_L31 4 rfl) rfl (fun _ => nx _ q.2) (fun e => absurd q.1 e)
theorem lc_32 (C : zC Γ mcL) (hk : k ≤ 601024 ∧ n ≤ 7293034) (X : lwX Γ b LL xs) (hi : 0 ≤ i ∧ i + 6 ≤ LL) (hv : v < 999999998) (J : zJn v M) (nx : ∀ M', zJn (v + 1) M' → zU room_1 QQ Γ mcL (145, k, n) 1699 (lwL Γ b i) [] M') : zU room_1 QQ Γ mcL (145, k, n) 1300 (lwL Γ b i) [] M := by
  refine zu_aload_n C 3 rfl (zdec_at dm_L32 0 rfl) rfl ?_
  refine zu_callV C [] ok_X11_restore ck_RL_155 iv_X11_restore vc_X11 oc_0 rfl rfl (zdec_at dm_L32 1 rfl) ⟨rfl, hk.1, hk.2⟩ ⟨by decide, by decide⟩ (Nat.le_of_ble_eq_true rfl) zall_n ?_
  refine ⟨rfl, pq_restore J, fun r M1 h zr1 hR1 => ?_⟩
  change zU room_1 QQ Γ mcL (145, k, n) 1304 (lwL Γ b i) [zI r] M1
  refine zu_aload_n C 2 rfl (zdec_at dm_L32 2 rfl) rfl ?_
  refine zu_callV C [] ok_X12_restore ck_RL_158 iv_X12_restore vc_X12 oc_103 rfl rfl (zdec_at dm_L32 3 rfl) ⟨rfl, hk.1, hk.2⟩ ⟨by decide, by decide⟩ (Nat.le_of_ble_eq_true rfl) zall_n ?_
  refine ⟨rfl, pk_restore J h, fun r' M2 g zr2 hR2 => ?_⟩
  change zU room_1 QQ Γ mcL (145, k, n) 1308 (lwL Γ b i) [zI r', zI r] M2
  have q := zq_restore hv J h g
  exact zu_icmp_eq C zr1 zr2 (zdec_at dm_L32 4 rfl) rfl (fun _ => nx _ q.2) (fun e => absurd q.1 e)
theorem lc_33 (C : zC Γ mcL) (hk : k ≤ 601024 ∧ n ≤ 7293034) (X : lwX Γ b LL xs) (hi : 0 ≤ i ∧ i + 6 ≤ LL) (hv : v < 999999998) (J : zJn v M) (nx : ∀ M', zJn (v + 1) M' → zU room_1 QQ Γ mcL (145, k, n) 1699 (lwL Γ b i) [] M') : zU room_1 QQ Γ mcL (145, k, n) 1313 (lwL Γ b i) [] M := by
  refine zu_aload_n C 3 rfl (zdec_at dm_L33 0 rfl) rfl ?_
  refine zu_arg C X (j := 1) (by omega) (zdec_at dm_L33 1 rfl) (zdec_at dm_L33 2 rfl) (zdec_at dm_L33 3 rfl) (zdec_at dm_L33 4 rfl) (zdec_at dm_L33 5 rfl) ?_
  refine zu_callV C [(xs (i + 1).toNat).toInt] ok_X11_count ck_RL_159 iv_X11_count vc_X11 oc_0 rfl rfl (zdec_at dm_L33 6 rfl) ⟨rfl, hk.1, hk.2⟩ ⟨by decide, by decide⟩ (Nat.le_of_ble_eq_true rfl) (zall_0 (z_rtz _) zall_n) ?_
  refine ⟨(xs (i + 1).toNat).toInt, rfl, pq_count J, fun r M1 h zr1 hR1 => ?_⟩
  change zU room_1 QQ Γ mcL (145, k, n) 1323 (lwL Γ b i) [zI r] M1
  refine zu_aload_n C 2 rfl (zdec_at dm_L33 7 rfl) rfl ?_
  refine zu_arg C X (j := 1) (by omega) (zdec_at dm_L33 8 rfl) (zdec_at dm_L33 9 rfl) (zdec_at dm_L33 10 rfl) (zdec_at dm_L33 11 rfl) (zdec_at dm_L33 12 rfl) ?_
  refine zu_callV C [(xs (i + 1).toNat).toInt] ok_X12_count ck_RL_162 iv_X12_count vc_X12 oc_103 rfl rfl (zdec_at dm_L33 13 rfl) ⟨rfl, hk.1, hk.2⟩ ⟨by decide, by decide⟩ (Nat.le_of_ble_eq_true rfl) (zall_0 (z_rtz _) zall_n) ?_
  refine ⟨(xs (i + 1).toNat).toInt, rfl, pk_count J h, fun r' M2 g zr2 hR2 => ?_⟩
  change zU room_1 QQ Γ mcL (145, k, n) 1333 (lwL Γ b i) [zI r', zI r] M2
  have q := zq_count J h g
  exact zu_icmp_eq C zr1 zr2 (zdec_at dm_L33 14 rfl) rfl (fun _ => nx _ q.2) (fun e => absurd q.1 e)
theorem lc_34 (C : zC Γ mcL) (hk : k ≤ 601024 ∧ n ≤ 7293034) (X : lwX Γ b LL xs) (hi : 0 ≤ i ∧ i + 6 ≤ LL) (hv : v < 999999998) (J : zJn v M) (nx : ∀ M', zJn (v + 1) M' → zU room_1 QQ Γ mcL (145, k, n) 1699 (lwL Γ b i) [] M') : zU room_1 QQ Γ mcL (145, k, n) 1338 (lwL Γ b i) [] M := by
  refine zu_aload_n C 3 rfl (zdec_at dm_L34 0 rfl) rfl ?_
  refine zu_arg C X (j := 1) (by omega) (zdec_at dm_L34 1 rfl) (zdec_at dm_L34 2 rfl) (zdec_at dm_L34 3 rfl) (zdec_at dm_L34 4 rfl) (zdec_at dm_L34 5 rfl) ?_
  refine zu_arg C X (j := 2) (by omega) (zdec_at dm_L34 6 rfl) (zdec_at dm_L34 7 rfl) (zdec_at dm_L34 8 rfl) (zdec_at dm_L34 9 rfl) (zdec_at dm_L34 10 rfl) ?_
  refine zu_arg C X (j := 3) (by omega) (zdec_at dm_L34 11 rfl) (zdec_at dm_L34 12 rfl) (zdec_at dm_L34 13 rfl) (zdec_at dm_L34 14 rfl) (zdec_at dm_L34 15 rfl) ?_
  refine zu_arg C X (j := 4) (by omega) (zdec_at dm_L34 16 rfl) (zdec_at dm_L34 17 rfl) (zdec_at dm_L34 18 rfl) (zdec_at dm_L34 19 rfl) (zdec_at dm_L34 20 rfl) ?_
  refine zu_arg C X (j := 5) (by omega) (zdec_at dm_L34 21 rfl) (zdec_at dm_L34 22 rfl) (zdec_at dm_L34 23 rfl) (zdec_at dm_L34 24 rfl) (zdec_at dm_L34 25 rfl) ?_
  refine zu_callV C [(xs (i + 1).toNat).toInt, (xs (i + 2).toNat).toInt, (xs (i + 3).toNat).toInt, (xs (i + 4).toNat).toInt, (xs (i + 5).toNat).toInt] ok_X11_keep ck_RL_163 iv_X11_keep vc_X11 oc_0 rfl rfl (zdec_at dm_L34 26 rfl) ⟨rfl, hk.1, hk.2⟩ ⟨by decide, by decide⟩ (Nat.le_of_ble_eq_true rfl) (zall_0 (z_rtz _) (zall_0 (z_rtz _) (zall_0 (z_rtz _) (zall_0 (z_rtz _) (zall_0 (z_rtz _) zall_n))))) ?_
  refine ⟨(xs (i + 1).toNat).toInt, (xs (i + 2).toNat).toInt, (xs (i + 3).toNat).toInt, (xs (i + 4).toNat).toInt, (xs (i + 5).toNat).toInt, rfl, pq_keep J, fun r M1 h zr1 hR1 => ?_⟩
  change zU room_1 QQ Γ mcL (145, k, n) 1372 (lwL Γ b i) [zI r] M1
  refine zu_aload_n C 2 rfl (zdec_at dm_L34 27 rfl) rfl ?_
  refine zu_arg C X (j := 1) (by omega) (zdec_at dm_L34 28 rfl) (zdec_at dm_L34 29 rfl) (zdec_at dm_L34 30 rfl) (zdec_at dm_L34 31 rfl) (zdec_at dm_L34 32 rfl) ?_
  refine zu_arg C X (j := 2) (by omega) (zdec_at dm_L34 33 rfl) (zdec_at dm_L34 34 rfl) (zdec_at dm_L34 35 rfl) (zdec_at dm_L34 36 rfl) (zdec_at dm_L34 37 rfl) ?_
  refine zu_arg C X (j := 3) (by omega) (zdec_at dm_L34 38 rfl) (zdec_at dm_L34 39 rfl) (zdec_at dm_L34 40 rfl) (zdec_at dm_L34 41 rfl) (zdec_at dm_L34 42 rfl) ?_
  refine zu_arg C X (j := 4) (by omega) (zdec_at dm_L34 43 rfl) (zdec_at dm_L34 44 rfl) (zdec_at dm_L34 45 rfl) (zdec_at dm_L34 46 rfl) (zdec_at dm_L34 47 rfl) ?_
  refine zu_arg C X (j := 5) (by omega) (zdec_at dm_L34 48 rfl) (zdec_at dm_L34 49 rfl) (zdec_at dm_L34 50 rfl) (zdec_at dm_L34 51 rfl) (zdec_at dm_L34 52 rfl) ?_
  refine zu_callV C [(xs (i + 1).toNat).toInt, (xs (i + 2).toNat).toInt, (xs (i + 3).toNat).toInt, (xs (i + 4).toNat).toInt, (xs (i + 5).toNat).toInt] ok_X12_keep ck_RL_167 iv_X12_keep vc_X12 oc_103 rfl rfl (zdec_at dm_L34 53 rfl) ⟨rfl, hk.1, hk.2⟩ ⟨by decide, by decide⟩ (Nat.le_of_ble_eq_true rfl) (zall_0 (z_rtz _) (zall_0 (z_rtz _) (zall_0 (z_rtz _) (zall_0 (z_rtz _) (zall_0 (z_rtz _) zall_n))))) ?_
  refine ⟨(xs (i + 1).toNat).toInt, (xs (i + 2).toNat).toInt, (xs (i + 3).toNat).toInt, (xs (i + 4).toNat).toInt, (xs (i + 5).toNat).toInt, rfl, pk_keep J h, fun r' M2 g zr2 hR2 => ?_⟩
  change zU room_1 QQ Γ mcL (145, k, n) 1406 (lwL Γ b i) [zI r', zI r] M2
  have q := zq_keep J h g
  exact zu_icmp_eq C zr1 zr2 (zdec_at dm_L34 54 rfl) rfl (fun _ => nx _ q.2) (fun e => absurd q.1 e)
theorem lc_35 (C : zC Γ mcL) (hk : k ≤ 601024 ∧ n ≤ 7293034) (X : lwX Γ b LL xs) (hi : 0 ≤ i ∧ i + 6 ≤ LL) (hv : v < 999999998) (J : zJn v M) (nx : ∀ M', zJn (v + 1) M' → zU room_1 QQ Γ mcL (145, k, n) 1699 (lwL Γ b i) [] M') : zU room_1 QQ Γ mcL (145, k, n) 1411 (lwL Γ b i) [] M := by
  refine zu_aload_n C 3 rfl (zdec_at dm_L35 0 rfl) rfl ?_
  refine zu_arg C X (j := 1) (by omega) (zdec_at dm_L35 1 rfl) (zdec_at dm_L35 2 rfl) (zdec_at dm_L35 3 rfl) (zdec_at dm_L35 4 rfl) (zdec_at dm_L35 5 rfl) ?_
  refine zu_arg C X (j := 2) (by omega) (zdec_at dm_L35 6 rfl) (zdec_at dm_L35 7 rfl) (zdec_at dm_L35 8 rfl) (zdec_at dm_L35 9 rfl) (zdec_at dm_L35 10 rfl) ?_
  refine zu_arg C X (j := 3) (by omega) (zdec_at dm_L35 11 rfl) (zdec_at dm_L35 12 rfl) (zdec_at dm_L35 13 rfl) (zdec_at dm_L35 14 rfl) (zdec_at dm_L35 15 rfl) ?_
  refine zu_callV C [(xs (i + 1).toNat).toInt, (xs (i + 2).toNat).toInt, (xs (i + 3).toNat).toInt] ok_X11_row ck_RL_168 iv_X11_row vc_X11 oc_0 rfl rfl (zdec_at dm_L35 16 rfl) ⟨rfl, hk.1, hk.2⟩ ⟨by decide, by decide⟩ (Nat.le_of_ble_eq_true rfl) (zall_0 (z_rtz _) (zall_0 (z_rtz _) (zall_0 (z_rtz _) zall_n))) ?_
  refine ⟨(xs (i + 1).toNat).toInt, (xs (i + 2).toNat).toInt, (xs (i + 3).toNat).toInt, rfl, pq_row J, fun r M1 h zr1 hR1 => ?_⟩
  change zU room_1 QQ Γ mcL (145, k, n) 1433 (lwL Γ b i) [zI r] M1
  refine zu_aload_n C 2 rfl (zdec_at dm_L35 17 rfl) rfl ?_
  refine zu_arg C X (j := 1) (by omega) (zdec_at dm_L35 18 rfl) (zdec_at dm_L35 19 rfl) (zdec_at dm_L35 20 rfl) (zdec_at dm_L35 21 rfl) (zdec_at dm_L35 22 rfl) ?_
  refine zu_arg C X (j := 2) (by omega) (zdec_at dm_L35 23 rfl) (zdec_at dm_L35 24 rfl) (zdec_at dm_L35 25 rfl) (zdec_at dm_L35 26 rfl) (zdec_at dm_L35 27 rfl) ?_
  refine zu_arg C X (j := 3) (by omega) (zdec_at dm_L35 28 rfl) (zdec_at dm_L35 29 rfl) (zdec_at dm_L35 30 rfl) (zdec_at dm_L35 31 rfl) (zdec_at dm_L35 32 rfl) ?_
  refine zu_callV C [(xs (i + 1).toNat).toInt, (xs (i + 2).toNat).toInt, (xs (i + 3).toNat).toInt] ok_X12_row ck_RL_171 iv_X12_row vc_X12 oc_103 rfl rfl (zdec_at dm_L35 33 rfl) ⟨rfl, hk.1, hk.2⟩ ⟨by decide, by decide⟩ (Nat.le_of_ble_eq_true rfl) (zall_0 (z_rtz _) (zall_0 (z_rtz _) (zall_0 (z_rtz _) zall_n))) ?_
  refine ⟨(xs (i + 1).toNat).toInt, (xs (i + 2).toNat).toInt, (xs (i + 3).toNat).toInt, rfl, pk_row J h, fun r' M2 g zr2 hR2 => ?_⟩
  change zU room_1 QQ Γ mcL (145, k, n) 1455 (lwL Γ b i) [zI r', zI r] M2
  have q := zq_row J h g
  exact zu_icmp_eq C zr1 zr2 (zdec_at dm_L35 34 rfl) rfl (fun _ => nx _ q.2) (fun e => absurd q.1 e)
theorem lc_36 (C : zC Γ mcL) (hk : k ≤ 601024 ∧ n ≤ 7293034) (X : lwX Γ b LL xs) (hi : 0 ≤ i ∧ i + 6 ≤ LL) (hv : v < 999999998) (J : zJn v M) (nx : ∀ M', zJn (v + 1) M' → zU room_1 QQ Γ mcL (145, k, n) 1699 (lwL Γ b i) [] M') : zU room_1 QQ Γ mcL (145, k, n) 1460 (lwL Γ b i) [] M := by
  refine zu_aload_n C 3 rfl (zdec_at dm_L36 0 rfl) rfl ?_
  refine zu_arg C X (j := 1) (by omega) (zdec_at dm_L36 1 rfl) (zdec_at dm_L36 2 rfl) (zdec_at dm_L36 3 rfl) (zdec_at dm_L36 4 rfl) (zdec_at dm_L36 5 rfl) ?_
  refine zu_arg C X (j := 2) (by omega) (zdec_at dm_L36 6 rfl) (zdec_at dm_L36 7 rfl) (zdec_at dm_L36 8 rfl) (zdec_at dm_L36 9 rfl) (zdec_at dm_L36 10 rfl) ?_
  refine zu_arg C X (j := 3) (by omega) (zdec_at dm_L36 11 rfl) (zdec_at dm_L36 12 rfl) (zdec_at dm_L36 13 rfl) (zdec_at dm_L36 14 rfl) (zdec_at dm_L36 15 rfl) ?_
  refine zu_callV C [(xs (i + 1).toNat).toInt, (xs (i + 2).toNat).toInt, (xs (i + 3).toNat).toInt] ok_X11_put ck_RL_172 iv_X11_put vc_X11 oc_0 rfl rfl (zdec_at dm_L36 16 rfl) ⟨rfl, hk.1, hk.2⟩ ⟨by decide, by decide⟩ (Nat.le_of_ble_eq_true rfl) (zall_0 (z_rtz _) (zall_0 (z_rtz _) (zall_0 (z_rtz _) zall_n))) ?_
  refine ⟨(xs (i + 1).toNat).toInt, (xs (i + 2).toNat).toInt, (xs (i + 3).toNat).toInt, rfl, pq_put J, fun r M1 h zr1 hR1 => ?_⟩
  change zU room_1 QQ Γ mcL (145, k, n) 1482 (lwL Γ b i) [zI r] M1
  refine zu_aload_n C 2 rfl (zdec_at dm_L36 17 rfl) rfl ?_
  refine zu_arg C X (j := 1) (by omega) (zdec_at dm_L36 18 rfl) (zdec_at dm_L36 19 rfl) (zdec_at dm_L36 20 rfl) (zdec_at dm_L36 21 rfl) (zdec_at dm_L36 22 rfl) ?_
  refine zu_arg C X (j := 2) (by omega) (zdec_at dm_L36 23 rfl) (zdec_at dm_L36 24 rfl) (zdec_at dm_L36 25 rfl) (zdec_at dm_L36 26 rfl) (zdec_at dm_L36 27 rfl) ?_
  refine zu_arg C X (j := 3) (by omega) (zdec_at dm_L36 28 rfl) (zdec_at dm_L36 29 rfl) (zdec_at dm_L36 30 rfl) (zdec_at dm_L36 31 rfl) (zdec_at dm_L36 32 rfl) ?_
  refine zu_callV C [(xs (i + 1).toNat).toInt, (xs (i + 2).toNat).toInt, (xs (i + 3).toNat).toInt] ok_X12_put ck_RL_175 iv_X12_put vc_X12 oc_103 rfl rfl (zdec_at dm_L36 33 rfl) ⟨rfl, hk.1, hk.2⟩ ⟨by decide, by decide⟩ (Nat.le_of_ble_eq_true rfl) (zall_0 (z_rtz _) (zall_0 (z_rtz _) (zall_0 (z_rtz _) zall_n))) ?_
  refine ⟨(xs (i + 1).toNat).toInt, (xs (i + 2).toNat).toInt, (xs (i + 3).toNat).toInt, rfl, pk_put J h, fun r' M2 g zr2 hR2 => ?_⟩
  change zU room_1 QQ Γ mcL (145, k, n) 1504 (lwL Γ b i) [zI r', zI r] M2
  have q := zq_put J h g
  exact zu_icmp_eq C zr1 zr2 (zdec_at dm_L36 34 rfl) rfl (fun _ => nx _ q.2) (fun e => absurd q.1 e)
theorem lc_38 (C : zC Γ mcL) (hk : k ≤ 601024 ∧ n ≤ 7293034) (X : lwX Γ b LL xs) (hi : 0 ≤ i ∧ i + 6 ≤ LL) (hv : v < 999999998) (J : zJn v M) (nx : ∀ M', zJn (v + 1) M' → zU room_1 QQ Γ mcL (145, k, n) 1699 (lwL Γ b i) [] M') : zU room_1 QQ Γ mcL (145, k, n) 1576 (lwL Γ b i) [] M := by
  refine zu_aload_n C 3 rfl (zdec_at dm_L38 0 rfl) rfl ?_
  refine zu_arg C X (j := 1) (by omega) (zdec_at dm_L38 1 rfl) (zdec_at dm_L38 2 rfl) (zdec_at dm_L38 3 rfl) (zdec_at dm_L38 4 rfl) (zdec_at dm_L38 5 rfl) ?_
  refine zu_arg C X (j := 2) (by omega) (zdec_at dm_L38 6 rfl) (zdec_at dm_L38 7 rfl) (zdec_at dm_L38 8 rfl) (zdec_at dm_L38 9 rfl) (zdec_at dm_L38 10 rfl) ?_
  refine zu_arg C X (j := 3) (by omega) (zdec_at dm_L38 11 rfl) (zdec_at dm_L38 12 rfl) (zdec_at dm_L38 13 rfl) (zdec_at dm_L38 14 rfl) (zdec_at dm_L38 15 rfl) ?_
  refine zu_arg C X (j := 4) (by omega) (zdec_at dm_L38 16 rfl) (zdec_at dm_L38 17 rfl) (zdec_at dm_L38 18 rfl) (zdec_at dm_L38 19 rfl) (zdec_at dm_L38 20 rfl) ?_
  refine zu_arg C X (j := 5) (by omega) (zdec_at dm_L38 21 rfl) (zdec_at dm_L38 22 rfl) (zdec_at dm_L38 23 rfl) (zdec_at dm_L38 24 rfl) (zdec_at dm_L38 25 rfl) ?_
  refine zu_callV C [(xs (i + 1).toNat).toInt, (xs (i + 2).toNat).toInt, (xs (i + 3).toNat).toInt, (xs (i + 4).toNat).toInt, (xs (i + 5).toNat).toInt] ok_X11_copy ck_RL_185 iv_X11_copy vc_X11 oc_0 rfl rfl (zdec_at dm_L38 26 rfl) ⟨rfl, hk.1, hk.2⟩ ⟨by decide, by decide⟩ (Nat.le_of_ble_eq_true rfl) (zall_0 (z_rtz _) (zall_0 (z_rtz _) (zall_0 (z_rtz _) (zall_0 (z_rtz _) (zall_0 (z_rtz _) zall_n))))) ?_
  refine ⟨(xs (i + 1).toNat).toInt, (xs (i + 2).toNat).toInt, (xs (i + 3).toNat).toInt, (xs (i + 4).toNat).toInt, (xs (i + 5).toNat).toInt, rfl, pq_copy J, fun r M1 h zr1 hR1 => ?_⟩
  change zU room_1 QQ Γ mcL (145, k, n) 1610 (lwL Γ b i) [zI r] M1
  refine zu_aload_n C 2 rfl (zdec_at dm_L38 27 rfl) rfl ?_
  refine zu_arg C X (j := 1) (by omega) (zdec_at dm_L38 28 rfl) (zdec_at dm_L38 29 rfl) (zdec_at dm_L38 30 rfl) (zdec_at dm_L38 31 rfl) (zdec_at dm_L38 32 rfl) ?_
  refine zu_arg C X (j := 2) (by omega) (zdec_at dm_L38 33 rfl) (zdec_at dm_L38 34 rfl) (zdec_at dm_L38 35 rfl) (zdec_at dm_L38 36 rfl) (zdec_at dm_L38 37 rfl) ?_
  refine zu_arg C X (j := 3) (by omega) (zdec_at dm_L38 38 rfl) (zdec_at dm_L38 39 rfl) (zdec_at dm_L38 40 rfl) (zdec_at dm_L38 41 rfl) (zdec_at dm_L38 42 rfl) ?_
  refine zu_arg C X (j := 4) (by omega) (zdec_at dm_L38 43 rfl) (zdec_at dm_L38 44 rfl) (zdec_at dm_L38 45 rfl) (zdec_at dm_L38 46 rfl) (zdec_at dm_L38 47 rfl) ?_
  refine zu_arg C X (j := 5) (by omega) (zdec_at dm_L38 48 rfl) (zdec_at dm_L38 49 rfl) (zdec_at dm_L38 50 rfl) (zdec_at dm_L38 51 rfl) (zdec_at dm_L38 52 rfl) ?_
  refine zu_callV C [(xs (i + 1).toNat).toInt, (xs (i + 2).toNat).toInt, (xs (i + 3).toNat).toInt, (xs (i + 4).toNat).toInt, (xs (i + 5).toNat).toInt] ok_X12_copy ck_RL_188 iv_X12_copy vc_X12 oc_103 rfl rfl (zdec_at dm_L38 53 rfl) ⟨rfl, hk.1, hk.2⟩ ⟨by decide, by decide⟩ (Nat.le_of_ble_eq_true rfl) (zall_0 (z_rtz _) (zall_0 (z_rtz _) (zall_0 (z_rtz _) (zall_0 (z_rtz _) (zall_0 (z_rtz _) zall_n))))) ?_
  refine ⟨(xs (i + 1).toNat).toInt, (xs (i + 2).toNat).toInt, (xs (i + 3).toNat).toInt, (xs (i + 4).toNat).toInt, (xs (i + 5).toNat).toInt, rfl, pk_copy J h, fun r' M2 g zr2 hR2 => ?_⟩
  change zU room_1 QQ Γ mcL (145, k, n) 1644 (lwL Γ b i) [zI r', zI r] M2
  have q := zq_copy J h g
  exact zu_icmp_eq C zr1 zr2 (zdec_at dm_L38 54 rfl) rfl (fun _ => nx _ q.2) (fun e => absurd q.1 e)
theorem lc_39 (C : zC Γ mcL) (hk : k ≤ 601024 ∧ n ≤ 7293034) (X : lwX Γ b LL xs) (hi : 0 ≤ i ∧ i + 6 ≤ LL) (hv : v < 999999998) (J : zJn v M) (nx : ∀ M', zJn (v + 1) M' → zU room_1 QQ Γ mcL (145, k, n) 1699 (lwL Γ b i) [] M') : zU room_1 QQ Γ mcL (145, k, n) 1649 (lwL Γ b i) [] M := by
  refine zu_aload_n C 3 rfl (zdec_at dm_L39 0 rfl) rfl ?_
  refine zu_arg C X (j := 1) (by omega) (zdec_at dm_L39 1 rfl) (zdec_at dm_L39 2 rfl) (zdec_at dm_L39 3 rfl) (zdec_at dm_L39 4 rfl) (zdec_at dm_L39 5 rfl) ?_
  refine zu_callV C [(xs (i + 1).toNat).toInt] ok_X11_reach ck_RL_189 iv_X11_reach vc_X11 oc_0 rfl rfl (zdec_at dm_L39 6 rfl) ⟨rfl, hk.1, hk.2⟩ ⟨by decide, by decide⟩ (Nat.le_of_ble_eq_true rfl) (zall_0 (z_rtz _) zall_n) ?_
  refine ⟨(xs (i + 1).toNat).toInt, rfl, pq_reach J, fun r M1 h zr1 hR1 => ?_⟩
  change zU room_1 QQ Γ mcL (145, k, n) 1659 (lwL Γ b i) [zI r] M1
  refine zu_aload_n C 2 rfl (zdec_at dm_L39 7 rfl) rfl ?_
  refine zu_arg C X (j := 1) (by omega) (zdec_at dm_L39 8 rfl) (zdec_at dm_L39 9 rfl) (zdec_at dm_L39 10 rfl) (zdec_at dm_L39 11 rfl) (zdec_at dm_L39 12 rfl) ?_
  refine zu_callV C [(xs (i + 1).toNat).toInt] ok_X12_reach ck_RL_192 iv_X12_reach vc_X12 oc_103 rfl rfl (zdec_at dm_L39 13 rfl) ⟨rfl, hk.1, hk.2⟩ ⟨by decide, by decide⟩ (Nat.le_of_ble_eq_true rfl) (zall_0 (z_rtz _) zall_n) ?_
  refine ⟨(xs (i + 1).toNat).toInt, rfl, pk_reach J h, fun r' M2 g zr2 hR2 => ?_⟩
  change zU room_1 QQ Γ mcL (145, k, n) 1669 (lwL Γ b i) [zI r', zI r] M2
  have q := zq_reach J h g
  exact zu_icmp_eq C zr1 zr2 (zdec_at dm_L39 14 rfl) rfl (fun _ => nx _ q.2) (fun e => absurd q.1 e)
theorem lc_40 (C : zC Γ mcL) (hk : k ≤ 601024 ∧ n ≤ 7293034) (X : lwX Γ b LL xs) (hi : 0 ≤ i ∧ i + 6 ≤ LL) (hv : v < 999999998) (J : zJn v M) (nx : ∀ M', zJn (v + 1) M' → zU room_1 QQ Γ mcL (145, k, n) 1699 (lwL Γ b i) [] M') : zU room_1 QQ Γ mcL (145, k, n) 1674 (lwL Γ b i) [] M := by
  refine zu_aload_n C 3 rfl (zdec_at dm_L40 0 rfl) rfl ?_
  refine zu_arg C X (j := 1) (by omega) (zdec_at dm_L40 1 rfl) (zdec_at dm_L40 2 rfl) (zdec_at dm_L40 3 rfl) (zdec_at dm_L40 4 rfl) (zdec_at dm_L40 5 rfl) ?_
  refine zu_callV C [(xs (i + 1).toNat).toInt] ok_X11_toss ck_RL_193 iv_X11_toss vc_X11 oc_0 rfl rfl (zdec_at dm_L40 6 rfl) ⟨rfl, hk.1, hk.2⟩ ⟨by decide, by decide⟩ (Nat.le_of_ble_eq_true rfl) (zall_0 (z_rtz _) zall_n) ?_
  refine ⟨(xs (i + 1).toNat).toInt, rfl, pq_toss J, fun r M1 h zr1 hR1 => ?_⟩
  change zU room_1 QQ Γ mcL (145, k, n) 1684 (lwL Γ b i) [zI r] M1
  refine zu_aload_n C 2 rfl (zdec_at dm_L40 7 rfl) rfl ?_
  refine zu_arg C X (j := 1) (by omega) (zdec_at dm_L40 8 rfl) (zdec_at dm_L40 9 rfl) (zdec_at dm_L40 10 rfl) (zdec_at dm_L40 11 rfl) (zdec_at dm_L40 12 rfl) ?_
  refine zu_callV C [(xs (i + 1).toNat).toInt] ok_X12_toss ck_RL_196 iv_X12_toss vc_X12 oc_103 rfl rfl (zdec_at dm_L40 13 rfl) ⟨rfl, hk.1, hk.2⟩ ⟨by decide, by decide⟩ (Nat.le_of_ble_eq_true rfl) (zall_0 (z_rtz _) zall_n) ?_
  refine ⟨(xs (i + 1).toNat).toInt, rfl, pk_toss J h, fun r' M2 g zr2 hR2 => ?_⟩
  change zU room_1 QQ Γ mcL (145, k, n) 1694 (lwL Γ b i) [zI r', zI r] M2
  have q := zq_toss J h g
  exact zu_icmp_eq C zr1 zr2 (zdec_at dm_L40 14 rfl) rfl (fun _ => nx _ q.2) (fun e => absurd q.1 e)
end
