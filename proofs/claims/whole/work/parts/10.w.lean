set_option maxHeartbeats 400000 in
set_option maxRecDepth 100000 in
theorem sn_J6_bitCount_0f7a4 : zSnd zS 145 0 0 yJ6_bitCount_0f7a4 cJ6_bitCount_0f7a4 1 (some .int) 0 [0] (fun xs P M => ∃ a0 : Int, xs = [a0] ∧ vc_J6_bitCount_0f7a4 a0 P M) := by
  refine zSnd.of rfl (fun ad xs hz => Nat.le_trans (Nat.le_of_eq (zlen ad _ xs hz)) (by decide)) ?_
  intro Γ C _ _ xs M hz hF
  obtain ⟨a0, rfl, h⟩ := hF
  have zz_a0 := zall_h hz (by decide)
  refine zr_rng (fun hR => ?_)
  have C : zC Γ mu_J6_bitCount_0f7a4 := C
  change zV Γ mu_J6_bitCount_0f7a4 (145, 0, 0) 0 [(0, zI a0)] [] M
  change vc_J6_bitCount_0f7a4 a0 _ M at h
  unfold vc_J6_bitCount_0f7a4 at h
  refine zr_iload_n C 0 rfl (zdec_at dm_J6_bitCount_0f7a4 0 rfl) rfl ?_
  refine zr_iload_n C 0 rfl (zdec_at dm_J6_bitCount_0f7a4 1 rfl) rfl ?_
  refine zr_iconst C (zdec_at dm_J6_bitCount_0f7a4 2 rfl) ?_
  refine zr_iushr C (zdec_at dm_J6_bitCount_0f7a4 3 rfl) ?_
  refine zr_ldcw C (zdec_at dm_J6_bitCount_0f7a4 4 rfl) kc_RJ6_265 ?_
  refine zr_iand C (zdec_at dm_J6_bitCount_0f7a4 5 rfl) ?_
  refine zr_isub C (zdec_at dm_J6_bitCount_0f7a4 6 rfl) ?_
  refine zr_istore_n (L1 := [(0, zI (a0 - (zland (zushr a0 1) 1431655765)))]) C (zdec_at dm_J6_bitCount_0f7a4 7 rfl) rfl (Nat.le_of_ble_eq_true rfl) rfl ?_
  refine zr_iload_n C 0 rfl (zdec_at dm_J6_bitCount_0f7a4 8 rfl) rfl ?_
  refine zr_ldcw C (zdec_at dm_J6_bitCount_0f7a4 9 rfl) kc_RJ6_266 ?_
  refine zr_iand C (zdec_at dm_J6_bitCount_0f7a4 10 rfl) ?_
  refine zr_iload_n C 0 rfl (zdec_at dm_J6_bitCount_0f7a4 11 rfl) rfl ?_
  refine zr_iconst C (zdec_at dm_J6_bitCount_0f7a4 12 rfl) ?_
  refine zr_iushr C (zdec_at dm_J6_bitCount_0f7a4 13 rfl) ?_
  refine zr_ldcw C (zdec_at dm_J6_bitCount_0f7a4 14 rfl) kc_RJ6_266 ?_
  refine zr_iand C (zdec_at dm_J6_bitCount_0f7a4 15 rfl) ?_
  refine zr_iadd C (zdec_at dm_J6_bitCount_0f7a4 16 rfl) ?_
  refine zr_istore_n (L1 := [(0, zI ((zland (a0 - (zland (zushr a0 1) 1431655765)) 858993459) + (zland (zushr (a0 - (zland (zushr a0 1) 1431655765)) 2) 858993459)))]) C (zdec_at dm_J6_bitCount_0f7a4 17 rfl) rfl (Nat.le_of_ble_eq_true rfl) rfl ?_
  refine zr_iload_n C 0 rfl (zdec_at dm_J6_bitCount_0f7a4 18 rfl) rfl ?_
  refine zr_iload_n C 0 rfl (zdec_at dm_J6_bitCount_0f7a4 19 rfl) rfl ?_
  refine zr_iconst C (zdec_at dm_J6_bitCount_0f7a4 20 rfl) ?_
  refine zr_iushr C (zdec_at dm_J6_bitCount_0f7a4 21 rfl) ?_
  refine zr_iadd C (zdec_at dm_J6_bitCount_0f7a4 22 rfl) ?_
  refine zr_ldcw C (zdec_at dm_J6_bitCount_0f7a4 23 rfl) kc_RJ6_267 ?_
  refine zr_iand C (zdec_at dm_J6_bitCount_0f7a4 24 rfl) ?_
  refine zr_istore_n (L1 := [(0, zI (zland (((zland (a0 - (zland (zushr a0 1) 1431655765)) 858993459) + (zland (zushr (a0 - (zland (zushr a0 1) 1431655765)) 2) 858993459)) + (zushr ((zland (a0 - (zland (zushr a0 1) 1431655765)) 858993459) + (zland (zushr (a0 - (zland (zushr a0 1) 1431655765)) 2) 858993459)) 4)) 252645135))]) C (zdec_at dm_J6_bitCount_0f7a4 25 rfl) rfl (Nat.le_of_ble_eq_true rfl) rfl ?_
  refine zr_iload_n C 0 rfl (zdec_at dm_J6_bitCount_0f7a4 26 rfl) rfl ?_
  refine zr_iload_n C 0 rfl (zdec_at dm_J6_bitCount_0f7a4 27 rfl) rfl ?_
  refine zr_bipush C (zdec_at dm_J6_bitCount_0f7a4 28 rfl) (by decide) ?_
  refine zr_iushr C (zdec_at dm_J6_bitCount_0f7a4 29 rfl) ?_
  refine zr_iadd C (zdec_at dm_J6_bitCount_0f7a4 30 rfl) ?_
  refine zr_istore_n (L1 := [(0, zI ((zland (((zland (a0 - (zland (zushr a0 1) 1431655765)) 858993459) + (zland (zushr (a0 - (zland (zushr a0 1) 1431655765)) 2) 858993459)) + (zushr ((zland (a0 - (zland (zushr a0 1) 1431655765)) 858993459) + (zland (zushr (a0 - (zland (zushr a0 1) 1431655765)) 2) 858993459)) 4)) 252645135) + (zushr (zland (((zland (a0 - (zland (zushr a0 1) 1431655765)) 858993459) + (zland (zushr (a0 - (zland (zushr a0 1) 1431655765)) 2) 858993459)) + (zushr ((zland (a0 - (zland (zushr a0 1) 1431655765)) 858993459) + (zland (zushr (a0 - (zland (zushr a0 1) 1431655765)) 2) 858993459)) 4)) 252645135) 8)))]) C (zdec_at dm_J6_bitCount_0f7a4 31 rfl) rfl (Nat.le_of_ble_eq_true rfl) rfl ?_
  refine zr_iload_n C 0 rfl (zdec_at dm_J6_bitCount_0f7a4 32 rfl) rfl ?_
  refine zr_iload_n C 0 rfl (zdec_at dm_J6_bitCount_0f7a4 33 rfl) rfl ?_
  refine zr_bipush C (zdec_at dm_J6_bitCount_0f7a4 34 rfl) (by decide) ?_
  refine zr_iushr C (zdec_at dm_J6_bitCount_0f7a4 35 rfl) ?_
  refine zr_iadd C (zdec_at dm_J6_bitCount_0f7a4 36 rfl) ?_
  refine zr_istore_n (L1 := [(0, zI (((zland (((zland (a0 - (zland (zushr a0 1) 1431655765)) 858993459) + (zland (zushr (a0 - (zland (zushr a0 1) 1431655765)) 2) 858993459)) + (zushr ((zland (a0 - (zland (zushr a0 1) 1431655765)) 858993459) + (zland (zushr (a0 - (zland (zushr a0 1) 1431655765)) 2) 858993459)) 4)) 252645135) + (zushr (zland (((zland (a0 - (zland (zushr a0 1) 1431655765)) 858993459) + (zland (zushr (a0 - (zland (zushr a0 1) 1431655765)) 2) 858993459)) + (zushr ((zland (a0 - (zland (zushr a0 1) 1431655765)) 858993459) + (zland (zushr (a0 - (zland (zushr a0 1) 1431655765)) 2) 858993459)) 4)) 252645135) 8)) + (zushr ((zland (((zland (a0 - (zland (zushr a0 1) 1431655765)) 858993459) + (zland (zushr (a0 - (zland (zushr a0 1) 1431655765)) 2) 858993459)) + (zushr ((zland (a0 - (zland (zushr a0 1) 1431655765)) 858993459) + (zland (zushr (a0 - (zland (zushr a0 1) 1431655765)) 2) 858993459)) 4)) 252645135) + (zushr (zland (((zland (a0 - (zland (zushr a0 1) 1431655765)) 858993459) + (zland (zushr (a0 - (zland (zushr a0 1) 1431655765)) 2) 858993459)) + (zushr ((zland (a0 - (zland (zushr a0 1) 1431655765)) 858993459) + (zland (zushr (a0 - (zland (zushr a0 1) 1431655765)) 2) 858993459)) 4)) 252645135) 8)) 16)))]) C (zdec_at dm_J6_bitCount_0f7a4 37 rfl) rfl (Nat.le_of_ble_eq_true rfl) rfl ?_
  refine zr_iload_n C 0 rfl (zdec_at dm_J6_bitCount_0f7a4 38 rfl) rfl ?_
  refine zr_bipush C (zdec_at dm_J6_bitCount_0f7a4 39 rfl) (by decide) ?_
  refine zr_iand C (zdec_at dm_J6_bitCount_0f7a4 40 rfl) ?_
  exact zr_ireturn C rfl (zdec_at dm_J6_bitCount_0f7a4 41 rfl) rfl ⟨(zland_z _ _), h⟩

set_option maxHeartbeats 400000 in
set_option maxRecDepth 100000 in
theorem sn_J7_fill_53178 : zSnd zS 145 0 0 yJ7_fill_53178 cJ7_fill_53178 4 none 0 [2, 0] (fun xs P M => ∃ a0 a1 : Int, xs = [a0, a1] ∧ vc_J7_fill_53178 a0 a1 P M) := by
  refine zSnd.of rfl (fun ad xs hz => Nat.le_trans (Nat.le_of_eq (zlen ad _ xs hz)) (by decide)) ?_
  intro Γ C _ _ xs M hz hF
  obtain ⟨a0, a1, rfl, h⟩ := hF
  have zz_a1 := zall_h (zall_t hz) (by decide)
  refine zr_rng (fun hR => ?_)
  have C : zC Γ mu_J7_fill_53178 := C
  change zV Γ mu_J7_fill_53178 (145, 0, 0) 0 [(0, zRf (zad Γ) a0), (1, zI a1)] [] M
  change vc_J7_fill_53178 a0 a1 _ M at h
  unfold vc_J7_fill_53178 at h
  refine zr_iconst C (zdec_at dm_J7_fill_53178 0 rfl) ?_
  refine zr_istore_n (L1 := [(2, zI 0), (0, zRf (zad Γ) a0), (1, zI a1)]) C (zdec_at dm_J7_fill_53178 1 rfl) rfl (Nat.le_of_ble_eq_true rfl) rfl ?_
  refine zr_aload_n C 1 rfl (zdec_at dm_J7_fill_53178 2 rfl) rfl ?_
  obtain ⟨o1, h⟩ := h
  refine zr_alen C (by decide) o1 (zdec_at dm_J7_fill_53178 3 rfl) ?_
  rw [zln_i]
  refine zr_istore_n (L1 := [(3, zI (zlni a0)), (2, zI 0), (0, zRf (zad Γ) a0), (1, zI a1)]) C (zdec_at dm_J7_fill_53178 4 rfl) rfl (Nat.le_of_ble_eq_true rfl) rfl ?_
  obtain ⟨I5, ⟨n10, q11⟩, hI9⟩ := h
  have lp8 : ∀ (n6 : Nat) (v2 : Int) (M4 : zM), I5 v2 M4 n6 → zin v2 → zRng M4 → zV Γ mu_J7_fill_53178 (145, 0, 0) 5 [(0, zRf (zad Γ) a0), (1, zI a1), (2, zI v2), (3, zI (zlni a0))] [] M4 := by
    intro n6
    induction n6 using Nat.strongRecOn with
    | _ n6 ih7 =>
    intro v2 M4 q12 z3 hR5
    have h := hI9 v2 M4 n6 q12 z3 hR5
    refine zr_iload_n C 2 rfl (zdec_at dm_J7_fill_53178 5 rfl) rfl ?_
    refine zr_iload_n C 3 rfl (zdec_at dm_J7_fill_53178 6 rfl) rfl ?_
    refine zr_icmp_ge C z3 (zln_z o1) (zdec_at dm_J7_fill_53178 7 rfl) rfl (fun g13 => ?_) (fun g13 => ?_)
    · have h := h.1 g13
      exact zr_return C rfl rfl (zdec_at dm_J7_fill_53178 14 rfl) rfl ⟨by decide, h⟩
    · have h := h.2 g13
      refine zr_aload_n C 0 rfl (zdec_at dm_J7_fill_53178 8 rfl) rfl ?_
      refine zr_iload_n C 2 rfl (zdec_at dm_J7_fill_53178 9 rfl) rfl ?_
      refine zr_iload_n C 1 rfl (zdec_at dm_J7_fill_53178 10 rfl) rfl ?_
      obtain ⟨o14, h⟩ := h
      refine zr_iast C o1 o14 zz_a1 (zdec_at dm_J7_fill_53178 11 rfl) (fun M15 e16 => ?_)
      have h := h M15 e16
      have hR17 : zRng M15 := by rw [e16]; exact hR5.set zz_a1 _ _
      refine zr_iinc (L1 := [(2, zI (v2 + 1)), (0, zRf (zad Γ) a0), (1, zI a1), (3, zI (zlni a0))]) C 2 rfl (zdec_at dm_J7_fill_53178 12 rfl) (Nat.le_of_ble_eq_true rfl) rfl ?_
      refine zr_goto C (zdec_at dm_J7_fill_53178 13 rfl) rfl ?_
      obtain ⟨o18, h⟩ := h
      obtain ⟨n19, q20, q21⟩ := h
      exact zr_sub [1, 2, 0, 3] rfl (ih7 n19 q20 _ _ q21 o18 hR17)
  exact zr_sub [2, 3, 1, 0] rfl (lp8 n10 _ _ q11 (by decide) hR)

set_option maxHeartbeats 400000 in
set_option maxRecDepth 100000 in
theorem sn_X0_isDot : zSnd zS 145 0 0 yX0_isDot cX0_isDot 2 (some .boolean) 0 [2, 0] (fun xs P M => ∃ a1 : Int, xs = [1, a1] ∧ vc_X0_isDot a1 P M) := by
  refine zSnd.of rfl (fun ad xs hz => Nat.le_trans (Nat.le_of_eq (zlen ad _ xs hz)) (by decide)) ?_
  intro Γ C _ _ xs M hz hF
  obtain ⟨a1, rfl, h⟩ := hF
  have zz_a1 := zall_h (zall_t hz) (by decide)
  refine zr_rng (fun hR => ?_)
  have C : zC Γ mu_X0_isDot := C
  change zV Γ mu_X0_isDot (145, 0, 0) 0 [(0, zRf (zad Γ) 1), (1, zI a1)] [] M
  change vc_X0_isDot a1 _ M at h
  unfold vc_X0_isDot at h
  refine zr_iload_n C 1 rfl (zdec_at dm_X0_isDot 0 rfl) rfl ?_
  refine zr_if_lt C zz_a1 (zdec_at dm_X0_isDot 1 rfl) rfl (fun g1 => ?_) (fun g1 => ?_)
  · have h := h.1 g1
    refine zr_iconst C (zdec_at dm_X0_isDot 19 rfl) ?_
    exact zr_zreturn C rfl (by decide) (zdec_at dm_X0_isDot 20 rfl) rfl ⟨(by decide), h⟩
  · have h := h.2 g1
    refine zr_iload_n C 1 rfl (zdec_at dm_X0_isDot 2 rfl) rfl ?_
    refine zr_sipush C (zdec_at dm_X0_isDot 3 rfl) (by decide) ?_
    refine zr_icmp_ge C zz_a1 (by decide) (zdec_at dm_X0_isDot 4 rfl) rfl (fun g2 => ?_) (fun g2 => ?_)
    · have h := h.1 g2
      refine zr_iconst C (zdec_at dm_X0_isDot 19 rfl) ?_
      exact zr_zreturn C rfl (by decide) (zdec_at dm_X0_isDot 20 rfl) rfl ⟨(by decide), h⟩
    · have h := h.2 g2
      refine zr_iload_n C 1 rfl (zdec_at dm_X0_isDot 5 rfl) rfl ?_
      refine zr_bipush C (zdec_at dm_X0_isDot 6 rfl) (by decide) ?_
      obtain ⟨o3, h⟩ := h
      refine zr_irem C zz_a1 (by decide) ⟨o3, by decide⟩ (zdec_at dm_X0_isDot 7 rfl) ?_
      refine zr_aload_n C 0 rfl (zdec_at dm_X0_isDot 8 rfl) rfl ?_
      refine zr_geti C fk_RX0_22 fi_1_0 (zdec_at dm_X0_isDot 9 rfl) ?_
      refine zr_icmp_ge C (z_rz (a := a1) (b := 16) ⟨o3, by decide⟩ (by decide)) (hR _ _) (zdec_at dm_X0_isDot 10 rfl) rfl (fun g4 => ?_) (fun g4 => ?_)
      · have h := h.1 g4
        refine zr_iconst C (zdec_at dm_X0_isDot 19 rfl) ?_
        exact zr_zreturn C rfl (by decide) (zdec_at dm_X0_isDot 20 rfl) rfl ⟨(by decide), h⟩
      · have h := h.2 g4
        refine zr_iload_n C 1 rfl (zdec_at dm_X0_isDot 11 rfl) rfl ?_
        refine zr_bipush C (zdec_at dm_X0_isDot 12 rfl) (by decide) ?_
        refine zr_idiv C zz_a1 (by decide) ⟨o3, by decide⟩ (zdec_at dm_X0_isDot 13 rfl) ?_
        refine zr_aload_n C 0 rfl (zdec_at dm_X0_isDot 14 rfl) rfl ?_
        refine zr_geti C fk_RX0_26 fi_1_1 (zdec_at dm_X0_isDot 15 rfl) ?_
        refine zr_icmp_ge C (z_dz2 (a := a1) (b := 16) ⟨o3, by decide⟩ zz_a1) (hR _ _) (zdec_at dm_X0_isDot 16 rfl) rfl (fun g5 => ?_) (fun g5 => ?_)
        · have h := h.1 g5
          refine zr_iconst C (zdec_at dm_X0_isDot 19 rfl) ?_
          exact zr_zreturn C rfl (by decide) (zdec_at dm_X0_isDot 20 rfl) rfl ⟨(by decide), h⟩
        · have h := h.2 g5
          refine zr_iconst C (zdec_at dm_X0_isDot 17 rfl) ?_
          refine zr_goto C (zdec_at dm_X0_isDot 18 rfl) rfl ?_
          exact zr_zreturn C rfl (by decide) (zdec_at dm_X0_isDot 20 rfl) rfl ⟨(by decide), h⟩

set_option maxHeartbeats 400000 in
set_option maxRecDepth 100000 in
theorem sn_X0_dots : zSnd zS 145 0 0 yX0_dots cX0_dots 1 (some .int) 0 [2] (fun xs P M => xs = [1] ∧ vc_X0_dots P M) := by
  refine zSnd.of rfl (fun ad xs hz => Nat.le_trans (Nat.le_of_eq (zlen ad _ xs hz)) (by decide)) ?_
  intro Γ C _ _ xs M hz hF
  obtain ⟨rfl, h⟩ := hF
  refine zr_rng (fun hR => ?_)
  have C : zC Γ mu_X0_dots := C
  change zV Γ mu_X0_dots (145, 0, 0) 0 [(0, zRf (zad Γ) 1)] [] M
  change vc_X0_dots _ M at h
  unfold vc_X0_dots at h
  refine zr_aload_n C 0 rfl (zdec_at dm_X0_dots 0 rfl) rfl ?_
  refine zr_geti C fk_RX0_22 fi_1_0 (zdec_at dm_X0_dots 1 rfl) ?_
  refine zr_aload_n C 0 rfl (zdec_at dm_X0_dots 2 rfl) rfl ?_
  refine zr_geti C fk_RX0_26 fi_1_1 (zdec_at dm_X0_dots 3 rfl) ?_
  refine zr_imul C (zdec_at dm_X0_dots 4 rfl) ?_
  obtain ⟨o1, h⟩ := h
  exact zr_ireturn C rfl (zdec_at dm_X0_dots 5 rfl) rfl ⟨o1, h⟩

set_option maxHeartbeats 400000 in
set_option maxRecDepth 100000 in
theorem sn_X0_colourAt : zSnd zS 145 0 0 yX0_colourAt cX0_colourAt 3 (some .int) 0 [2, 0, 0] (fun xs P M => ∃ a1 a2 : Int, xs = [1, a1, a2] ∧ vc_X0_colourAt a1 a2 P M) := by
  refine zSnd.of rfl (fun ad xs hz => Nat.le_trans (Nat.le_of_eq (zlen ad _ xs hz)) (by decide)) ?_
  intro Γ C _ _ xs M hz hF
  obtain ⟨a1, a2, rfl, h⟩ := hF
  have zz_a1 := zall_h (zall_t hz) (by decide)
  have zz_a2 := zall_h (zall_t (zall_t hz)) (by decide)
  refine zr_rng (fun hR => ?_)
  have C : zC Γ mu_X0_colourAt := C
  change zV Γ mu_X0_colourAt (145, 0, 0) 0 [(0, zRf (zad Γ) 1), (1, zI a1), (2, zI a2)] [] M
  change vc_X0_colourAt a1 a2 _ M at h
  unfold vc_X0_colourAt at h
  refine zr_iload_n C 1 rfl (zdec_at dm_X0_colourAt 0 rfl) rfl ?_
  refine zr_if_lt C zz_a1 (zdec_at dm_X0_colourAt 1 rfl) rfl (fun g1 => ?_) (fun g1 => ?_)
  · have h := h.1 g1
    refine zr_iconst C (zdec_at dm_X0_colourAt 21 rfl) ?_
    exact zr_ireturn C rfl (zdec_at dm_X0_colourAt 22 rfl) rfl ⟨(by decide), h⟩
  · have h := h.2 g1
    refine zr_iload_n C 1 rfl (zdec_at dm_X0_colourAt 2 rfl) rfl ?_
    refine zr_aload_n C 0 rfl (zdec_at dm_X0_colourAt 3 rfl) rfl ?_
    refine zr_geti C fk_RX0_22 fi_1_0 (zdec_at dm_X0_colourAt 4 rfl) ?_
    refine zr_icmp_ge C zz_a1 (hR _ _) (zdec_at dm_X0_colourAt 5 rfl) rfl (fun g2 => ?_) (fun g2 => ?_)
    · have h := h.1 g2
      refine zr_iconst C (zdec_at dm_X0_colourAt 21 rfl) ?_
      exact zr_ireturn C rfl (zdec_at dm_X0_colourAt 22 rfl) rfl ⟨(by decide), h⟩
    · have h := h.2 g2
      refine zr_iload_n C 2 rfl (zdec_at dm_X0_colourAt 6 rfl) rfl ?_
      refine zr_if_lt C zz_a2 (zdec_at dm_X0_colourAt 7 rfl) rfl (fun g3 => ?_) (fun g3 => ?_)
      · have h := h.1 g3
        refine zr_iconst C (zdec_at dm_X0_colourAt 21 rfl) ?_
        exact zr_ireturn C rfl (zdec_at dm_X0_colourAt 22 rfl) rfl ⟨(by decide), h⟩
      · have h := h.2 g3
        refine zr_iload_n C 2 rfl (zdec_at dm_X0_colourAt 8 rfl) rfl ?_
        refine zr_aload_n C 0 rfl (zdec_at dm_X0_colourAt 9 rfl) rfl ?_
        refine zr_geti C fk_RX0_26 fi_1_1 (zdec_at dm_X0_colourAt 10 rfl) ?_
        refine zr_icmp_ge C zz_a2 (hR _ _) (zdec_at dm_X0_colourAt 11 rfl) rfl (fun g4 => ?_) (fun g4 => ?_)
        · have h := h.1 g4
          refine zr_iconst C (zdec_at dm_X0_colourAt 21 rfl) ?_
          exact zr_ireturn C rfl (zdec_at dm_X0_colourAt 22 rfl) rfl ⟨(by decide), h⟩
        · have h := h.2 g4
          refine zr_aload_n C 0 rfl (zdec_at dm_X0_colourAt 12 rfl) rfl ?_
          refine zr_getr (q := 2) C fk_RX0_9 fi_1_4 (zdec_at dm_X0_colourAt 13 rfl) ?_
          refine zr_bipush C (zdec_at dm_X0_colourAt 14 rfl) (by decide) ?_
          refine zr_iload_n C 2 rfl (zdec_at dm_X0_colourAt 15 rfl) rfl ?_
          refine zr_imul C (zdec_at dm_X0_colourAt 16 rfl) ?_
          refine zr_iload_n C 1 rfl (zdec_at dm_X0_colourAt 17 rfl) rfl ?_
          refine zr_iadd C (zdec_at dm_X0_colourAt 18 rfl) ?_
          obtain ⟨o5, h⟩ := h
          refine zr_bald C ai_2 o5 (zdec_at dm_X0_colourAt 19 rfl) ?_
          refine zr_goto C (zdec_at dm_X0_colourAt 20 rfl) rfl ?_
          exact zr_ireturn C rfl (zdec_at dm_X0_colourAt 22 rfl) rfl ⟨(hR _ _), h⟩

set_option maxHeartbeats 400000 in
set_option maxRecDepth 100000 in
theorem sn_X0_startDraft : zSnd zS 145 0 0 yX0_startDraft cX0_startDraft 1 none 1 [2] (fun xs P M => xs = [1] ∧ vc_X0_startDraft P M) := by
  refine zSnd.of rfl (fun ad xs hz => Nat.le_trans (Nat.le_of_eq (zlen ad _ xs hz)) (by decide)) ?_
  intro Γ C _ _ xs M hz hF
  obtain ⟨rfl, h⟩ := hF
  refine zr_rng (fun hR => ?_)
  have C : zC Γ mu_X0_startDraft := C
  change zV Γ mu_X0_startDraft (145, 0, 0) 0 [(0, zRf (zad Γ) 1)] [] M
  change vc_X0_startDraft _ M at h
  unfold vc_X0_startDraft at h
  refine zr_aload_n C 0 rfl (zdec_at dm_X0_startDraft 0 rfl) rfl ?_
  refine zr_getr (q := 2) C fk_RX0_9 fi_1_4 (zdec_at dm_X0_startDraft 1 rfl) ?_
  refine zr_iconst C (zdec_at dm_X0_startDraft 2 rfl) ?_
  refine zr_aload_n C 0 rfl (zdec_at dm_X0_startDraft 3 rfl) rfl ?_
  refine zr_getr (q := 4) C fk_RX0_19 fi_1_6 (zdec_at dm_X0_startDraft 4 rfl) ?_
  refine zr_iconst C (zdec_at dm_X0_startDraft 5 rfl) ?_
  refine zr_sipush C (zdec_at dm_X0_startDraft 6 rfl) (by decide) ?_
  obtain ⟨o2, h⟩ := h
  refine zr_copy C (by decide) ai_2 ai_4 (by decide) (fun _ => o2) rfl (by decide) kw_copy_RX0_29 kw_cnat kw_cstat kw_cini (zdec_at dm_X0_startDraft 7 rfl) (fun M3 e4 => ?_)
  have h := h M3 e4
  have hR5 : zRng M3 := by rw [e4]; exact hR.cpy _ _ _ _ _
  exact zr_return C rfl rfl (zdec_at dm_X0_startDraft 8 rfl) rfl ⟨by decide, h⟩

set_option maxHeartbeats 400000 in
set_option maxRecDepth 100000 in
theorem sn_X0_takeDraft : zSnd zS 145 0 0 yX0_takeDraft cX0_takeDraft 1 none 1 [2] (fun xs P M => xs = [1] ∧ vc_X0_takeDraft P M) := by
  refine zSnd.of rfl (fun ad xs hz => Nat.le_trans (Nat.le_of_eq (zlen ad _ xs hz)) (by decide)) ?_
  intro Γ C _ _ xs M hz hF
  obtain ⟨rfl, h⟩ := hF
  refine zr_rng (fun hR => ?_)
  have C : zC Γ mu_X0_takeDraft := C
  change zV Γ mu_X0_takeDraft (145, 0, 0) 0 [(0, zRf (zad Γ) 1)] [] M
  change vc_X0_takeDraft _ M at h
  unfold vc_X0_takeDraft at h
  refine zr_aload_n C 0 rfl (zdec_at dm_X0_takeDraft 0 rfl) rfl ?_
  refine zr_getr (q := 4) C fk_RX0_19 fi_1_6 (zdec_at dm_X0_takeDraft 1 rfl) ?_
  refine zr_iconst C (zdec_at dm_X0_takeDraft 2 rfl) ?_
  refine zr_aload_n C 0 rfl (zdec_at dm_X0_takeDraft 3 rfl) rfl ?_
  refine zr_getr (q := 2) C fk_RX0_9 fi_1_4 (zdec_at dm_X0_takeDraft 4 rfl) ?_
  refine zr_iconst C (zdec_at dm_X0_takeDraft 5 rfl) ?_
  refine zr_sipush C (zdec_at dm_X0_takeDraft 6 rfl) (by decide) ?_
  obtain ⟨o2, h⟩ := h
  refine zr_copy C (by decide) ai_4 ai_2 (by decide) (fun _ => o2) rfl (by decide) kw_copy_RX0_29 kw_cnat kw_cstat kw_cini (zdec_at dm_X0_takeDraft 7 rfl) (fun M3 e4 => ?_)
  have h := h M3 e4
  have hR5 : zRng M3 := by rw [e4]; exact hR.cpy _ _ _ _ _
  refine zr_aload_n C 0 rfl (zdec_at dm_X0_takeDraft 8 rfl) rfl ?_
  refine zr_dup C rfl (zdec_at dm_X0_takeDraft 9 rfl) ?_
  refine zr_geti C fk_RX0_35 fi_1_3 (zdec_at dm_X0_takeDraft 10 rfl) ?_
  refine zr_iconst C (zdec_at dm_X0_takeDraft 11 rfl) ?_
  refine zr_iadd C (zdec_at dm_X0_takeDraft 12 rfl) ?_
  obtain ⟨o6, h⟩ := h
  refine zr_puti C fk_RX0_35 fi_1_3 o6 (zdec_at dm_X0_takeDraft 13 rfl) (fun M7 e8 => ?_)
  have h := h M7 e8
  have hR9 : zRng M7 := by rw [e8]; exact hR5.set o6 _ _
  exact zr_return C rfl rfl (zdec_at dm_X0_takeDraft 14 rfl) rfl ⟨by decide, h⟩

set_option maxHeartbeats 400000 in
set_option maxRecDepth 100000 in
theorem sn_X0_countDraftChanges : zSnd zS 145 0 0 yX0_countDraftChanges cX0_countDraftChanges 3 (some .int) 0 [2] (fun xs P M => xs = [1] ∧ vc_X0_countDraftChanges P M) := by
  refine zSnd.of rfl (fun ad xs hz => Nat.le_trans (Nat.le_of_eq (zlen ad _ xs hz)) (by decide)) ?_
  intro Γ C _ _ xs M hz hF
  obtain ⟨rfl, h⟩ := hF
  refine zr_rng (fun hR => ?_)
  have C : zC Γ mu_X0_countDraftChanges := C
  change zV Γ mu_X0_countDraftChanges (145, 0, 0) 0 [(0, zRf (zad Γ) 1)] [] M
  change vc_X0_countDraftChanges _ M at h
  unfold vc_X0_countDraftChanges at h
  refine zr_iconst C (zdec_at dm_X0_countDraftChanges 0 rfl) ?_
  refine zr_istore_n (L1 := [(1, zI 0), (0, zRf (zad Γ) 1)]) C (zdec_at dm_X0_countDraftChanges 1 rfl) rfl (Nat.le_of_ble_eq_true rfl) rfl ?_
  refine zr_iconst C (zdec_at dm_X0_countDraftChanges 2 rfl) ?_
  refine zr_istore_n (L1 := [(2, zI 0), (1, zI 0), (0, zRf (zad Γ) 1)]) C (zdec_at dm_X0_countDraftChanges 3 rfl) rfl (Nat.le_of_ble_eq_true rfl) rfl ?_
  obtain ⟨I4, ⟨n9, q10⟩, hI8⟩ := h
  have lp7 : ∀ (n5 : Nat) (v1 : Int) (v2 : Int), I4 v1 v2 n5 → zin v1 → zin v2 → zV Γ mu_X0_countDraftChanges (145, 0, 0) 4 [(0, zRf (zad Γ) 1), (1, zI v1), (2, zI v2)] [] M := by
    intro n5
    induction n5 using Nat.strongRecOn with
    | _ n5 ih6 =>
    intro v1 v2 q11 z3 z4
    have h := hI8 v1 v2 n5 q11 z3 z4
    refine zr_iload_n C 2 rfl (zdec_at dm_X0_countDraftChanges 4 rfl) rfl ?_
    refine zr_sipush C (zdec_at dm_X0_countDraftChanges 5 rfl) (by decide) ?_
    refine zr_icmp_ge C z4 (by decide) (zdec_at dm_X0_countDraftChanges 6 rfl) rfl (fun g12 => ?_) (fun g12 => ?_)
    · have h := h.1 g12
      refine zr_iload_n C 1 rfl (zdec_at dm_X0_countDraftChanges 19 rfl) rfl ?_
      exact zr_ireturn C rfl (zdec_at dm_X0_countDraftChanges 20 rfl) rfl ⟨z3, h⟩
    · have h := h.2 g12
      refine zr_aload_n C 0 rfl (zdec_at dm_X0_countDraftChanges 7 rfl) rfl ?_
      refine zr_getr (q := 4) C fk_RX0_19 fi_1_6 (zdec_at dm_X0_countDraftChanges 8 rfl) ?_
      refine zr_iload_n C 2 rfl (zdec_at dm_X0_countDraftChanges 9 rfl) rfl ?_
      obtain ⟨o13, h⟩ := h
      refine zr_bald C ai_4 o13 (zdec_at dm_X0_countDraftChanges 10 rfl) ?_
      refine zr_aload_n C 0 rfl (zdec_at dm_X0_countDraftChanges 11 rfl) rfl ?_
      refine zr_getr (q := 2) C fk_RX0_9 fi_1_4 (zdec_at dm_X0_countDraftChanges 12 rfl) ?_
      refine zr_iload_n C 2 rfl (zdec_at dm_X0_countDraftChanges 13 rfl) rfl ?_
      refine zr_bald C ai_2 o13 (zdec_at dm_X0_countDraftChanges 14 rfl) ?_
      refine zr_icmp_eq C (hR _ _) (hR _ _) (zdec_at dm_X0_countDraftChanges 15 rfl) rfl (fun g14 => ?_) (fun g14 => ?_)
      · have h := h.1 g14
        refine zr_iinc (L1 := [(2, zI (v2 + 1)), (0, zRf (zad Γ) 1), (1, zI v1)]) C 2 rfl (zdec_at dm_X0_countDraftChanges 17 rfl) (Nat.le_of_ble_eq_true rfl) rfl ?_
        refine zr_goto C (zdec_at dm_X0_countDraftChanges 18 rfl) rfl ?_
        obtain ⟨o15, h⟩ := h
        obtain ⟨n16, q17, q18⟩ := h
        exact zr_sub [1, 2, 0] rfl (ih6 n16 q17 _ _ q18 z3 o15)
      · have h := h.2 g14
        refine zr_iinc (L1 := [(1, zI (v1 + 1)), (0, zRf (zad Γ) 1), (2, zI v2)]) C 1 rfl (zdec_at dm_X0_countDraftChanges 16 rfl) (Nat.le_of_ble_eq_true rfl) rfl ?_
        refine zr_iinc (L1 := [(2, zI (v2 + 1)), (1, zI (v1 + 1)), (0, zRf (zad Γ) 1)]) C 2 rfl (zdec_at dm_X0_countDraftChanges 17 rfl) (Nat.le_of_ble_eq_true rfl) rfl ?_
        refine zr_goto C (zdec_at dm_X0_countDraftChanges 18 rfl) rfl ?_
        obtain ⟨o19, h⟩ := h
        obtain ⟨o20, h⟩ := h
        obtain ⟨n21, q22, q23⟩ := h
        exact zr_sub [2, 1, 0] rfl (ih6 n21 q22 _ _ q23 o19 o20)
  exact zr_sub [2, 1, 0] rfl (lp7 n9 _ _ q10 (by decide) (by decide))

set_option maxHeartbeats 400000 in
set_option maxRecDepth 100000 in
theorem sn_X0_countUnlikeSides {pr_X0_colourAt : Int → Int → zM → Prop} {po_X0_colourAt : Int → Int → zM → Int → zM → Prop} (hS_X0_colourAt : zSnd zS 145 0 0 yX0_colourAt cX0_colourAt 3 (some .int) 0 [2, 0, 0] (F_X0_colourAt pr_X0_colourAt po_X0_colourAt)) : zSnd zS 145 0 0 yX0_countUnlikeSides cX0_countUnlikeSides 4 (some .int) 1 [2] (fun xs P M => xs = [1] ∧ vc_X0_countUnlikeSides pr_X0_colourAt po_X0_colourAt P M) := by
  refine zSnd.of rfl (fun ad xs hz => Nat.le_trans (Nat.le_of_eq (zlen ad _ xs hz)) (by decide)) ?_
  intro Γ C _ _ xs M hz hF
  obtain ⟨rfl, h⟩ := hF
  refine zr_rng (fun hR => ?_)
  have C : zC Γ mu_X0_countUnlikeSides := C
  change zV Γ mu_X0_countUnlikeSides (145, 0, 0) 0 [(0, zRf (zad Γ) 1)] [] M
  change vc_X0_countUnlikeSides pr_X0_colourAt po_X0_colourAt _ M at h
  unfold vc_X0_countUnlikeSides at h
  refine zr_iconst C (zdec_at dm_X0_countUnlikeSides 0 rfl) ?_
  refine zr_istore_n (L1 := [(1, zI 0), (0, zRf (zad Γ) 1)]) C (zdec_at dm_X0_countUnlikeSides 1 rfl) rfl (Nat.le_of_ble_eq_true rfl) rfl ?_
  refine zr_iconst C (zdec_at dm_X0_countUnlikeSides 2 rfl) ?_
  refine zr_istore_n (L1 := [(2, zI 0), (1, zI 0), (0, zRf (zad Γ) 1)]) C (zdec_at dm_X0_countUnlikeSides 3 rfl) rfl (Nat.le_of_ble_eq_true rfl) rfl ?_
  obtain ⟨I4, ⟨n11, q12⟩, hI10⟩ := h
  have lp9 : ∀ (n7 : Nat) (v1 : Int) (v2 : Int) (M5 : zM), I4 v1 v2 M5 n7 → zin v1 → zin v2 → zRng M5 → zV Γ mu_X0_countUnlikeSides (145, 0, 0) 4 [(0, zRf (zad Γ) 1), (1, zI v1), (2, zI v2)] [] M5 := by
    intro n7
    induction n7 using Nat.strongRecOn with
    | _ n7 ih8 =>
    intro v1 v2 M5 q13 z3 z4 hR6
    have h := hI10 v1 v2 M5 n7 q13 z3 z4 hR6
    refine zr_iload_n C 2 rfl (zdec_at dm_X0_countUnlikeSides 4 rfl) rfl ?_
    refine zr_aload_n C 0 rfl (zdec_at dm_X0_countUnlikeSides 5 rfl) rfl ?_
    refine zr_geti C fk_RX0_26 fi_1_1 (zdec_at dm_X0_countUnlikeSides 6 rfl) ?_
    refine zr_icmp_ge C z4 (hR6 _ _) (zdec_at dm_X0_countUnlikeSides 7 rfl) rfl (fun g14 => ?_) (fun g14 => ?_)
    · have h := h.1 g14
      refine zr_iload_n C 1 rfl (zdec_at dm_X0_countUnlikeSides 54 rfl) rfl ?_
      exact zr_ireturn C rfl (zdec_at dm_X0_countUnlikeSides 55 rfl) rfl ⟨z3, h⟩
    · have h := h.2 g14
      refine zr_iconst C (zdec_at dm_X0_countUnlikeSides 8 rfl) ?_
      refine zr_istore_n (L1 := [(3, zI 0), (0, zRf (zad Γ) 1), (1, zI v1), (2, zI v2)]) C (zdec_at dm_X0_countUnlikeSides 9 rfl) rfl (Nat.le_of_ble_eq_true rfl) rfl ?_
      obtain ⟨I14, ⟨n25, q26⟩, hI24⟩ := h
      have lp23 : ∀ (n21 : Nat) (v15 : Int) (v16 : Int) (M19 : zM), I14 v15 v16 M19 n21 → zin v15 → zin v16 → zRng M19 → zV Γ mu_X0_countUnlikeSides (145, 0, 0) 14 [(0, zRf (zad Γ) 1), (1, zI v15), (2, zI v2), (3, zI v16)] [] M19 := by
        intro n21
        induction n21 using Nat.strongRecOn with
        | _ n21 ih22 =>
        intro v15 v16 M19 q27 z17 z18 hR20
        have h := hI24 v15 v16 M19 n21 q27 z17 z18 hR20
        refine zr_iload_n C 3 rfl (zdec_at dm_X0_countUnlikeSides 10 rfl) rfl ?_
        refine zr_aload_n C 0 rfl (zdec_at dm_X0_countUnlikeSides 11 rfl) rfl ?_
        refine zr_geti C fk_RX0_22 fi_1_0 (zdec_at dm_X0_countUnlikeSides 12 rfl) ?_
        refine zr_icmp_ge C z18 (hR20 _ _) (zdec_at dm_X0_countUnlikeSides 13 rfl) rfl (fun g28 => ?_) (fun g28 => ?_)
        · have h := h.1 g28
          refine zr_iinc (L1 := [(2, zI (v2 + 1)), (0, zRf (zad Γ) 1), (1, zI v15), (3, zI v16)]) C 2 rfl (zdec_at dm_X0_countUnlikeSides 52 rfl) (Nat.le_of_ble_eq_true rfl) rfl ?_
          refine zr_goto C (zdec_at dm_X0_countUnlikeSides 53 rfl) rfl ?_
          obtain ⟨o29, h⟩ := h
          obtain ⟨n30, q31, q32⟩ := h
          exact zr_sub [1, 2, 0] rfl (ih8 n30 q31 _ _ _ q32 z17 o29 hR20)
        · have h := h.2 g28
          refine zr_iload_n C 3 rfl (zdec_at dm_X0_countUnlikeSides 14 rfl) rfl ?_
          refine zr_iconst C (zdec_at dm_X0_countUnlikeSides 15 rfl) ?_
          refine zr_iadd C (zdec_at dm_X0_countUnlikeSides 16 rfl) ?_
          refine zr_aload_n C 0 rfl (zdec_at dm_X0_countUnlikeSides 17 rfl) rfl ?_
          refine zr_geti C fk_RX0_22 fi_1_0 (zdec_at dm_X0_countUnlikeSides 18 rfl) ?_
          have h := h (fun v33 M35 => zin v33 → zRng M35 → zV Γ mu_X0_countUnlikeSides (145, 0, 0) 52 [(0, zRf (zad Γ) 1), (1, zI v33), (2, zI v2), (3, zI v16)] [] M35) (fun v33 M35 h z34 hR36 => by
            have h := h z34 hR36
            refine zr_iload_n C 2 rfl (zdec_at dm_X0_countUnlikeSides 32 rfl) rfl ?_
            refine zr_iconst C (zdec_at dm_X0_countUnlikeSides 33 rfl) ?_
            refine zr_iadd C (zdec_at dm_X0_countUnlikeSides 34 rfl) ?_
            refine zr_aload_n C 0 rfl (zdec_at dm_X0_countUnlikeSides 35 rfl) rfl ?_
            refine zr_geti C fk_RX0_26 fi_1_1 (zdec_at dm_X0_countUnlikeSides 36 rfl) ?_
            obtain ⟨o37, h⟩ := h
            refine zr_icmp_ge C o37 (hR36 _ _) (zdec_at dm_X0_countUnlikeSides 37 rfl) rfl (fun g38 => ?_) (fun g38 => ?_)
            · have h := h.1 g38
              refine zr_iinc (L1 := [(3, zI (v16 + 1)), (0, zRf (zad Γ) 1), (1, zI v33), (2, zI v2)]) C 3 rfl (zdec_at dm_X0_countUnlikeSides 50 rfl) (Nat.le_of_ble_eq_true rfl) rfl ?_
              refine zr_goto C (zdec_at dm_X0_countUnlikeSides 51 rfl) rfl ?_
              obtain ⟨o39, h⟩ := h
              obtain ⟨n40, q41, q42⟩ := h
              exact zr_sub [1, 2, 3, 0] rfl (ih22 n40 q41 _ _ _ q42 z34 o39 hR36)
            · have h := h.2 g38
              refine zr_aload_n C 0 rfl (zdec_at dm_X0_countUnlikeSides 38 rfl) rfl ?_
              refine zr_iload_n C 3 rfl (zdec_at dm_X0_countUnlikeSides 39 rfl) rfl ?_
              refine zr_iload_n C 2 rfl (zdec_at dm_X0_countUnlikeSides 40 rfl) rfl ?_
              obtain ⟨g48, h⟩ := h
              refine zr_callV C [v16, v2] hS_X0_colourAt ck_RX0_38 iv_X0_colourAt vc_X0 oc_1 rfl rfl (zdec_at dm_X0_countUnlikeSides 41 rfl) ⟨rfl, rfl, rfl, rfl⟩ ⟨by decide, by decide⟩ (Nat.le_of_ble_eq_true rfl) (zall_0 z18 (zall_0 z4 zall_n)) ?_
              refine ⟨_, _, rfl, g48, fun r43 M44 p47 z46 hR45 => ?_⟩
              have h := h r43 M44 p47 z46 hR45
              show zV Γ mu_X0_countUnlikeSides (145, 0, 0) 68 [(0, zRf (zad Γ) 1), (1, zI v33), (2, zI v2), (3, zI v16)] [zI r43] M44
              refine zr_aload_n C 0 rfl (zdec_at dm_X0_countUnlikeSides 42 rfl) rfl ?_
              refine zr_iload_n C 3 rfl (zdec_at dm_X0_countUnlikeSides 43 rfl) rfl ?_
              refine zr_iload_n C 2 rfl (zdec_at dm_X0_countUnlikeSides 44 rfl) rfl ?_
              refine zr_iconst C (zdec_at dm_X0_countUnlikeSides 45 rfl) ?_
              refine zr_iadd C (zdec_at dm_X0_countUnlikeSides 46 rfl) ?_
              obtain ⟨g54, h⟩ := h
              refine zr_callV C [v16, (v2 + 1)] hS_X0_colourAt ck_RX0_38 iv_X0_colourAt vc_X0 oc_1 rfl rfl (zdec_at dm_X0_countUnlikeSides 47 rfl) ⟨rfl, rfl, rfl, rfl⟩ ⟨by decide, by decide⟩ (Nat.le_of_ble_eq_true rfl) (zall_0 z18 (zall_0 o37 zall_n)) ?_
              refine ⟨_, _, rfl, g54, fun r49 M50 p53 z52 hR51 => ?_⟩
              have h := h r49 M50 p53 z52 hR51
              show zV Γ mu_X0_countUnlikeSides (145, 0, 0) 76 [(0, zRf (zad Γ) 1), (1, zI v33), (2, zI v2), (3, zI v16)] [zI r49, zI r43] M50
              refine zr_icmp_eq C z46 z52 (zdec_at dm_X0_countUnlikeSides 48 rfl) rfl (fun g55 => ?_) (fun g55 => ?_)
              · have h := h.1 g55
                refine zr_iinc (L1 := [(3, zI (v16 + 1)), (0, zRf (zad Γ) 1), (1, zI v33), (2, zI v2)]) C 3 rfl (zdec_at dm_X0_countUnlikeSides 50 rfl) (Nat.le_of_ble_eq_true rfl) rfl ?_
                refine zr_goto C (zdec_at dm_X0_countUnlikeSides 51 rfl) rfl ?_
                obtain ⟨o56, h⟩ := h
                obtain ⟨n57, q58, q59⟩ := h
                exact zr_sub [1, 2, 3, 0] rfl (ih22 n57 q58 _ _ _ q59 z34 o56 hR51)
              · have h := h.2 g55
                refine zr_iinc (L1 := [(1, zI (v33 + 1)), (0, zRf (zad Γ) 1), (2, zI v2), (3, zI v16)]) C 1 rfl (zdec_at dm_X0_countUnlikeSides 49 rfl) (Nat.le_of_ble_eq_true rfl) rfl ?_
                refine zr_iinc (L1 := [(3, zI (v16 + 1)), (1, zI (v33 + 1)), (0, zRf (zad Γ) 1), (2, zI v2)]) C 3 rfl (zdec_at dm_X0_countUnlikeSides 50 rfl) (Nat.le_of_ble_eq_true rfl) rfl ?_
                refine zr_goto C (zdec_at dm_X0_countUnlikeSides 51 rfl) rfl ?_
                obtain ⟨o60, h⟩ := h
                obtain ⟨o61, h⟩ := h
                obtain ⟨n62, q63, q64⟩ := h
                exact zr_sub [2, 1, 3, 0] rfl (ih22 n62 q63 _ _ _ q64 o60 o61 hR51))
          obtain ⟨o65, h⟩ := h
          refine zr_icmp_ge C o65 (hR20 _ _) (zdec_at dm_X0_countUnlikeSides 19 rfl) rfl (fun g66 => ?_) (fun g66 => ?_)
          · have h := h.1 g66
            exact zr_sub [0, 1, 2, 3] rfl (h z17 hR20)
          · have h := h.2 g66
            refine zr_aload_n C 0 rfl (zdec_at dm_X0_countUnlikeSides 20 rfl) rfl ?_
            refine zr_iload_n C 3 rfl (zdec_at dm_X0_countUnlikeSides 21 rfl) rfl ?_
            refine zr_iload_n C 2 rfl (zdec_at dm_X0_countUnlikeSides 22 rfl) rfl ?_
            obtain ⟨g72, h⟩ := h
            refine zr_callV C [v16, v2] hS_X0_colourAt ck_RX0_38 iv_X0_colourAt vc_X0 oc_1 rfl rfl (zdec_at dm_X0_countUnlikeSides 23 rfl) ⟨rfl, rfl, rfl, rfl⟩ ⟨by decide, by decide⟩ (Nat.le_of_ble_eq_true rfl) (zall_0 z18 (zall_0 z4 zall_n)) ?_
            refine ⟨_, _, rfl, g72, fun r67 M68 p71 z70 hR69 => ?_⟩
            have h := h r67 M68 p71 z70 hR69
            show zV Γ mu_X0_countUnlikeSides (145, 0, 0) 38 [(0, zRf (zad Γ) 1), (1, zI v15), (2, zI v2), (3, zI v16)] [zI r67] M68
            refine zr_aload_n C 0 rfl (zdec_at dm_X0_countUnlikeSides 24 rfl) rfl ?_
            refine zr_iload_n C 3 rfl (zdec_at dm_X0_countUnlikeSides 25 rfl) rfl ?_
            refine zr_iconst C (zdec_at dm_X0_countUnlikeSides 26 rfl) ?_
            refine zr_iadd C (zdec_at dm_X0_countUnlikeSides 27 rfl) ?_
            refine zr_iload_n C 2 rfl (zdec_at dm_X0_countUnlikeSides 28 rfl) rfl ?_
            obtain ⟨g78, h⟩ := h
            refine zr_callV C [(v16 + 1), v2] hS_X0_colourAt ck_RX0_38 iv_X0_colourAt vc_X0 oc_1 rfl rfl (zdec_at dm_X0_countUnlikeSides 29 rfl) ⟨rfl, rfl, rfl, rfl⟩ ⟨by decide, by decide⟩ (Nat.le_of_ble_eq_true rfl) (zall_0 o65 (zall_0 z4 zall_n)) ?_
            refine ⟨_, _, rfl, g78, fun r73 M74 p77 z76 hR75 => ?_⟩
            have h := h r73 M74 p77 z76 hR75
            show zV Γ mu_X0_countUnlikeSides (145, 0, 0) 46 [(0, zRf (zad Γ) 1), (1, zI v15), (2, zI v2), (3, zI v16)] [zI r73, zI r67] M74
            refine zr_icmp_eq C z70 z76 (zdec_at dm_X0_countUnlikeSides 30 rfl) rfl (fun g79 => ?_) (fun g79 => ?_)
            · have h := h.1 g79
              exact zr_sub [0, 1, 2, 3] rfl (h z17 hR75)
            · have h := h.2 g79
              refine zr_iinc (L1 := [(1, zI (v15 + 1)), (0, zRf (zad Γ) 1), (2, zI v2), (3, zI v16)]) C 1 rfl (zdec_at dm_X0_countUnlikeSides 31 rfl) (Nat.le_of_ble_eq_true rfl) rfl ?_
              obtain ⟨o80, h⟩ := h
              exact zr_sub [1, 0, 2, 3] rfl (h o80 hR75)
      exact zr_sub [1, 2, 3, 0] rfl (lp23 n25 _ _ _ q26 z3 (by decide) hR6)
  exact zr_sub [2, 1, 0] rfl (lp9 n11 _ _ _ q12 (by decide) (by decide) hR)

set_option maxHeartbeats 400000 in
set_option maxRecDepth 100000 in
theorem sn_X0_takeFrom_a : zSnd zS 145 0 0 yX0_takeFrom cX0_takeFrom 2 none 1 [2, 2] (fun xs P M => xs = [1, 99] ∧ vc_X0_takeFrom_a P M) := by
  refine zSnd.of rfl (fun ad xs hz => Nat.le_trans (Nat.le_of_eq (zlen ad _ xs hz)) (by decide)) ?_
  intro Γ C _ _ xs M hz hF
  obtain ⟨rfl, h⟩ := hF
  refine zr_rng (fun hR => ?_)
  have C : zC Γ mu_X0_takeFrom_a := C
  change zV Γ mu_X0_takeFrom_a (145, 0, 0) 0 [(0, zRf (zad Γ) 1), (1, zRf (zad Γ) 99)] [] M
  change vc_X0_takeFrom_a _ M at h
  unfold vc_X0_takeFrom_a at h
  refine zr_aload_n C 0 rfl (zdec_at dm_X0_takeFrom 0 rfl) rfl ?_
  refine zr_aload_n C 1 rfl (zdec_at dm_X0_takeFrom 1 rfl) rfl ?_
  refine zr_geti C fk_RX0_22 fi_99_0 (zdec_at dm_X0_takeFrom 2 rfl) ?_
  refine zr_puti C fk_RX0_22 fi_1_0 (hR _ _) (zdec_at dm_X0_takeFrom 3 rfl) (fun M1 e2 => ?_)
  have h := h M1 e2
  have hR3 : zRng M1 := by rw [e2]; exact hR.set (hR _ _) _ _
  refine zr_aload_n C 0 rfl (zdec_at dm_X0_takeFrom 4 rfl) rfl ?_
  refine zr_aload_n C 1 rfl (zdec_at dm_X0_takeFrom 5 rfl) rfl ?_
  refine zr_geti C fk_RX0_26 fi_99_1 (zdec_at dm_X0_takeFrom 6 rfl) ?_
  refine zr_puti C fk_RX0_26 fi_1_1 (hR3 _ _) (zdec_at dm_X0_takeFrom 7 rfl) (fun M4 e5 => ?_)
  have h := h M4 e5
  have hR6 : zRng M4 := by rw [e5]; exact hR3.set (hR3 _ _) _ _
  refine zr_aload_n C 0 rfl (zdec_at dm_X0_takeFrom 8 rfl) rfl ?_
  refine zr_aload_n C 1 rfl (zdec_at dm_X0_takeFrom 9 rfl) rfl ?_
  refine zr_geti C fk_RX0_42 fi_99_2 (zdec_at dm_X0_takeFrom 10 rfl) ?_
  refine zr_puti C fk_RX0_42 fi_1_2 (hR6 _ _) (zdec_at dm_X0_takeFrom 11 rfl) (fun M7 e8 => ?_)
  have h := h M7 e8
  have hR9 : zRng M7 := by rw [e8]; exact hR6.set (hR6 _ _) _ _
  refine zr_aload_n C 1 rfl (zdec_at dm_X0_takeFrom 12 rfl) rfl ?_
  refine zr_getr (q := 100) C fk_RX0_9 fi_99_4 (zdec_at dm_X0_takeFrom 13 rfl) ?_
  refine zr_iconst C (zdec_at dm_X0_takeFrom 14 rfl) ?_
  refine zr_aload_n C 0 rfl (zdec_at dm_X0_takeFrom 15 rfl) rfl ?_
  refine zr_getr (q := 2) C fk_RX0_9 fi_1_4 (zdec_at dm_X0_takeFrom 16 rfl) ?_
  refine zr_iconst C (zdec_at dm_X0_takeFrom 17 rfl) ?_
  refine zr_sipush C (zdec_at dm_X0_takeFrom 18 rfl) (by decide) ?_
  obtain ⟨o11, h⟩ := h
  refine zr_copy C (by decide) ai_100 ai_2 (by decide) (fun _ => o11) rfl (by decide) kw_copy_RX0_29 kw_cnat kw_cstat kw_cini (zdec_at dm_X0_takeFrom 19 rfl) (fun M12 e13 => ?_)
  have h := h M12 e13
  have hR14 : zRng M12 := by rw [e13]; exact hR9.cpy _ _ _ _ _
  refine zr_aload_n C 1 rfl (zdec_at dm_X0_takeFrom 20 rfl) rfl ?_
  refine zr_getr (q := 101) C fk_RX0_15 fi_99_5 (zdec_at dm_X0_takeFrom 21 rfl) ?_
  refine zr_iconst C (zdec_at dm_X0_takeFrom 22 rfl) ?_
  refine zr_aload_n C 0 rfl (zdec_at dm_X0_takeFrom 23 rfl) rfl ?_
  refine zr_getr (q := 3) C fk_RX0_15 fi_1_5 (zdec_at dm_X0_takeFrom 24 rfl) ?_
  refine zr_iconst C (zdec_at dm_X0_takeFrom 25 rfl) ?_
  refine zr_bipush C (zdec_at dm_X0_takeFrom 26 rfl) (by decide) ?_
  refine zr_copy C (by decide) ai_101 ai_3 (by decide) (fun q => absurd q (by decide)) rfl (by decide) kw_copy_RX0_29 kw_cnat kw_cstat kw_cini (zdec_at dm_X0_takeFrom 27 rfl) (fun M15 e16 => ?_)
  have h := h M15 e16
  have hR17 : zRng M15 := by rw [e16]; exact hR14.cpy _ _ _ _ _
  refine zr_aload_n C 0 rfl (zdec_at dm_X0_takeFrom 28 rfl) rfl ?_
  refine zr_dup C rfl (zdec_at dm_X0_takeFrom 29 rfl) ?_
  refine zr_geti C fk_RX0_35 fi_1_3 (zdec_at dm_X0_takeFrom 30 rfl) ?_
  refine zr_iconst C (zdec_at dm_X0_takeFrom 31 rfl) ?_
  refine zr_iadd C (zdec_at dm_X0_takeFrom 32 rfl) ?_
  obtain ⟨o18, h⟩ := h
  refine zr_puti C fk_RX0_35 fi_1_3 o18 (zdec_at dm_X0_takeFrom 33 rfl) (fun M19 e20 => ?_)
  have h := h M19 e20
  have hR21 : zRng M19 := by rw [e20]; exact hR17.set o18 _ _
  exact zr_return C rfl rfl (zdec_at dm_X0_takeFrom 34 rfl) rfl ⟨by decide, h⟩

set_option maxHeartbeats 400000 in
set_option maxRecDepth 100000 in
theorem sn_X0_takeFrom_b : zSnd zS 145 0 0 yX0_takeFrom cX0_takeFrom 2 none 1 [2, 2] (fun xs P M => xs = [99, 1] ∧ vc_X0_takeFrom_b P M) := by
  refine zSnd.of rfl (fun ad xs hz => Nat.le_trans (Nat.le_of_eq (zlen ad _ xs hz)) (by decide)) ?_
  intro Γ C _ _ xs M hz hF
  obtain ⟨rfl, h⟩ := hF
  refine zr_rng (fun hR => ?_)
  have C : zC Γ mu_X0_takeFrom_b := C
  change zV Γ mu_X0_takeFrom_b (145, 0, 0) 0 [(0, zRf (zad Γ) 99), (1, zRf (zad Γ) 1)] [] M
  change vc_X0_takeFrom_b _ M at h
  unfold vc_X0_takeFrom_b at h
  refine zr_aload_n C 0 rfl (zdec_at dm_X0_takeFrom 0 rfl) rfl ?_
  refine zr_aload_n C 1 rfl (zdec_at dm_X0_takeFrom 1 rfl) rfl ?_
  refine zr_geti C fk_RX0_22 fi_1_0 (zdec_at dm_X0_takeFrom 2 rfl) ?_
  refine zr_puti C fk_RX0_22 fi_99_0 (hR _ _) (zdec_at dm_X0_takeFrom 3 rfl) (fun M1 e2 => ?_)
  have h := h M1 e2
  have hR3 : zRng M1 := by rw [e2]; exact hR.set (hR _ _) _ _
  refine zr_aload_n C 0 rfl (zdec_at dm_X0_takeFrom 4 rfl) rfl ?_
  refine zr_aload_n C 1 rfl (zdec_at dm_X0_takeFrom 5 rfl) rfl ?_
  refine zr_geti C fk_RX0_26 fi_1_1 (zdec_at dm_X0_takeFrom 6 rfl) ?_
  refine zr_puti C fk_RX0_26 fi_99_1 (hR3 _ _) (zdec_at dm_X0_takeFrom 7 rfl) (fun M4 e5 => ?_)
  have h := h M4 e5
  have hR6 : zRng M4 := by rw [e5]; exact hR3.set (hR3 _ _) _ _
  refine zr_aload_n C 0 rfl (zdec_at dm_X0_takeFrom 8 rfl) rfl ?_
  refine zr_aload_n C 1 rfl (zdec_at dm_X0_takeFrom 9 rfl) rfl ?_
  refine zr_geti C fk_RX0_42 fi_1_2 (zdec_at dm_X0_takeFrom 10 rfl) ?_
  refine zr_puti C fk_RX0_42 fi_99_2 (hR6 _ _) (zdec_at dm_X0_takeFrom 11 rfl) (fun M7 e8 => ?_)
  have h := h M7 e8
  have hR9 : zRng M7 := by rw [e8]; exact hR6.set (hR6 _ _) _ _
  refine zr_aload_n C 1 rfl (zdec_at dm_X0_takeFrom 12 rfl) rfl ?_
  refine zr_getr (q := 2) C fk_RX0_9 fi_1_4 (zdec_at dm_X0_takeFrom 13 rfl) ?_
  refine zr_iconst C (zdec_at dm_X0_takeFrom 14 rfl) ?_
  refine zr_aload_n C 0 rfl (zdec_at dm_X0_takeFrom 15 rfl) rfl ?_
  refine zr_getr (q := 100) C fk_RX0_9 fi_99_4 (zdec_at dm_X0_takeFrom 16 rfl) ?_
  refine zr_iconst C (zdec_at dm_X0_takeFrom 17 rfl) ?_
  refine zr_sipush C (zdec_at dm_X0_takeFrom 18 rfl) (by decide) ?_
  obtain ⟨o11, h⟩ := h
  refine zr_copy C (by decide) ai_2 ai_100 (by decide) (fun _ => o11) rfl (by decide) kw_copy_RX0_29 kw_cnat kw_cstat kw_cini (zdec_at dm_X0_takeFrom 19 rfl) (fun M12 e13 => ?_)
  have h := h M12 e13
  have hR14 : zRng M12 := by rw [e13]; exact hR9.cpy _ _ _ _ _
  refine zr_aload_n C 1 rfl (zdec_at dm_X0_takeFrom 20 rfl) rfl ?_
  refine zr_getr (q := 3) C fk_RX0_15 fi_1_5 (zdec_at dm_X0_takeFrom 21 rfl) ?_
  refine zr_iconst C (zdec_at dm_X0_takeFrom 22 rfl) ?_
  refine zr_aload_n C 0 rfl (zdec_at dm_X0_takeFrom 23 rfl) rfl ?_
  refine zr_getr (q := 101) C fk_RX0_15 fi_99_5 (zdec_at dm_X0_takeFrom 24 rfl) ?_
  refine zr_iconst C (zdec_at dm_X0_takeFrom 25 rfl) ?_
  refine zr_bipush C (zdec_at dm_X0_takeFrom 26 rfl) (by decide) ?_
  refine zr_copy C (by decide) ai_3 ai_101 (by decide) (fun q => absurd q (by decide)) rfl (by decide) kw_copy_RX0_29 kw_cnat kw_cstat kw_cini (zdec_at dm_X0_takeFrom 27 rfl) (fun M15 e16 => ?_)
  have h := h M15 e16
  have hR17 : zRng M15 := by rw [e16]; exact hR14.cpy _ _ _ _ _
  refine zr_aload_n C 0 rfl (zdec_at dm_X0_takeFrom 28 rfl) rfl ?_
  refine zr_dup C rfl (zdec_at dm_X0_takeFrom 29 rfl) ?_
  refine zr_geti C fk_RX0_35 fi_99_3 (zdec_at dm_X0_takeFrom 30 rfl) ?_
  refine zr_iconst C (zdec_at dm_X0_takeFrom 31 rfl) ?_
  refine zr_iadd C (zdec_at dm_X0_takeFrom 32 rfl) ?_
  obtain ⟨o18, h⟩ := h
  refine zr_puti C fk_RX0_35 fi_99_3 o18 (zdec_at dm_X0_takeFrom 33 rfl) (fun M19 e20 => ?_)
  have h := h M19 e20
  have hR21 : zRng M19 := by rw [e20]; exact hR17.set o18 _ _
  exact zr_return C rfl rfl (zdec_at dm_X0_takeFrom 34 rfl) rfl ⟨by decide, h⟩

set_option maxHeartbeats 400000 in
set_option maxRecDepth 100000 in
theorem sn_X0_readText {pr_X0_byteAt : Int → Int → Int → zM → Prop} {po_X0_byteAt : Int → Int → Int → zM → Int → zM → Prop} {pr_X0_colourSign : Int → zM → Prop} {po_X0_colourSign : Int → zM → Int → zM → Prop} {pr_X0_drawRun : Int → Int → Int → Int → zM → Prop} {po_X0_drawRun : Int → Int → Int → Int → zM → zM → Prop} {pr_X0_countDigits : Int → Int → Int → zM → Prop} {po_X0_countDigits : Int → Int → Int → zM → Int → zM → Prop} {pr_X0_numberOf : Int → Int → Int → Int → zM → Prop} {po_X0_numberOf : Int → Int → Int → Int → zM → Int → zM → Prop} (hS_X0_byteAt : zSnd zS 145 0 0 yX0_byteAt cX0_byteAt 3 (some .int) 0 [2, 0, 0] (F_X0_byteAt pr_X0_byteAt po_X0_byteAt)) (hS_X0_colourSign : zSnd zS 145 0 0 yX0_colourSign cX0_colourSign 1 (some .int) 0 [0] (F_X0_colourSign pr_X0_colourSign po_X0_colourSign)) (hS_X0_drawRun : zSnd zS 145 0 0 yX0_drawRun cX0_drawRun 6 none 0 [2, 0, 0, 0, 0] (F_X0_drawRun pr_X0_drawRun po_X0_drawRun)) (hS_X0_countDigits : zSnd zS 145 0 0 yX0_countDigits cX0_countDigits 3 (some .int) 1 [2, 0, 0] (F_X0_countDigits pr_X0_countDigits po_X0_countDigits)) (hS_X0_numberOf : zSnd zS 145 0 0 yX0_numberOf cX0_numberOf 6 (some .int) 1 [2, 0, 0, 0] (F_X0_numberOf pr_X0_numberOf po_X0_numberOf)) : zSnd zS 145 0 0 yX0_readText cX0_readText 12 (some .int) 2 [2, 2, 0] (fun xs P M => ∃ a1 a2 : Int, xs = [1, a1, a2] ∧ vc_X0_readText pr_X0_byteAt po_X0_byteAt pr_X0_colourSign po_X0_colourSign pr_X0_drawRun po_X0_drawRun pr_X0_countDigits po_X0_countDigits pr_X0_numberOf po_X0_numberOf a1 a2 P M) := by
  refine zSnd.of rfl (fun ad xs hz => Nat.le_trans (Nat.le_of_eq (zlen ad _ xs hz)) (by decide)) ?_
  intro Γ C _ _ xs M hz hF
  obtain ⟨a1, a2, rfl, h⟩ := hF
  have zz_a2 := zall_h (zall_t (zall_t hz)) (by decide)
  refine zr_rng (fun hR => ?_)
  have C : zC Γ mu_X0_readText := C
  change zV Γ mu_X0_readText (145, 0, 0) 0 [(0, zRf (zad Γ) 1), (1, zRf (zad Γ) a1), (2, zI a2)] [] M
  change vc_X0_readText pr_X0_byteAt po_X0_byteAt pr_X0_colourSign po_X0_colourSign pr_X0_drawRun po_X0_drawRun pr_X0_countDigits po_X0_countDigits pr_X0_numberOf po_X0_numberOf a1 a2 _ M at h
  unfold vc_X0_readText at h
  refine zr_bipush C (zdec_at dm_X0_readText 0 rfl) (by decide) ?_
  refine zr_istore_n (L1 := [(3, zI 16), (0, zRf (zad Γ) 1), (1, zRf (zad Γ) a1), (2, zI a2)]) C (zdec_at dm_X0_readText 1 rfl) rfl (Nat.le_of_ble_eq_true rfl) rfl ?_
  refine zr_iconst C (zdec_at dm_X0_readText 2 rfl) ?_
  refine zr_istore (L1 := [(4, zI 0), (3, zI 16), (0, zRf (zad Γ) 1), (1, zRf (zad Γ) a1), (2, zI a2)]) C (zdec_at dm_X0_readText 3 rfl) (Nat.le_of_ble_eq_true rfl) rfl ?_
  refine zr_iconst C (zdec_at dm_X0_readText 4 rfl) ?_
  refine zr_istore (L1 := [(5, zI 0), (4, zI 0), (3, zI 16), (0, zRf (zad Γ) 1), (1, zRf (zad Γ) a1), (2, zI a2)]) C (zdec_at dm_X0_readText 5 rfl) (Nat.le_of_ble_eq_true rfl) rfl ?_
  refine zr_iconst C (zdec_at dm_X0_readText 6 rfl) ?_
  refine zr_istore (L1 := [(6, zI 0), (5, zI 0), (4, zI 0), (3, zI 16), (0, zRf (zad Γ) 1), (1, zRf (zad Γ) a1), (2, zI a2)]) C (zdec_at dm_X0_readText 7 rfl) (Nat.le_of_ble_eq_true rfl) rfl ?_
  refine zr_iconst C (zdec_at dm_X0_readText 8 rfl) ?_
  refine zr_istore (L1 := [(7, zI 0), (6, zI 0), (5, zI 0), (4, zI 0), (3, zI 16), (0, zRf (zad Γ) 1), (1, zRf (zad Γ) a1), (2, zI a2)]) C (zdec_at dm_X0_readText 9 rfl) (Nat.le_of_ble_eq_true rfl) rfl ?_
  obtain ⟨I15, ⟨n17, q18⟩, hI16⟩ := h
  have lp15 : ∀ (n13 : Nat) (v1 : Int) (v2 : Int) (v3 : Int) (v4 : Int) (v5 : Int) (M11 : zM), I15 v1 v2 v3 v4 v5 M11 n13 → zin v1 → zin v2 → zin v3 → zin v4 → zin v5 → zRng M11 → zV Γ mu_X0_readText (145, 0, 0) 15 [(0, zRf (zad Γ) 1), (1, zRf (zad Γ) a1), (2, zI a2), (3, zI v1), (4, zI v2), (5, zI v3), (6, zI v4), (7, zI v5)] [] M11 := by
    intro n13
    induction n13 using Nat.strongRecOn with
    | _ n13 ih14 =>
    intro v1 v2 v3 v4 v5 M11 q19 z6 z7 z8 z9 z10 hR12
    have h := hI16 v1 v2 v3 v4 v5 M11 n13 q19 z6 z7 z8 z9 z10 hR12
    refine zr_iload C 7 rfl (zdec_at dm_X0_readText 10 rfl) ?_
    refine zr_iload_n C 2 rfl (zdec_at dm_X0_readText 11 rfl) rfl ?_
    refine zr_icmp_gt C z10 zz_a2 (zdec_at dm_X0_readText 12 rfl) rfl (fun g20 => ?_) (fun g20 => ?_)
    · have h := h.1 g20
      refine zr_iload_n C 2 rfl (zdec_at dm_X0_readText 130 rfl) rfl ?_
      exact zr_ireturn C rfl (zdec_at dm_X0_readText 131 rfl) rfl ⟨zz_a2, h⟩
    · have h := h.2 g20
      refine zr_aload_n C 1 rfl (zdec_at dm_X0_readText 13 rfl) rfl ?_
      refine zr_iload_n C 2 rfl (zdec_at dm_X0_readText 14 rfl) rfl ?_
      refine zr_iload C 4 rfl (zdec_at dm_X0_readText 15 rfl) ?_
      obtain ⟨g26, h⟩ := h
      refine zr_callS C [a1, a2, v2] hS_X0_byteAt ck_RX0_45 sv_X0_byteAt rfl rfl (zdec_at dm_X0_readText 16 rfl) ⟨rfl, rfl, rfl, rfl⟩ ⟨by decide, by decide⟩ (Nat.le_of_ble_eq_true rfl) (zall_2 (zall_0 zz_a2 (zall_0 z7 zall_n))) ?_
      refine ⟨_, _, _, rfl, g26, fun r21 M22 p25 z24 hR23 => ?_⟩
      have h := h r21 M22 p25 z24 hR23
      show zV Γ mu_X0_readText (145, 0, 0) 28 [(0, zRf (zad Γ) 1), (1, zRf (zad Γ) a1), (2, zI a2), (3, zI v1), (4, zI v2), (5, zI v3), (6, zI v4), (7, zI v5)] [zI r21] M22
      obtain ⟨g32, h⟩ := h
      refine zr_callS C [r21] hS_X0_colourSign ck_RX0_49 sv_X0_colourSign rfl rfl (zdec_at dm_X0_readText 17 rfl) ⟨rfl, rfl, rfl, rfl⟩ ⟨by decide, by decide⟩ (Nat.le_of_ble_eq_true rfl) (zall_0 z24 zall_n) ?_
      refine ⟨_, rfl, g32, fun r27 M28 p31 z30 hR29 => ?_⟩
      have h := h r27 M28 p31 z30 hR29
      show zV Γ mu_X0_readText (145, 0, 0) 31 [(0, zRf (zad Γ) 1), (1, zRf (zad Γ) a1), (2, zI a2), (3, zI v1), (4, zI v2), (5, zI v3), (6, zI v4), (7, zI v5)] [zI r27] M28
      refine zr_istore (L1 := [(8, zI r27), (0, zRf (zad Γ) 1), (1, zRf (zad Γ) a1), (2, zI a2), (3, zI v1), (4, zI v2), (5, zI v3), (6, zI v4), (7, zI v5)]) C (zdec_at dm_X0_readText 18 rfl) (Nat.le_of_ble_eq_true rfl) rfl ?_
      refine zr_iload C 0 rfl (zdec_at dm_X0_readText 19 rfl) ?_
      refine zr_if_lt C z30 (zdec_at dm_X0_readText 20 rfl) rfl (fun g33 => ?_) (fun g33 => ?_)
      · have h := h.1 g33
        refine zr_iload C 5 rfl (zdec_at dm_X0_readText 24 rfl) ?_
        exact zr_ireturn C rfl (zdec_at dm_X0_readText 25 rfl) rfl ⟨z7, h⟩
      · have h := h.2 g33
        refine zr_iload C 6 rfl (zdec_at dm_X0_readText 21 rfl) ?_
        refine zr_iload_n C 4 rfl (zdec_at dm_X0_readText 22 rfl) rfl ?_
        refine zr_icmp_lt C z8 z6 (zdec_at dm_X0_readText 23 rfl) rfl (fun g34 => ?_) (fun g34 => ?_)
        · have h := h.1 g34
          refine zr_iconst C (zdec_at dm_X0_readText 26 rfl) ?_
          refine zr_istore (L1 := [(9, zI 1), (8, zI r27), (0, zRf (zad Γ) 1), (1, zRf (zad Γ) a1), (2, zI a2), (3, zI v1), (4, zI v2), (5, zI v3), (6, zI v4), (7, zI v5)]) C (zdec_at dm_X0_readText 27 rfl) (Nat.le_of_ble_eq_true rfl) rfl ?_
          refine zr_iload C 6 rfl (zdec_at dm_X0_readText 28 rfl) ?_
          refine zr_iconst C (zdec_at dm_X0_readText 29 rfl) ?_
          refine zr_iadd C (zdec_at dm_X0_readText 30 rfl) ?_
          refine zr_istore (L1 := [(10, zI (v2 + 1)), (9, zI 1), (8, zI r27), (0, zRf (zad Γ) 1), (1, zRf (zad Γ) a1), (2, zI a2), (3, zI v1), (4, zI v2), (5, zI v3), (6, zI v4), (7, zI v5)]) C (zdec_at dm_X0_readText 31 rfl) (Nat.le_of_ble_eq_true rfl) rfl ?_
          refine zr_aload_n C 4 rfl (zdec_at dm_X0_readText 32 rfl) rfl ?_
          refine zr_iload_n C 5 rfl (zdec_at dm_X0_readText 33 rfl) rfl ?_
          refine zr_iload C 0 rfl (zdec_at dm_X0_readText 34 rfl) ?_
          obtain ⟨o35, h⟩ := h
          obtain ⟨g41, h⟩ := h
          refine zr_callS C [a1, a2, (v2 + 1)] hS_X0_byteAt ck_RX0_45 sv_X0_byteAt rfl rfl (zdec_at dm_X0_readText 35 rfl) ⟨rfl, rfl, rfl, rfl⟩ ⟨by decide, by decide⟩ (Nat.le_of_ble_eq_true rfl) (zall_2 (zall_0 zz_a2 (zall_0 o35 zall_n))) ?_
          refine ⟨_, _, _, rfl, g41, fun r36 M37 p40 z39 hR38 => ?_⟩
          have h := h r36 M37 p40 z39 hR38
          show zV Γ mu_X0_readText (145, 0, 0) 63 [(10, zI (v2 + 1)), (9, zI 1), (8, zI r27), (0, zRf (zad Γ) 1), (1, zRf (zad Γ) a1), (2, zI a2), (3, zI v1), (4, zI v2), (5, zI v3), (6, zI v4), (7, zI v5)] [zI r36] M37
          refine zr_bipush C (zdec_at dm_X0_readText 36 rfl) (by decide) ?_
          have h := h (fun v42 v43 M46 => zin v42 → zin v43 → zRng M46 → zV Γ mu_X0_readText (145, 0, 0) 128 [(0, zRf (zad Γ) 1), (1, zRf (zad Γ) a1), (2, zI a2), (3, zI v1), (5, zI v3), (6, zI v4), (7, zI v5), (8, zI r27), (9, zI v42), (10, zI v43)] [] M46) (fun v42 v43 M46 h z44 z45 hR47 => by
            have h := h z44 z45 hR47
            refine zr_aload_n C 0 rfl (zdec_at dm_X0_readText 74 rfl) rfl ?_
            refine zr_iload C 4 rfl (zdec_at dm_X0_readText 75 rfl) ?_
            refine zr_iload C 5 rfl (zdec_at dm_X0_readText 76 rfl) ?_
            refine zr_iload C 8 rfl (zdec_at dm_X0_readText 77 rfl) ?_
            refine zr_iload C 7 rfl (zdec_at dm_X0_readText 78 rfl) ?_
            obtain ⟨g52, h⟩ := h
            refine zr_callV C [v3, v4, v42, r27] hS_X0_drawRun ck_RX0_60 iv_X0_drawRun vc_X0 oc_1 rfl rfl (zdec_at dm_X0_readText 79 rfl) ⟨rfl, rfl, rfl, rfl⟩ ⟨by decide, by decide⟩ (Nat.le_of_ble_eq_true rfl) (zall_0 z8 (zall_0 z9 (zall_0 z44 (zall_0 z30 zall_n)))) ?_
            refine ⟨_, _, _, _, rfl, g52, fun M48 p51 _ hR49 => ?_⟩
            have h := h M48 p51 hR49
            show zV Γ mu_X0_readText (145, 0, 0) 140 [(0, zRf (zad Γ) 1), (1, zRf (zad Γ) a1), (2, zI a2), (3, zI v1), (5, zI v3), (6, zI v4), (7, zI v5), (8, zI r27), (9, zI v42), (10, zI v43)] [] M48
            refine zr_iload C 4 rfl (zdec_at dm_X0_readText 80 rfl) ?_
            refine zr_iload C 8 rfl (zdec_at dm_X0_readText 81 rfl) ?_
            refine zr_iadd C (zdec_at dm_X0_readText 82 rfl) ?_
            refine zr_istore (L1 := [(5, zI (v3 + v42)), (0, zRf (zad Γ) 1), (1, zRf (zad Γ) a1), (2, zI a2), (3, zI v1), (6, zI v4), (7, zI v5), (8, zI r27), (9, zI v42), (10, zI v43)]) C (zdec_at dm_X0_readText 83 rfl) (Nat.le_of_ble_eq_true rfl) rfl ?_
            refine zr_iload C 9 rfl (zdec_at dm_X0_readText 84 rfl) ?_
            refine zr_istore (L1 := [(4, zI v43), (5, zI (v3 + v42)), (0, zRf (zad Γ) 1), (1, zRf (zad Γ) a1), (2, zI a2), (3, zI v1), (6, zI v4), (7, zI v5), (8, zI r27), (9, zI v42), (10, zI v43)]) C (zdec_at dm_X0_readText 85 rfl) (Nat.le_of_ble_eq_true rfl) rfl ?_
            refine zr_iload C 0 rfl (zdec_at dm_X0_readText 86 rfl) ?_
            refine zr_iload_n C 4 rfl (zdec_at dm_X0_readText 87 rfl) rfl ?_
            have h := h (fun M53 => zRng M53 → zV Γ mu_X0_readText (145, 0, 0) 169 [(0, zRf (zad Γ) 1), (1, zRf (zad Γ) a1), (2, zI a2), (3, zI v1), (4, zI v43), (5, zI (v3 + v42)), (6, zI v4), (7, zI v5)] [] M53) (fun M53 h hR54 => by
              have h := h hR54
              refine zr_iload C 6 rfl (zdec_at dm_X0_readText 95 rfl) ?_
              have h := h (zV Γ mu_X0_readText (145, 0, 0) 183 [(0, zRf (zad Γ) 1), (1, zRf (zad Γ) a1), (2, zI a2), (4, zI v43), (5, zI (v3 + v42)), (6, zI v4), (7, zI v5)] [] M53) (fun h => by
                refine zr_iload C 4 rfl (zdec_at dm_X0_readText 102 rfl) ?_
                refine zr_istore_n (L1 := [(3, zI (v3 + v42)), (0, zRf (zad Γ) 1), (1, zRf (zad Γ) a1), (2, zI a2), (4, zI v43), (5, zI (v3 + v42)), (6, zI v4), (7, zI v5)]) C (zdec_at dm_X0_readText 103 rfl) rfl (Nat.le_of_ble_eq_true rfl) rfl ?_
                refine zr_iload C 4 rfl (zdec_at dm_X0_readText 104 rfl) ?_
                refine zr_iload_n C 3 rfl (zdec_at dm_X0_readText 105 rfl) rfl ?_
                refine zr_icmp_lt C z45 zz_a2 (zdec_at dm_X0_readText 106 rfl) rfl (fun g55 => ?_) (fun g55 => ?_)
                · have h := h.1 g55
                  refine zr_iload C 6 rfl (zdec_at dm_X0_readText 117 rfl) ?_
                  refine zr_iconst C (zdec_at dm_X0_readText 118 rfl) ?_
                  refine zr_iadd C (zdec_at dm_X0_readText 119 rfl) ?_
                  refine zr_bipush C (zdec_at dm_X0_readText 120 rfl) (by decide) ?_
                  obtain ⟨o56, h⟩ := h
                  refine zr_icmp_lt C o56 (by decide) (zdec_at dm_X0_readText 121 rfl) rfl (fun g57 => ?_) (fun g57 => ?_)
                  · have h := h.1 g57
                    refine zr_iinc (L1 := [(4, zI (v43 + 1)), (3, zI (v3 + v42)), (0, zRf (zad Γ) 1), (1, zRf (zad Γ) a1), (2, zI a2), (5, zI (v3 + v42)), (6, zI v4), (7, zI v5)]) C 4 rfl (zdec_at dm_X0_readText 124 rfl) (Nat.le_of_ble_eq_true rfl) rfl ?_
                    refine zr_iinc (L1 := [(6, zI (v4 + 1)), (4, zI (v43 + 1)), (3, zI (v3 + v42)), (0, zRf (zad Γ) 1), (1, zRf (zad Γ) a1), (2, zI a2), (5, zI (v3 + v42)), (7, zI v5)]) C 6 rfl (zdec_at dm_X0_readText 125 rfl) (Nat.le_of_ble_eq_true rfl) rfl ?_
                    refine zr_iconst C (zdec_at dm_X0_readText 126 rfl) ?_
                    refine zr_istore (L1 := [(5, zI 0), (6, zI (v4 + 1)), (4, zI (v43 + 1)), (3, zI (v3 + v42)), (0, zRf (zad Γ) 1), (1, zRf (zad Γ) a1), (2, zI a2), (7, zI v5)]) C (zdec_at dm_X0_readText 127 rfl) (Nat.le_of_ble_eq_true rfl) rfl ?_
                    refine zr_iinc (L1 := [(7, zI (v5 + 1)), (5, zI 0), (6, zI (v4 + 1)), (4, zI (v43 + 1)), (3, zI (v3 + v42)), (0, zRf (zad Γ) 1), (1, zRf (zad Γ) a1), (2, zI a2)]) C 7 rfl (zdec_at dm_X0_readText 128 rfl) (Nat.le_of_ble_eq_true rfl) rfl ?_
                    refine zr_goto C (zdec_at dm_X0_readText 129 rfl) rfl ?_
                    obtain ⟨o58, h⟩ := h
                    obtain ⟨o59, h⟩ := h
                    obtain ⟨o60, h⟩ := h
                    obtain ⟨n61, q62, q63⟩ := h
                    exact zr_sub [5, 6, 7, 4, 3, 1, 2, 0] rfl (ih14 n61 q62 _ _ _ _ _ _ q63 o58 o59 (by decide) o56 o60 hR54)
                  · have h := h.2 g57
                    refine zr_iload C 4 rfl (zdec_at dm_X0_readText 122 rfl) ?_
                    exact zr_ireturn C rfl (zdec_at dm_X0_readText 123 rfl) rfl ⟨z45, h⟩
                · have h := h.2 g55
                  refine zr_aload_n C 1 rfl (zdec_at dm_X0_readText 107 rfl) rfl ?_
                  refine zr_iload_n C 0 rfl (zdec_at dm_X0_readText 108 rfl) rfl ?_
                  obtain ⟨o64, h⟩ := h
                  refine zr_puti C fk_RX0_64 fi_1_7 o64 (zdec_at dm_X0_readText 109 rfl) (fun M65 e66 => ?_)
                  have h := h M65 e66
                  have hR67 : zRng M65 := by rw [e66]; exact hR54.set o64 _ _
                  refine zr_aload_n C 1 rfl (zdec_at dm_X0_readText 110 rfl) rfl ?_
                  refine zr_iload C 6 rfl (zdec_at dm_X0_readText 111 rfl) ?_
                  refine zr_iconst C (zdec_at dm_X0_readText 112 rfl) ?_
                  refine zr_iadd C (zdec_at dm_X0_readText 113 rfl) ?_
                  obtain ⟨o68, h⟩ := h
                  refine zr_puti C fk_RX0_67 fi_1_8 o68 (zdec_at dm_X0_readText 114 rfl) (fun M69 e70 => ?_)
                  have h := h M69 e70
                  have hR71 : zRng M69 := by rw [e70]; exact hR67.set o68 _ _
                  refine zr_bipush C (zdec_at dm_X0_readText 115 rfl) (by decide) ?_
                  exact zr_ireturn C rfl (zdec_at dm_X0_readText 116 rfl) rfl ⟨(by decide), h⟩)
              refine zr_if_le C z9 (zdec_at dm_X0_readText 96 rfl) rfl (fun g72 => ?_) (fun g72 => ?_)
              · have h := h.1 g72
                exact zr_sub [0, 1, 2, 4, 5, 6, 7] rfl (h)
              · have h := h.2 g72
                refine zr_iload C 5 rfl (zdec_at dm_X0_readText 97 rfl) ?_
                refine zr_iload_n C 3 rfl (zdec_at dm_X0_readText 98 rfl) rfl ?_
                obtain ⟨o73, h⟩ := h
                refine zr_icmp_ge C o73 z6 (zdec_at dm_X0_readText 99 rfl) rfl (fun g74 => ?_) (fun g74 => ?_)
                · have h := h.1 g74
                  exact zr_sub [0, 1, 2, 4, 5, 6, 7] rfl (h)
                · have h := h.2 g74
                  refine zr_iload C 4 rfl (zdec_at dm_X0_readText 100 rfl) ?_
                  exact zr_ireturn C rfl (zdec_at dm_X0_readText 101 rfl) rfl ⟨z45, h⟩)
            refine zr_icmp_ge C z45 zz_a2 (zdec_at dm_X0_readText 88 rfl) rfl (fun g75 => ?_) (fun g75 => ?_)
            · have h := h.1 g75
              exact zr_sub [2, 3, 4, 5, 0, 1, 6, 7] rfl (h hR49)
            · have h := h.2 g75
              refine zr_aload_n C 3 rfl (zdec_at dm_X0_readText 89 rfl) rfl ?_
              refine zr_iload_n C 4 rfl (zdec_at dm_X0_readText 90 rfl) rfl ?_
              refine zr_iload C 0 rfl (zdec_at dm_X0_readText 91 rfl) ?_
              obtain ⟨g81, h⟩ := h
              refine zr_callS C [a1, a2, v43] hS_X0_byteAt ck_RX0_45 sv_X0_byteAt rfl rfl (zdec_at dm_X0_readText 92 rfl) ⟨rfl, rfl, rfl, rfl⟩ ⟨by decide, by decide⟩ (Nat.le_of_ble_eq_true rfl) (zall_2 (zall_0 zz_a2 (zall_0 z45 zall_n))) ?_
              refine ⟨_, _, _, rfl, g81, fun r76 M77 p80 z79 hR78 => ?_⟩
              have h := h r76 M77 p80 z79 hR78
              show zV Γ mu_X0_readText (145, 0, 0) 164 [(4, zI v43), (5, zI (v3 + v42)), (0, zRf (zad Γ) 1), (1, zRf (zad Γ) a1), (2, zI a2), (3, zI v1), (6, zI v4), (7, zI v5), (8, zI r27), (9, zI v42), (10, zI v43)] [zI r76] M77
              refine zr_bipush C (zdec_at dm_X0_readText 93 rfl) (by decide) ?_
              refine zr_icmp_ne C z79 (by decide) (zdec_at dm_X0_readText 94 rfl) rfl (fun g82 => ?_) (fun g82 => ?_)
              · have h := h.1 g82
                refine zr_iinc (L1 := [(7, zI (v5 + 1)), (4, zI v43), (5, zI (v3 + v42)), (0, zRf (zad Γ) 1), (1, zRf (zad Γ) a1), (2, zI a2), (3, zI v1), (6, zI v4), (8, zI r27), (9, zI v42), (10, zI v43)]) C 7 rfl (zdec_at dm_X0_readText 128 rfl) (Nat.le_of_ble_eq_true rfl) rfl ?_
                refine zr_goto C (zdec_at dm_X0_readText 129 rfl) rfl ?_
                obtain ⟨o83, h⟩ := h
                obtain ⟨o84, h⟩ := h
                obtain ⟨n85, q86, q87⟩ := h
                exact zr_sub [3, 4, 5, 6, 1, 2, 7, 0] rfl (ih14 n85 q86 _ _ _ _ _ _ q87 z6 z45 o83 z9 o84 hR78)
              · have h := h.2 g82
                exact zr_sub [2, 3, 4, 5, 0, 1, 6, 7] rfl (h hR78))
          refine zr_icmp_ne C z39 (by decide) (zdec_at dm_X0_readText 37 rfl) rfl (fun g88 => ?_) (fun g88 => ?_)
          · have h := h.1 g88
            exact zr_sub [3, 4, 5, 6, 8, 9, 10, 2, 1, 0] rfl (h (by decide) o35 hR38)
          · have h := h.2 g88
            refine zr_aload_n C 4 rfl (zdec_at dm_X0_readText 38 rfl) rfl ?_
            refine zr_iload_n C 5 rfl (zdec_at dm_X0_readText 39 rfl) rfl ?_
            refine zr_iload C 0 rfl (zdec_at dm_X0_readText 40 rfl) ?_
            refine zr_iconst C (zdec_at dm_X0_readText 41 rfl) ?_
            refine zr_iadd C (zdec_at dm_X0_readText 42 rfl) ?_
            obtain ⟨o89, h⟩ := h
            obtain ⟨g95, h⟩ := h
            refine zr_callS C [a1, a2, ((v2 + 1) + 1)] hS_X0_countDigits ck_RX0_53 sv_X0_countDigits rfl rfl (zdec_at dm_X0_readText 43 rfl) ⟨rfl, rfl, rfl, rfl⟩ ⟨by decide, by decide⟩ (Nat.le_of_ble_eq_true rfl) (zall_2 (zall_0 zz_a2 (zall_0 o89 zall_n))) ?_
            refine ⟨_, _, _, rfl, g95, fun r90 M91 p94 z93 hR92 => ?_⟩
            have h := h r90 M91 p94 z93 hR92
            show zV Γ mu_X0_readText (145, 0, 0) 77 [(10, zI (v2 + 1)), (9, zI 1), (8, zI r27), (0, zRf (zad Γ) 1), (1, zRf (zad Γ) a1), (2, zI a2), (3, zI v1), (4, zI v2), (5, zI v3), (6, zI v4), (7, zI v5)] [zI r90] M91
            refine zr_istore (L1 := [(11, zI r90), (10, zI (v2 + 1)), (9, zI 1), (8, zI r27), (0, zRf (zad Γ) 1), (1, zRf (zad Γ) a1), (2, zI a2), (3, zI v1), (4, zI v2), (5, zI v3), (6, zI v4), (7, zI v5)]) C (zdec_at dm_X0_readText 44 rfl) (Nat.le_of_ble_eq_true rfl) rfl ?_
            refine zr_aload_n C 5 rfl (zdec_at dm_X0_readText 45 rfl) rfl ?_
            refine zr_iload_n C 6 rfl (zdec_at dm_X0_readText 46 rfl) rfl ?_
            refine zr_iload C 1 rfl (zdec_at dm_X0_readText 47 rfl) ?_
            refine zr_iconst C (zdec_at dm_X0_readText 48 rfl) ?_
            refine zr_iadd C (zdec_at dm_X0_readText 49 rfl) ?_
            refine zr_iload C 0 rfl (zdec_at dm_X0_readText 50 rfl) ?_
            obtain ⟨g101, h⟩ := h
            refine zr_callS C [a1, a2, ((v2 + 1) + 1), r90] hS_X0_numberOf ck_RX0_56 sv_X0_numberOf rfl rfl (zdec_at dm_X0_readText 51 rfl) ⟨rfl, rfl, rfl, rfl⟩ ⟨by decide, by decide⟩ (Nat.le_of_ble_eq_true rfl) (zall_2 (zall_0 zz_a2 (zall_0 o89 (zall_0 z93 zall_n)))) ?_
            refine ⟨_, _, _, _, rfl, g101, fun r96 M97 p100 z99 hR98 => ?_⟩
            have h := h r96 M97 p100 z99 hR98
            show zV Γ mu_X0_readText (145, 0, 0) 90 [(11, zI r90), (10, zI (v2 + 1)), (9, zI 1), (8, zI r27), (0, zRf (zad Γ) 1), (1, zRf (zad Γ) a1), (2, zI a2), (3, zI v1), (4, zI v2), (5, zI v3), (6, zI v4), (7, zI v5)] [zI r96] M97
            refine zr_istore (L1 := [(9, zI r96), (11, zI r90), (10, zI (v2 + 1)), (8, zI r27), (0, zRf (zad Γ) 1), (1, zRf (zad Γ) a1), (2, zI a2), (3, zI v1), (4, zI v2), (5, zI v3), (6, zI v4), (7, zI v5)]) C (zdec_at dm_X0_readText 52 rfl) (Nat.le_of_ble_eq_true rfl) rfl ?_
            refine zr_iload C 0 rfl (zdec_at dm_X0_readText 53 rfl) ?_
            refine zr_iconst C (zdec_at dm_X0_readText 54 rfl) ?_
            refine zr_icmp_lt C z99 (by decide) (zdec_at dm_X0_readText 55 rfl) rfl (fun g102 => ?_) (fun g102 => ?_)
            · have h := h.1 g102
              refine zr_iload C 2 rfl (zdec_at dm_X0_readText 64 rfl) ?_
              refine zr_iconst C (zdec_at dm_X0_readText 65 rfl) ?_
              refine zr_iadd C (zdec_at dm_X0_readText 66 rfl) ?_
              exact zr_ireturn C rfl (zdec_at dm_X0_readText 67 rfl) rfl ⟨o89, h⟩
            · have h := h.2 g102
              refine zr_iload C 0 rfl (zdec_at dm_X0_readText 56 rfl) ?_
              refine zr_bipush C (zdec_at dm_X0_readText 57 rfl) (by decide) ?_
              refine zr_icmp_gt C z99 (by decide) (zdec_at dm_X0_readText 58 rfl) rfl (fun g103 => ?_) (fun g103 => ?_)
              · have h := h.1 g103
                refine zr_iload C 2 rfl (zdec_at dm_X0_readText 64 rfl) ?_
                refine zr_iconst C (zdec_at dm_X0_readText 65 rfl) ?_
                refine zr_iadd C (zdec_at dm_X0_readText 66 rfl) ?_
                exact zr_ireturn C rfl (zdec_at dm_X0_readText 67 rfl) rfl ⟨o89, h⟩
              · have h := h.2 g103
                refine zr_iload C 9 rfl (zdec_at dm_X0_readText 59 rfl) ?_
                refine zr_iload C 0 rfl (zdec_at dm_X0_readText 60 rfl) ?_
                refine zr_iadd C (zdec_at dm_X0_readText 61 rfl) ?_
                refine zr_iload_n C 7 rfl (zdec_at dm_X0_readText 62 rfl) rfl ?_
                obtain ⟨o104, h⟩ := h
                refine zr_icmp_le C o104 z6 (zdec_at dm_X0_readText 63 rfl) rfl (fun g105 => ?_) (fun g105 => ?_)
                · have h := h.1 g105
                  refine zr_iload C 2 rfl (zdec_at dm_X0_readText 68 rfl) ?_
                  refine zr_iconst C (zdec_at dm_X0_readText 69 rfl) ?_
                  refine zr_iload C 1 rfl (zdec_at dm_X0_readText 70 rfl) ?_
                  refine zr_iadd C (zdec_at dm_X0_readText 71 rfl) ?_
                  refine zr_iadd C (zdec_at dm_X0_readText 72 rfl) ?_
                  refine zr_istore (L1 := [(10, zI ((v2 + 1) + (1 + r90))), (9, zI r96), (11, zI r90), (8, zI r27), (0, zRf (zad Γ) 1), (1, zRf (zad Γ) a1), (2, zI a2), (3, zI v1), (4, zI v2), (5, zI v3), (6, zI v4), (7, zI v5)]) C (zdec_at dm_X0_readText 73 rfl) (Nat.le_of_ble_eq_true rfl) rfl ?_
                  obtain ⟨o106, h⟩ := h
                  exact zr_sub [4, 5, 6, 7, 9, 10, 11, 3, 1, 0] rfl (h z99 o106 hR98)
                · have h := h.2 g105
                  refine zr_iload C 2 rfl (zdec_at dm_X0_readText 64 rfl) ?_
                  refine zr_iconst C (zdec_at dm_X0_readText 65 rfl) ?_
                  refine zr_iadd C (zdec_at dm_X0_readText 66 rfl) ?_
                  exact zr_ireturn C rfl (zdec_at dm_X0_readText 67 rfl) rfl ⟨o89, h⟩
        · have h := h.2 g34
          refine zr_iload C 5 rfl (zdec_at dm_X0_readText 24 rfl) ?_
          exact zr_ireturn C rfl (zdec_at dm_X0_readText 25 rfl) rfl ⟨z7, h⟩
  exact zr_sub [5, 6, 7, 4, 3, 2, 1, 0] rfl (lp15 n17 _ _ _ _ _ _ q18 (by decide) (by decide) (by decide) (by decide) (by decide) hR)

set_option maxHeartbeats 400000 in
set_option maxRecDepth 100000 in
theorem sn_X0_takeText {pr_X0_takeDraft : zM → Prop} {po_X0_takeDraft : zM → zM → Prop} (hS_X0_takeDraft : zSnd zS 145 0 0 yX0_takeDraft cX0_takeDraft 1 none 1 [2] (F_X0_takeDraft pr_X0_takeDraft po_X0_takeDraft)) : zSnd zS 145 0 0 yX0_takeText cX0_takeText 1 none 2 [2] (fun xs P M => xs = [1] ∧ vc_X0_takeText pr_X0_takeDraft po_X0_takeDraft P M) := by
  refine zSnd.of rfl (fun ad xs hz => Nat.le_trans (Nat.le_of_eq (zlen ad _ xs hz)) (by decide)) ?_
  intro Γ C _ _ xs M hz hF
  obtain ⟨rfl, h⟩ := hF
  refine zr_rng (fun hR => ?_)
  have C : zC Γ mu_X0_takeText := C
  change zV Γ mu_X0_takeText (145, 0, 0) 0 [(0, zRf (zad Γ) 1)] [] M
  change vc_X0_takeText pr_X0_takeDraft po_X0_takeDraft _ M at h
  unfold vc_X0_takeText at h
  refine zr_aload_n C 0 rfl (zdec_at dm_X0_takeText 0 rfl) rfl ?_
  refine zr_aload_n C 0 rfl (zdec_at dm_X0_takeText 1 rfl) rfl ?_
  refine zr_geti C fk_RX0_64 fi_1_7 (zdec_at dm_X0_takeText 2 rfl) ?_
  refine zr_puti C fk_RX0_22 fi_1_0 (hR _ _) (zdec_at dm_X0_takeText 3 rfl) (fun M1 e2 => ?_)
  have h := h M1 e2
  have hR3 : zRng M1 := by rw [e2]; exact hR.set (hR _ _) _ _
  refine zr_aload_n C 0 rfl (zdec_at dm_X0_takeText 4 rfl) rfl ?_
  refine zr_aload_n C 0 rfl (zdec_at dm_X0_takeText 5 rfl) rfl ?_
  refine zr_geti C fk_RX0_67 fi_1_8 (zdec_at dm_X0_takeText 6 rfl) ?_
  refine zr_puti C fk_RX0_26 fi_1_1 (hR3 _ _) (zdec_at dm_X0_takeText 7 rfl) (fun M4 e5 => ?_)
  have h := h M4 e5
  have hR6 : zRng M4 := by rw [e5]; exact hR3.set (hR3 _ _) _ _
  refine zr_aload_n C 0 rfl (zdec_at dm_X0_takeText 8 rfl) rfl ?_
  obtain ⟨g11, h⟩ := h
  refine zr_callV C [] hS_X0_takeDraft ck_RX0_70 iv_X0_takeDraft vc_X0 oc_1 rfl rfl (zdec_at dm_X0_takeText 9 rfl) ⟨rfl, rfl, rfl, rfl⟩ ⟨by decide, by decide⟩ (Nat.le_of_ble_eq_true rfl) zall_n ?_
  refine ⟨rfl, g11, fun M7 p10 _ hR8 => ?_⟩
  have h := h M7 p10 hR8
  show zV Γ mu_X0_takeText (145, 0, 0) 20 [(0, zRf (zad Γ) 1)] [] M7
  exact zr_return C rfl rfl (zdec_at dm_X0_takeText 10 rfl) rfl ⟨by decide, h⟩

set_option maxHeartbeats 400000 in
set_option maxRecDepth 100000 in
theorem sn_X0_drawRun : zSnd zS 145 0 0 yX0_drawRun cX0_drawRun 6 none 0 [2, 0, 0, 0, 0] (fun xs P M => ∃ a1 a2 a3 a4 : Int, xs = [1, a1, a2, a3, a4] ∧ vc_X0_drawRun a1 a2 a3 a4 P M) := by
  refine zSnd.of rfl (fun ad xs hz => Nat.le_trans (Nat.le_of_eq (zlen ad _ xs hz)) (by decide)) ?_
  intro Γ C _ _ xs M hz hF
  obtain ⟨a1, a2, a3, a4, rfl, h⟩ := hF
  have zz_a1 := zall_h (zall_t hz) (by decide)
  have zz_a2 := zall_h (zall_t (zall_t hz)) (by decide)
  have zz_a3 := zall_h (zall_t (zall_t (zall_t hz))) (by decide)
  have zz_a4 := zall_h (zall_t (zall_t (zall_t (zall_t hz)))) (by decide)
  refine zr_rng (fun hR => ?_)
  have C : zC Γ mu_X0_drawRun := C
  change zV Γ mu_X0_drawRun (145, 0, 0) 0 [(0, zRf (zad Γ) 1), (1, zI a1), (2, zI a2), (3, zI a3), (4, zI a4)] [] M
  change vc_X0_drawRun a1 a2 a3 a4 _ M at h
  unfold vc_X0_drawRun at h
  refine zr_iconst C (zdec_at dm_X0_drawRun 0 rfl) ?_
  refine zr_istore (L1 := [(5, zI 0), (0, zRf (zad Γ) 1), (1, zI a1), (2, zI a2), (3, zI a3), (4, zI a4)]) C (zdec_at dm_X0_drawRun 1 rfl) (Nat.le_of_ble_eq_true rfl) rfl ?_
  obtain ⟨I3, ⟨n9, q10⟩, hI8⟩ := h
  have lp7 : ∀ (n5 : Nat) (v1 : Int) (M3 : zM), I3 v1 M3 n5 → zin v1 → zRng M3 → zV Γ mu_X0_drawRun (145, 0, 0) 3 [(0, zRf (zad Γ) 1), (1, zI a1), (2, zI a2), (3, zI a3), (4, zI a4), (5, zI v1)] [] M3 := by
    intro n5
    induction n5 using Nat.strongRecOn with
    | _ n5 ih6 =>
    intro v1 M3 q11 z2 hR4
    have h := hI8 v1 M3 n5 q11 z2 hR4
    refine zr_iload C 5 rfl (zdec_at dm_X0_drawRun 2 rfl) ?_
    refine zr_iload_n C 3 rfl (zdec_at dm_X0_drawRun 3 rfl) rfl ?_
    refine zr_icmp_ge C z2 zz_a3 (zdec_at dm_X0_drawRun 4 rfl) rfl (fun g12 => ?_) (fun g12 => ?_)
    · have h := h.1 g12
      exact zr_return C rfl rfl (zdec_at dm_X0_drawRun 27 rfl) rfl ⟨by decide, h⟩
    · have h := h.2 g12
      refine zr_iload_n C 1 rfl (zdec_at dm_X0_drawRun 5 rfl) rfl ?_
      refine zr_iload C 5 rfl (zdec_at dm_X0_drawRun 6 rfl) ?_
      refine zr_iadd C (zdec_at dm_X0_drawRun 7 rfl) ?_
      refine zr_bipush C (zdec_at dm_X0_drawRun 8 rfl) (by decide) ?_
      obtain ⟨o13, h⟩ := h
      refine zr_icmp_ge C o13 (by decide) (zdec_at dm_X0_drawRun 9 rfl) rfl (fun g14 => ?_) (fun g14 => ?_)
      · have h := h.1 g14
        exact zr_return C rfl rfl (zdec_at dm_X0_drawRun 27 rfl) rfl ⟨by decide, h⟩
      · have h := h.2 g14
        refine zr_iload_n C 2 rfl (zdec_at dm_X0_drawRun 10 rfl) rfl ?_
        refine zr_bipush C (zdec_at dm_X0_drawRun 11 rfl) (by decide) ?_
        refine zr_icmp_ge C zz_a2 (by decide) (zdec_at dm_X0_drawRun 12 rfl) rfl (fun g15 => ?_) (fun g15 => ?_)
        · have h := h.1 g15
          exact zr_return C rfl rfl (zdec_at dm_X0_drawRun 27 rfl) rfl ⟨by decide, h⟩
        · have h := h.2 g15
          refine zr_aload_n C 0 rfl (zdec_at dm_X0_drawRun 13 rfl) rfl ?_
          refine zr_getr (q := 4) C fk_RX0_19 fi_1_6 (zdec_at dm_X0_drawRun 14 rfl) ?_
          refine zr_bipush C (zdec_at dm_X0_drawRun 15 rfl) (by decide) ?_
          refine zr_iload_n C 2 rfl (zdec_at dm_X0_drawRun 16 rfl) rfl ?_
          refine zr_imul C (zdec_at dm_X0_drawRun 17 rfl) ?_
          refine zr_iload_n C 1 rfl (zdec_at dm_X0_drawRun 18 rfl) rfl ?_
          refine zr_iadd C (zdec_at dm_X0_drawRun 19 rfl) ?_
          refine zr_iload C 5 rfl (zdec_at dm_X0_drawRun 20 rfl) ?_
          refine zr_iadd C (zdec_at dm_X0_drawRun 21 rfl) ?_
          refine zr_iload C 4 rfl (zdec_at dm_X0_drawRun 22 rfl) ?_
          refine zr_i2b C (zdec_at dm_X0_drawRun 23 rfl) ?_
          obtain ⟨o16, h⟩ := h
          refine zr_bast C ai_4 o16 (z_bm _ (by decide) (by decide)) Int.bmod_bmod rfl (zdec_at dm_X0_drawRun 24 rfl) (fun M17 e18 => ?_)
          have h := h M17 e18
          have hR19 : zRng M17 := by rw [e18]; exact hR4.set (z_bm _ (by decide) (by decide)) _ _
          refine zr_iinc (L1 := [(5, zI (v1 + 1)), (0, zRf (zad Γ) 1), (1, zI a1), (2, zI a2), (3, zI a3), (4, zI a4)]) C 5 rfl (zdec_at dm_X0_drawRun 25 rfl) (Nat.le_of_ble_eq_true rfl) rfl ?_
          refine zr_goto C (zdec_at dm_X0_drawRun 26 rfl) rfl ?_
          obtain ⟨o20, h⟩ := h
          obtain ⟨n21, q22, q23⟩ := h
          exact zr_sub [1, 2, 3, 4, 5, 0] rfl (ih6 n21 q22 _ _ q23 o20 hR19)
  exact zr_sub [1, 2, 3, 4, 5, 0] rfl (lp7 n9 _ _ q10 (by decide) hR)

set_option maxHeartbeats 400000 in
set_option maxRecDepth 100000 in
theorem sn_X0_byteAt : zSnd zS 145 0 0 yX0_byteAt cX0_byteAt 3 (some .int) 0 [2, 0, 0] (fun xs P M => ∃ a0 a1 a2 : Int, xs = [a0, a1, a2] ∧ vc_X0_byteAt a0 a1 a2 P M) := by
  refine zSnd.of rfl (fun ad xs hz => Nat.le_trans (Nat.le_of_eq (zlen ad _ xs hz)) (by decide)) ?_
  intro Γ C _ _ xs M hz hF
  obtain ⟨a0, a1, a2, rfl, h⟩ := hF
  have zz_a1 := zall_h (zall_t hz) (by decide)
  have zz_a2 := zall_h (zall_t (zall_t hz)) (by decide)
  refine zr_rng (fun hR => ?_)
  have C : zC Γ mu_X0_byteAt := C
  change zV Γ mu_X0_byteAt (145, 0, 0) 0 [(0, zRf (zad Γ) a0), (1, zI a1), (2, zI a2)] [] M
  change vc_X0_byteAt a0 a1 a2 _ M at h
  unfold vc_X0_byteAt at h
  refine zr_iload_n C 2 rfl (zdec_at dm_X0_byteAt 0 rfl) rfl ?_
  refine zr_if_lt C zz_a2 (zdec_at dm_X0_byteAt 1 rfl) rfl (fun g1 => ?_) (fun g1 => ?_)
  · have h := h.1 g1
    refine zr_iconst C (zdec_at dm_X0_byteAt 13 rfl) ?_
    exact zr_ireturn C rfl (zdec_at dm_X0_byteAt 14 rfl) rfl ⟨(by decide), h⟩
  · have h := h.2 g1
    refine zr_iload_n C 2 rfl (zdec_at dm_X0_byteAt 2 rfl) rfl ?_
    refine zr_iload_n C 1 rfl (zdec_at dm_X0_byteAt 3 rfl) rfl ?_
    refine zr_icmp_ge C zz_a2 zz_a1 (zdec_at dm_X0_byteAt 4 rfl) rfl (fun g2 => ?_) (fun g2 => ?_)
    · have h := h.1 g2
      refine zr_iconst C (zdec_at dm_X0_byteAt 13 rfl) ?_
      exact zr_ireturn C rfl (zdec_at dm_X0_byteAt 14 rfl) rfl ⟨(by decide), h⟩
    · have h := h.2 g2
      refine zr_iload_n C 2 rfl (zdec_at dm_X0_byteAt 5 rfl) rfl ?_
      refine zr_aload_n C 0 rfl (zdec_at dm_X0_byteAt 6 rfl) rfl ?_
      obtain ⟨o3, h⟩ := h
      refine zr_alen C (by decide) o3 (zdec_at dm_X0_byteAt 7 rfl) ?_
      rw [zln_i]
      refine zr_icmp_ge C zz_a2 (zln_z o3) (zdec_at dm_X0_byteAt 8 rfl) rfl (fun g4 => ?_) (fun g4 => ?_)
      · have h := h.1 g4
        refine zr_iconst C (zdec_at dm_X0_byteAt 13 rfl) ?_
        exact zr_ireturn C rfl (zdec_at dm_X0_byteAt 14 rfl) rfl ⟨(by decide), h⟩
      · have h := h.2 g4
        refine zr_aload_n C 0 rfl (zdec_at dm_X0_byteAt 9 rfl) rfl ?_
        refine zr_iload_n C 2 rfl (zdec_at dm_X0_byteAt 10 rfl) rfl ?_
        obtain ⟨o5, h⟩ := h
        refine zr_iald C o3 o5 (zdec_at dm_X0_byteAt 11 rfl) ?_
        refine zr_goto C (zdec_at dm_X0_byteAt 12 rfl) rfl ?_
        exact zr_ireturn C rfl (zdec_at dm_X0_byteAt 14 rfl) rfl ⟨(hR _ _), h⟩

set_option maxHeartbeats 400000 in
set_option maxRecDepth 100000 in
theorem sn_X0_colourSign : zSnd zS 145 0 0 yX0_colourSign cX0_colourSign 1 (some .int) 0 [0] (fun xs P M => ∃ a0 : Int, xs = [a0] ∧ vc_X0_colourSign a0 P M) := by
  refine zSnd.of rfl (fun ad xs hz => Nat.le_trans (Nat.le_of_eq (zlen ad _ xs hz)) (by decide)) ?_
  intro Γ C _ _ xs M hz hF
  obtain ⟨a0, rfl, h⟩ := hF
  have zz_a0 := zall_h hz (by decide)
  refine zr_rng (fun hR => ?_)
  have C : zC Γ mu_X0_colourSign := C
  change zV Γ mu_X0_colourSign (145, 0, 0) 0 [(0, zI a0)] [] M
  change vc_X0_colourSign a0 _ M at h
  unfold vc_X0_colourSign at h
  refine zr_iload_n C 0 rfl (zdec_at dm_X0_colourSign 0 rfl) rfl ?_
  refine zr_bipush C (zdec_at dm_X0_colourSign 1 rfl) (by decide) ?_
  have h := h (zV Γ mu_X0_colourSign (145, 0, 0) 17 [(0, zI a0)] [] M) (fun h => by
    refine zr_iload_n C 0 rfl (zdec_at dm_X0_colourSign 10 rfl) rfl ?_
    refine zr_bipush C (zdec_at dm_X0_colourSign 11 rfl) (by decide) ?_
    refine zr_icmp_lt C zz_a0 (by decide) (zdec_at dm_X0_colourSign 12 rfl) rfl (fun g1 => ?_) (fun g1 => ?_)
    · have h := h.1 g1
      refine zr_iconst C (zdec_at dm_X0_colourSign 22 rfl) ?_
      exact zr_ireturn C rfl (zdec_at dm_X0_colourSign 23 rfl) rfl ⟨(by decide), h⟩
    · have h := h.2 g1
      refine zr_iload_n C 0 rfl (zdec_at dm_X0_colourSign 13 rfl) rfl ?_
      refine zr_bipush C (zdec_at dm_X0_colourSign 14 rfl) (by decide) ?_
      refine zr_icmp_gt C zz_a0 (by decide) (zdec_at dm_X0_colourSign 15 rfl) rfl (fun g2 => ?_) (fun g2 => ?_)
      · have h := h.1 g2
        refine zr_iconst C (zdec_at dm_X0_colourSign 22 rfl) ?_
        exact zr_ireturn C rfl (zdec_at dm_X0_colourSign 23 rfl) rfl ⟨(by decide), h⟩
      · have h := h.2 g2
        refine zr_iload_n C 0 rfl (zdec_at dm_X0_colourSign 16 rfl) rfl ?_
        refine zr_bipush C (zdec_at dm_X0_colourSign 17 rfl) (by decide) ?_
        refine zr_isub C (zdec_at dm_X0_colourSign 18 rfl) ?_
        refine zr_bipush C (zdec_at dm_X0_colourSign 19 rfl) (by decide) ?_
        refine zr_iadd C (zdec_at dm_X0_colourSign 20 rfl) ?_
        refine zr_goto C (zdec_at dm_X0_colourSign 21 rfl) rfl ?_
        obtain ⟨o3, h⟩ := h
        exact zr_ireturn C rfl (zdec_at dm_X0_colourSign 23 rfl) rfl ⟨o3, h⟩)
  refine zr_icmp_lt C zz_a0 (by decide) (zdec_at dm_X0_colourSign 2 rfl) rfl (fun g4 => ?_) (fun g4 => ?_)
  · have h := h.1 g4
    exact zr_sub [0] rfl (h)
  · have h := h.2 g4
    refine zr_iload_n C 0 rfl (zdec_at dm_X0_colourSign 3 rfl) rfl ?_
    refine zr_bipush C (zdec_at dm_X0_colourSign 4 rfl) (by decide) ?_
    refine zr_icmp_gt C zz_a0 (by decide) (zdec_at dm_X0_colourSign 5 rfl) rfl (fun g5 => ?_) (fun g5 => ?_)
    · have h := h.1 g5
      exact zr_sub [0] rfl (h)
    · have h := h.2 g5
      refine zr_iload_n C 0 rfl (zdec_at dm_X0_colourSign 6 rfl) rfl ?_
      refine zr_bipush C (zdec_at dm_X0_colourSign 7 rfl) (by decide) ?_
      refine zr_isub C (zdec_at dm_X0_colourSign 8 rfl) ?_
      obtain ⟨o6, h⟩ := h
      exact zr_ireturn C rfl (zdec_at dm_X0_colourSign 9 rfl) rfl ⟨o6, h⟩

set_option maxHeartbeats 400000 in
set_option maxRecDepth 100000 in
theorem sn_X0_countDigits {pr_X0_byteAt : Int → Int → Int → zM → Prop} {po_X0_byteAt : Int → Int → Int → zM → Int → zM → Prop} {pr_X11_isDigit : Int → zM → Prop} {po_X11_isDigit : Int → zM → Int → zM → Prop} (hS_X0_byteAt : zSnd zS 145 0 0 yX0_byteAt cX0_byteAt 3 (some .int) 0 [2, 0, 0] (F_X0_byteAt pr_X0_byteAt po_X0_byteAt)) (hS_X11_isDigit : zSnd zS 145 0 0 yX11_isDigit cX11_isDigit 1 (some .boolean) 0 [0] (F_X11_isDigit pr_X11_isDigit po_X11_isDigit)) : zSnd zS 145 0 0 yX0_countDigits cX0_countDigits 3 (some .int) 1 [2, 0, 0] (fun xs P M => ∃ a0 a1 a2 : Int, xs = [a0, a1, a2] ∧ vc_X0_countDigits pr_X0_byteAt po_X0_byteAt pr_X11_isDigit po_X11_isDigit a0 a1 a2 P M) := by
  refine zSnd.of rfl (fun ad xs hz => Nat.le_trans (Nat.le_of_eq (zlen ad _ xs hz)) (by decide)) ?_
  intro Γ C _ _ xs M hz hF
  obtain ⟨a0, a1, a2, rfl, h⟩ := hF
  have zz_a1 := zall_h (zall_t hz) (by decide)
  have zz_a2 := zall_h (zall_t (zall_t hz)) (by decide)
  refine zr_rng (fun hR => ?_)
  have C : zC Γ mu_X0_countDigits := C
  change zV Γ mu_X0_countDigits (145, 0, 0) 0 [(0, zRf (zad Γ) a0), (1, zI a1), (2, zI a2)] [] M
  change vc_X0_countDigits pr_X0_byteAt po_X0_byteAt pr_X11_isDigit po_X11_isDigit a0 a1 a2 _ M at h
  unfold vc_X0_countDigits at h
  refine zr_aload_n C 0 rfl (zdec_at dm_X0_countDigits 0 rfl) rfl ?_
  refine zr_iload_n C 1 rfl (zdec_at dm_X0_countDigits 1 rfl) rfl ?_
  refine zr_iload_n C 2 rfl (zdec_at dm_X0_countDigits 2 rfl) rfl ?_
  obtain ⟨g6, h⟩ := h
  refine zr_callS C [a0, a1, a2] hS_X0_byteAt ck_RX0_45 sv_X0_byteAt rfl rfl (zdec_at dm_X0_countDigits 3 rfl) ⟨rfl, rfl, rfl, rfl⟩ ⟨by decide, by decide⟩ (Nat.le_of_ble_eq_true rfl) (zall_2 (zall_0 zz_a1 (zall_0 zz_a2 zall_n))) ?_
  refine ⟨_, _, _, rfl, g6, fun r1 M2 p5 z4 hR3 => ?_⟩
  have h := h r1 M2 p5 z4 hR3
  show zV Γ mu_X0_countDigits (145, 0, 0) 6 [(0, zRf (zad Γ) a0), (1, zI a1), (2, zI a2)] [zI r1] M2
  obtain ⟨g12, h⟩ := h
  refine zr_callS C [r1] hS_X11_isDigit ck_RX0_73 sv_X11_isDigit rfl rfl (zdec_at dm_X0_countDigits 4 rfl) ⟨rfl, rfl, rfl, rfl⟩ ⟨by decide, by decide⟩ (Nat.le_of_ble_eq_true rfl) (zall_0 z4 zall_n) ?_
  refine ⟨_, rfl, g12, fun r7 M8 p11 z10 hR9 => ?_⟩
  have h := h r7 M8 p11 z10 hR9
  show zV Γ mu_X0_countDigits (145, 0, 0) 9 [(0, zRf (zad Γ) a0), (1, zI a1), (2, zI a2)] [zI r7] M8
  refine zr_if_ne C z10 (zdec_at dm_X0_countDigits 5 rfl) rfl (fun g13 => ?_) (fun g13 => ?_)
  · have h := h.1 g13
    refine zr_aload_n C 0 rfl (zdec_at dm_X0_countDigits 8 rfl) rfl ?_
    refine zr_iload_n C 1 rfl (zdec_at dm_X0_countDigits 9 rfl) rfl ?_
    refine zr_iload_n C 2 rfl (zdec_at dm_X0_countDigits 10 rfl) rfl ?_
    obtain ⟨g19, h⟩ := h
    refine zr_callS C [a0, a1, a2] hS_X0_byteAt ck_RX0_45 sv_X0_byteAt rfl rfl (zdec_at dm_X0_countDigits 11 rfl) ⟨rfl, rfl, rfl, rfl⟩ ⟨by decide, by decide⟩ (Nat.le_of_ble_eq_true rfl) (zall_2 (zall_0 zz_a1 (zall_0 zz_a2 zall_n))) ?_
    refine ⟨_, _, _, rfl, g19, fun r14 M15 p18 z17 hR16 => ?_⟩
    have h := h r14 M15 p18 z17 hR16
    show zV Γ mu_X0_countDigits (145, 0, 0) 20 [(0, zRf (zad Γ) a0), (1, zI a1), (2, zI a2)] [zI r14] M15
    refine zr_bipush C (zdec_at dm_X0_countDigits 12 rfl) (by decide) ?_
    refine zr_icmp_eq C z17 (by decide) (zdec_at dm_X0_countDigits 13 rfl) rfl (fun g20 => ?_) (fun g20 => ?_)
    · have h := h.1 g20
      refine zr_iconst C (zdec_at dm_X0_countDigits 24 rfl) ?_
      exact zr_ireturn C rfl (zdec_at dm_X0_countDigits 25 rfl) rfl ⟨(by decide), h⟩
    · have h := h.2 g20
      refine zr_aload_n C 0 rfl (zdec_at dm_X0_countDigits 14 rfl) rfl ?_
      refine zr_iload_n C 1 rfl (zdec_at dm_X0_countDigits 15 rfl) rfl ?_
      refine zr_iload_n C 2 rfl (zdec_at dm_X0_countDigits 16 rfl) rfl ?_
      refine zr_iconst C (zdec_at dm_X0_countDigits 17 rfl) ?_
      refine zr_iadd C (zdec_at dm_X0_countDigits 18 rfl) ?_
      obtain ⟨o21, h⟩ := h
      obtain ⟨g27, h⟩ := h
      refine zr_callS C [a0, a1, (a2 + 1)] hS_X0_byteAt ck_RX0_45 sv_X0_byteAt rfl rfl (zdec_at dm_X0_countDigits 19 rfl) ⟨rfl, rfl, rfl, rfl⟩ ⟨by decide, by decide⟩ (Nat.le_of_ble_eq_true rfl) (zall_2 (zall_0 zz_a1 (zall_0 o21 zall_n))) ?_
      refine ⟨_, _, _, rfl, g27, fun r22 M23 p26 z25 hR24 => ?_⟩
      have h := h r22 M23 p26 z25 hR24
      show zV Γ mu_X0_countDigits (145, 0, 0) 33 [(0, zRf (zad Γ) a0), (1, zI a1), (2, zI a2)] [zI r22] M23
      obtain ⟨g33, h⟩ := h
      refine zr_callS C [r22] hS_X11_isDigit ck_RX0_73 sv_X11_isDigit rfl rfl (zdec_at dm_X0_countDigits 20 rfl) ⟨rfl, rfl, rfl, rfl⟩ ⟨by decide, by decide⟩ (Nat.le_of_ble_eq_true rfl) (zall_0 z25 zall_n) ?_
      refine ⟨_, rfl, g33, fun r28 M29 p32 z31 hR30 => ?_⟩
      have h := h r28 M29 p32 z31 hR30
      show zV Γ mu_X0_countDigits (145, 0, 0) 36 [(0, zRf (zad Γ) a0), (1, zI a1), (2, zI a2)] [zI r28] M29
      refine zr_if_eq C z31 (zdec_at dm_X0_countDigits 21 rfl) rfl (fun g34 => ?_) (fun g34 => ?_)
      · have h := h.1 g34
        refine zr_iconst C (zdec_at dm_X0_countDigits 24 rfl) ?_
        exact zr_ireturn C rfl (zdec_at dm_X0_countDigits 25 rfl) rfl ⟨(by decide), h⟩
      · have h := h.2 g34
        refine zr_iconst C (zdec_at dm_X0_countDigits 22 rfl) ?_
        refine zr_goto C (zdec_at dm_X0_countDigits 23 rfl) rfl ?_
        exact zr_ireturn C rfl (zdec_at dm_X0_countDigits 25 rfl) rfl ⟨(by decide), h⟩
  · have h := h.2 g13
    refine zr_iconst C (zdec_at dm_X0_countDigits 6 rfl) ?_
    exact zr_ireturn C rfl (zdec_at dm_X0_countDigits 7 rfl) rfl ⟨(by decide), h⟩

set_option maxHeartbeats 400000 in
set_option maxRecDepth 100000 in
theorem sn_X0_numberOf {pr_X0_byteAt : Int → Int → Int → zM → Prop} {po_X0_byteAt : Int → Int → Int → zM → Int → zM → Prop} (hS_X0_byteAt : zSnd zS 145 0 0 yX0_byteAt cX0_byteAt 3 (some .int) 0 [2, 0, 0] (F_X0_byteAt pr_X0_byteAt po_X0_byteAt)) : zSnd zS 145 0 0 yX0_numberOf cX0_numberOf 6 (some .int) 1 [2, 0, 0, 0] (fun xs P M => ∃ a0 a1 a2 a3 : Int, xs = [a0, a1, a2, a3] ∧ vc_X0_numberOf pr_X0_byteAt po_X0_byteAt a0 a1 a2 a3 P M) := by
  refine zSnd.of rfl (fun ad xs hz => Nat.le_trans (Nat.le_of_eq (zlen ad _ xs hz)) (by decide)) ?_
  intro Γ C _ _ xs M hz hF
  obtain ⟨a0, a1, a2, a3, rfl, h⟩ := hF
  have zz_a1 := zall_h (zall_t hz) (by decide)
  have zz_a2 := zall_h (zall_t (zall_t hz)) (by decide)
  have zz_a3 := zall_h (zall_t (zall_t (zall_t hz))) (by decide)
  refine zr_rng (fun hR => ?_)
  have C : zC Γ mu_X0_numberOf := C
  change zV Γ mu_X0_numberOf (145, 0, 0) 0 [(0, zRf (zad Γ) a0), (1, zI a1), (2, zI a2), (3, zI a3)] [] M
  change vc_X0_numberOf pr_X0_byteAt po_X0_byteAt a0 a1 a2 a3 _ M at h
  unfold vc_X0_numberOf at h
  refine zr_iconst C (zdec_at dm_X0_numberOf 0 rfl) ?_
  refine zr_istore (L1 := [(4, zI 0), (0, zRf (zad Γ) a0), (1, zI a1), (2, zI a2), (3, zI a3)]) C (zdec_at dm_X0_numberOf 1 rfl) (Nat.le_of_ble_eq_true rfl) rfl ?_
  refine zr_iconst C (zdec_at dm_X0_numberOf 2 rfl) ?_
  refine zr_istore (L1 := [(5, zI 0), (4, zI 0), (0, zRf (zad Γ) a0), (1, zI a1), (2, zI a2), (3, zI a3)]) C (zdec_at dm_X0_numberOf 3 rfl) (Nat.le_of_ble_eq_true rfl) rfl ?_
  obtain ⟨I6, ⟨n11, q12⟩, hI10⟩ := h
  have lp9 : ∀ (n7 : Nat) (v1 : Int) (v2 : Int) (M5 : zM), I6 v1 v2 M5 n7 → zin v1 → zin v2 → zRng M5 → zV Γ mu_X0_numberOf (145, 0, 0) 6 [(0, zRf (zad Γ) a0), (1, zI a1), (2, zI a2), (3, zI a3), (4, zI v1), (5, zI v2)] [] M5 := by
    intro n7
    induction n7 using Nat.strongRecOn with
    | _ n7 ih8 =>
    intro v1 v2 M5 q13 z3 z4 hR6
    have h := hI10 v1 v2 M5 n7 q13 z3 z4 hR6
    refine zr_iload C 5 rfl (zdec_at dm_X0_numberOf 4 rfl) ?_
    refine zr_iload_n C 3 rfl (zdec_at dm_X0_numberOf 5 rfl) rfl ?_
    refine zr_icmp_ge C z4 zz_a3 (zdec_at dm_X0_numberOf 6 rfl) rfl (fun g14 => ?_) (fun g14 => ?_)
    · have h := h.1 g14
      refine zr_iload C 4 rfl (zdec_at dm_X0_numberOf 22 rfl) ?_
      exact zr_ireturn C rfl (zdec_at dm_X0_numberOf 23 rfl) rfl ⟨z3, h⟩
    · have h := h.2 g14
      refine zr_bipush C (zdec_at dm_X0_numberOf 7 rfl) (by decide) ?_
      refine zr_iload C 4 rfl (zdec_at dm_X0_numberOf 8 rfl) ?_
      refine zr_imul C (zdec_at dm_X0_numberOf 9 rfl) ?_
      refine zr_aload_n C 0 rfl (zdec_at dm_X0_numberOf 10 rfl) rfl ?_
      refine zr_iload_n C 1 rfl (zdec_at dm_X0_numberOf 11 rfl) rfl ?_
      refine zr_iload_n C 2 rfl (zdec_at dm_X0_numberOf 12 rfl) rfl ?_
      refine zr_iload C 5 rfl (zdec_at dm_X0_numberOf 13 rfl) ?_
      refine zr_iadd C (zdec_at dm_X0_numberOf 14 rfl) ?_
      obtain ⟨o15, h⟩ := h
      obtain ⟨g21, h⟩ := h
      refine zr_callS C [a0, a1, (a2 + v2)] hS_X0_byteAt ck_RX0_45 sv_X0_byteAt rfl rfl (zdec_at dm_X0_numberOf 15 rfl) ⟨rfl, rfl, rfl, rfl⟩ ⟨by decide, by decide⟩ (Nat.le_of_ble_eq_true rfl) (zall_2 (zall_0 zz_a1 (zall_0 o15 zall_n))) ?_
      refine ⟨_, _, _, rfl, g21, fun r16 M17 p20 z19 hR18 => ?_⟩
      have h := h r16 M17 p20 z19 hR18
      show zV Γ mu_X0_numberOf (145, 0, 0) 26 [(0, zRf (zad Γ) a0), (1, zI a1), (2, zI a2), (3, zI a3), (4, zI v1), (5, zI v2)] [zI r16, zI (10 * v1)] M17
      refine zr_iadd C (zdec_at dm_X0_numberOf 16 rfl) ?_
      refine zr_bipush C (zdec_at dm_X0_numberOf 17 rfl) (by decide) ?_
      refine zr_isub C (zdec_at dm_X0_numberOf 18 rfl) ?_
      refine zr_istore (L1 := [(4, zI (((10 * v1) + r16) - 48)), (0, zRf (zad Γ) a0), (1, zI a1), (2, zI a2), (3, zI a3), (5, zI v2)]) C (zdec_at dm_X0_numberOf 19 rfl) (Nat.le_of_ble_eq_true rfl) rfl ?_
      refine zr_iinc (L1 := [(5, zI (v2 + 1)), (4, zI (((10 * v1) + r16) - 48)), (0, zRf (zad Γ) a0), (1, zI a1), (2, zI a2), (3, zI a3)]) C 5 rfl (zdec_at dm_X0_numberOf 20 rfl) (Nat.le_of_ble_eq_true rfl) rfl ?_
      refine zr_goto C (zdec_at dm_X0_numberOf 21 rfl) rfl ?_
      obtain ⟨o22, h⟩ := h
      obtain ⟨o23, h⟩ := h
      obtain ⟨n24, q25, q26⟩ := h
      exact zr_sub [2, 3, 4, 5, 1, 0] rfl (ih8 n24 q25 _ _ _ q26 o22 o23 hR18)
  exact zr_sub [2, 3, 4, 5, 1, 0] rfl (lp9 n11 _ _ _ q12 (by decide) (by decide) hR)

set_option maxHeartbeats 400000 in
set_option maxRecDepth 100000 in
theorem sn_X2_refresh {pr_J7_fill_53178 : Int → Int → zM → Prop} {po_J7_fill_53178 : Int → Int → zM → zM → Prop} {pr_X2_faceAt : Int → Int → zM → Prop} {po_X2_faceAt : Int → Int → zM → Int → zM → Prop} {pr_X2_spread : Int → Int → Int → zM → Prop} {po_X2_spread : Int → Int → Int → zM → zM → Prop} (hS_J7_fill_53178 : zSnd zS 145 0 0 yJ7_fill_53178 cJ7_fill_53178 4 none 0 [2, 0] (F_J7_fill_53178 pr_J7_fill_53178 po_J7_fill_53178)) (hS_X2_faceAt : zSnd zS 145 0 0 yX2_faceAt cX2_faceAt 3 (some .int) 0 [2, 0, 0] (F_X2_faceAt pr_X2_faceAt po_X2_faceAt)) (hS_X2_spread : zSnd zS 145 0 0 yX2_spread cX2_spread 13 none 2 [2, 0, 0, 0] (F_X2_spread pr_X2_spread po_X2_spread)) : zSnd zS 145 0 0 yX2_refresh cX2_refresh 3 none 3 [2] (fun xs P M => xs = [5] ∧ vc_X2_refresh pr_J7_fill_53178 po_J7_fill_53178 pr_X2_faceAt po_X2_faceAt pr_X2_spread po_X2_spread P M) := by
  refine zSnd.of rfl (fun ad xs hz => Nat.le_trans (Nat.le_of_eq (zlen ad _ xs hz)) (by decide)) ?_
  intro Γ C _ _ xs M hz hF
  obtain ⟨rfl, h⟩ := hF
  refine zr_rng (fun hR => ?_)
  have C : zC Γ mu_X2_refresh := C
  change zV Γ mu_X2_refresh (145, 0, 0) 0 [(0, zRf (zad Γ) 5)] [] M
  change vc_X2_refresh pr_J7_fill_53178 po_J7_fill_53178 pr_X2_faceAt po_X2_faceAt pr_X2_spread po_X2_spread _ M at h
  unfold vc_X2_refresh at h
  refine zr_aload_n C 0 rfl (zdec_at dm_X2_refresh 0 rfl) rfl ?_
  refine zr_geti C fk_RX2_49 fi_5_1 (zdec_at dm_X2_refresh 1 rfl) ?_
  refine zr_aload_n C 0 rfl (zdec_at dm_X2_refresh 2 rfl) rfl ?_
  refine zr_getr (q := 1) C fk_RX2_45 fi_5_0 (zdec_at dm_X2_refresh 3 rfl) ?_
  refine zr_geti C fk_RX2_53 fi_1_3 (zdec_at dm_X2_refresh 4 rfl) ?_
  refine zr_icmp_ne C (hR _ _) (hR _ _) (zdec_at dm_X2_refresh 5 rfl) rfl (fun g1 => ?_) (fun g1 => ?_)
  · have h := h.1 g1
    refine zr_aload_n C 0 rfl (zdec_at dm_X2_refresh 7 rfl) rfl ?_
    refine zr_aload_n C 0 rfl (zdec_at dm_X2_refresh 8 rfl) rfl ?_
    refine zr_getr (q := 1) C fk_RX2_45 fi_5_0 (zdec_at dm_X2_refresh 9 rfl) ?_
    refine zr_geti C fk_RX2_53 fi_1_3 (zdec_at dm_X2_refresh 10 rfl) ?_
    refine zr_puti C fk_RX2_49 fi_5_1 (hR _ _) (zdec_at dm_X2_refresh 11 rfl) (fun M2 e3 => ?_)
    have h := h M2 e3
    have hR4 : zRng M2 := by rw [e3]; exact hR.set (hR _ _) _ _
    refine zr_aload_n C 0 rfl (zdec_at dm_X2_refresh 12 rfl) rfl ?_
    refine zr_iconst C (zdec_at dm_X2_refresh 13 rfl) ?_
    refine zr_puti C fk_RX2_56 fi_5_2 (by decide) (zdec_at dm_X2_refresh 14 rfl) (fun M5 e6 => ?_)
    have h := h M5 e6
    have hR7 : zRng M5 := by rw [e6]; exact hR4.set (by decide) _ _
    refine zr_aload_n C 0 rfl (zdec_at dm_X2_refresh 15 rfl) rfl ?_
    refine zr_getr (q := 12) C fk_RX2_30 fi_5_9 (zdec_at dm_X2_refresh 16 rfl) ?_
    refine zr_iconst C (zdec_at dm_X2_refresh 17 rfl) ?_
    obtain ⟨g12, h⟩ := h
    refine zr_callS C [12, (-1)] hS_J7_fill_53178 ck_RX2_59 sv_J7_fill_53178 rfl rfl (zdec_at dm_X2_refresh 18 rfl) ⟨rfl, rfl, rfl, rfl⟩ ⟨by decide, by decide⟩ (Nat.le_of_ble_eq_true rfl) (zall_2 (zall_0 (by decide) zall_n)) ?_
    refine ⟨_, _, rfl, g12, fun M8 p11 _ hR9 => ?_⟩
    have h := h M8 p11 hR9
    show zV Γ mu_X2_refresh (145, 0, 0) 39 [(0, zRf (zad Γ) 5)] [] M8
    refine zr_iconst C (zdec_at dm_X2_refresh 19 rfl) ?_
    refine zr_istore_n (L1 := [(1, zI 0), (0, zRf (zad Γ) 5)]) C (zdec_at dm_X2_refresh 20 rfl) rfl (Nat.le_of_ble_eq_true rfl) rfl ?_
    obtain ⟨I41, ⟨n21, q22⟩, hI20⟩ := h
    have lp19 : ∀ (n17 : Nat) (v13 : Int) (M15 : zM), I41 v13 M15 n17 → zin v13 → zRng M15 → zV Γ mu_X2_refresh (145, 0, 0) 41 [(0, zRf (zad Γ) 5), (1, zI v13)] [] M15 := by
      intro n17
      induction n17 using Nat.strongRecOn with
      | _ n17 ih18 =>
      intro v13 M15 q23 z14 hR16
      have h := hI20 v13 M15 n17 q23 z14 hR16
      refine zr_iload_n C 1 rfl (zdec_at dm_X2_refresh 21 rfl) rfl ?_
      refine zr_aload_n C 0 rfl (zdec_at dm_X2_refresh 22 rfl) rfl ?_
      refine zr_getr (q := 1) C fk_RX2_45 fi_5_0 (zdec_at dm_X2_refresh 23 rfl) ?_
      refine zr_geti C fk_RX2_65 fi_1_1 (zdec_at dm_X2_refresh 24 rfl) ?_
      refine zr_icmp_ge C z14 (hR16 _ _) (zdec_at dm_X2_refresh 25 rfl) rfl (fun g24 => ?_) (fun g24 => ?_)
      · have h := h.1 g24
        exact zr_return C rfl rfl (zdec_at dm_X2_refresh 54 rfl) rfl ⟨by decide, h⟩
      · have h := h.2 g24
        refine zr_iconst C (zdec_at dm_X2_refresh 26 rfl) ?_
        refine zr_istore_n (L1 := [(2, zI 0), (0, zRf (zad Γ) 5), (1, zI v13)]) C (zdec_at dm_X2_refresh 27 rfl) rfl (Nat.le_of_ble_eq_true rfl) rfl ?_
        obtain ⟨I54, ⟨n33, q34⟩, hI32⟩ := h
        have lp31 : ∀ (n29 : Nat) (v25 : Int) (M27 : zM), I54 v25 M27 n29 → zin v25 → zRng M27 → zV Γ mu_X2_refresh (145, 0, 0) 54 [(0, zRf (zad Γ) 5), (1, zI v13), (2, zI v25)] [] M27 := by
          intro n29
          induction n29 using Nat.strongRecOn with
          | _ n29 ih30 =>
          intro v25 M27 q35 z26 hR28
          have h := hI32 v25 M27 n29 q35 z26 hR28
          refine zr_iload_n C 2 rfl (zdec_at dm_X2_refresh 28 rfl) rfl ?_
          refine zr_aload_n C 0 rfl (zdec_at dm_X2_refresh 29 rfl) rfl ?_
          refine zr_getr (q := 1) C fk_RX2_45 fi_5_0 (zdec_at dm_X2_refresh 30 rfl) ?_
          refine zr_geti C fk_RX2_68 fi_1_0 (zdec_at dm_X2_refresh 31 rfl) ?_
          refine zr_icmp_ge C z26 (hR28 _ _) (zdec_at dm_X2_refresh 32 rfl) rfl (fun g36 => ?_) (fun g36 => ?_)
          · have h := h.1 g36
            refine zr_iinc (L1 := [(1, zI (v13 + 1)), (0, zRf (zad Γ) 5), (2, zI v25)]) C 1 rfl (zdec_at dm_X2_refresh 52 rfl) (Nat.le_of_ble_eq_true rfl) rfl ?_
            refine zr_goto C (zdec_at dm_X2_refresh 53 rfl) rfl ?_
            obtain ⟨o37, h⟩ := h
            obtain ⟨n38, q39, q40⟩ := h
            exact zr_sub [1, 0] rfl (ih18 n38 q39 _ _ q40 o37 hR28)
          · have h := h.2 g36
            refine zr_aload_n C 0 rfl (zdec_at dm_X2_refresh 33 rfl) rfl ?_
            refine zr_iload_n C 2 rfl (zdec_at dm_X2_refresh 34 rfl) rfl ?_
            refine zr_iload_n C 1 rfl (zdec_at dm_X2_refresh 35 rfl) rfl ?_
            obtain ⟨g46, h⟩ := h
            refine zr_callV C [v25, v13] hS_X2_faceAt ck_RX2_71 iv_X2_faceAt vc_X2 oc_5 rfl rfl (zdec_at dm_X2_refresh 36 rfl) ⟨rfl, rfl, rfl, rfl⟩ ⟨by decide, by decide⟩ (Nat.le_of_ble_eq_true rfl) (zall_0 z26 (zall_0 z14 zall_n)) ?_
            refine ⟨_, _, rfl, g46, fun r41 M42 p45 z44 hR43 => ?_⟩
            have h := h r41 M42 p45 z44 hR43
            show zV Γ mu_X2_refresh (145, 0, 0) 71 [(0, zRf (zad Γ) 5), (1, zI v13), (2, zI v25)] [zI r41] M42
            refine zr_if_ge C z44 (zdec_at dm_X2_refresh 37 rfl) rfl (fun g47 => ?_) (fun g47 => ?_)
            · have h := h.1 g47
              refine zr_iinc (L1 := [(2, zI (v25 + 1)), (0, zRf (zad Γ) 5), (1, zI v13)]) C 2 rfl (zdec_at dm_X2_refresh 50 rfl) (Nat.le_of_ble_eq_true rfl) rfl ?_
              refine zr_goto C (zdec_at dm_X2_refresh 51 rfl) rfl ?_
              obtain ⟨o48, h⟩ := h
              obtain ⟨n49, q50, q51⟩ := h
              exact zr_sub [1, 2, 0] rfl (ih30 n49 q50 _ _ q51 o48 hR43)
            · have h := h.2 g47
              refine zr_aload_n C 0 rfl (zdec_at dm_X2_refresh 38 rfl) rfl ?_
              refine zr_iload_n C 2 rfl (zdec_at dm_X2_refresh 39 rfl) rfl ?_
              refine zr_iload_n C 1 rfl (zdec_at dm_X2_refresh 40 rfl) rfl ?_
              refine zr_aload_n C 0 rfl (zdec_at dm_X2_refresh 41 rfl) rfl ?_
              refine zr_geti C fk_RX2_56 fi_5_2 (zdec_at dm_X2_refresh 42 rfl) ?_
              obtain ⟨g56, h⟩ := h
              refine zr_callV C [v25, v13, (M42 5 2)] hS_X2_spread ck_RX2_75 iv_X2_spread vc_X2 oc_5 rfl rfl (zdec_at dm_X2_refresh 43 rfl) ⟨rfl, rfl, rfl, rfl⟩ ⟨by decide, by decide⟩ (Nat.le_of_ble_eq_true rfl) (zall_0 z26 (zall_0 z14 (zall_0 (hR43 _ _) zall_n))) ?_
              refine ⟨_, _, _, rfl, g56, fun M52 p55 _ hR53 => ?_⟩
              have h := h M52 p55 hR53
              show zV Γ mu_X2_refresh (145, 0, 0) 84 [(0, zRf (zad Γ) 5), (1, zI v13), (2, zI v25)] [] M52
              refine zr_aload_n C 0 rfl (zdec_at dm_X2_refresh 44 rfl) rfl ?_
              refine zr_dup C rfl (zdec_at dm_X2_refresh 45 rfl) ?_
              refine zr_geti C fk_RX2_56 fi_5_2 (zdec_at dm_X2_refresh 46 rfl) ?_
              refine zr_iconst C (zdec_at dm_X2_refresh 47 rfl) ?_
              refine zr_iadd C (zdec_at dm_X2_refresh 48 rfl) ?_
              obtain ⟨o57, h⟩ := h
              refine zr_puti C fk_RX2_56 fi_5_2 o57 (zdec_at dm_X2_refresh 49 rfl) (fun M58 e59 => ?_)
              have h := h M58 e59
              have hR60 : zRng M58 := by rw [e59]; exact hR53.set o57 _ _
              refine zr_iinc (L1 := [(2, zI (v25 + 1)), (0, zRf (zad Γ) 5), (1, zI v13)]) C 2 rfl (zdec_at dm_X2_refresh 50 rfl) (Nat.le_of_ble_eq_true rfl) rfl ?_
              refine zr_goto C (zdec_at dm_X2_refresh 51 rfl) rfl ?_
              obtain ⟨o61, h⟩ := h
              obtain ⟨n62, q63, q64⟩ := h
              exact zr_sub [1, 2, 0] rfl (ih30 n62 q63 _ _ q64 o61 hR60)
        exact zr_sub [1, 2, 0] rfl (lp31 n33 _ _ q34 (by decide) hR16)
    exact zr_sub [1, 0] rfl (lp19 n21 _ _ q22 (by decide) hR9)
  · have h := h.2 g1
    exact zr_return C rfl rfl (zdec_at dm_X2_refresh 6 rfl) rfl ⟨by decide, h⟩

set_option maxHeartbeats 400000 in
set_option maxRecDepth 100000 in
theorem sn_X2_has : zSnd zS 145 0 0 yX2_has cX2_has 2 (some .boolean) 0 [2, 0] (fun xs P M => ∃ a1 : Int, xs = [5, a1] ∧ vc_X2_has a1 P M) := by
  refine zSnd.of rfl (fun ad xs hz => Nat.le_trans (Nat.le_of_eq (zlen ad _ xs hz)) (by decide)) ?_
  intro Γ C _ _ xs M hz hF
  obtain ⟨a1, rfl, h⟩ := hF
  have zz_a1 := zall_h (zall_t hz) (by decide)
  refine zr_rng (fun hR => ?_)
  have C : zC Γ mu_X2_has := C
  change zV Γ mu_X2_has (145, 0, 0) 0 [(0, zRf (zad Γ) 5), (1, zI a1)] [] M
  change vc_X2_has a1 _ M at h
  unfold vc_X2_has at h
  refine zr_iload_n C 1 rfl (zdec_at dm_X2_has 0 rfl) rfl ?_
  refine zr_if_lt C zz_a1 (zdec_at dm_X2_has 1 rfl) rfl (fun g1 => ?_) (fun g1 => ?_)
  · have h := h.1 g1
    refine zr_iconst C (zdec_at dm_X2_has 8 rfl) ?_
    exact zr_zreturn C rfl (by decide) (zdec_at dm_X2_has 9 rfl) rfl ⟨(by decide), h⟩
  · have h := h.2 g1
    refine zr_iload_n C 1 rfl (zdec_at dm_X2_has 2 rfl) rfl ?_
    refine zr_aload_n C 0 rfl (zdec_at dm_X2_has 3 rfl) rfl ?_
    refine zr_geti C fk_RX2_56 fi_5_2 (zdec_at dm_X2_has 4 rfl) ?_
    refine zr_icmp_ge C zz_a1 (hR _ _) (zdec_at dm_X2_has 5 rfl) rfl (fun g2 => ?_) (fun g2 => ?_)
    · have h := h.1 g2
      refine zr_iconst C (zdec_at dm_X2_has 8 rfl) ?_
      exact zr_zreturn C rfl (by decide) (zdec_at dm_X2_has 9 rfl) rfl ⟨(by decide), h⟩
    · have h := h.2 g2
      refine zr_iconst C (zdec_at dm_X2_has 6 rfl) ?_
      refine zr_goto C (zdec_at dm_X2_has 7 rfl) rfl ?_
      exact zr_zreturn C rfl (by decide) (zdec_at dm_X2_has 9 rfl) rfl ⟨(by decide), h⟩

set_option maxHeartbeats 400000 in
set_option maxRecDepth 100000 in
theorem sn_X2_faceAt : zSnd zS 145 0 0 yX2_faceAt cX2_faceAt 3 (some .int) 0 [2, 0, 0] (fun xs P M => ∃ a1 a2 : Int, xs = [5, a1, a2] ∧ vc_X2_faceAt a1 a2 P M) := by
  refine zSnd.of rfl (fun ad xs hz => Nat.le_trans (Nat.le_of_eq (zlen ad _ xs hz)) (by decide)) ?_
  intro Γ C _ _ xs M hz hF
  obtain ⟨a1, a2, rfl, h⟩ := hF
  have zz_a1 := zall_h (zall_t hz) (by decide)
  have zz_a2 := zall_h (zall_t (zall_t hz)) (by decide)
  refine zr_rng (fun hR => ?_)
  have C : zC Γ mu_X2_faceAt := C
  change zV Γ mu_X2_faceAt (145, 0, 0) 0 [(0, zRf (zad Γ) 5), (1, zI a1), (2, zI a2)] [] M
  change vc_X2_faceAt a1 a2 _ M at h
  unfold vc_X2_faceAt at h
  refine zr_iload_n C 1 rfl (zdec_at dm_X2_faceAt 0 rfl) rfl ?_
  refine zr_if_lt C zz_a1 (zdec_at dm_X2_faceAt 1 rfl) rfl (fun g1 => ?_) (fun g1 => ?_)
  · have h := h.1 g1
    refine zr_iconst C (zdec_at dm_X2_faceAt 23 rfl) ?_
    exact zr_ireturn C rfl (zdec_at dm_X2_faceAt 24 rfl) rfl ⟨(by decide), h⟩
  · have h := h.2 g1
    refine zr_iload_n C 1 rfl (zdec_at dm_X2_faceAt 2 rfl) rfl ?_
    refine zr_aload_n C 0 rfl (zdec_at dm_X2_faceAt 3 rfl) rfl ?_
    refine zr_getr (q := 1) C fk_RX2_45 fi_5_0 (zdec_at dm_X2_faceAt 4 rfl) ?_
    refine zr_geti C fk_RX2_68 fi_1_0 (zdec_at dm_X2_faceAt 5 rfl) ?_
    refine zr_icmp_ge C zz_a1 (hR _ _) (zdec_at dm_X2_faceAt 6 rfl) rfl (fun g2 => ?_) (fun g2 => ?_)
    · have h := h.1 g2
      refine zr_iconst C (zdec_at dm_X2_faceAt 23 rfl) ?_
      exact zr_ireturn C rfl (zdec_at dm_X2_faceAt 24 rfl) rfl ⟨(by decide), h⟩
    · have h := h.2 g2
      refine zr_iload_n C 2 rfl (zdec_at dm_X2_faceAt 7 rfl) rfl ?_
      refine zr_if_lt C zz_a2 (zdec_at dm_X2_faceAt 8 rfl) rfl (fun g3 => ?_) (fun g3 => ?_)
      · have h := h.1 g3
        refine zr_iconst C (zdec_at dm_X2_faceAt 23 rfl) ?_
        exact zr_ireturn C rfl (zdec_at dm_X2_faceAt 24 rfl) rfl ⟨(by decide), h⟩
      · have h := h.2 g3
        refine zr_iload_n C 2 rfl (zdec_at dm_X2_faceAt 9 rfl) rfl ?_
        refine zr_aload_n C 0 rfl (zdec_at dm_X2_faceAt 10 rfl) rfl ?_
        refine zr_getr (q := 1) C fk_RX2_45 fi_5_0 (zdec_at dm_X2_faceAt 11 rfl) ?_
        refine zr_geti C fk_RX2_65 fi_1_1 (zdec_at dm_X2_faceAt 12 rfl) ?_
        refine zr_icmp_ge C zz_a2 (hR _ _) (zdec_at dm_X2_faceAt 13 rfl) rfl (fun g4 => ?_) (fun g4 => ?_)
        · have h := h.1 g4
          refine zr_iconst C (zdec_at dm_X2_faceAt 23 rfl) ?_
          exact zr_ireturn C rfl (zdec_at dm_X2_faceAt 24 rfl) rfl ⟨(by decide), h⟩
        · have h := h.2 g4
          refine zr_aload_n C 0 rfl (zdec_at dm_X2_faceAt 14 rfl) rfl ?_
          refine zr_getr (q := 12) C fk_RX2_30 fi_5_9 (zdec_at dm_X2_faceAt 15 rfl) ?_
          refine zr_bipush C (zdec_at dm_X2_faceAt 16 rfl) (by decide) ?_
          refine zr_iload_n C 2 rfl (zdec_at dm_X2_faceAt 17 rfl) rfl ?_
          refine zr_imul C (zdec_at dm_X2_faceAt 18 rfl) ?_
          refine zr_iload_n C 1 rfl (zdec_at dm_X2_faceAt 19 rfl) rfl ?_
          refine zr_iadd C (zdec_at dm_X2_faceAt 20 rfl) ?_
          obtain ⟨o5, h⟩ := h
          refine zr_iald C ai_12 o5 (zdec_at dm_X2_faceAt 21 rfl) ?_
          refine zr_goto C (zdec_at dm_X2_faceAt 22 rfl) rfl ?_
          exact zr_ireturn C rfl (zdec_at dm_X2_faceAt 24 rfl) rfl ⟨(hR _ _), h⟩

set_option maxHeartbeats 400000 in
set_option maxRecDepth 100000 in
theorem sn_X2_colour {pr_X0_colourAt : Int → Int → zM → Prop} {po_X0_colourAt : Int → Int → zM → Int → zM → Prop} (hS_X0_colourAt : zSnd zS 145 0 0 yX0_colourAt cX0_colourAt 3 (some .int) 0 [2, 0, 0] (F_X0_colourAt pr_X0_colourAt po_X0_colourAt)) : zSnd zS 145 0 0 yX2_colour cX2_colour 2 (some .int) 1 [2, 0] (fun xs P M => ∃ a1 : Int, xs = [5, a1] ∧ vc_X2_colour pr_X0_colourAt po_X0_colourAt a1 P M) := by
  refine zSnd.of rfl (fun ad xs hz => Nat.le_trans (Nat.le_of_eq (zlen ad _ xs hz)) (by decide)) ?_
  intro Γ C _ _ xs M hz hF
  obtain ⟨a1, rfl, h⟩ := hF
  have zz_a1 := zall_h (zall_t hz) (by decide)
  refine zr_rng (fun hR => ?_)
  have C : zC Γ mu_X2_colour := C
  change zV Γ mu_X2_colour (145, 0, 0) 0 [(0, zRf (zad Γ) 5), (1, zI a1)] [] M
  change vc_X2_colour pr_X0_colourAt po_X0_colourAt a1 _ M at h
  unfold vc_X2_colour at h
  refine zr_aload_n C 0 rfl (zdec_at dm_X2_colour 0 rfl) rfl ?_
  refine zr_getr (q := 1) C fk_RX2_45 fi_5_0 (zdec_at dm_X2_colour 1 rfl) ?_
  refine zr_aload_n C 0 rfl (zdec_at dm_X2_colour 2 rfl) rfl ?_
  refine zr_getr (q := 7) C fk_RX2_15 fi_5_4 (zdec_at dm_X2_colour 3 rfl) ?_
  refine zr_iload_n C 1 rfl (zdec_at dm_X2_colour 4 rfl) rfl ?_
  obtain ⟨o1, h⟩ := h
  refine zr_iald C ai_7 o1 (zdec_at dm_X2_colour 5 rfl) ?_
  refine zr_bipush C (zdec_at dm_X2_colour 6 rfl) (by decide) ?_
  obtain ⟨o2, h⟩ := h
  refine zr_irem C (hR _ _) (by decide) ⟨o2, by decide⟩ (zdec_at dm_X2_colour 7 rfl) ?_
  refine zr_aload_n C 0 rfl (zdec_at dm_X2_colour 8 rfl) rfl ?_
  refine zr_getr (q := 7) C fk_RX2_15 fi_5_4 (zdec_at dm_X2_colour 9 rfl) ?_
  refine zr_iload_n C 1 rfl (zdec_at dm_X2_colour 10 rfl) rfl ?_
  refine zr_iald C ai_7 o1 (zdec_at dm_X2_colour 11 rfl) ?_
  refine zr_bipush C (zdec_at dm_X2_colour 12 rfl) (by decide) ?_
  refine zr_idiv C (hR _ _) (by decide) ⟨o2, by decide⟩ (zdec_at dm_X2_colour 13 rfl) ?_
  obtain ⟨g8, h⟩ := h
  refine zr_callV C [((M 7 a1) % 16), ((M 7 a1) / 16)] hS_X0_colourAt ck_RX2_79 iv_X0_colourAt vc_X0 oc_1 rfl rfl (zdec_at dm_X2_colour 14 rfl) ⟨rfl, rfl, rfl, rfl⟩ ⟨by decide, by decide⟩ (Nat.le_of_ble_eq_true rfl) (zall_0 (z_rz (a := (M 7 a1)) (b := 16) ⟨o2, by decide⟩ (by decide)) (zall_0 (z_dz2 (a := (M 7 a1)) (b := 16) ⟨o2, by decide⟩ (hR _ _)) zall_n)) ?_
  refine ⟨_, _, rfl, g8, fun r3 M4 p7 z6 hR5 => ?_⟩
  have h := h r3 M4 p7 z6 hR5
  show zV Γ mu_X2_colour (145, 0, 0) 25 [(0, zRf (zad Γ) 5), (1, zI a1)] [zI r3] M4
  exact zr_ireturn C rfl (zdec_at dm_X2_colour 15 rfl) rfl ⟨z6, h⟩

set_option maxHeartbeats 400000 in
set_option maxRecDepth 100000 in
theorem sn_X2_width : zSnd zS 145 0 0 yX2_width cX2_width 2 (some .int) 0 [2, 0] (fun xs P M => ∃ a1 : Int, xs = [5, a1] ∧ vc_X2_width a1 P M) := by
  refine zSnd.of rfl (fun ad xs hz => Nat.le_trans (Nat.le_of_eq (zlen ad _ xs hz)) (by decide)) ?_
  intro Γ C _ _ xs M hz hF
  obtain ⟨a1, rfl, h⟩ := hF
  have zz_a1 := zall_h (zall_t hz) (by decide)
  refine zr_rng (fun hR => ?_)
  have C : zC Γ mu_X2_width := C
  change zV Γ mu_X2_width (145, 0, 0) 0 [(0, zRf (zad Γ) 5), (1, zI a1)] [] M
  change vc_X2_width a1 _ M at h
  unfold vc_X2_width at h
  refine zr_aload_n C 0 rfl (zdec_at dm_X2_width 0 rfl) rfl ?_
  refine zr_getr (q := 10) C fk_RX2_24 fi_5_7 (zdec_at dm_X2_width 1 rfl) ?_
  refine zr_iload_n C 1 rfl (zdec_at dm_X2_width 2 rfl) rfl ?_
  obtain ⟨o1, h⟩ := h
  refine zr_iald C ai_10 o1 (zdec_at dm_X2_width 3 rfl) ?_
  refine zr_aload_n C 0 rfl (zdec_at dm_X2_width 4 rfl) rfl ?_
  refine zr_getr (q := 8) C fk_RX2_18 fi_5_5 (zdec_at dm_X2_width 5 rfl) ?_
  refine zr_iload_n C 1 rfl (zdec_at dm_X2_width 6 rfl) rfl ?_
  refine zr_iald C ai_8 o1 (zdec_at dm_X2_width 7 rfl) ?_
  refine zr_isub C (zdec_at dm_X2_width 8 rfl) ?_
  refine zr_iconst C (zdec_at dm_X2_width 9 rfl) ?_
  refine zr_iadd C (zdec_at dm_X2_width 10 rfl) ?_
  obtain ⟨o2, h⟩ := h
  exact zr_ireturn C rfl (zdec_at dm_X2_width 11 rfl) rfl ⟨o2, h⟩

set_option maxHeartbeats 400000 in
set_option maxRecDepth 100000 in
theorem sn_X2_height : zSnd zS 145 0 0 yX2_height cX2_height 2 (some .int) 0 [2, 0] (fun xs P M => ∃ a1 : Int, xs = [5, a1] ∧ vc_X2_height a1 P M) := by
  refine zSnd.of rfl (fun ad xs hz => Nat.le_trans (Nat.le_of_eq (zlen ad _ xs hz)) (by decide)) ?_
  intro Γ C _ _ xs M hz hF
  obtain ⟨a1, rfl, h⟩ := hF
  have zz_a1 := zall_h (zall_t hz) (by decide)
  refine zr_rng (fun hR => ?_)
  have C : zC Γ mu_X2_height := C
  change zV Γ mu_X2_height (145, 0, 0) 0 [(0, zRf (zad Γ) 5), (1, zI a1)] [] M
  change vc_X2_height a1 _ M at h
  unfold vc_X2_height at h
  refine zr_aload_n C 0 rfl (zdec_at dm_X2_height 0 rfl) rfl ?_
  refine zr_getr (q := 11) C fk_RX2_27 fi_5_8 (zdec_at dm_X2_height 1 rfl) ?_
  refine zr_iload_n C 1 rfl (zdec_at dm_X2_height 2 rfl) rfl ?_
  obtain ⟨o1, h⟩ := h
  refine zr_iald C ai_11 o1 (zdec_at dm_X2_height 3 rfl) ?_
  refine zr_aload_n C 0 rfl (zdec_at dm_X2_height 4 rfl) rfl ?_
  refine zr_getr (q := 9) C fk_RX2_21 fi_5_6 (zdec_at dm_X2_height 5 rfl) ?_
  refine zr_iload_n C 1 rfl (zdec_at dm_X2_height 6 rfl) rfl ?_
  refine zr_iald C ai_9 o1 (zdec_at dm_X2_height 7 rfl) ?_
  refine zr_isub C (zdec_at dm_X2_height 8 rfl) ?_
  refine zr_iconst C (zdec_at dm_X2_height 9 rfl) ?_
  refine zr_iadd C (zdec_at dm_X2_height 10 rfl) ?_
  obtain ⟨o2, h⟩ := h
  exact zr_ireturn C rfl (zdec_at dm_X2_height 11 rfl) rfl ⟨o2, h⟩

set_option maxHeartbeats 400000 in
set_option maxRecDepth 100000 in
theorem sn_X2_spread {pr_X0_colourAt : Int → Int → zM → Prop} {po_X0_colourAt : Int → Int → zM → Int → zM → Prop} {pr_X2_takeIn : Int → Int → Int → zM → Prop} {po_X2_takeIn : Int → Int → Int → zM → zM → Prop} {pr_X2_faceAt : Int → Int → zM → Prop} {po_X2_faceAt : Int → Int → zM → Int → zM → Prop} (hS_X0_colourAt : zSnd zS 145 0 0 yX0_colourAt cX0_colourAt 3 (some .int) 0 [2, 0, 0] (F_X0_colourAt pr_X0_colourAt po_X0_colourAt)) (hS_X2_takeIn : zSnd zS 145 0 0 yX2_takeIn cX2_takeIn 4 none 1 [2, 0, 0, 0] (F_X2_takeIn pr_X2_takeIn po_X2_takeIn)) (hS_X2_faceAt : zSnd zS 145 0 0 yX2_faceAt cX2_faceAt 3 (some .int) 0 [2, 0, 0] (F_X2_faceAt pr_X2_faceAt po_X2_faceAt)) : zSnd zS 145 0 0 yX2_spread cX2_spread 13 none 2 [2, 0, 0, 0] (fun xs P M => ∃ a1 a2 a3 : Int, xs = [5, a1, a2, a3] ∧ vc_X2_spread pr_X0_colourAt po_X0_colourAt pr_X2_takeIn po_X2_takeIn pr_X2_faceAt po_X2_faceAt a1 a2 a3 P M) := by
  refine zSnd.of rfl (fun ad xs hz => Nat.le_trans (Nat.le_of_eq (zlen ad _ xs hz)) (by decide)) ?_
  intro Γ C _ _ xs M hz hF
  obtain ⟨a1, a2, a3, rfl, h⟩ := hF
  have zz_a1 := zall_h (zall_t hz) (by decide)
  have zz_a2 := zall_h (zall_t (zall_t hz)) (by decide)
  have zz_a3 := zall_h (zall_t (zall_t (zall_t hz))) (by decide)
  refine zr_rng (fun hR => ?_)
  have C : zC Γ mu_X2_spread := C
  change zV Γ mu_X2_spread (145, 0, 0) 0 [(0, zRf (zad Γ) 5), (1, zI a1), (2, zI a2), (3, zI a3)] [] M
  change vc_X2_spread pr_X0_colourAt po_X0_colourAt pr_X2_takeIn po_X2_takeIn pr_X2_faceAt po_X2_faceAt a1 a2 a3 _ M at h
  unfold vc_X2_spread at h
  refine zr_aload_n C 0 rfl (zdec_at dm_X2_spread 0 rfl) rfl ?_
  refine zr_getr (q := 1) C fk_RX2_45 fi_5_0 (zdec_at dm_X2_spread 1 rfl) ?_
  refine zr_iload_n C 1 rfl (zdec_at dm_X2_spread 2 rfl) rfl ?_
  refine zr_iload_n C 2 rfl (zdec_at dm_X2_spread 3 rfl) rfl ?_
  obtain ⟨g6, h⟩ := h
  refine zr_callV C [a1, a2] hS_X0_colourAt ck_RX2_79 iv_X0_colourAt vc_X0 oc_1 rfl rfl (zdec_at dm_X2_spread 4 rfl) ⟨rfl, rfl, rfl, rfl⟩ ⟨by decide, by decide⟩ (Nat.le_of_ble_eq_true rfl) (zall_0 zz_a1 (zall_0 zz_a2 zall_n)) ?_
  refine ⟨_, _, rfl, g6, fun r1 M2 p5 z4 hR3 => ?_⟩
  have h := h r1 M2 p5 z4 hR3
  show zV Γ mu_X2_spread (145, 0, 0) 9 [(0, zRf (zad Γ) 5), (1, zI a1), (2, zI a2), (3, zI a3)] [zI r1] M2
  refine zr_istore (L1 := [(4, zI r1), (0, zRf (zad Γ) 5), (1, zI a1), (2, zI a2), (3, zI a3)]) C (zdec_at dm_X2_spread 5 rfl) (Nat.le_of_ble_eq_true rfl) rfl ?_
  refine zr_aload_n C 1 rfl (zdec_at dm_X2_spread 6 rfl) rfl ?_
  refine zr_getr (q := 1) C fk_RX2_45 fi_5_0 (zdec_at dm_X2_spread 7 rfl) ?_
  refine zr_geti C fk_RX2_82 fi_1_2 (zdec_at dm_X2_spread 8 rfl) ?_
  have h := h (fun v7 => zin v7 → zV Γ mu_X2_spread (145, 0, 0) 27 [(0, zRf (zad Γ) 5), (1, zI a1), (2, zI a2), (3, zI a3), (4, zI r1)] [zI v7] M2) (fun v7 h z8 => by
    have h := h z8
    refine zr_istore (L1 := [(5, zI v7), (0, zRf (zad Γ) 5), (1, zI a1), (2, zI a2), (3, zI a3), (4, zI r1)]) C (zdec_at dm_X2_spread 13 rfl) (Nat.le_of_ble_eq_true rfl) rfl ?_
    refine zr_aload_n C 1 rfl (zdec_at dm_X2_spread 14 rfl) rfl ?_
    refine zr_getr (q := 6) C fk_RX2_11 fi_5_3 (zdec_at dm_X2_spread 15 rfl) ?_
    refine zr_iload_n C 4 rfl (zdec_at dm_X2_spread 16 rfl) rfl ?_
    refine zr_iconst C (zdec_at dm_X2_spread 17 rfl) ?_
    obtain ⟨o9, h⟩ := h
    refine zr_iast C ai_6 o9 (by decide) (zdec_at dm_X2_spread 18 rfl) (fun M10 e11 => ?_)
    have h := h M10 e11
    have hR12 : zRng M10 := by rw [e11]; exact hR3.set (by decide) _ _
    refine zr_aload_n C 1 rfl (zdec_at dm_X2_spread 19 rfl) rfl ?_
    refine zr_getr (q := 7) C fk_RX2_15 fi_5_4 (zdec_at dm_X2_spread 20 rfl) ?_
    refine zr_iload_n C 4 rfl (zdec_at dm_X2_spread 21 rfl) rfl ?_
    refine zr_bipush C (zdec_at dm_X2_spread 22 rfl) (by decide) ?_
    refine zr_iload_n C 3 rfl (zdec_at dm_X2_spread 23 rfl) rfl ?_
    refine zr_imul C (zdec_at dm_X2_spread 24 rfl) ?_
    refine zr_iload_n C 2 rfl (zdec_at dm_X2_spread 25 rfl) rfl ?_
    refine zr_iadd C (zdec_at dm_X2_spread 26 rfl) ?_
    obtain ⟨o13, h⟩ := h
    refine zr_iast C ai_7 o9 o13 (zdec_at dm_X2_spread 27 rfl) (fun M14 e15 => ?_)
    have h := h M14 e15
    have hR16 : zRng M14 := by rw [e15]; exact hR12.set o13 _ _
    refine zr_aload_n C 1 rfl (zdec_at dm_X2_spread 28 rfl) rfl ?_
    refine zr_getr (q := 9) C fk_RX2_21 fi_5_6 (zdec_at dm_X2_spread 29 rfl) ?_
    refine zr_iload_n C 4 rfl (zdec_at dm_X2_spread 30 rfl) rfl ?_
    refine zr_iload_n C 3 rfl (zdec_at dm_X2_spread 31 rfl) rfl ?_
    refine zr_iast C ai_9 o9 zz_a2 (zdec_at dm_X2_spread 32 rfl) (fun M17 e18 => ?_)
    have h := h M17 e18
    have hR19 : zRng M17 := by rw [e18]; exact hR16.set zz_a2 _ _
    refine zr_aload_n C 1 rfl (zdec_at dm_X2_spread 33 rfl) rfl ?_
    refine zr_getr (q := 8) C fk_RX2_18 fi_5_5 (zdec_at dm_X2_spread 34 rfl) ?_
    refine zr_iload_n C 4 rfl (zdec_at dm_X2_spread 35 rfl) rfl ?_
    refine zr_iload_n C 2 rfl (zdec_at dm_X2_spread 36 rfl) rfl ?_
    refine zr_iast C ai_8 o9 zz_a1 (zdec_at dm_X2_spread 37 rfl) (fun M20 e21 => ?_)
    have h := h M20 e21
    have hR22 : zRng M20 := by rw [e21]; exact hR19.set zz_a1 _ _
    refine zr_aload_n C 1 rfl (zdec_at dm_X2_spread 38 rfl) rfl ?_
    refine zr_getr (q := 10) C fk_RX2_24 fi_5_7 (zdec_at dm_X2_spread 39 rfl) ?_
    refine zr_iload_n C 4 rfl (zdec_at dm_X2_spread 40 rfl) rfl ?_
    refine zr_iload_n C 2 rfl (zdec_at dm_X2_spread 41 rfl) rfl ?_
    refine zr_iast C ai_10 o9 zz_a1 (zdec_at dm_X2_spread 42 rfl) (fun M23 e24 => ?_)
    have h := h M23 e24
    have hR25 : zRng M23 := by rw [e24]; exact hR22.set zz_a1 _ _
    refine zr_aload_n C 1 rfl (zdec_at dm_X2_spread 43 rfl) rfl ?_
    refine zr_getr (q := 11) C fk_RX2_27 fi_5_8 (zdec_at dm_X2_spread 44 rfl) ?_
    refine zr_iload_n C 4 rfl (zdec_at dm_X2_spread 45 rfl) rfl ?_
    refine zr_iload_n C 3 rfl (zdec_at dm_X2_spread 46 rfl) rfl ?_
    refine zr_iast C ai_11 o9 zz_a2 (zdec_at dm_X2_spread 47 rfl) (fun M26 e27 => ?_)
    have h := h M26 e27
    have hR28 : zRng M26 := by rw [e27]; exact hR25.set zz_a2 _ _
    refine zr_aload_n C 1 rfl (zdec_at dm_X2_spread 48 rfl) rfl ?_
    refine zr_getr (q := 12) C fk_RX2_30 fi_5_9 (zdec_at dm_X2_spread 49 rfl) ?_
    refine zr_bipush C (zdec_at dm_X2_spread 50 rfl) (by decide) ?_
    refine zr_iload_n C 3 rfl (zdec_at dm_X2_spread 51 rfl) rfl ?_
    refine zr_imul C (zdec_at dm_X2_spread 52 rfl) ?_
    refine zr_iload_n C 2 rfl (zdec_at dm_X2_spread 53 rfl) rfl ?_
    refine zr_iadd C (zdec_at dm_X2_spread 54 rfl) ?_
    refine zr_iload_n C 4 rfl (zdec_at dm_X2_spread 55 rfl) rfl ?_
    obtain ⟨o29, h⟩ := h
    refine zr_iast C ai_12 o29 zz_a3 (zdec_at dm_X2_spread 56 rfl) (fun M30 e31 => ?_)
    have h := h M30 e31
    have hR32 : zRng M30 := by rw [e31]; exact hR28.set zz_a3 _ _
    refine zr_aload_n C 1 rfl (zdec_at dm_X2_spread 57 rfl) rfl ?_
    refine zr_getr (q := 13) C fk_RX2_33 fi_5_10 (zdec_at dm_X2_spread 58 rfl) ?_
    refine zr_iconst C (zdec_at dm_X2_spread 59 rfl) ?_
    refine zr_bipush C (zdec_at dm_X2_spread 60 rfl) (by decide) ?_
    refine zr_iload_n C 3 rfl (zdec_at dm_X2_spread 61 rfl) rfl ?_
    refine zr_imul C (zdec_at dm_X2_spread 62 rfl) ?_
    refine zr_iload_n C 2 rfl (zdec_at dm_X2_spread 63 rfl) rfl ?_
    refine zr_iadd C (zdec_at dm_X2_spread 64 rfl) ?_
    refine zr_iast C ai_13 ⟨by decide, by decide⟩ o13 (zdec_at dm_X2_spread 65 rfl) (fun M33 e34 => ?_)
    have h := h M33 e34
    have hR35 : zRng M33 := by rw [e34]; exact hR32.set o13 _ _
    refine zr_iconst C (zdec_at dm_X2_spread 66 rfl) ?_
    refine zr_istore (L1 := [(6, zI 1), (5, zI v7), (0, zRf (zad Γ) 5), (1, zI a1), (2, zI a2), (3, zI a3), (4, zI r1)]) C (zdec_at dm_X2_spread 67 rfl) (Nat.le_of_ble_eq_true rfl) rfl ?_
    refine zr_iconst C (zdec_at dm_X2_spread 68 rfl) ?_
    refine zr_istore (L1 := [(7, zI 0), (6, zI 1), (5, zI v7), (0, zRf (zad Γ) 5), (1, zI a1), (2, zI a2), (3, zI a3), (4, zI r1)]) C (zdec_at dm_X2_spread 69 rfl) (Nat.le_of_ble_eq_true rfl) rfl ?_
    obtain ⟨I106, ⟨n46, q47⟩, hI45⟩ := h
    have lp44 : ∀ (n42 : Nat) (v36 : Int) (v37 : Int) (M40 : zM), I106 v36 v37 M40 n42 → zin v36 → zin v37 → zRng M40 → zV Γ mu_X2_spread (145, 0, 0) 106 [(0, zRf (zad Γ) 5), (3, zI a3), (4, zI r1), (5, zI v7), (6, zI v36), (7, zI v37)] [] M40 := by
      intro n42
      induction n42 using Nat.strongRecOn with
      | _ n42 ih43 =>
      intro v36 v37 M40 q48 z38 z39 hR41
      have h := hI45 v36 v37 M40 n42 q48 z38 z39 hR41
      refine zr_iload C 5 rfl (zdec_at dm_X2_spread 70 rfl) ?_
      refine zr_iload C 4 rfl (zdec_at dm_X2_spread 71 rfl) ?_
      refine zr_icmp_ge C z39 z38 (zdec_at dm_X2_spread 72 rfl) rfl (fun g49 => ?_) (fun g49 => ?_)
      · have h := h.1 g49
        exact zr_return C rfl rfl (zdec_at dm_X2_spread 150 rfl) rfl ⟨by decide, h⟩
      · have h := h.2 g49
        refine zr_iload C 5 rfl (zdec_at dm_X2_spread 73 rfl) ?_
        refine zr_sipush C (zdec_at dm_X2_spread 74 rfl) (by decide) ?_
        refine zr_icmp_ge C z39 (by decide) (zdec_at dm_X2_spread 75 rfl) rfl (fun g50 => ?_) (fun g50 => ?_)
        · have h := h.1 g50
          exact zr_return C rfl rfl (zdec_at dm_X2_spread 150 rfl) rfl ⟨by decide, h⟩
        · have h := h.2 g50
          refine zr_aload_n C 0 rfl (zdec_at dm_X2_spread 76 rfl) rfl ?_
          refine zr_getr (q := 13) C fk_RX2_33 fi_5_10 (zdec_at dm_X2_spread 77 rfl) ?_
          refine zr_iload C 5 rfl (zdec_at dm_X2_spread 78 rfl) ?_
          obtain ⟨o51, h⟩ := h
          refine zr_iald C ai_13 o51 (zdec_at dm_X2_spread 79 rfl) ?_
          refine zr_bipush C (zdec_at dm_X2_spread 80 rfl) (by decide) ?_
          obtain ⟨o52, h⟩ := h
          refine zr_irem C (hR41 _ _) (by decide) ⟨o52, by decide⟩ (zdec_at dm_X2_spread 81 rfl) ?_
          refine zr_istore (L1 := [(8, zI ((M40 13 v37) % 16)), (0, zRf (zad Γ) 5), (3, zI a3), (4, zI r1), (5, zI v7), (6, zI v36), (7, zI v37)]) C (zdec_at dm_X2_spread 82 rfl) (Nat.le_of_ble_eq_true rfl) rfl ?_
          refine zr_aload_n C 1 rfl (zdec_at dm_X2_spread 83 rfl) rfl ?_
          refine zr_getr (q := 13) C fk_RX2_33 fi_5_10 (zdec_at dm_X2_spread 84 rfl) ?_
          refine zr_iload C 6 rfl (zdec_at dm_X2_spread 85 rfl) ?_
          refine zr_iald C ai_13 o51 (zdec_at dm_X2_spread 86 rfl) ?_
          refine zr_bipush C (zdec_at dm_X2_spread 87 rfl) (by decide) ?_
          refine zr_idiv C (hR41 _ _) (by decide) ⟨o52, by decide⟩ (zdec_at dm_X2_spread 88 rfl) ?_
          refine zr_istore (L1 := [(9, zI ((M40 13 v37) / 16)), (8, zI ((M40 13 v37) % 16)), (0, zRf (zad Γ) 5), (3, zI a3), (4, zI r1), (5, zI v7), (6, zI v36), (7, zI v37)]) C (zdec_at dm_X2_spread 89 rfl) (Nat.le_of_ble_eq_true rfl) rfl ?_
          refine zr_aload_n C 2 rfl (zdec_at dm_X2_spread 90 rfl) rfl ?_
          refine zr_iload_n C 3 rfl (zdec_at dm_X2_spread 91 rfl) rfl ?_
          refine zr_iload C 1 rfl (zdec_at dm_X2_spread 92 rfl) ?_
          refine zr_iload C 0 rfl (zdec_at dm_X2_spread 93 rfl) ?_
          obtain ⟨g57, h⟩ := h
          refine zr_callV C [a3, ((M40 13 v37) % 16), ((M40 13 v37) / 16)] hS_X2_takeIn ck_RX2_85 iv_X2_takeIn vc_X2 oc_5 rfl rfl (zdec_at dm_X2_spread 94 rfl) ⟨rfl, rfl, rfl, rfl⟩ ⟨by decide, by decide⟩ (Nat.le_of_ble_eq_true rfl) (zall_0 zz_a3 (zall_0 (z_rz (a := (M40 13 v37)) (b := 16) ⟨o52, by decide⟩ (by decide)) (zall_0 (z_dz2 (a := (M40 13 v37)) (b := 16) ⟨o52, by decide⟩ (hR41 _ _)) zall_n))) ?_
          refine ⟨_, _, _, rfl, g57, fun M53 p56 _ hR54 => ?_⟩
          have h := h M53 p56 hR54
          show zV Γ mu_X2_spread (145, 0, 0) 154 [(9, zI ((M40 13 v37) / 16)), (8, zI ((M40 13 v37) % 16)), (0, zRf (zad Γ) 5), (3, zI a3), (4, zI r1), (5, zI v7), (6, zI v36), (7, zI v37)] [] M53
          refine zr_iconst C (zdec_at dm_X2_spread 95 rfl) ?_
          refine zr_istore (L1 := [(10, zI 0), (9, zI ((M40 13 v37) / 16)), (8, zI ((M40 13 v37) % 16)), (0, zRf (zad Γ) 5), (3, zI a3), (4, zI r1), (5, zI v7), (6, zI v36), (7, zI v37)]) C (zdec_at dm_X2_spread 96 rfl) (Nat.le_of_ble_eq_true rfl) rfl ?_
          obtain ⟨I157, ⟨n68, q69⟩, hI67⟩ := h
          have lp66 : ∀ (n64 : Nat) (v58 : Int) (v59 : Int) (M62 : zM), I157 v58 v59 M62 n64 → zin v58 → zin v59 → zRng M62 → zV Γ mu_X2_spread (145, 0, 0) 157 [(0, zRf (zad Γ) 5), (3, zI a3), (4, zI r1), (5, zI v7), (6, zI v58), (7, zI v37), (8, zI ((M40 13 v37) % 16)), (9, zI ((M40 13 v37) / 16)), (10, zI v59)] [] M62 := by
            intro n64
            induction n64 using Nat.strongRecOn with
            | _ n64 ih65 =>
            intro v58 v59 M62 q70 z60 z61 hR63
            have h := hI67 v58 v59 M62 n64 q70 z60 z61 hR63
            refine zr_iload C 8 rfl (zdec_at dm_X2_spread 97 rfl) ?_
            refine zr_iload C 3 rfl (zdec_at dm_X2_spread 98 rfl) ?_
            refine zr_icmp_ge C z61 z8 (zdec_at dm_X2_spread 99 rfl) rfl (fun g71 => ?_) (fun g71 => ?_)
            · have h := h.1 g71
              refine zr_iinc (L1 := [(7, zI (v37 + 1)), (0, zRf (zad Γ) 5), (3, zI a3), (4, zI r1), (5, zI v7), (6, zI v58), (8, zI ((M40 13 v37) % 16)), (9, zI ((M40 13 v37) / 16)), (10, zI v59)]) C 5 rfl (zdec_at dm_X2_spread 148 rfl) (Nat.le_of_ble_eq_true rfl) rfl ?_
              refine zr_goto C (zdec_at dm_X2_spread 149 rfl) rfl ?_
              obtain ⟨o72, h⟩ := h
              obtain ⟨n73, q74, q75⟩ := h
              exact zr_sub [1, 2, 3, 4, 5, 0] rfl (ih43 n73 q74 _ _ _ q75 z60 o72 hR63)
            · have h := h.2 g71
              refine zr_iload C 6 rfl (zdec_at dm_X2_spread 100 rfl) ?_
              refine zr_gets1 C sk_RX2_88 (zdec_at dm_X2_spread 101 rfl) ?_
              refine zr_iload C 8 rfl (zdec_at dm_X2_spread 102 rfl) ?_
              obtain ⟨o76, h⟩ := h
              refine zr_sald1 C o76 (zdec_at dm_X2_spread 103 rfl) ?_
              refine zr_iadd C (zdec_at dm_X2_spread 104 rfl) ?_
              refine zr_istore (L1 := [(11, zI (((M40 13 v37) % 16) + (zac (Int.toNat v59)))), (0, zRf (zad Γ) 5), (3, zI a3), (4, zI r1), (5, zI v7), (6, zI v58), (7, zI v37), (8, zI ((M40 13 v37) % 16)), (9, zI ((M40 13 v37) / 16)), (10, zI v59)]) C (zdec_at dm_X2_spread 105 rfl) (Nat.le_of_ble_eq_true rfl) rfl ?_
              refine zr_iload C 8 rfl (zdec_at dm_X2_spread 106 rfl) ?_
              refine zr_gets2 C sk_RX2_91 (zdec_at dm_X2_spread 107 rfl) ?_
              refine zr_iload C 9 rfl (zdec_at dm_X2_spread 108 rfl) ?_
              refine zr_sald2 C o76 (zdec_at dm_X2_spread 109 rfl) ?_
              refine zr_iadd C (zdec_at dm_X2_spread 110 rfl) ?_
              refine zr_istore (L1 := [(12, zI (((M40 13 v37) / 16) + (zdn (Int.toNat v59)))), (11, zI (((M40 13 v37) % 16) + (zac (Int.toNat v59)))), (0, zRf (zad Γ) 5), (3, zI a3), (4, zI r1), (5, zI v7), (6, zI v58), (7, zI v37), (8, zI ((M40 13 v37) % 16)), (9, zI ((M40 13 v37) / 16)), (10, zI v59)]) C (zdec_at dm_X2_spread 111 rfl) (Nat.le_of_ble_eq_true rfl) rfl ?_
              refine zr_aload_n C 2 rfl (zdec_at dm_X2_spread 112 rfl) rfl ?_
              refine zr_getr (q := 1) C fk_RX2_45 fi_5_0 (zdec_at dm_X2_spread 113 rfl) ?_
              refine zr_iload C 1 rfl (zdec_at dm_X2_spread 114 rfl) ?_
              refine zr_iload C 0 rfl (zdec_at dm_X2_spread 115 rfl) ?_
              obtain ⟨o77, h⟩ := h
              obtain ⟨o78, h⟩ := h
              obtain ⟨g84, h⟩ := h
              refine zr_callV C [(((M40 13 v37) % 16) + (zac (Int.toNat v59))), (((M40 13 v37) / 16) + (zdn (Int.toNat v59)))] hS_X0_colourAt ck_RX2_79 iv_X0_colourAt vc_X0 oc_1 rfl rfl (zdec_at dm_X2_spread 116 rfl) ⟨rfl, rfl, rfl, rfl⟩ ⟨by decide, by decide⟩ (Nat.le_of_ble_eq_true rfl) (zall_0 o78 (zall_0 o77 zall_n)) ?_
              refine ⟨_, _, rfl, g84, fun r79 M80 p83 z82 hR81 => ?_⟩
              have h := h r79 M80 p83 z82 hR81
              show zV Γ mu_X2_spread (145, 0, 0) 197 [(12, zI (((M40 13 v37) / 16) + (zdn (Int.toNat v59)))), (11, zI (((M40 13 v37) % 16) + (zac (Int.toNat v59)))), (0, zRf (zad Γ) 5), (3, zI a3), (4, zI r1), (5, zI v7), (6, zI v58), (7, zI v37), (8, zI ((M40 13 v37) % 16)), (9, zI ((M40 13 v37) / 16)), (10, zI v59)] [zI r79] M80
              refine zr_iload C 4 rfl (zdec_at dm_X2_spread 117 rfl) ?_
              refine zr_icmp_ne C z82 z4 (zdec_at dm_X2_spread 118 rfl) rfl (fun g85 => ?_) (fun g85 => ?_)
              · have h := h.1 g85
                refine zr_iinc (L1 := [(10, zI (v59 + 1)), (12, zI (((M40 13 v37) / 16) + (zdn (Int.toNat v59)))), (11, zI (((M40 13 v37) % 16) + (zac (Int.toNat v59)))), (0, zRf (zad Γ) 5), (3, zI a3), (4, zI r1), (5, zI v7), (6, zI v58), (7, zI v37), (8, zI ((M40 13 v37) % 16)), (9, zI ((M40 13 v37) / 16))]) C 10 rfl (zdec_at dm_X2_spread 146 rfl) (Nat.le_of_ble_eq_true rfl) rfl ?_
                refine zr_goto C (zdec_at dm_X2_spread 147 rfl) rfl ?_
                obtain ⟨o86, h⟩ := h
                obtain ⟨n87, q88, q89⟩ := h
                exact zr_sub [3, 4, 5, 6, 7, 8, 9, 10, 0] rfl (ih65 n87 q88 _ _ _ q89 z60 o86 hR81)
              · have h := h.2 g85
                refine zr_aload_n C 2 rfl (zdec_at dm_X2_spread 119 rfl) rfl ?_
                refine zr_iload C 1 rfl (zdec_at dm_X2_spread 120 rfl) ?_
                refine zr_iload C 0 rfl (zdec_at dm_X2_spread 121 rfl) ?_
                obtain ⟨g95, h⟩ := h
                refine zr_callV C [(((M40 13 v37) % 16) + (zac (Int.toNat v59))), (((M40 13 v37) / 16) + (zdn (Int.toNat v59)))] hS_X2_faceAt ck_RX2_71 iv_X2_faceAt vc_X2 oc_5 rfl rfl (zdec_at dm_X2_spread 122 rfl) ⟨rfl, rfl, rfl, rfl⟩ ⟨by decide, by decide⟩ (Nat.le_of_ble_eq_true rfl) (zall_0 o78 (zall_0 o77 zall_n)) ?_
                refine ⟨_, _, rfl, g95, fun r90 M91 p94 z93 hR92 => ?_⟩
                have h := h r90 M91 p94 z93 hR92
                show zV Γ mu_X2_spread (145, 0, 0) 210 [(12, zI (((M40 13 v37) / 16) + (zdn (Int.toNat v59)))), (11, zI (((M40 13 v37) % 16) + (zac (Int.toNat v59)))), (0, zRf (zad Γ) 5), (3, zI a3), (4, zI r1), (5, zI v7), (6, zI v58), (7, zI v37), (8, zI ((M40 13 v37) % 16)), (9, zI ((M40 13 v37) / 16)), (10, zI v59)] [zI r90] M91
                refine zr_if_ge C z93 (zdec_at dm_X2_spread 123 rfl) rfl (fun g96 => ?_) (fun g96 => ?_)
                · have h := h.1 g96
                  refine zr_iinc (L1 := [(10, zI (v59 + 1)), (12, zI (((M40 13 v37) / 16) + (zdn (Int.toNat v59)))), (11, zI (((M40 13 v37) % 16) + (zac (Int.toNat v59)))), (0, zRf (zad Γ) 5), (3, zI a3), (4, zI r1), (5, zI v7), (6, zI v58), (7, zI v37), (8, zI ((M40 13 v37) % 16)), (9, zI ((M40 13 v37) / 16))]) C 10 rfl (zdec_at dm_X2_spread 146 rfl) (Nat.le_of_ble_eq_true rfl) rfl ?_
                  refine zr_goto C (zdec_at dm_X2_spread 147 rfl) rfl ?_
                  obtain ⟨o97, h⟩ := h
                  obtain ⟨n98, q99, q100⟩ := h
                  exact zr_sub [3, 4, 5, 6, 7, 8, 9, 10, 0] rfl (ih65 n98 q99 _ _ _ q100 z60 o97 hR92)
                · have h := h.2 g96
                  refine zr_iload C 6 rfl (zdec_at dm_X2_spread 124 rfl) ?_
                  refine zr_sipush C (zdec_at dm_X2_spread 125 rfl) (by decide) ?_
                  refine zr_icmp_ge C z60 (by decide) (zdec_at dm_X2_spread 126 rfl) rfl (fun g101 => ?_) (fun g101 => ?_)
                  · have h := h.1 g101
                    refine zr_iinc (L1 := [(10, zI (v59 + 1)), (12, zI (((M40 13 v37) / 16) + (zdn (Int.toNat v59)))), (11, zI (((M40 13 v37) % 16) + (zac (Int.toNat v59)))), (0, zRf (zad Γ) 5), (3, zI a3), (4, zI r1), (5, zI v7), (6, zI v58), (7, zI v37), (8, zI ((M40 13 v37) % 16)), (9, zI ((M40 13 v37) / 16))]) C 10 rfl (zdec_at dm_X2_spread 146 rfl) (Nat.le_of_ble_eq_true rfl) rfl ?_
                    refine zr_goto C (zdec_at dm_X2_spread 147 rfl) rfl ?_
                    obtain ⟨o102, h⟩ := h
                    obtain ⟨n103, q104, q105⟩ := h
                    exact zr_sub [3, 4, 5, 6, 7, 8, 9, 10, 0] rfl (ih65 n103 q104 _ _ _ q105 z60 o102 hR92)
                  · have h := h.2 g101
                    refine zr_aload_n C 2 rfl (zdec_at dm_X2_spread 127 rfl) rfl ?_
                    refine zr_getr (q := 12) C fk_RX2_30 fi_5_9 (zdec_at dm_X2_spread 128 rfl) ?_
                    refine zr_bipush C (zdec_at dm_X2_spread 129 rfl) (by decide) ?_
                    refine zr_iload C 0 rfl (zdec_at dm_X2_spread 130 rfl) ?_
                    refine zr_imul C (zdec_at dm_X2_spread 131 rfl) ?_
                    refine zr_iload C 1 rfl (zdec_at dm_X2_spread 132 rfl) ?_
                    refine zr_iadd C (zdec_at dm_X2_spread 133 rfl) ?_
                    refine zr_iload_n C 3 rfl (zdec_at dm_X2_spread 134 rfl) rfl ?_
                    obtain ⟨o106, h⟩ := h
                    refine zr_iast C ai_12 o106 zz_a3 (zdec_at dm_X2_spread 135 rfl) (fun M107 e108 => ?_)
                    have h := h M107 e108
                    have hR109 : zRng M107 := by rw [e108]; exact hR92.set zz_a3 _ _
                    refine zr_aload_n C 2 rfl (zdec_at dm_X2_spread 136 rfl) rfl ?_
                    refine zr_getr (q := 13) C fk_RX2_33 fi_5_10 (zdec_at dm_X2_spread 137 rfl) ?_
                    refine zr_iload C 6 rfl (zdec_at dm_X2_spread 138 rfl) ?_
                    refine zr_bipush C (zdec_at dm_X2_spread 139 rfl) (by decide) ?_
                    refine zr_iload C 0 rfl (zdec_at dm_X2_spread 140 rfl) ?_
                    refine zr_imul C (zdec_at dm_X2_spread 141 rfl) ?_
                    refine zr_iload C 1 rfl (zdec_at dm_X2_spread 142 rfl) ?_
                    refine zr_iadd C (zdec_at dm_X2_spread 143 rfl) ?_
                    obtain ⟨o110, h⟩ := h
                    obtain ⟨o111, h⟩ := h
                    refine zr_iast C ai_13 o110 o111 (zdec_at dm_X2_spread 144 rfl) (fun M112 e113 => ?_)
                    have h := h M112 e113
                    have hR114 : zRng M112 := by rw [e113]; exact hR109.set o111 _ _
                    refine zr_iinc (L1 := [(6, zI (v58 + 1)), (12, zI (((M40 13 v37) / 16) + (zdn (Int.toNat v59)))), (11, zI (((M40 13 v37) % 16) + (zac (Int.toNat v59)))), (0, zRf (zad Γ) 5), (3, zI a3), (4, zI r1), (5, zI v7), (7, zI v37), (8, zI ((M40 13 v37) % 16)), (9, zI ((M40 13 v37) / 16)), (10, zI v59)]) C 6 rfl (zdec_at dm_X2_spread 145 rfl) (Nat.le_of_ble_eq_true rfl) rfl ?_
                    refine zr_iinc (L1 := [(10, zI (v59 + 1)), (6, zI (v58 + 1)), (12, zI (((M40 13 v37) / 16) + (zdn (Int.toNat v59)))), (11, zI (((M40 13 v37) % 16) + (zac (Int.toNat v59)))), (0, zRf (zad Γ) 5), (3, zI a3), (4, zI r1), (5, zI v7), (7, zI v37), (8, zI ((M40 13 v37) % 16)), (9, zI ((M40 13 v37) / 16))]) C 10 rfl (zdec_at dm_X2_spread 146 rfl) (Nat.le_of_ble_eq_true rfl) rfl ?_
                    refine zr_goto C (zdec_at dm_X2_spread 147 rfl) rfl ?_
                    obtain ⟨o115, h⟩ := h
                    obtain ⟨o116, h⟩ := h
                    obtain ⟨n117, q118, q119⟩ := h
                    exact zr_sub [4, 5, 6, 7, 1, 8, 9, 10, 0] rfl (ih65 n117 q118 _ _ _ q119 o115 o116 hR114)
          exact zr_sub [3, 4, 5, 6, 7, 8, 2, 1, 0] rfl (lp66 n68 _ _ _ q69 z38 (by decide) hR54)
    exact zr_sub [3, 6, 7, 2, 1, 0] rfl (lp44 n46 _ _ _ q47 (by decide) (by decide) hR35))
  refine zr_if_ne C (hR3 _ _) (zdec_at dm_X2_spread 9 rfl) rfl (fun g120 => ?_) (fun g120 => ?_)
  · have h := h.1 g120
    refine zr_bipush C (zdec_at dm_X2_spread 12 rfl) (by decide) ?_
    exact zr_sub [1, 2, 3, 4, 0] rfl (h (by decide))
  · have h := h.2 g120
    refine zr_iconst C (zdec_at dm_X2_spread 10 rfl) ?_
    refine zr_goto C (zdec_at dm_X2_spread 11 rfl) rfl ?_
    exact zr_sub [1, 2, 3, 4, 0] rfl (h (by decide))

set_option maxHeartbeats 400000 in
set_option maxRecDepth 100000 in
theorem sn_X2_takeIn : zSnd zS 145 0 0 yX2_takeIn cX2_takeIn 4 none 1 [2, 0, 0, 0] (fun xs P M => ∃ a1 a2 a3 : Int, xs = [5, a1, a2, a3] ∧ vc_X2_takeIn a1 a2 a3 P M) := by
  refine zSnd.of rfl (fun ad xs hz => Nat.le_trans (Nat.le_of_eq (zlen ad _ xs hz)) (by decide)) ?_
  intro Γ C _ _ xs M hz hF
  obtain ⟨a1, a2, a3, rfl, h⟩ := hF
  have zz_a1 := zall_h (zall_t hz) (by decide)
  have zz_a2 := zall_h (zall_t (zall_t hz)) (by decide)
  have zz_a3 := zall_h (zall_t (zall_t (zall_t hz))) (by decide)
  refine zr_rng (fun hR => ?_)
  have C : zC Γ mu_X2_takeIn := C
  change zV Γ mu_X2_takeIn (145, 0, 0) 0 [(0, zRf (zad Γ) 5), (1, zI a1), (2, zI a2), (3, zI a3)] [] M
  change vc_X2_takeIn a1 a2 a3 _ M at h
  unfold vc_X2_takeIn at h
  refine zr_aload_n C 0 rfl (zdec_at dm_X2_takeIn 0 rfl) rfl ?_
  refine zr_getr (q := 6) C fk_RX2_11 fi_5_3 (zdec_at dm_X2_takeIn 1 rfl) ?_
  refine zr_iload_n C 1 rfl (zdec_at dm_X2_takeIn 2 rfl) rfl ?_
  refine zr_dup2 C rfl rfl (zdec_at dm_X2_takeIn 3 rfl) ?_
  obtain ⟨o1, h⟩ := h
  refine zr_iald C ai_6 o1 (zdec_at dm_X2_takeIn 4 rfl) ?_
  refine zr_iconst C (zdec_at dm_X2_takeIn 5 rfl) ?_
  refine zr_iadd C (zdec_at dm_X2_takeIn 6 rfl) ?_
  obtain ⟨o2, h⟩ := h
  refine zr_iast C ai_6 o1 o2 (zdec_at dm_X2_takeIn 7 rfl) (fun M3 e4 => ?_)
  have h := h M3 e4
  have hR5 : zRng M3 := by rw [e4]; exact hR.set o2 _ _
  refine zr_aload_n C 0 rfl (zdec_at dm_X2_takeIn 8 rfl) rfl ?_
  refine zr_getr (q := 8) C fk_RX2_18 fi_5_5 (zdec_at dm_X2_takeIn 9 rfl) ?_
  refine zr_iload_n C 1 rfl (zdec_at dm_X2_takeIn 10 rfl) rfl ?_
  refine zr_aload_n C 0 rfl (zdec_at dm_X2_takeIn 11 rfl) rfl ?_
  refine zr_getr (q := 8) C fk_RX2_18 fi_5_5 (zdec_at dm_X2_takeIn 12 rfl) ?_
  refine zr_iload_n C 1 rfl (zdec_at dm_X2_takeIn 13 rfl) rfl ?_
  refine zr_iald C ai_8 o1 (zdec_at dm_X2_takeIn 14 rfl) ?_
  refine zr_iload_n C 2 rfl (zdec_at dm_X2_takeIn 15 rfl) rfl ?_
  refine zr_mmin C (hR5 _ _) zz_a2 mk_RX2_94 kw_mmin_s kw_mini kw_mmin_c (by decide) ⟨rfl, rfl⟩ (Nat.le_of_ble_eq_true rfl) (zdec_at dm_X2_takeIn 16 rfl) (fun z6 => ?_)
  refine zr_iast C ai_8 o1 z6 (zdec_at dm_X2_takeIn 17 rfl) (fun M7 e8 => ?_)
  have h := h M7 e8
  have hR9 : zRng M7 := by rw [e8]; exact hR5.set z6 _ _
  refine zr_aload_n C 0 rfl (zdec_at dm_X2_takeIn 18 rfl) rfl ?_
  refine zr_getr (q := 10) C fk_RX2_24 fi_5_7 (zdec_at dm_X2_takeIn 19 rfl) ?_
  refine zr_iload_n C 1 rfl (zdec_at dm_X2_takeIn 20 rfl) rfl ?_
  refine zr_aload_n C 0 rfl (zdec_at dm_X2_takeIn 21 rfl) rfl ?_
  refine zr_getr (q := 10) C fk_RX2_24 fi_5_7 (zdec_at dm_X2_takeIn 22 rfl) ?_
  refine zr_iload_n C 1 rfl (zdec_at dm_X2_takeIn 23 rfl) rfl ?_
  refine zr_iald C ai_10 o1 (zdec_at dm_X2_takeIn 24 rfl) ?_
  refine zr_iload_n C 2 rfl (zdec_at dm_X2_takeIn 25 rfl) rfl ?_
  refine zr_mmax C (hR9 _ _) zz_a2 mk_RX2_99 kw_mmax_s kw_mini kw_mmax_c (by decide) ⟨rfl, rfl⟩ (Nat.le_of_ble_eq_true rfl) (zdec_at dm_X2_takeIn 26 rfl) (fun z10 => ?_)
  refine zr_iast C ai_10 o1 z10 (zdec_at dm_X2_takeIn 27 rfl) (fun M11 e12 => ?_)
  have h := h M11 e12
  have hR13 : zRng M11 := by rw [e12]; exact hR9.set z10 _ _
  refine zr_aload_n C 0 rfl (zdec_at dm_X2_takeIn 28 rfl) rfl ?_
  refine zr_getr (q := 11) C fk_RX2_27 fi_5_8 (zdec_at dm_X2_takeIn 29 rfl) ?_
  refine zr_iload_n C 1 rfl (zdec_at dm_X2_takeIn 30 rfl) rfl ?_
  refine zr_aload_n C 0 rfl (zdec_at dm_X2_takeIn 31 rfl) rfl ?_
  refine zr_getr (q := 11) C fk_RX2_27 fi_5_8 (zdec_at dm_X2_takeIn 32 rfl) ?_
  refine zr_iload_n C 1 rfl (zdec_at dm_X2_takeIn 33 rfl) rfl ?_
  refine zr_iald C ai_11 o1 (zdec_at dm_X2_takeIn 34 rfl) ?_
  refine zr_iload_n C 3 rfl (zdec_at dm_X2_takeIn 35 rfl) rfl ?_
  refine zr_mmax C (hR13 _ _) zz_a3 mk_RX2_99 kw_mmax_s kw_mini kw_mmax_c (by decide) ⟨rfl, rfl⟩ (Nat.le_of_ble_eq_true rfl) (zdec_at dm_X2_takeIn 36 rfl) (fun z14 => ?_)
  refine zr_iast C ai_11 o1 z14 (zdec_at dm_X2_takeIn 37 rfl) (fun M15 e16 => ?_)
  have h := h M15 e16
  have hR17 : zRng M15 := by rw [e16]; exact hR13.set z14 _ _
  exact zr_return C rfl rfl (zdec_at dm_X2_takeIn 38 rfl) rfl ⟨by decide, h⟩

set_option maxHeartbeats 400000 in
set_option maxRecDepth 100000 in
theorem sn_X2_areBeside {pr_X2_faceAt : Int → Int → zM → Prop} {po_X2_faceAt : Int → Int → zM → Int → zM → Prop} {pr_X2_hasBeside : Int → Int → Int → zM → Prop} {po_X2_hasBeside : Int → Int → Int → zM → Int → zM → Prop} (hS_X2_faceAt : zSnd zS 145 0 0 yX2_faceAt cX2_faceAt 3 (some .int) 0 [2, 0, 0] (F_X2_faceAt pr_X2_faceAt po_X2_faceAt)) (hS_X2_hasBeside : zSnd zS 145 0 0 yX2_hasBeside cX2_hasBeside 5 (some .boolean) 1 [2, 0, 0, 0] (F_X2_hasBeside pr_X2_hasBeside po_X2_hasBeside)) : zSnd zS 145 0 0 yX2_areBeside cX2_areBeside 5 (some .boolean) 2 [2, 0, 0] (fun xs P M => ∃ a1 a2 : Int, xs = [5, a1, a2] ∧ vc_X2_areBeside pr_X2_faceAt po_X2_faceAt pr_X2_hasBeside po_X2_hasBeside a1 a2 P M) := by
  refine zSnd.of rfl (fun ad xs hz => Nat.le_trans (Nat.le_of_eq (zlen ad _ xs hz)) (by decide)) ?_
  intro Γ C _ _ xs M hz hF
  obtain ⟨a1, a2, rfl, h⟩ := hF
  have zz_a1 := zall_h (zall_t hz) (by decide)
  have zz_a2 := zall_h (zall_t (zall_t hz)) (by decide)
  refine zr_rng (fun hR => ?_)
  have C : zC Γ mu_X2_areBeside := C
  change zV Γ mu_X2_areBeside (145, 0, 0) 0 [(0, zRf (zad Γ) 5), (1, zI a1), (2, zI a2)] [] M
  change vc_X2_areBeside pr_X2_faceAt po_X2_faceAt pr_X2_hasBeside po_X2_hasBeside a1 a2 _ M at h
  unfold vc_X2_areBeside at h
  refine zr_aload_n C 0 rfl (zdec_at dm_X2_areBeside 0 rfl) rfl ?_
  refine zr_getr (q := 9) C fk_RX2_21 fi_5_6 (zdec_at dm_X2_areBeside 1 rfl) ?_
  refine zr_iload_n C 1 rfl (zdec_at dm_X2_areBeside 2 rfl) rfl ?_
  obtain ⟨o1, h⟩ := h
  refine zr_iald C ai_9 o1 (zdec_at dm_X2_areBeside 3 rfl) ?_
  refine zr_istore_n (L1 := [(3, zI (M 9 a1)), (0, zRf (zad Γ) 5), (1, zI a1), (2, zI a2)]) C (zdec_at dm_X2_areBeside 4 rfl) rfl (Nat.le_of_ble_eq_true rfl) rfl ?_
  obtain ⟨I7, ⟨n10, q11⟩, hI9⟩ := h
  have lp8 : ∀ (n6 : Nat) (v2 : Int) (M4 : zM), I7 v2 M4 n6 → zin v2 → zRng M4 → zV Γ mu_X2_areBeside (145, 0, 0) 7 [(0, zRf (zad Γ) 5), (1, zI a1), (2, zI a2), (3, zI v2)] [] M4 := by
    intro n6
    induction n6 using Nat.strongRecOn with
    | _ n6 ih7 =>
    intro v2 M4 q12 z3 hR5
    have h := hI9 v2 M4 n6 q12 z3 hR5
    refine zr_iload_n C 3 rfl (zdec_at dm_X2_areBeside 5 rfl) rfl ?_
    refine zr_aload_n C 0 rfl (zdec_at dm_X2_areBeside 6 rfl) rfl ?_
    refine zr_getr (q := 11) C fk_RX2_27 fi_5_8 (zdec_at dm_X2_areBeside 7 rfl) ?_
    refine zr_iload_n C 1 rfl (zdec_at dm_X2_areBeside 8 rfl) rfl ?_
    refine zr_iald C ai_11 o1 (zdec_at dm_X2_areBeside 9 rfl) ?_
    refine zr_icmp_gt C z3 (hR5 _ _) (zdec_at dm_X2_areBeside 10 rfl) rfl (fun g13 => ?_) (fun g13 => ?_)
    · have h := h.1 g13
      refine zr_iconst C (zdec_at dm_X2_areBeside 40 rfl) ?_
      exact zr_zreturn C rfl (by decide) (zdec_at dm_X2_areBeside 41 rfl) rfl ⟨(by decide), h⟩
    · have h := h.2 g13
      refine zr_aload_n C 0 rfl (zdec_at dm_X2_areBeside 11 rfl) rfl ?_
      refine zr_getr (q := 8) C fk_RX2_18 fi_5_5 (zdec_at dm_X2_areBeside 12 rfl) ?_
      refine zr_iload_n C 1 rfl (zdec_at dm_X2_areBeside 13 rfl) rfl ?_
      refine zr_iald C ai_8 o1 (zdec_at dm_X2_areBeside 14 rfl) ?_
      refine zr_istore (L1 := [(4, zI (M4 8 a1)), (0, zRf (zad Γ) 5), (1, zI a1), (2, zI a2), (3, zI v2)]) C (zdec_at dm_X2_areBeside 15 rfl) (Nat.le_of_ble_eq_true rfl) rfl ?_
      obtain ⟨I25, ⟨n22, q23⟩, hI21⟩ := h
      have lp20 : ∀ (n18 : Nat) (v14 : Int) (M16 : zM), I25 v14 M16 n18 → zin v14 → zRng M16 → zV Γ mu_X2_areBeside (145, 0, 0) 25 [(0, zRf (zad Γ) 5), (1, zI a1), (2, zI a2), (3, zI v2), (4, zI v14)] [] M16 := by
        intro n18
        induction n18 using Nat.strongRecOn with
        | _ n18 ih19 =>
        intro v14 M16 q24 z15 hR17
        have h := hI21 v14 M16 n18 q24 z15 hR17
        refine zr_iload C 4 rfl (zdec_at dm_X2_areBeside 16 rfl) ?_
        refine zr_aload_n C 0 rfl (zdec_at dm_X2_areBeside 17 rfl) rfl ?_
        refine zr_getr (q := 10) C fk_RX2_24 fi_5_7 (zdec_at dm_X2_areBeside 18 rfl) ?_
        refine zr_iload_n C 1 rfl (zdec_at dm_X2_areBeside 19 rfl) rfl ?_
        refine zr_iald C ai_10 o1 (zdec_at dm_X2_areBeside 20 rfl) ?_
        refine zr_icmp_gt C z15 (hR17 _ _) (zdec_at dm_X2_areBeside 21 rfl) rfl (fun g25 => ?_) (fun g25 => ?_)
        · have h := h.1 g25
          refine zr_iinc (L1 := [(3, zI (v2 + 1)), (0, zRf (zad Γ) 5), (1, zI a1), (2, zI a2), (4, zI v14)]) C 3 rfl (zdec_at dm_X2_areBeside 38 rfl) (Nat.le_of_ble_eq_true rfl) rfl ?_
          refine zr_goto C (zdec_at dm_X2_areBeside 39 rfl) rfl ?_
          obtain ⟨o26, h⟩ := h
          obtain ⟨n27, q28, q29⟩ := h
          exact zr_sub [1, 2, 3, 0] rfl (ih7 n27 q28 _ _ q29 o26 hR17)
        · have h := h.2 g25
          refine zr_aload_n C 0 rfl (zdec_at dm_X2_areBeside 22 rfl) rfl ?_
          refine zr_iload C 4 rfl (zdec_at dm_X2_areBeside 23 rfl) ?_
          refine zr_iload_n C 3 rfl (zdec_at dm_X2_areBeside 24 rfl) rfl ?_
          obtain ⟨g35, h⟩ := h
          refine zr_callV C [v14, v2] hS_X2_faceAt ck_RX2_71 iv_X2_faceAt vc_X2 oc_5 rfl rfl (zdec_at dm_X2_areBeside 25 rfl) ⟨rfl, rfl, rfl, rfl⟩ ⟨by decide, by decide⟩ (Nat.le_of_ble_eq_true rfl) (zall_0 z15 (zall_0 z3 zall_n)) ?_
          refine ⟨_, _, rfl, g35, fun r30 M31 p34 z33 hR32 => ?_⟩
          have h := h r30 M31 p34 z33 hR32
          show zV Γ mu_X2_areBeside (145, 0, 0) 43 [(0, zRf (zad Γ) 5), (1, zI a1), (2, zI a2), (3, zI v2), (4, zI v14)] [zI r30] M31
          refine zr_iload_n C 1 rfl (zdec_at dm_X2_areBeside 26 rfl) rfl ?_
          refine zr_icmp_ne C z33 zz_a1 (zdec_at dm_X2_areBeside 27 rfl) rfl (fun g36 => ?_) (fun g36 => ?_)
          · have h := h.1 g36
            refine zr_iinc (L1 := [(4, zI (v14 + 1)), (0, zRf (zad Γ) 5), (1, zI a1), (2, zI a2), (3, zI v2)]) C 4 rfl (zdec_at dm_X2_areBeside 36 rfl) (Nat.le_of_ble_eq_true rfl) rfl ?_
            refine zr_goto C (zdec_at dm_X2_areBeside 37 rfl) rfl ?_
            obtain ⟨o37, h⟩ := h
            obtain ⟨n38, q39, q40⟩ := h
            exact zr_sub [1, 2, 3, 4, 0] rfl (ih19 n38 q39 _ _ q40 o37 hR32)
          · have h := h.2 g36
            refine zr_aload_n C 0 rfl (zdec_at dm_X2_areBeside 28 rfl) rfl ?_
            refine zr_iload C 4 rfl (zdec_at dm_X2_areBeside 29 rfl) ?_
            refine zr_iload_n C 3 rfl (zdec_at dm_X2_areBeside 30 rfl) rfl ?_
            refine zr_iload_n C 2 rfl (zdec_at dm_X2_areBeside 31 rfl) rfl ?_
            obtain ⟨g46, h⟩ := h
            refine zr_callV C [v14, v2, a2] hS_X2_hasBeside ck_RX2_102 iv_X2_hasBeside vc_X2 oc_5 rfl rfl (zdec_at dm_X2_areBeside 32 rfl) ⟨rfl, rfl, rfl, rfl⟩ ⟨by decide, by decide⟩ (Nat.le_of_ble_eq_true rfl) (zall_0 z15 (zall_0 z3 (zall_0 zz_a2 zall_n))) ?_
            refine ⟨_, _, _, rfl, g46, fun r41 M42 p45 z44 hR43 => ?_⟩
            have h := h r41 M42 p45 z44 hR43
            show zV Γ mu_X2_areBeside (145, 0, 0) 55 [(0, zRf (zad Γ) 5), (1, zI a1), (2, zI a2), (3, zI v2), (4, zI v14)] [zI r41] M42
            refine zr_if_eq C z44 (zdec_at dm_X2_areBeside 33 rfl) rfl (fun g47 => ?_) (fun g47 => ?_)
            · have h := h.1 g47
              refine zr_iinc (L1 := [(4, zI (v14 + 1)), (0, zRf (zad Γ) 5), (1, zI a1), (2, zI a2), (3, zI v2)]) C 4 rfl (zdec_at dm_X2_areBeside 36 rfl) (Nat.le_of_ble_eq_true rfl) rfl ?_
              refine zr_goto C (zdec_at dm_X2_areBeside 37 rfl) rfl ?_
              obtain ⟨o48, h⟩ := h
              obtain ⟨n49, q50, q51⟩ := h
              exact zr_sub [1, 2, 3, 4, 0] rfl (ih19 n49 q50 _ _ q51 o48 hR43)
            · have h := h.2 g47
              refine zr_iconst C (zdec_at dm_X2_areBeside 34 rfl) ?_
              exact zr_zreturn C rfl (by decide) (zdec_at dm_X2_areBeside 35 rfl) rfl ⟨(by decide), h⟩
      exact zr_sub [1, 2, 3, 4, 0] rfl (lp20 n22 _ _ q23 (hR5 _ _) hR5)
  exact zr_sub [1, 2, 3, 0] rfl (lp8 n10 _ _ q11 (hR _ _) hR)

set_option maxHeartbeats 400000 in
set_option maxRecDepth 100000 in
theorem sn_X2_hasBeside {pr_X2_faceAt : Int → Int → zM → Prop} {po_X2_faceAt : Int → Int → zM → Int → zM → Prop} (hS_X2_faceAt : zSnd zS 145 0 0 yX2_faceAt cX2_faceAt 3 (some .int) 0 [2, 0, 0] (F_X2_faceAt pr_X2_faceAt po_X2_faceAt)) : zSnd zS 145 0 0 yX2_hasBeside cX2_hasBeside 5 (some .boolean) 1 [2, 0, 0, 0] (fun xs P M => ∃ a1 a2 a3 : Int, xs = [5, a1, a2, a3] ∧ vc_X2_hasBeside pr_X2_faceAt po_X2_faceAt a1 a2 a3 P M) := by
  refine zSnd.of rfl (fun ad xs hz => Nat.le_trans (Nat.le_of_eq (zlen ad _ xs hz)) (by decide)) ?_
  intro Γ C _ _ xs M hz hF
  obtain ⟨a1, a2, a3, rfl, h⟩ := hF
  have zz_a1 := zall_h (zall_t hz) (by decide)
  have zz_a2 := zall_h (zall_t (zall_t hz)) (by decide)
  have zz_a3 := zall_h (zall_t (zall_t (zall_t hz))) (by decide)
  refine zr_rng (fun hR => ?_)
  have C : zC Γ mu_X2_hasBeside := C
  change zV Γ mu_X2_hasBeside (145, 0, 0) 0 [(0, zRf (zad Γ) 5), (1, zI a1), (2, zI a2), (3, zI a3)] [] M
  change vc_X2_hasBeside pr_X2_faceAt po_X2_faceAt a1 a2 a3 _ M at h
  unfold vc_X2_hasBeside at h
  refine zr_iconst C (zdec_at dm_X2_hasBeside 0 rfl) ?_
  refine zr_istore (L1 := [(4, zI 0), (0, zRf (zad Γ) 5), (1, zI a1), (2, zI a2), (3, zI a3)]) C (zdec_at dm_X2_hasBeside 1 rfl) (Nat.le_of_ble_eq_true rfl) rfl ?_
  obtain ⟨I3, ⟨n9, q10⟩, hI8⟩ := h
  have lp7 : ∀ (n5 : Nat) (v1 : Int) (M3 : zM), I3 v1 M3 n5 → zin v1 → zRng M3 → zV Γ mu_X2_hasBeside (145, 0, 0) 3 [(0, zRf (zad Γ) 5), (1, zI a1), (2, zI a2), (3, zI a3), (4, zI v1)] [] M3 := by
    intro n5
    induction n5 using Nat.strongRecOn with
    | _ n5 ih6 =>
    intro v1 M3 q11 z2 hR4
    have h := hI8 v1 M3 n5 q11 z2 hR4
    refine zr_iload C 4 rfl (zdec_at dm_X2_hasBeside 2 rfl) ?_
    refine zr_iconst C (zdec_at dm_X2_hasBeside 3 rfl) ?_
    refine zr_icmp_ge C z2 (by decide) (zdec_at dm_X2_hasBeside 4 rfl) rfl (fun g12 => ?_) (fun g12 => ?_)
    · have h := h.1 g12
      refine zr_iconst C (zdec_at dm_X2_hasBeside 23 rfl) ?_
      exact zr_zreturn C rfl (by decide) (zdec_at dm_X2_hasBeside 24 rfl) rfl ⟨(by decide), h⟩
    · have h := h.2 g12
      refine zr_aload_n C 0 rfl (zdec_at dm_X2_hasBeside 5 rfl) rfl ?_
      refine zr_iload_n C 1 rfl (zdec_at dm_X2_hasBeside 6 rfl) rfl ?_
      refine zr_gets1 C sk_RX2_88 (zdec_at dm_X2_hasBeside 7 rfl) ?_
      refine zr_iload C 4 rfl (zdec_at dm_X2_hasBeside 8 rfl) ?_
      obtain ⟨o13, h⟩ := h
      refine zr_sald1 C o13 (zdec_at dm_X2_hasBeside 9 rfl) ?_
      refine zr_iadd C (zdec_at dm_X2_hasBeside 10 rfl) ?_
      refine zr_iload_n C 2 rfl (zdec_at dm_X2_hasBeside 11 rfl) rfl ?_
      refine zr_gets2 C sk_RX2_91 (zdec_at dm_X2_hasBeside 12 rfl) ?_
      refine zr_iload C 4 rfl (zdec_at dm_X2_hasBeside 13 rfl) ?_
      refine zr_sald2 C o13 (zdec_at dm_X2_hasBeside 14 rfl) ?_
      refine zr_iadd C (zdec_at dm_X2_hasBeside 15 rfl) ?_
      obtain ⟨o14, h⟩ := h
      obtain ⟨o15, h⟩ := h
      obtain ⟨g21, h⟩ := h
      refine zr_callV C [(a1 + (zac (Int.toNat v1))), (a2 + (zdn (Int.toNat v1)))] hS_X2_faceAt ck_RX2_71 iv_X2_faceAt vc_X2 oc_5 rfl rfl (zdec_at dm_X2_hasBeside 16 rfl) ⟨rfl, rfl, rfl, rfl⟩ ⟨by decide, by decide⟩ (Nat.le_of_ble_eq_true rfl) (zall_0 o15 (zall_0 o14 zall_n)) ?_
      refine ⟨_, _, rfl, g21, fun r16 M17 p20 z19 hR18 => ?_⟩
      have h := h r16 M17 p20 z19 hR18
      show zV Γ mu_X2_hasBeside (145, 0, 0) 29 [(0, zRf (zad Γ) 5), (1, zI a1), (2, zI a2), (3, zI a3), (4, zI v1)] [zI r16] M17
      refine zr_iload_n C 3 rfl (zdec_at dm_X2_hasBeside 17 rfl) rfl ?_
      refine zr_icmp_ne C z19 zz_a3 (zdec_at dm_X2_hasBeside 18 rfl) rfl (fun g22 => ?_) (fun g22 => ?_)
      · have h := h.1 g22
        refine zr_iinc (L1 := [(4, zI (v1 + 1)), (0, zRf (zad Γ) 5), (1, zI a1), (2, zI a2), (3, zI a3)]) C 4 rfl (zdec_at dm_X2_hasBeside 21 rfl) (Nat.le_of_ble_eq_true rfl) rfl ?_
        refine zr_goto C (zdec_at dm_X2_hasBeside 22 rfl) rfl ?_
        obtain ⟨o23, h⟩ := h
        obtain ⟨n24, q25, q26⟩ := h
        exact zr_sub [1, 2, 3, 4, 0] rfl (ih6 n24 q25 _ _ q26 o23 hR18)
      · have h := h.2 g22
        refine zr_iconst C (zdec_at dm_X2_hasBeside 19 rfl) ?_
        exact zr_zreturn C rfl (by decide) (zdec_at dm_X2_hasBeside 20 rfl) rfl ⟨(by decide), h⟩
  exact zr_sub [1, 2, 3, 4, 0] rfl (lp7 n9 _ _ q10 (by decide) hR)

set_option maxHeartbeats 400000 in
set_option maxRecDepth 100000 in
theorem sn_X2_countBeside {pr_J7_fill_53178 : Int → Int → zM → Prop} {po_J7_fill_53178 : Int → Int → zM → zM → Prop} {pr_X2_faceAt : Int → Int → zM → Prop} {po_X2_faceAt : Int → Int → zM → Int → zM → Prop} {pr_X2_seeBeside : Int → Int → Int → zM → Prop} {po_X2_seeBeside : Int → Int → Int → zM → Int → zM → Prop} (hS_J7_fill_53178 : zSnd zS 145 0 0 yJ7_fill_53178 cJ7_fill_53178 4 none 0 [2, 0] (F_J7_fill_53178 pr_J7_fill_53178 po_J7_fill_53178)) (hS_X2_faceAt : zSnd zS 145 0 0 yX2_faceAt cX2_faceAt 3 (some .int) 0 [2, 0, 0] (F_X2_faceAt pr_X2_faceAt po_X2_faceAt)) (hS_X2_seeBeside : zSnd zS 145 0 0 yX2_seeBeside cX2_seeBeside 7 (some .int) 1 [2, 0, 0, 0] (F_X2_seeBeside pr_X2_seeBeside po_X2_seeBeside)) : zSnd zS 145 0 0 yX2_countBeside cX2_countBeside 5 (some .int) 2 [2, 0] (fun xs P M => ∃ a1 : Int, xs = [5, a1] ∧ vc_X2_countBeside pr_J7_fill_53178 po_J7_fill_53178 pr_X2_faceAt po_X2_faceAt pr_X2_seeBeside po_X2_seeBeside a1 P M) := by
  refine zSnd.of rfl (fun ad xs hz => Nat.le_trans (Nat.le_of_eq (zlen ad _ xs hz)) (by decide)) ?_
  intro Γ C _ _ xs M hz hF
  obtain ⟨a1, rfl, h⟩ := hF
  have zz_a1 := zall_h (zall_t hz) (by decide)
  refine zr_rng (fun hR => ?_)
  have C : zC Γ mu_X2_countBeside := C
  change zV Γ mu_X2_countBeside (145, 0, 0) 0 [(0, zRf (zad Γ) 5), (1, zI a1)] [] M
  change vc_X2_countBeside pr_J7_fill_53178 po_J7_fill_53178 pr_X2_faceAt po_X2_faceAt pr_X2_seeBeside po_X2_seeBeside a1 _ M at h
  unfold vc_X2_countBeside at h
  refine zr_aload_n C 0 rfl (zdec_at dm_X2_countBeside 0 rfl) rfl ?_
  refine zr_getr (q := 14) C fk_RX2_36 fi_5_11 (zdec_at dm_X2_countBeside 1 rfl) ?_
  refine zr_iconst C (zdec_at dm_X2_countBeside 2 rfl) ?_
  obtain ⟨g5, h⟩ := h
  refine zr_callS C [14, 0] hS_J7_fill_53178 ck_RX2_59 sv_J7_fill_53178 rfl rfl (zdec_at dm_X2_countBeside 3 rfl) ⟨rfl, rfl, rfl, rfl⟩ ⟨by decide, by decide⟩ (Nat.le_of_ble_eq_true rfl) (zall_2 (zall_0 (by decide) zall_n)) ?_
  refine ⟨_, _, rfl, g5, fun M1 p4 _ hR2 => ?_⟩
  have h := h M1 p4 hR2
  show zV Γ mu_X2_countBeside (145, 0, 0) 8 [(0, zRf (zad Γ) 5), (1, zI a1)] [] M1
  refine zr_iconst C (zdec_at dm_X2_countBeside 4 rfl) ?_
  refine zr_istore_n (L1 := [(2, zI 0), (0, zRf (zad Γ) 5), (1, zI a1)]) C (zdec_at dm_X2_countBeside 5 rfl) rfl (Nat.le_of_ble_eq_true rfl) rfl ?_
  refine zr_aload_n C 1 rfl (zdec_at dm_X2_countBeside 6 rfl) rfl ?_
  refine zr_getr (q := 9) C fk_RX2_21 fi_5_6 (zdec_at dm_X2_countBeside 7 rfl) ?_
  refine zr_iload_n C 2 rfl (zdec_at dm_X2_countBeside 8 rfl) rfl ?_
  obtain ⟨o6, h⟩ := h
  refine zr_iald C ai_9 o6 (zdec_at dm_X2_countBeside 9 rfl) ?_
  refine zr_istore_n (L1 := [(3, zI (M1 9 a1)), (2, zI 0), (0, zRf (zad Γ) 5), (1, zI a1)]) C (zdec_at dm_X2_countBeside 10 rfl) rfl (Nat.le_of_ble_eq_true rfl) rfl ?_
  obtain ⟨I17, ⟨n17, q18⟩, hI16⟩ := h
  have lp15 : ∀ (n13 : Nat) (v7 : Int) (v8 : Int) (M11 : zM), I17 v7 v8 M11 n13 → zin v7 → zin v8 → zRng M11 → zV Γ mu_X2_countBeside (145, 0, 0) 17 [(0, zRf (zad Γ) 5), (1, zI a1), (2, zI v7), (3, zI v8)] [] M11 := by
    intro n13
    induction n13 using Nat.strongRecOn with
    | _ n13 ih14 =>
    intro v7 v8 M11 q19 z9 z10 hR12
    have h := hI16 v7 v8 M11 n13 q19 z9 z10 hR12
    refine zr_iload_n C 3 rfl (zdec_at dm_X2_countBeside 11 rfl) rfl ?_
    refine zr_aload_n C 0 rfl (zdec_at dm_X2_countBeside 12 rfl) rfl ?_
    refine zr_getr (q := 11) C fk_RX2_27 fi_5_8 (zdec_at dm_X2_countBeside 13 rfl) ?_
    refine zr_iload_n C 1 rfl (zdec_at dm_X2_countBeside 14 rfl) rfl ?_
    refine zr_iald C ai_11 o6 (zdec_at dm_X2_countBeside 15 rfl) ?_
    refine zr_icmp_gt C z10 (hR12 _ _) (zdec_at dm_X2_countBeside 16 rfl) rfl (fun g20 => ?_) (fun g20 => ?_)
    · have h := h.1 g20
      refine zr_iload_n C 2 rfl (zdec_at dm_X2_countBeside 46 rfl) rfl ?_
      exact zr_ireturn C rfl (zdec_at dm_X2_countBeside 47 rfl) rfl ⟨z9, h⟩
    · have h := h.2 g20
      refine zr_aload_n C 0 rfl (zdec_at dm_X2_countBeside 17 rfl) rfl ?_
      refine zr_getr (q := 8) C fk_RX2_18 fi_5_5 (zdec_at dm_X2_countBeside 18 rfl) ?_
      refine zr_iload_n C 1 rfl (zdec_at dm_X2_countBeside 19 rfl) rfl ?_
      refine zr_iald C ai_8 o6 (zdec_at dm_X2_countBeside 20 rfl) ?_
      refine zr_istore (L1 := [(4, zI (M11 8 a1)), (0, zRf (zad Γ) 5), (1, zI a1), (2, zI v7), (3, zI v8)]) C (zdec_at dm_X2_countBeside 21 rfl) (Nat.le_of_ble_eq_true rfl) rfl ?_
      obtain ⟨I35, ⟨n31, q32⟩, hI30⟩ := h
      have lp29 : ∀ (n27 : Nat) (v21 : Int) (v22 : Int) (M25 : zM), I35 v21 v22 M25 n27 → zin v21 → zin v22 → zRng M25 → zV Γ mu_X2_countBeside (145, 0, 0) 35 [(0, zRf (zad Γ) 5), (1, zI a1), (2, zI v21), (3, zI v8), (4, zI v22)] [] M25 := by
        intro n27
        induction n27 using Nat.strongRecOn with
        | _ n27 ih28 =>
        intro v21 v22 M25 q33 z23 z24 hR26
        have h := hI30 v21 v22 M25 n27 q33 z23 z24 hR26
        refine zr_iload C 4 rfl (zdec_at dm_X2_countBeside 22 rfl) ?_
        refine zr_aload_n C 0 rfl (zdec_at dm_X2_countBeside 23 rfl) rfl ?_
        refine zr_getr (q := 10) C fk_RX2_24 fi_5_7 (zdec_at dm_X2_countBeside 24 rfl) ?_
        refine zr_iload_n C 1 rfl (zdec_at dm_X2_countBeside 25 rfl) rfl ?_
        refine zr_iald C ai_10 o6 (zdec_at dm_X2_countBeside 26 rfl) ?_
        refine zr_icmp_gt C z24 (hR26 _ _) (zdec_at dm_X2_countBeside 27 rfl) rfl (fun g34 => ?_) (fun g34 => ?_)
        · have h := h.1 g34
          refine zr_iinc (L1 := [(3, zI (v8 + 1)), (0, zRf (zad Γ) 5), (1, zI a1), (2, zI v21), (4, zI v22)]) C 3 rfl (zdec_at dm_X2_countBeside 44 rfl) (Nat.le_of_ble_eq_true rfl) rfl ?_
          refine zr_goto C (zdec_at dm_X2_countBeside 45 rfl) rfl ?_
          obtain ⟨o35, h⟩ := h
          obtain ⟨n36, q37, q38⟩ := h
          exact zr_sub [1, 2, 3, 0] rfl (ih14 n36 q37 _ _ _ q38 z23 o35 hR26)
        · have h := h.2 g34
          refine zr_aload_n C 0 rfl (zdec_at dm_X2_countBeside 28 rfl) rfl ?_
          refine zr_iload C 4 rfl (zdec_at dm_X2_countBeside 29 rfl) ?_
          refine zr_iload_n C 3 rfl (zdec_at dm_X2_countBeside 30 rfl) rfl ?_
          obtain ⟨g44, h⟩ := h
          refine zr_callV C [v22, v8] hS_X2_faceAt ck_RX2_71 iv_X2_faceAt vc_X2 oc_5 rfl rfl (zdec_at dm_X2_countBeside 31 rfl) ⟨rfl, rfl, rfl, rfl⟩ ⟨by decide, by decide⟩ (Nat.le_of_ble_eq_true rfl) (zall_0 z24 (zall_0 z10 zall_n)) ?_
          refine ⟨_, _, rfl, g44, fun r39 M40 p43 z42 hR41 => ?_⟩
          have h := h r39 M40 p43 z42 hR41
          show zV Γ mu_X2_countBeside (145, 0, 0) 53 [(0, zRf (zad Γ) 5), (1, zI a1), (2, zI v21), (3, zI v8), (4, zI v22)] [zI r39] M40
          refine zr_iload_n C 1 rfl (zdec_at dm_X2_countBeside 32 rfl) rfl ?_
          refine zr_icmp_ne C z42 zz_a1 (zdec_at dm_X2_countBeside 33 rfl) rfl (fun g45 => ?_) (fun g45 => ?_)
          · have h := h.1 g45
            refine zr_iinc (L1 := [(4, zI (v22 + 1)), (0, zRf (zad Γ) 5), (1, zI a1), (2, zI v21), (3, zI v8)]) C 4 rfl (zdec_at dm_X2_countBeside 42 rfl) (Nat.le_of_ble_eq_true rfl) rfl ?_
            refine zr_goto C (zdec_at dm_X2_countBeside 43 rfl) rfl ?_
            obtain ⟨o46, h⟩ := h
            obtain ⟨n47, q48, q49⟩ := h
            exact zr_sub [1, 2, 3, 4, 0] rfl (ih28 n47 q48 _ _ _ q49 z23 o46 hR41)
          · have h := h.2 g45
            refine zr_iload_n C 2 rfl (zdec_at dm_X2_countBeside 34 rfl) rfl ?_
            refine zr_aload_n C 0 rfl (zdec_at dm_X2_countBeside 35 rfl) rfl ?_
            refine zr_iload C 4 rfl (zdec_at dm_X2_countBeside 36 rfl) ?_
            refine zr_iload_n C 3 rfl (zdec_at dm_X2_countBeside 37 rfl) rfl ?_
            refine zr_iload_n C 1 rfl (zdec_at dm_X2_countBeside 38 rfl) rfl ?_
            obtain ⟨g55, h⟩ := h
            refine zr_callV C [v22, v8, a1] hS_X2_seeBeside ck_RX2_106 iv_X2_seeBeside vc_X2 oc_5 rfl rfl (zdec_at dm_X2_countBeside 39 rfl) ⟨rfl, rfl, rfl, rfl⟩ ⟨by decide, by decide⟩ (Nat.le_of_ble_eq_true rfl) (zall_0 z24 (zall_0 z10 (zall_0 zz_a1 zall_n))) ?_
            refine ⟨_, _, _, rfl, g55, fun r50 M51 p54 z53 hR52 => ?_⟩
            have h := h r50 M51 p54 z53 hR52
            show zV Γ mu_X2_countBeside (145, 0, 0) 66 [(0, zRf (zad Γ) 5), (1, zI a1), (2, zI v21), (3, zI v8), (4, zI v22)] [zI r50, zI v21] M51
            refine zr_iadd C (zdec_at dm_X2_countBeside 40 rfl) ?_
            refine zr_istore_n (L1 := [(2, zI (v21 + r50)), (0, zRf (zad Γ) 5), (1, zI a1), (3, zI v8), (4, zI v22)]) C (zdec_at dm_X2_countBeside 41 rfl) rfl (Nat.le_of_ble_eq_true rfl) rfl ?_
            refine zr_iinc (L1 := [(4, zI (v22 + 1)), (2, zI (v21 + r50)), (0, zRf (zad Γ) 5), (1, zI a1), (3, zI v8)]) C 4 rfl (zdec_at dm_X2_countBeside 42 rfl) (Nat.le_of_ble_eq_true rfl) rfl ?_
            refine zr_goto C (zdec_at dm_X2_countBeside 43 rfl) rfl ?_
            obtain ⟨o56, h⟩ := h
            obtain ⟨o57, h⟩ := h
            obtain ⟨n58, q59, q60⟩ := h
            exact zr_sub [2, 3, 1, 4, 0] rfl (ih28 n58 q59 _ _ _ q60 o56 o57 hR52)
      exact zr_sub [1, 2, 3, 4, 0] rfl (lp29 n31 _ _ _ q32 z9 (hR12 _ _) hR12)
  exact zr_sub [2, 3, 1, 0] rfl (lp15 n17 _ _ _ q18 (by decide) (hR2 _ _) hR2)

set_option maxHeartbeats 400000 in
set_option maxRecDepth 100000 in
theorem sn_X2_seeBeside {pr_X2_faceAt : Int → Int → zM → Prop} {po_X2_faceAt : Int → Int → zM → Int → zM → Prop} (hS_X2_faceAt : zSnd zS 145 0 0 yX2_faceAt cX2_faceAt 3 (some .int) 0 [2, 0, 0] (F_X2_faceAt pr_X2_faceAt po_X2_faceAt)) : zSnd zS 145 0 0 yX2_seeBeside cX2_seeBeside 7 (some .int) 1 [2, 0, 0, 0] (fun xs P M => ∃ a1 a2 a3 : Int, xs = [5, a1, a2, a3] ∧ vc_X2_seeBeside pr_X2_faceAt po_X2_faceAt a1 a2 a3 P M) := by
  refine zSnd.of rfl (fun ad xs hz => Nat.le_trans (Nat.le_of_eq (zlen ad _ xs hz)) (by decide)) ?_
  intro Γ C _ _ xs M hz hF
  obtain ⟨a1, a2, a3, rfl, h⟩ := hF
  have zz_a1 := zall_h (zall_t hz) (by decide)
  have zz_a2 := zall_h (zall_t (zall_t hz)) (by decide)
  have zz_a3 := zall_h (zall_t (zall_t (zall_t hz))) (by decide)
  refine zr_rng (fun hR => ?_)
  have C : zC Γ mu_X2_seeBeside := C
  change zV Γ mu_X2_seeBeside (145, 0, 0) 0 [(0, zRf (zad Γ) 5), (1, zI a1), (2, zI a2), (3, zI a3)] [] M
  change vc_X2_seeBeside pr_X2_faceAt po_X2_faceAt a1 a2 a3 _ M at h
  unfold vc_X2_seeBeside at h
  refine zr_iconst C (zdec_at dm_X2_seeBeside 0 rfl) ?_
  refine zr_istore (L1 := [(4, zI 0), (0, zRf (zad Γ) 5), (1, zI a1), (2, zI a2), (3, zI a3)]) C (zdec_at dm_X2_seeBeside 1 rfl) (Nat.le_of_ble_eq_true rfl) rfl ?_
  refine zr_iconst C (zdec_at dm_X2_seeBeside 2 rfl) ?_
  refine zr_istore (L1 := [(5, zI 0), (4, zI 0), (0, zRf (zad Γ) 5), (1, zI a1), (2, zI a2), (3, zI a3)]) C (zdec_at dm_X2_seeBeside 3 rfl) (Nat.le_of_ble_eq_true rfl) rfl ?_
  obtain ⟨I6, ⟨n11, q12⟩, hI10⟩ := h
  have lp9 : ∀ (n7 : Nat) (v1 : Int) (v2 : Int) (M5 : zM), I6 v1 v2 M5 n7 → zin v1 → zin v2 → zRng M5 → zV Γ mu_X2_seeBeside (145, 0, 0) 6 [(0, zRf (zad Γ) 5), (1, zI a1), (2, zI a2), (3, zI a3), (4, zI v1), (5, zI v2)] [] M5 := by
    intro n7
    induction n7 using Nat.strongRecOn with
    | _ n7 ih8 =>
    intro v1 v2 M5 q13 z3 z4 hR6
    have h := hI10 v1 v2 M5 n7 q13 z3 z4 hR6
    refine zr_iload C 5 rfl (zdec_at dm_X2_seeBeside 4 rfl) ?_
    refine zr_iconst C (zdec_at dm_X2_seeBeside 5 rfl) ?_
    refine zr_icmp_ge C z4 (by decide) (zdec_at dm_X2_seeBeside 6 rfl) rfl (fun g14 => ?_) (fun g14 => ?_)
    · have h := h.1 g14
      refine zr_iload C 4 rfl (zdec_at dm_X2_seeBeside 38 rfl) ?_
      exact zr_ireturn C rfl (zdec_at dm_X2_seeBeside 39 rfl) rfl ⟨z3, h⟩
    · have h := h.2 g14
      refine zr_aload_n C 0 rfl (zdec_at dm_X2_seeBeside 7 rfl) rfl ?_
      refine zr_iload_n C 1 rfl (zdec_at dm_X2_seeBeside 8 rfl) rfl ?_
      refine zr_gets1 C sk_RX2_88 (zdec_at dm_X2_seeBeside 9 rfl) ?_
      refine zr_iload C 5 rfl (zdec_at dm_X2_seeBeside 10 rfl) ?_
      obtain ⟨o15, h⟩ := h
      refine zr_sald1 C o15 (zdec_at dm_X2_seeBeside 11 rfl) ?_
      refine zr_iadd C (zdec_at dm_X2_seeBeside 12 rfl) ?_
      refine zr_iload_n C 2 rfl (zdec_at dm_X2_seeBeside 13 rfl) rfl ?_
      refine zr_gets2 C sk_RX2_91 (zdec_at dm_X2_seeBeside 14 rfl) ?_
      refine zr_iload C 5 rfl (zdec_at dm_X2_seeBeside 15 rfl) ?_
      refine zr_sald2 C o15 (zdec_at dm_X2_seeBeside 16 rfl) ?_
      refine zr_iadd C (zdec_at dm_X2_seeBeside 17 rfl) ?_
      obtain ⟨o16, h⟩ := h
      obtain ⟨o17, h⟩ := h
      obtain ⟨g23, h⟩ := h
      refine zr_callV C [(a1 + (zac (Int.toNat v2))), (a2 + (zdn (Int.toNat v2)))] hS_X2_faceAt ck_RX2_71 iv_X2_faceAt vc_X2 oc_5 rfl rfl (zdec_at dm_X2_seeBeside 18 rfl) ⟨rfl, rfl, rfl, rfl⟩ ⟨by decide, by decide⟩ (Nat.le_of_ble_eq_true rfl) (zall_0 o17 (zall_0 o16 zall_n)) ?_
      refine ⟨_, _, rfl, g23, fun r18 M19 p22 z21 hR20 => ?_⟩
      have h := h r18 M19 p22 z21 hR20
      show zV Γ mu_X2_seeBeside (145, 0, 0) 32 [(0, zRf (zad Γ) 5), (1, zI a1), (2, zI a2), (3, zI a3), (4, zI v1), (5, zI v2)] [zI r18] M19
      refine zr_istore (L1 := [(6, zI r18), (0, zRf (zad Γ) 5), (1, zI a1), (2, zI a2), (3, zI a3), (4, zI v1), (5, zI v2)]) C (zdec_at dm_X2_seeBeside 19 rfl) (Nat.le_of_ble_eq_true rfl) rfl ?_
      refine zr_iload C 0 rfl (zdec_at dm_X2_seeBeside 20 rfl) ?_
      refine zr_if_lt C z21 (zdec_at dm_X2_seeBeside 21 rfl) rfl (fun g24 => ?_) (fun g24 => ?_)
      · have h := h.1 g24
        refine zr_iinc (L1 := [(5, zI (v2 + 1)), (6, zI r18), (0, zRf (zad Γ) 5), (1, zI a1), (2, zI a2), (3, zI a3), (4, zI v1)]) C 6 rfl (zdec_at dm_X2_seeBeside 36 rfl) (Nat.le_of_ble_eq_true rfl) rfl ?_
        refine zr_goto C (zdec_at dm_X2_seeBeside 37 rfl) rfl ?_
        obtain ⟨o25, h⟩ := h
        obtain ⟨n26, q27, q28⟩ := h
        exact zr_sub [2, 3, 4, 5, 6, 0] rfl (ih8 n26 q27 _ _ _ q28 z3 o25 hR20)
      · have h := h.2 g24
        refine zr_iload C 0 rfl (zdec_at dm_X2_seeBeside 22 rfl) ?_
        refine zr_iload_n C 4 rfl (zdec_at dm_X2_seeBeside 23 rfl) rfl ?_
        refine zr_icmp_eq C z21 zz_a3 (zdec_at dm_X2_seeBeside 24 rfl) rfl (fun g29 => ?_) (fun g29 => ?_)
        · have h := h.1 g29
          refine zr_iinc (L1 := [(5, zI (v2 + 1)), (6, zI r18), (0, zRf (zad Γ) 5), (1, zI a1), (2, zI a2), (3, zI a3), (4, zI v1)]) C 6 rfl (zdec_at dm_X2_seeBeside 36 rfl) (Nat.le_of_ble_eq_true rfl) rfl ?_
          refine zr_goto C (zdec_at dm_X2_seeBeside 37 rfl) rfl ?_
          obtain ⟨o30, h⟩ := h
          obtain ⟨n31, q32, q33⟩ := h
          exact zr_sub [2, 3, 4, 5, 6, 0] rfl (ih8 n31 q32 _ _ _ q33 z3 o30 hR20)
        · have h := h.2 g29
          refine zr_aload_n C 1 rfl (zdec_at dm_X2_seeBeside 25 rfl) rfl ?_
          refine zr_getr (q := 14) C fk_RX2_36 fi_5_11 (zdec_at dm_X2_seeBeside 26 rfl) ?_
          refine zr_iload C 0 rfl (zdec_at dm_X2_seeBeside 27 rfl) ?_
          obtain ⟨o34, h⟩ := h
          refine zr_iald C ai_14 o34 (zdec_at dm_X2_seeBeside 28 rfl) ?_
          refine zr_if_ne C (hR20 _ _) (zdec_at dm_X2_seeBeside 29 rfl) rfl (fun g35 => ?_) (fun g35 => ?_)
          · have h := h.1 g35
            refine zr_iinc (L1 := [(5, zI (v2 + 1)), (6, zI r18), (0, zRf (zad Γ) 5), (1, zI a1), (2, zI a2), (3, zI a3), (4, zI v1)]) C 6 rfl (zdec_at dm_X2_seeBeside 36 rfl) (Nat.le_of_ble_eq_true rfl) rfl ?_
            refine zr_goto C (zdec_at dm_X2_seeBeside 37 rfl) rfl ?_
            obtain ⟨o36, h⟩ := h
            obtain ⟨n37, q38, q39⟩ := h
            exact zr_sub [2, 3, 4, 5, 6, 0] rfl (ih8 n37 q38 _ _ _ q39 z3 o36 hR20)
          · have h := h.2 g35
            refine zr_aload_n C 1 rfl (zdec_at dm_X2_seeBeside 30 rfl) rfl ?_
            refine zr_getr (q := 14) C fk_RX2_36 fi_5_11 (zdec_at dm_X2_seeBeside 31 rfl) ?_
            refine zr_iload C 0 rfl (zdec_at dm_X2_seeBeside 32 rfl) ?_
            refine zr_iconst C (zdec_at dm_X2_seeBeside 33 rfl) ?_
            refine zr_iast C ai_14 o34 (by decide) (zdec_at dm_X2_seeBeside 34 rfl) (fun M40 e41 => ?_)
            have h := h M40 e41
            have hR42 : zRng M40 := by rw [e41]; exact hR20.set (by decide) _ _
            refine zr_iinc (L1 := [(4, zI (v1 + 1)), (6, zI r18), (0, zRf (zad Γ) 5), (1, zI a1), (2, zI a2), (3, zI a3), (5, zI v2)]) C 5 rfl (zdec_at dm_X2_seeBeside 35 rfl) (Nat.le_of_ble_eq_true rfl) rfl ?_
            refine zr_iinc (L1 := [(5, zI (v2 + 1)), (4, zI (v1 + 1)), (6, zI r18), (0, zRf (zad Γ) 5), (1, zI a1), (2, zI a2), (3, zI a3)]) C 6 rfl (zdec_at dm_X2_seeBeside 36 rfl) (Nat.le_of_ble_eq_true rfl) rfl ?_
            refine zr_goto C (zdec_at dm_X2_seeBeside 37 rfl) rfl ?_
            obtain ⟨o43, h⟩ := h
            obtain ⟨o44, h⟩ := h
            obtain ⟨n45, q46, q47⟩ := h
            exact zr_sub [3, 4, 5, 6, 1, 0] rfl (ih8 n45 q46 _ _ _ q47 o43 o44 hR42)
  exact zr_sub [2, 3, 4, 5, 1, 0] rfl (lp9 n11 _ _ _ q12 (by decide) (by decide) hR)

set_option maxHeartbeats 400000 in
set_option maxRecDepth 100000 in
theorem sn_X2_colourMostBeside {pr_J7_fill_53178 : Int → Int → zM → Prop} {po_J7_fill_53178 : Int → Int → zM → zM → Prop} {pr_X2_faceAt : Int → Int → zM → Prop} {po_X2_faceAt : Int → Int → zM → Int → zM → Prop} {pr_X2_countSides : Int → Int → Int → zM → Prop} {po_X2_countSides : Int → Int → Int → zM → zM → Prop} (hS_J7_fill_53178 : zSnd zS 145 0 0 yJ7_fill_53178 cJ7_fill_53178 4 none 0 [2, 0] (F_J7_fill_53178 pr_J7_fill_53178 po_J7_fill_53178)) (hS_X2_faceAt : zSnd zS 145 0 0 yX2_faceAt cX2_faceAt 3 (some .int) 0 [2, 0, 0] (F_X2_faceAt pr_X2_faceAt po_X2_faceAt)) (hS_X2_countSides : zSnd zS 145 0 0 yX2_countSides cX2_countSides 8 none 1 [2, 0, 0, 0] (F_X2_countSides pr_X2_countSides po_X2_countSides)) : zSnd zS 145 0 0 yX2_colourMostBeside cX2_colourMostBeside 4 (some .int) 2 [2, 0] (fun xs P M => ∃ a1 : Int, xs = [5, a1] ∧ vc_X2_colourMostBeside pr_J7_fill_53178 po_J7_fill_53178 pr_X2_faceAt po_X2_faceAt pr_X2_countSides po_X2_countSides a1 P M) := by
  refine zSnd.of rfl (fun ad xs hz => Nat.le_trans (Nat.le_of_eq (zlen ad _ xs hz)) (by decide)) ?_
  intro Γ C _ _ xs M hz hF
  obtain ⟨a1, rfl, h⟩ := hF
  have zz_a1 := zall_h (zall_t hz) (by decide)
  refine zr_rng (fun hR => ?_)
  have C : zC Γ mu_X2_colourMostBeside := C
  change zV Γ mu_X2_colourMostBeside (145, 0, 0) 0 [(0, zRf (zad Γ) 5), (1, zI a1)] [] M
  change vc_X2_colourMostBeside pr_J7_fill_53178 po_J7_fill_53178 pr_X2_faceAt po_X2_faceAt pr_X2_countSides po_X2_countSides a1 _ M at h
  unfold vc_X2_colourMostBeside at h
  refine zr_aload_n C 0 rfl (zdec_at dm_X2_colourMostBeside 0 rfl) rfl ?_
  refine zr_getr (q := 15) C fk_RX2_39 fi_5_12 (zdec_at dm_X2_colourMostBeside 1 rfl) ?_
  refine zr_iconst C (zdec_at dm_X2_colourMostBeside 2 rfl) ?_
  obtain ⟨g5, h⟩ := h
  refine zr_callS C [15, 0] hS_J7_fill_53178 ck_RX2_59 sv_J7_fill_53178 rfl rfl (zdec_at dm_X2_colourMostBeside 3 rfl) ⟨rfl, rfl, rfl, rfl⟩ ⟨by decide, by decide⟩ (Nat.le_of_ble_eq_true rfl) (zall_2 (zall_0 (by decide) zall_n)) ?_
  refine ⟨_, _, rfl, g5, fun M1 p4 _ hR2 => ?_⟩
  have h := h M1 p4 hR2
  show zV Γ mu_X2_colourMostBeside (145, 0, 0) 8 [(0, zRf (zad Γ) 5), (1, zI a1)] [] M1
  refine zr_aload_n C 0 rfl (zdec_at dm_X2_colourMostBeside 4 rfl) rfl ?_
  refine zr_getr (q := 9) C fk_RX2_21 fi_5_6 (zdec_at dm_X2_colourMostBeside 5 rfl) ?_
  refine zr_iload_n C 1 rfl (zdec_at dm_X2_colourMostBeside 6 rfl) rfl ?_
  obtain ⟨o6, h⟩ := h
  refine zr_iald C ai_9 o6 (zdec_at dm_X2_colourMostBeside 7 rfl) ?_
  refine zr_istore_n (L1 := [(2, zI (M1 9 a1)), (0, zRf (zad Γ) 5), (1, zI a1)]) C (zdec_at dm_X2_colourMostBeside 8 rfl) rfl (Nat.le_of_ble_eq_true rfl) rfl ?_
  obtain ⟨I15, ⟨n15, q16⟩, hI14⟩ := h
  have lp13 : ∀ (n11 : Nat) (v7 : Int) (M9 : zM), I15 v7 M9 n11 → zin v7 → zRng M9 → zV Γ mu_X2_colourMostBeside (145, 0, 0) 15 [(0, zRf (zad Γ) 5), (1, zI a1), (2, zI v7)] [] M9 := by
    intro n11
    induction n11 using Nat.strongRecOn with
    | _ n11 ih12 =>
    intro v7 M9 q17 z8 hR10
    have h := hI14 v7 M9 n11 q17 z8 hR10
    refine zr_iload_n C 2 rfl (zdec_at dm_X2_colourMostBeside 9 rfl) rfl ?_
    refine zr_aload_n C 0 rfl (zdec_at dm_X2_colourMostBeside 10 rfl) rfl ?_
    refine zr_getr (q := 11) C fk_RX2_27 fi_5_8 (zdec_at dm_X2_colourMostBeside 11 rfl) ?_
    refine zr_iload_n C 1 rfl (zdec_at dm_X2_colourMostBeside 12 rfl) rfl ?_
    refine zr_iald C ai_11 o6 (zdec_at dm_X2_colourMostBeside 13 rfl) ?_
    refine zr_icmp_gt C z8 (hR10 _ _) (zdec_at dm_X2_colourMostBeside 14 rfl) rfl (fun g18 => ?_) (fun g18 => ?_)
    · have h := h.1 g18
      refine zr_iconst C (zdec_at dm_X2_colourMostBeside 41 rfl) ?_
      refine zr_istore_n (L1 := [(2, zI (-1)), (0, zRf (zad Γ) 5), (1, zI a1)]) C (zdec_at dm_X2_colourMostBeside 42 rfl) rfl (Nat.le_of_ble_eq_true rfl) rfl ?_
      refine zr_iconst C (zdec_at dm_X2_colourMostBeside 43 rfl) ?_
      refine zr_istore_n (L1 := [(3, zI 0), (2, zI (-1)), (0, zRf (zad Γ) 5), (1, zI a1)]) C (zdec_at dm_X2_colourMostBeside 44 rfl) rfl (Nat.le_of_ble_eq_true rfl) rfl ?_
      obtain ⟨I75, ⟨n27, q28⟩, hI26⟩ := h
      have lp25 : ∀ (n23 : Nat) (v19 : Int) (v20 : Int), I75 v19 v20 n23 → zin v19 → zin v20 → zV Γ mu_X2_colourMostBeside (145, 0, 0) 75 [(0, zRf (zad Γ) 5), (2, zI v19), (3, zI v20)] [] M9 := by
        intro n23
        induction n23 using Nat.strongRecOn with
        | _ n23 ih24 =>
        intro v19 v20 q29 z21 z22
        have h := hI26 v19 v20 n23 q29 z21 z22
        refine zr_iload_n C 2 rfl (zdec_at dm_X2_colourMostBeside 45 rfl) rfl ?_
        refine zr_bipush C (zdec_at dm_X2_colourMostBeside 46 rfl) (by decide) ?_
        refine zr_icmp_ge C z22 (by decide) (zdec_at dm_X2_colourMostBeside 47 rfl) rfl (fun g30 => ?_) (fun g30 => ?_)
        · have h := h.1 g30
          refine zr_iload_n C 1 rfl (zdec_at dm_X2_colourMostBeside 68 rfl) rfl ?_
          exact zr_ireturn C rfl (zdec_at dm_X2_colourMostBeside 69 rfl) rfl ⟨z21, h⟩
        · have h := h.2 g30
          refine zr_aload_n C 0 rfl (zdec_at dm_X2_colourMostBeside 48 rfl) rfl ?_
          refine zr_getr (q := 15) C fk_RX2_39 fi_5_12 (zdec_at dm_X2_colourMostBeside 49 rfl) ?_
          refine zr_iload_n C 2 rfl (zdec_at dm_X2_colourMostBeside 50 rfl) rfl ?_
          obtain ⟨o31, h⟩ := h
          refine zr_iald C ai_15 o31 (zdec_at dm_X2_colourMostBeside 51 rfl) ?_
          refine zr_if_le C (hR10 _ _) (zdec_at dm_X2_colourMostBeside 52 rfl) rfl (fun g32 => ?_) (fun g32 => ?_)
          · have h := h.1 g32
            refine zr_iinc (L1 := [(3, zI (v20 + 1)), (0, zRf (zad Γ) 5), (2, zI v19)]) C 2 rfl (zdec_at dm_X2_colourMostBeside 66 rfl) (Nat.le_of_ble_eq_true rfl) rfl ?_
            refine zr_goto C (zdec_at dm_X2_colourMostBeside 67 rfl) rfl ?_
            obtain ⟨o33, h⟩ := h
            obtain ⟨n34, q35, q36⟩ := h
            exact zr_sub [1, 2, 0] rfl (ih24 n34 q35 _ _ q36 z21 o33)
          · have h := h.2 g32
            refine zr_iload_n C 1 rfl (zdec_at dm_X2_colourMostBeside 53 rfl) rfl ?_
            refine zr_if_lt C z21 (zdec_at dm_X2_colourMostBeside 54 rfl) rfl (fun g37 => ?_) (fun g37 => ?_)
            · have h := h.1 g37
              refine zr_iload_n C 2 rfl (zdec_at dm_X2_colourMostBeside 64 rfl) rfl ?_
              refine zr_istore_n (L1 := [(2, zI v20), (0, zRf (zad Γ) 5), (3, zI v20)]) C (zdec_at dm_X2_colourMostBeside 65 rfl) rfl (Nat.le_of_ble_eq_true rfl) rfl ?_
              refine zr_iinc (L1 := [(3, zI (v20 + 1)), (2, zI v20), (0, zRf (zad Γ) 5)]) C 2 rfl (zdec_at dm_X2_colourMostBeside 66 rfl) (Nat.le_of_ble_eq_true rfl) rfl ?_
              refine zr_goto C (zdec_at dm_X2_colourMostBeside 67 rfl) rfl ?_
              obtain ⟨o38, h⟩ := h
              obtain ⟨n39, q40, q41⟩ := h
              exact zr_sub [2, 1, 0] rfl (ih24 n39 q40 _ _ q41 z22 o38)
            · have h := h.2 g37
              refine zr_aload_n C 0 rfl (zdec_at dm_X2_colourMostBeside 55 rfl) rfl ?_
              refine zr_getr (q := 15) C fk_RX2_39 fi_5_12 (zdec_at dm_X2_colourMostBeside 56 rfl) ?_
              refine zr_iload_n C 2 rfl (zdec_at dm_X2_colourMostBeside 57 rfl) rfl ?_
              refine zr_iald C ai_15 o31 (zdec_at dm_X2_colourMostBeside 58 rfl) ?_
              refine zr_aload_n C 0 rfl (zdec_at dm_X2_colourMostBeside 59 rfl) rfl ?_
              refine zr_getr (q := 15) C fk_RX2_39 fi_5_12 (zdec_at dm_X2_colourMostBeside 60 rfl) ?_
              refine zr_iload_n C 1 rfl (zdec_at dm_X2_colourMostBeside 61 rfl) rfl ?_
              obtain ⟨o42, h⟩ := h
              refine zr_iald C ai_15 o42 (zdec_at dm_X2_colourMostBeside 62 rfl) ?_
              refine zr_icmp_le C (hR10 _ _) (hR10 _ _) (zdec_at dm_X2_colourMostBeside 63 rfl) rfl (fun g43 => ?_) (fun g43 => ?_)
              · have h := h.1 g43
                refine zr_iinc (L1 := [(3, zI (v20 + 1)), (0, zRf (zad Γ) 5), (2, zI v19)]) C 2 rfl (zdec_at dm_X2_colourMostBeside 66 rfl) (Nat.le_of_ble_eq_true rfl) rfl ?_
                refine zr_goto C (zdec_at dm_X2_colourMostBeside 67 rfl) rfl ?_
                obtain ⟨o44, h⟩ := h
                obtain ⟨n45, q46, q47⟩ := h
                exact zr_sub [1, 2, 0] rfl (ih24 n45 q46 _ _ q47 z21 o44)
              · have h := h.2 g43
                refine zr_iload_n C 2 rfl (zdec_at dm_X2_colourMostBeside 64 rfl) rfl ?_
                refine zr_istore_n (L1 := [(2, zI v20), (0, zRf (zad Γ) 5), (3, zI v20)]) C (zdec_at dm_X2_colourMostBeside 65 rfl) rfl (Nat.le_of_ble_eq_true rfl) rfl ?_
                refine zr_iinc (L1 := [(3, zI (v20 + 1)), (2, zI v20), (0, zRf (zad Γ) 5)]) C 2 rfl (zdec_at dm_X2_colourMostBeside 66 rfl) (Nat.le_of_ble_eq_true rfl) rfl ?_
                refine zr_goto C (zdec_at dm_X2_colourMostBeside 67 rfl) rfl ?_
                obtain ⟨o48, h⟩ := h
                obtain ⟨n49, q50, q51⟩ := h
                exact zr_sub [2, 1, 0] rfl (ih24 n49 q50 _ _ q51 z22 o48)
      exact zr_sub [2, 1, 0] rfl (lp25 n27 _ _ q28 (by decide) (by decide))
    · have h := h.2 g18
      refine zr_aload_n C 0 rfl (zdec_at dm_X2_colourMostBeside 15 rfl) rfl ?_
      refine zr_getr (q := 8) C fk_RX2_18 fi_5_5 (zdec_at dm_X2_colourMostBeside 16 rfl) ?_
      refine zr_iload_n C 1 rfl (zdec_at dm_X2_colourMostBeside 17 rfl) rfl ?_
      refine zr_iald C ai_8 o6 (zdec_at dm_X2_colourMostBeside 18 rfl) ?_
      refine zr_istore_n (L1 := [(3, zI (M9 8 a1)), (0, zRf (zad Γ) 5), (1, zI a1), (2, zI v7)]) C (zdec_at dm_X2_colourMostBeside 19 rfl) rfl (Nat.le_of_ble_eq_true rfl) rfl ?_
      obtain ⟨I32, ⟨n60, q61⟩, hI59⟩ := h
      have lp58 : ∀ (n56 : Nat) (v52 : Int) (M54 : zM), I32 v52 M54 n56 → zin v52 → zRng M54 → zV Γ mu_X2_colourMostBeside (145, 0, 0) 32 [(0, zRf (zad Γ) 5), (1, zI a1), (2, zI v7), (3, zI v52)] [] M54 := by
        intro n56
        induction n56 using Nat.strongRecOn with
        | _ n56 ih57 =>
        intro v52 M54 q62 z53 hR55
        have h := hI59 v52 M54 n56 q62 z53 hR55
        refine zr_iload_n C 3 rfl (zdec_at dm_X2_colourMostBeside 20 rfl) rfl ?_
        refine zr_aload_n C 0 rfl (zdec_at dm_X2_colourMostBeside 21 rfl) rfl ?_
        refine zr_getr (q := 10) C fk_RX2_24 fi_5_7 (zdec_at dm_X2_colourMostBeside 22 rfl) ?_
        refine zr_iload_n C 1 rfl (zdec_at dm_X2_colourMostBeside 23 rfl) rfl ?_
        refine zr_iald C ai_10 o6 (zdec_at dm_X2_colourMostBeside 24 rfl) ?_
        refine zr_icmp_gt C z53 (hR55 _ _) (zdec_at dm_X2_colourMostBeside 25 rfl) rfl (fun g63 => ?_) (fun g63 => ?_)
        · have h := h.1 g63
          refine zr_iinc (L1 := [(2, zI (v7 + 1)), (0, zRf (zad Γ) 5), (1, zI a1), (3, zI v52)]) C 2 rfl (zdec_at dm_X2_colourMostBeside 39 rfl) (Nat.le_of_ble_eq_true rfl) rfl ?_
          refine zr_goto C (zdec_at dm_X2_colourMostBeside 40 rfl) rfl ?_
          obtain ⟨o64, h⟩ := h
          obtain ⟨n65, q66, q67⟩ := h
          exact zr_sub [1, 2, 0] rfl (ih12 n65 q66 _ _ q67 o64 hR55)
        · have h := h.2 g63
          refine zr_aload_n C 0 rfl (zdec_at dm_X2_colourMostBeside 26 rfl) rfl ?_
          refine zr_iload_n C 3 rfl (zdec_at dm_X2_colourMostBeside 27 rfl) rfl ?_
          refine zr_iload_n C 2 rfl (zdec_at dm_X2_colourMostBeside 28 rfl) rfl ?_
          obtain ⟨g73, h⟩ := h
          refine zr_callV C [v52, v7] hS_X2_faceAt ck_RX2_71 iv_X2_faceAt vc_X2 oc_5 rfl rfl (zdec_at dm_X2_colourMostBeside 29 rfl) ⟨rfl, rfl, rfl, rfl⟩ ⟨by decide, by decide⟩ (Nat.le_of_ble_eq_true rfl) (zall_0 z53 (zall_0 z8 zall_n)) ?_
          refine ⟨_, _, rfl, g73, fun r68 M69 p72 z71 hR70 => ?_⟩
          have h := h r68 M69 p72 z71 hR70
          show zV Γ mu_X2_colourMostBeside (145, 0, 0) 48 [(0, zRf (zad Γ) 5), (1, zI a1), (2, zI v7), (3, zI v52)] [zI r68] M69
          refine zr_iload_n C 1 rfl (zdec_at dm_X2_colourMostBeside 30 rfl) rfl ?_
          refine zr_icmp_ne C z71 zz_a1 (zdec_at dm_X2_colourMostBeside 31 rfl) rfl (fun g74 => ?_) (fun g74 => ?_)
          · have h := h.1 g74
            refine zr_iinc (L1 := [(3, zI (v52 + 1)), (0, zRf (zad Γ) 5), (1, zI a1), (2, zI v7)]) C 3 rfl (zdec_at dm_X2_colourMostBeside 37 rfl) (Nat.le_of_ble_eq_true rfl) rfl ?_
            refine zr_goto C (zdec_at dm_X2_colourMostBeside 38 rfl) rfl ?_
            obtain ⟨o75, h⟩ := h
            obtain ⟨n76, q77, q78⟩ := h
            exact zr_sub [1, 2, 3, 0] rfl (ih57 n76 q77 _ _ q78 o75 hR70)
          · have h := h.2 g74
            refine zr_aload_n C 0 rfl (zdec_at dm_X2_colourMostBeside 32 rfl) rfl ?_
            refine zr_iload_n C 3 rfl (zdec_at dm_X2_colourMostBeside 33 rfl) rfl ?_
            refine zr_iload_n C 2 rfl (zdec_at dm_X2_colourMostBeside 34 rfl) rfl ?_
            refine zr_iload_n C 1 rfl (zdec_at dm_X2_colourMostBeside 35 rfl) rfl ?_
            obtain ⟨g83, h⟩ := h
            refine zr_callV C [v52, v7, a1] hS_X2_countSides ck_RX2_110 iv_X2_countSides vc_X2 oc_5 rfl rfl (zdec_at dm_X2_colourMostBeside 36 rfl) ⟨rfl, rfl, rfl, rfl⟩ ⟨by decide, by decide⟩ (Nat.le_of_ble_eq_true rfl) (zall_0 z53 (zall_0 z8 (zall_0 zz_a1 zall_n))) ?_
            refine ⟨_, _, _, rfl, g83, fun M79 p82 _ hR80 => ?_⟩
            have h := h M79 p82 hR80
            show zV Γ mu_X2_colourMostBeside (145, 0, 0) 59 [(0, zRf (zad Γ) 5), (1, zI a1), (2, zI v7), (3, zI v52)] [] M79
            refine zr_iinc (L1 := [(3, zI (v52 + 1)), (0, zRf (zad Γ) 5), (1, zI a1), (2, zI v7)]) C 3 rfl (zdec_at dm_X2_colourMostBeside 37 rfl) (Nat.le_of_ble_eq_true rfl) rfl ?_
            refine zr_goto C (zdec_at dm_X2_colourMostBeside 38 rfl) rfl ?_
            obtain ⟨o84, h⟩ := h
            obtain ⟨n85, q86, q87⟩ := h
            exact zr_sub [1, 2, 3, 0] rfl (ih57 n85 q86 _ _ q87 o84 hR80)
      exact zr_sub [1, 2, 3, 0] rfl (lp58 n60 _ _ q61 (hR10 _ _) hR10)
  exact zr_sub [1, 2, 0] rfl (lp13 n15 _ _ q16 (hR2 _ _) hR2)

set_option maxHeartbeats 400000 in
set_option maxRecDepth 100000 in
theorem sn_X2_countSides {pr_X0_colourAt : Int → Int → zM → Prop} {po_X0_colourAt : Int → Int → zM → Int → zM → Prop} {pr_X2_faceAt : Int → Int → zM → Prop} {po_X2_faceAt : Int → Int → zM → Int → zM → Prop} (hS_X0_colourAt : zSnd zS 145 0 0 yX0_colourAt cX0_colourAt 3 (some .int) 0 [2, 0, 0] (F_X0_colourAt pr_X0_colourAt po_X0_colourAt)) (hS_X2_faceAt : zSnd zS 145 0 0 yX2_faceAt cX2_faceAt 3 (some .int) 0 [2, 0, 0] (F_X2_faceAt pr_X2_faceAt po_X2_faceAt)) : zSnd zS 145 0 0 yX2_countSides cX2_countSides 8 none 1 [2, 0, 0, 0] (fun xs P M => ∃ a1 a2 a3 : Int, xs = [5, a1, a2, a3] ∧ vc_X2_countSides pr_X0_colourAt po_X0_colourAt pr_X2_faceAt po_X2_faceAt a1 a2 a3 P M) := by
  refine zSnd.of rfl (fun ad xs hz => Nat.le_trans (Nat.le_of_eq (zlen ad _ xs hz)) (by decide)) ?_
  intro Γ C _ _ xs M hz hF
  obtain ⟨a1, a2, a3, rfl, h⟩ := hF
  have zz_a1 := zall_h (zall_t hz) (by decide)
  have zz_a2 := zall_h (zall_t (zall_t hz)) (by decide)
  have zz_a3 := zall_h (zall_t (zall_t (zall_t hz))) (by decide)
  refine zr_rng (fun hR => ?_)
  have C : zC Γ mu_X2_countSides := C
  change zV Γ mu_X2_countSides (145, 0, 0) 0 [(0, zRf (zad Γ) 5), (1, zI a1), (2, zI a2), (3, zI a3)] [] M
  change vc_X2_countSides pr_X0_colourAt po_X0_colourAt pr_X2_faceAt po_X2_faceAt a1 a2 a3 _ M at h
  unfold vc_X2_countSides at h
  refine zr_iconst C (zdec_at dm_X2_countSides 0 rfl) ?_
  refine zr_istore (L1 := [(4, zI 0), (0, zRf (zad Γ) 5), (1, zI a1), (2, zI a2), (3, zI a3)]) C (zdec_at dm_X2_countSides 1 rfl) (Nat.le_of_ble_eq_true rfl) rfl ?_
  obtain ⟨I3, ⟨n9, q10⟩, hI8⟩ := h
  have lp7 : ∀ (n5 : Nat) (v1 : Int) (M3 : zM), I3 v1 M3 n5 → zin v1 → zRng M3 → zV Γ mu_X2_countSides (145, 0, 0) 3 [(0, zRf (zad Γ) 5), (1, zI a1), (2, zI a2), (3, zI a3), (4, zI v1)] [] M3 := by
    intro n5
    induction n5 using Nat.strongRecOn with
    | _ n5 ih6 =>
    intro v1 M3 q11 z2 hR4
    have h := hI8 v1 M3 n5 q11 z2 hR4
    refine zr_iload C 4 rfl (zdec_at dm_X2_countSides 2 rfl) ?_
    refine zr_iconst C (zdec_at dm_X2_countSides 3 rfl) ?_
    refine zr_icmp_ge C z2 (by decide) (zdec_at dm_X2_countSides 4 rfl) rfl (fun g12 => ?_) (fun g12 => ?_)
    · have h := h.1 g12
      exact zr_return C rfl rfl (zdec_at dm_X2_countSides 44 rfl) rfl ⟨by decide, h⟩
    · have h := h.2 g12
      refine zr_iload_n C 1 rfl (zdec_at dm_X2_countSides 5 rfl) rfl ?_
      refine zr_gets1 C sk_RX2_88 (zdec_at dm_X2_countSides 6 rfl) ?_
      refine zr_iload C 4 rfl (zdec_at dm_X2_countSides 7 rfl) ?_
      obtain ⟨o13, h⟩ := h
      refine zr_sald1 C o13 (zdec_at dm_X2_countSides 8 rfl) ?_
      refine zr_iadd C (zdec_at dm_X2_countSides 9 rfl) ?_
      refine zr_istore (L1 := [(5, zI (a1 + (zac (Int.toNat v1)))), (0, zRf (zad Γ) 5), (1, zI a1), (2, zI a2), (3, zI a3), (4, zI v1)]) C (zdec_at dm_X2_countSides 10 rfl) (Nat.le_of_ble_eq_true rfl) rfl ?_
      refine zr_iload_n C 3 rfl (zdec_at dm_X2_countSides 11 rfl) rfl ?_
      refine zr_gets2 C sk_RX2_91 (zdec_at dm_X2_countSides 12 rfl) ?_
      refine zr_iload C 5 rfl (zdec_at dm_X2_countSides 13 rfl) ?_
      refine zr_sald2 C o13 (zdec_at dm_X2_countSides 14 rfl) ?_
      refine zr_iadd C (zdec_at dm_X2_countSides 15 rfl) ?_
      refine zr_istore (L1 := [(6, zI (a2 + (zdn (Int.toNat v1)))), (5, zI (a1 + (zac (Int.toNat v1)))), (0, zRf (zad Γ) 5), (1, zI a1), (2, zI a2), (3, zI a3), (4, zI v1)]) C (zdec_at dm_X2_countSides 16 rfl) (Nat.le_of_ble_eq_true rfl) rfl ?_
      refine zr_aload_n C 2 rfl (zdec_at dm_X2_countSides 17 rfl) rfl ?_
      refine zr_getr (q := 1) C fk_RX2_45 fi_5_0 (zdec_at dm_X2_countSides 18 rfl) ?_
      refine zr_iload C 1 rfl (zdec_at dm_X2_countSides 19 rfl) ?_
      refine zr_iload C 0 rfl (zdec_at dm_X2_countSides 20 rfl) ?_
      obtain ⟨o14, h⟩ := h
      obtain ⟨o15, h⟩ := h
      obtain ⟨g21, h⟩ := h
      refine zr_callV C [(a1 + (zac (Int.toNat v1))), (a2 + (zdn (Int.toNat v1)))] hS_X0_colourAt ck_RX2_79 iv_X0_colourAt vc_X0 oc_1 rfl rfl (zdec_at dm_X2_countSides 21 rfl) ⟨rfl, rfl, rfl, rfl⟩ ⟨by decide, by decide⟩ (Nat.le_of_ble_eq_true rfl) (zall_0 o15 (zall_0 o14 zall_n)) ?_
      refine ⟨_, _, rfl, g21, fun r16 M17 p20 z19 hR18 => ?_⟩
      have h := h r16 M17 p20 z19 hR18
      show zV Γ mu_X2_countSides (145, 0, 0) 40 [(6, zI (a2 + (zdn (Int.toNat v1)))), (5, zI (a1 + (zac (Int.toNat v1)))), (0, zRf (zad Γ) 5), (1, zI a1), (2, zI a2), (3, zI a3), (4, zI v1)] [zI r16] M17
      refine zr_istore (L1 := [(7, zI r16), (6, zI (a2 + (zdn (Int.toNat v1)))), (5, zI (a1 + (zac (Int.toNat v1)))), (0, zRf (zad Γ) 5), (1, zI a1), (2, zI a2), (3, zI a3), (4, zI v1)]) C (zdec_at dm_X2_countSides 22 rfl) (Nat.le_of_ble_eq_true rfl) rfl ?_
      refine zr_iload C 0 rfl (zdec_at dm_X2_countSides 23 rfl) ?_
      refine zr_if_lt C z19 (zdec_at dm_X2_countSides 24 rfl) rfl (fun g22 => ?_) (fun g22 => ?_)
      · have h := h.1 g22
        refine zr_iinc (L1 := [(4, zI (v1 + 1)), (7, zI r16), (6, zI (a2 + (zdn (Int.toNat v1)))), (5, zI (a1 + (zac (Int.toNat v1)))), (0, zRf (zad Γ) 5), (1, zI a1), (2, zI a2), (3, zI a3)]) C 7 rfl (zdec_at dm_X2_countSides 42 rfl) (Nat.le_of_ble_eq_true rfl) rfl ?_
        refine zr_goto C (zdec_at dm_X2_countSides 43 rfl) rfl ?_
        obtain ⟨o23, h⟩ := h
        obtain ⟨n24, q25, q26⟩ := h
        exact zr_sub [4, 5, 6, 7, 0] rfl (ih6 n24 q25 _ _ q26 o23 hR18)
      · have h := h.2 g22
        refine zr_iload C 0 rfl (zdec_at dm_X2_countSides 25 rfl) ?_
        refine zr_bipush C (zdec_at dm_X2_countSides 26 rfl) (by decide) ?_
        refine zr_icmp_ge C z19 (by decide) (zdec_at dm_X2_countSides 27 rfl) rfl (fun g27 => ?_) (fun g27 => ?_)
        · have h := h.1 g27
          refine zr_iinc (L1 := [(4, zI (v1 + 1)), (7, zI r16), (6, zI (a2 + (zdn (Int.toNat v1)))), (5, zI (a1 + (zac (Int.toNat v1)))), (0, zRf (zad Γ) 5), (1, zI a1), (2, zI a2), (3, zI a3)]) C 7 rfl (zdec_at dm_X2_countSides 42 rfl) (Nat.le_of_ble_eq_true rfl) rfl ?_
          refine zr_goto C (zdec_at dm_X2_countSides 43 rfl) rfl ?_
          obtain ⟨o28, h⟩ := h
          obtain ⟨n29, q30, q31⟩ := h
          exact zr_sub [4, 5, 6, 7, 0] rfl (ih6 n29 q30 _ _ q31 o28 hR18)
        · have h := h.2 g27
          refine zr_aload_n C 3 rfl (zdec_at dm_X2_countSides 28 rfl) rfl ?_
          refine zr_iload C 2 rfl (zdec_at dm_X2_countSides 29 rfl) ?_
          refine zr_iload C 1 rfl (zdec_at dm_X2_countSides 30 rfl) ?_
          obtain ⟨g37, h⟩ := h
          refine zr_callV C [(a1 + (zac (Int.toNat v1))), (a2 + (zdn (Int.toNat v1)))] hS_X2_faceAt ck_RX2_71 iv_X2_faceAt vc_X2 oc_5 rfl rfl (zdec_at dm_X2_countSides 31 rfl) ⟨rfl, rfl, rfl, rfl⟩ ⟨by decide, by decide⟩ (Nat.le_of_ble_eq_true rfl) (zall_0 o15 (zall_0 o14 zall_n)) ?_
          refine ⟨_, _, rfl, g37, fun r32 M33 p36 z35 hR34 => ?_⟩
          have h := h r32 M33 p36 z35 hR34
          show zV Γ mu_X2_countSides (145, 0, 0) 62 [(7, zI r16), (6, zI (a2 + (zdn (Int.toNat v1)))), (5, zI (a1 + (zac (Int.toNat v1)))), (0, zRf (zad Γ) 5), (1, zI a1), (2, zI a2), (3, zI a3), (4, zI v1)] [zI r32] M33
          refine zr_iload_n C 6 rfl (zdec_at dm_X2_countSides 32 rfl) rfl ?_
          refine zr_icmp_eq C z35 zz_a3 (zdec_at dm_X2_countSides 33 rfl) rfl (fun g38 => ?_) (fun g38 => ?_)
          · have h := h.1 g38
            refine zr_iinc (L1 := [(4, zI (v1 + 1)), (7, zI r16), (6, zI (a2 + (zdn (Int.toNat v1)))), (5, zI (a1 + (zac (Int.toNat v1)))), (0, zRf (zad Γ) 5), (1, zI a1), (2, zI a2), (3, zI a3)]) C 7 rfl (zdec_at dm_X2_countSides 42 rfl) (Nat.le_of_ble_eq_true rfl) rfl ?_
            refine zr_goto C (zdec_at dm_X2_countSides 43 rfl) rfl ?_
            obtain ⟨o39, h⟩ := h
            obtain ⟨n40, q41, q42⟩ := h
            exact zr_sub [4, 5, 6, 7, 0] rfl (ih6 n40 q41 _ _ q42 o39 hR34)
          · have h := h.2 g38
            refine zr_aload_n C 3 rfl (zdec_at dm_X2_countSides 34 rfl) rfl ?_
            refine zr_getr (q := 15) C fk_RX2_39 fi_5_12 (zdec_at dm_X2_countSides 35 rfl) ?_
            refine zr_iload C 0 rfl (zdec_at dm_X2_countSides 36 rfl) ?_
            refine zr_dup2 C rfl rfl (zdec_at dm_X2_countSides 37 rfl) ?_
            obtain ⟨o43, h⟩ := h
            refine zr_iald C ai_15 o43 (zdec_at dm_X2_countSides 38 rfl) ?_
            refine zr_iconst C (zdec_at dm_X2_countSides 39 rfl) ?_
            refine zr_iadd C (zdec_at dm_X2_countSides 40 rfl) ?_
            obtain ⟨o44, h⟩ := h
            refine zr_iast C ai_15 o43 o44 (zdec_at dm_X2_countSides 41 rfl) (fun M45 e46 => ?_)
            have h := h M45 e46
            have hR47 : zRng M45 := by rw [e46]; exact hR34.set o44 _ _
            refine zr_iinc (L1 := [(4, zI (v1 + 1)), (7, zI r16), (6, zI (a2 + (zdn (Int.toNat v1)))), (5, zI (a1 + (zac (Int.toNat v1)))), (0, zRf (zad Γ) 5), (1, zI a1), (2, zI a2), (3, zI a3)]) C 7 rfl (zdec_at dm_X2_countSides 42 rfl) (Nat.le_of_ble_eq_true rfl) rfl ?_
            refine zr_goto C (zdec_at dm_X2_countSides 43 rfl) rfl ?_
            obtain ⟨o48, h⟩ := h
            obtain ⟨n49, q50, q51⟩ := h
            exact zr_sub [4, 5, 6, 7, 0] rfl (ih6 n49 q50 _ _ q51 o48 hR47)
  exact zr_sub [1, 2, 3, 4, 0] rfl (lp7 n9 _ _ q10 (by decide) hR)

set_option maxHeartbeats 400000 in
set_option maxRecDepth 100000 in
theorem sn_X2_paintDraft {pr_X2_faceAt : Int → Int → zM → Prop} {po_X2_faceAt : Int → Int → zM → Int → zM → Prop} (hS_X2_faceAt : zSnd zS 145 0 0 yX2_faceAt cX2_faceAt 3 (some .int) 0 [2, 0, 0] (F_X2_faceAt pr_X2_faceAt po_X2_faceAt)) : zSnd zS 145 0 0 yX2_paintDraft cX2_paintDraft 5 none 1 [2, 0, 0] (fun xs P M => ∃ a1 a2 : Int, xs = [5, a1, a2] ∧ vc_X2_paintDraft pr_X2_faceAt po_X2_faceAt a1 a2 P M) := by
  refine zSnd.of rfl (fun ad xs hz => Nat.le_trans (Nat.le_of_eq (zlen ad _ xs hz)) (by decide)) ?_
  intro Γ C _ _ xs M hz hF
  obtain ⟨a1, a2, rfl, h⟩ := hF
  have zz_a1 := zall_h (zall_t hz) (by decide)
  have zz_a2 := zall_h (zall_t (zall_t hz)) (by decide)
  refine zr_rng (fun hR => ?_)
  have C : zC Γ mu_X2_paintDraft := C
  change zV Γ mu_X2_paintDraft (145, 0, 0) 0 [(0, zRf (zad Γ) 5), (1, zI a1), (2, zI a2)] [] M
  change vc_X2_paintDraft pr_X2_faceAt po_X2_faceAt a1 a2 _ M at h
  unfold vc_X2_paintDraft at h
  refine zr_iload_n C 2 rfl (zdec_at dm_X2_paintDraft 0 rfl) rfl ?_
  refine zr_if_ge C zz_a2 (zdec_at dm_X2_paintDraft 1 rfl) rfl (fun g1 => ?_) (fun g1 => ?_)
  · have h := h.1 g1
    refine zr_aload_n C 0 rfl (zdec_at dm_X2_paintDraft 3 rfl) rfl ?_
    refine zr_getr (q := 9) C fk_RX2_21 fi_5_6 (zdec_at dm_X2_paintDraft 4 rfl) ?_
    refine zr_iload_n C 1 rfl (zdec_at dm_X2_paintDraft 5 rfl) rfl ?_
    obtain ⟨o2, h⟩ := h
    refine zr_iald C ai_9 o2 (zdec_at dm_X2_paintDraft 6 rfl) ?_
    refine zr_istore_n (L1 := [(3, zI (M 9 a1)), (0, zRf (zad Γ) 5), (1, zI a1), (2, zI a2)]) C (zdec_at dm_X2_paintDraft 7 rfl) rfl (Nat.le_of_ble_eq_true rfl) rfl ?_
    obtain ⟨I12, ⟨n11, q12⟩, hI10⟩ := h
    have lp9 : ∀ (n7 : Nat) (v3 : Int) (M5 : zM), I12 v3 M5 n7 → zin v3 → zRng M5 → zV Γ mu_X2_paintDraft (145, 0, 0) 12 [(0, zRf (zad Γ) 5), (1, zI a1), (2, zI a2), (3, zI v3)] [] M5 := by
      intro n7
      induction n7 using Nat.strongRecOn with
      | _ n7 ih8 =>
      intro v3 M5 q13 z4 hR6
      have h := hI10 v3 M5 n7 q13 z4 hR6
      refine zr_iload_n C 3 rfl (zdec_at dm_X2_paintDraft 8 rfl) rfl ?_
      refine zr_aload_n C 0 rfl (zdec_at dm_X2_paintDraft 9 rfl) rfl ?_
      refine zr_getr (q := 11) C fk_RX2_27 fi_5_8 (zdec_at dm_X2_paintDraft 10 rfl) ?_
      refine zr_iload_n C 1 rfl (zdec_at dm_X2_paintDraft 11 rfl) rfl ?_
      refine zr_iald C ai_11 o2 (zdec_at dm_X2_paintDraft 12 rfl) ?_
      refine zr_icmp_gt C z4 (hR6 _ _) (zdec_at dm_X2_paintDraft 13 rfl) rfl (fun g14 => ?_) (fun g14 => ?_)
      · have h := h.1 g14
        exact zr_return C rfl rfl (zdec_at dm_X2_paintDraft 46 rfl) rfl ⟨by decide, h⟩
      · have h := h.2 g14
        refine zr_aload_n C 0 rfl (zdec_at dm_X2_paintDraft 14 rfl) rfl ?_
        refine zr_getr (q := 8) C fk_RX2_18 fi_5_5 (zdec_at dm_X2_paintDraft 15 rfl) ?_
        refine zr_iload_n C 1 rfl (zdec_at dm_X2_paintDraft 16 rfl) rfl ?_
        refine zr_iald C ai_8 o2 (zdec_at dm_X2_paintDraft 17 rfl) ?_
        refine zr_istore (L1 := [(4, zI (M5 8 a1)), (0, zRf (zad Γ) 5), (1, zI a1), (2, zI a2), (3, zI v3)]) C (zdec_at dm_X2_paintDraft 18 rfl) (Nat.le_of_ble_eq_true rfl) rfl ?_
        obtain ⟨I30, ⟨n23, q24⟩, hI22⟩ := h
        have lp21 : ∀ (n19 : Nat) (v15 : Int) (M17 : zM), I30 v15 M17 n19 → zin v15 → zRng M17 → zV Γ mu_X2_paintDraft (145, 0, 0) 30 [(0, zRf (zad Γ) 5), (1, zI a1), (2, zI a2), (3, zI v3), (4, zI v15)] [] M17 := by
          intro n19
          induction n19 using Nat.strongRecOn with
          | _ n19 ih20 =>
          intro v15 M17 q25 z16 hR18
          have h := hI22 v15 M17 n19 q25 z16 hR18
          refine zr_iload C 4 rfl (zdec_at dm_X2_paintDraft 19 rfl) ?_
          refine zr_aload_n C 0 rfl (zdec_at dm_X2_paintDraft 20 rfl) rfl ?_
          refine zr_getr (q := 10) C fk_RX2_24 fi_5_7 (zdec_at dm_X2_paintDraft 21 rfl) ?_
          refine zr_iload_n C 1 rfl (zdec_at dm_X2_paintDraft 22 rfl) rfl ?_
          refine zr_iald C ai_10 o2 (zdec_at dm_X2_paintDraft 23 rfl) ?_
          refine zr_icmp_gt C z16 (hR18 _ _) (zdec_at dm_X2_paintDraft 24 rfl) rfl (fun g26 => ?_) (fun g26 => ?_)
          · have h := h.1 g26
            refine zr_iinc (L1 := [(3, zI (v3 + 1)), (0, zRf (zad Γ) 5), (1, zI a1), (2, zI a2), (4, zI v15)]) C 3 rfl (zdec_at dm_X2_paintDraft 44 rfl) (Nat.le_of_ble_eq_true rfl) rfl ?_
            refine zr_goto C (zdec_at dm_X2_paintDraft 45 rfl) rfl ?_
            obtain ⟨o27, h⟩ := h
            obtain ⟨n28, q29, q30⟩ := h
            exact zr_sub [1, 2, 3, 0] rfl (ih8 n28 q29 _ _ q30 o27 hR18)
          · have h := h.2 g26
            refine zr_aload_n C 0 rfl (zdec_at dm_X2_paintDraft 25 rfl) rfl ?_
            refine zr_iload C 4 rfl (zdec_at dm_X2_paintDraft 26 rfl) ?_
            refine zr_iload_n C 3 rfl (zdec_at dm_X2_paintDraft 27 rfl) rfl ?_
            obtain ⟨g36, h⟩ := h
            refine zr_callV C [v15, v3] hS_X2_faceAt ck_RX2_71 iv_X2_faceAt vc_X2 oc_5 rfl rfl (zdec_at dm_X2_paintDraft 28 rfl) ⟨rfl, rfl, rfl, rfl⟩ ⟨by decide, by decide⟩ (Nat.le_of_ble_eq_true rfl) (zall_0 z16 (zall_0 z4 zall_n)) ?_
            refine ⟨_, _, rfl, g36, fun r31 M32 p35 z34 hR33 => ?_⟩
            have h := h r31 M32 p35 z34 hR33
            show zV Γ mu_X2_paintDraft (145, 0, 0) 48 [(0, zRf (zad Γ) 5), (1, zI a1), (2, zI a2), (3, zI v3), (4, zI v15)] [zI r31] M32
            refine zr_iload_n C 1 rfl (zdec_at dm_X2_paintDraft 29 rfl) rfl ?_
            refine zr_icmp_ne C z34 zz_a1 (zdec_at dm_X2_paintDraft 30 rfl) rfl (fun g37 => ?_) (fun g37 => ?_)
            · have h := h.1 g37
              refine zr_iinc (L1 := [(4, zI (v15 + 1)), (0, zRf (zad Γ) 5), (1, zI a1), (2, zI a2), (3, zI v3)]) C 4 rfl (zdec_at dm_X2_paintDraft 42 rfl) (Nat.le_of_ble_eq_true rfl) rfl ?_
              refine zr_goto C (zdec_at dm_X2_paintDraft 43 rfl) rfl ?_
              obtain ⟨o38, h⟩ := h
              obtain ⟨n39, q40, q41⟩ := h
              exact zr_sub [1, 2, 3, 4, 0] rfl (ih20 n39 q40 _ _ q41 o38 hR33)
            · have h := h.2 g37
              refine zr_aload_n C 0 rfl (zdec_at dm_X2_paintDraft 31 rfl) rfl ?_
              refine zr_getr (q := 1) C fk_RX2_45 fi_5_0 (zdec_at dm_X2_paintDraft 32 rfl) ?_
              refine zr_getr (q := 4) C fk_RX2_113 fi_1_6 (zdec_at dm_X2_paintDraft 33 rfl) ?_
              refine zr_bipush C (zdec_at dm_X2_paintDraft 34 rfl) (by decide) ?_
              refine zr_iload_n C 3 rfl (zdec_at dm_X2_paintDraft 35 rfl) rfl ?_
              refine zr_imul C (zdec_at dm_X2_paintDraft 36 rfl) ?_
              refine zr_iload C 4 rfl (zdec_at dm_X2_paintDraft 37 rfl) ?_
              refine zr_iadd C (zdec_at dm_X2_paintDraft 38 rfl) ?_
              refine zr_iload_n C 2 rfl (zdec_at dm_X2_paintDraft 39 rfl) rfl ?_
              refine zr_i2b C (zdec_at dm_X2_paintDraft 40 rfl) ?_
              obtain ⟨o42, h⟩ := h
              refine zr_bast C ai_4 o42 (z_bm _ (by decide) (by decide)) Int.bmod_bmod rfl (zdec_at dm_X2_paintDraft 41 rfl) (fun M43 e44 => ?_)
              have h := h M43 e44
              have hR45 : zRng M43 := by rw [e44]; exact hR33.set (z_bm _ (by decide) (by decide)) _ _
              refine zr_iinc (L1 := [(4, zI (v15 + 1)), (0, zRf (zad Γ) 5), (1, zI a1), (2, zI a2), (3, zI v3)]) C 4 rfl (zdec_at dm_X2_paintDraft 42 rfl) (Nat.le_of_ble_eq_true rfl) rfl ?_
              refine zr_goto C (zdec_at dm_X2_paintDraft 43 rfl) rfl ?_
              obtain ⟨o46, h⟩ := h
              obtain ⟨n47, q48, q49⟩ := h
              exact zr_sub [1, 2, 3, 4, 0] rfl (ih20 n47 q48 _ _ q49 o46 hR45)
        exact zr_sub [1, 2, 3, 4, 0] rfl (lp21 n23 _ _ q24 (hR6 _ _) hR6)
    exact zr_sub [1, 2, 3, 0] rfl (lp9 n11 _ _ q12 (hR _ _) hR)
  · have h := h.2 g1
    exact zr_return C rfl rfl (zdec_at dm_X2_paintDraft 2 rfl) rfl ⟨by decide, h⟩

set_option maxHeartbeats 400000 in
set_option maxRecDepth 100000 in
theorem sn_X2_markHoles {pr_X2_width : Int → zM → Prop} {po_X2_width : Int → zM → Int → zM → Prop} {pr_X2_height : Int → zM → Prop} {po_X2_height : Int → zM → Int → zM → Prop} {pr_X2_spreadMark : Int → Int → Int → zM → Prop} {po_X2_spreadMark : Int → Int → Int → zM → zM → Prop} {pr_X2_faceAt : Int → Int → zM → Prop} {po_X2_faceAt : Int → Int → zM → Int → zM → Prop} (hS_X2_width : zSnd zS 145 0 0 yX2_width cX2_width 2 (some .int) 0 [2, 0] (F_X2_width pr_X2_width po_X2_width)) (hS_X2_height : zSnd zS 145 0 0 yX2_height cX2_height 2 (some .int) 0 [2, 0] (F_X2_height pr_X2_height po_X2_height)) (hS_X2_spreadMark : zSnd zS 145 0 0 yX2_spreadMark cX2_spreadMark 12 none 1 [2, 0, 0, 0] (F_X2_spreadMark pr_X2_spreadMark po_X2_spreadMark)) (hS_X2_faceAt : zSnd zS 145 0 0 yX2_faceAt cX2_faceAt 3 (some .int) 0 [2, 0, 0] (F_X2_faceAt pr_X2_faceAt po_X2_faceAt)) : zSnd zS 145 0 0 yX2_markHoles cX2_markHoles 5 (some .int) 2 [2, 0] (fun xs P M => ∃ a1 : Int, xs = [5, a1] ∧ vc_X2_markHoles pr_X2_width po_X2_width pr_X2_height po_X2_height pr_X2_spreadMark po_X2_spreadMark pr_X2_faceAt po_X2_faceAt a1 P M) := by
  refine zSnd.of rfl (fun ad xs hz => Nat.le_trans (Nat.le_of_eq (zlen ad _ xs hz)) (by decide)) ?_
  intro Γ C _ _ xs M hz hF
  obtain ⟨a1, rfl, h⟩ := hF
  have zz_a1 := zall_h (zall_t hz) (by decide)
  refine zr_rng (fun hR => ?_)
  have C : zC Γ mu_X2_markHoles := C
  change zV Γ mu_X2_markHoles (145, 0, 0) 0 [(0, zRf (zad Γ) 5), (1, zI a1)] [] M
  change vc_X2_markHoles pr_X2_width po_X2_width pr_X2_height po_X2_height pr_X2_spreadMark po_X2_spreadMark pr_X2_faceAt po_X2_faceAt a1 _ M at h
  unfold vc_X2_markHoles at h
  refine zr_aload_n C 0 rfl (zdec_at dm_X2_markHoles 0 rfl) rfl ?_
  refine zr_aload_n C 0 rfl (zdec_at dm_X2_markHoles 1 rfl) rfl ?_
  refine zr_getr (q := 8) C fk_RX2_18 fi_5_5 (zdec_at dm_X2_markHoles 2 rfl) ?_
  refine zr_iload_n C 1 rfl (zdec_at dm_X2_markHoles 3 rfl) rfl ?_
  obtain ⟨o1, h⟩ := h
  refine zr_iald C ai_8 o1 (zdec_at dm_X2_markHoles 4 rfl) ?_
  refine zr_iconst C (zdec_at dm_X2_markHoles 5 rfl) ?_
  refine zr_isub C (zdec_at dm_X2_markHoles 6 rfl) ?_
  obtain ⟨o2, h⟩ := h
  refine zr_puti C fk_RX2_117 fi_5_14 o2 (zdec_at dm_X2_markHoles 7 rfl) (fun M3 e4 => ?_)
  have h := h M3 e4
  have hR5 : zRng M3 := by rw [e4]; exact hR.set o2 _ _
  refine zr_aload_n C 0 rfl (zdec_at dm_X2_markHoles 8 rfl) rfl ?_
  refine zr_aload_n C 0 rfl (zdec_at dm_X2_markHoles 9 rfl) rfl ?_
  refine zr_getr (q := 9) C fk_RX2_21 fi_5_6 (zdec_at dm_X2_markHoles 10 rfl) ?_
  refine zr_iload_n C 1 rfl (zdec_at dm_X2_markHoles 11 rfl) rfl ?_
  refine zr_iald C ai_9 o1 (zdec_at dm_X2_markHoles 12 rfl) ?_
  refine zr_iconst C (zdec_at dm_X2_markHoles 13 rfl) ?_
  refine zr_isub C (zdec_at dm_X2_markHoles 14 rfl) ?_
  obtain ⟨o6, h⟩ := h
  refine zr_puti C fk_RX2_120 fi_5_15 o6 (zdec_at dm_X2_markHoles 15 rfl) (fun M7 e8 => ?_)
  have h := h M7 e8
  have hR9 : zRng M7 := by rw [e8]; exact hR5.set o6 _ _
  refine zr_aload_n C 0 rfl (zdec_at dm_X2_markHoles 16 rfl) rfl ?_
  refine zr_aload_n C 0 rfl (zdec_at dm_X2_markHoles 17 rfl) rfl ?_
  refine zr_iload_n C 1 rfl (zdec_at dm_X2_markHoles 18 rfl) rfl ?_
  obtain ⟨g15, h⟩ := h
  refine zr_callV C [a1] hS_X2_width ck_RX2_123 iv_X2_width vc_X2 oc_5 rfl rfl (zdec_at dm_X2_markHoles 19 rfl) ⟨rfl, rfl, rfl, rfl⟩ ⟨by decide, by decide⟩ (Nat.le_of_ble_eq_true rfl) (zall_0 zz_a1 zall_n) ?_
  refine ⟨_, rfl, g15, fun r10 M11 p14 z13 hR12 => ?_⟩
  have h := h r10 M11 p14 z13 hR12
  show zV Γ mu_X2_markHoles (145, 0, 0) 30 [(0, zRf (zad Γ) 5), (1, zI a1)] [zI r10, zRf (zad Γ) 5] M11
  refine zr_iconst C (zdec_at dm_X2_markHoles 20 rfl) ?_
  refine zr_iadd C (zdec_at dm_X2_markHoles 21 rfl) ?_
  obtain ⟨o16, h⟩ := h
  refine zr_puti C fk_RX2_127 fi_5_16 o16 (zdec_at dm_X2_markHoles 22 rfl) (fun M17 e18 => ?_)
  have h := h M17 e18
  have hR19 : zRng M17 := by rw [e18]; exact hR12.set o16 _ _
  refine zr_aload_n C 0 rfl (zdec_at dm_X2_markHoles 23 rfl) rfl ?_
  refine zr_aload_n C 0 rfl (zdec_at dm_X2_markHoles 24 rfl) rfl ?_
  refine zr_iload_n C 1 rfl (zdec_at dm_X2_markHoles 25 rfl) rfl ?_
  obtain ⟨g25, h⟩ := h
  refine zr_callV C [a1] hS_X2_height ck_RX2_130 iv_X2_height vc_X2 oc_5 rfl rfl (zdec_at dm_X2_markHoles 26 rfl) ⟨rfl, rfl, rfl, rfl⟩ ⟨by decide, by decide⟩ (Nat.le_of_ble_eq_true rfl) (zall_0 zz_a1 zall_n) ?_
  refine ⟨_, rfl, g25, fun r20 M21 p24 z23 hR22 => ?_⟩
  have h := h r20 M21 p24 z23 hR22
  show zV Γ mu_X2_markHoles (145, 0, 0) 41 [(0, zRf (zad Γ) 5), (1, zI a1)] [zI r20, zRf (zad Γ) 5] M21
  refine zr_iconst C (zdec_at dm_X2_markHoles 27 rfl) ?_
  refine zr_iadd C (zdec_at dm_X2_markHoles 28 rfl) ?_
  obtain ⟨o26, h⟩ := h
  refine zr_puti C fk_RX2_133 fi_5_17 o26 (zdec_at dm_X2_markHoles 29 rfl) (fun M27 e28 => ?_)
  have h := h M27 e28
  have hR29 : zRng M27 := by rw [e28]; exact hR22.set o26 _ _
  refine zr_iconst C (zdec_at dm_X2_markHoles 30 rfl) ?_
  refine zr_istore_n (L1 := [(2, zI 0), (0, zRf (zad Γ) 5), (1, zI a1)]) C (zdec_at dm_X2_markHoles 31 rfl) rfl (Nat.le_of_ble_eq_true rfl) rfl ?_
  obtain ⟨I48, ⟨n38, q39⟩, hI37⟩ := h
  have lp36 : ∀ (n34 : Nat) (v30 : Int) (M32 : zM), I48 v30 M32 n34 → zin v30 → zRng M32 → zV Γ mu_X2_markHoles (145, 0, 0) 48 [(0, zRf (zad Γ) 5), (1, zI a1), (2, zI v30)] [] M32 := by
    intro n34
    induction n34 using Nat.strongRecOn with
    | _ n34 ih35 =>
    intro v30 M32 q40 z31 hR33
    have h := hI37 v30 M32 n34 q40 z31 hR33
    refine zr_iload_n C 2 rfl (zdec_at dm_X2_markHoles 32 rfl) rfl ?_
    refine zr_aload_n C 0 rfl (zdec_at dm_X2_markHoles 33 rfl) rfl ?_
    refine zr_geti C fk_RX2_133 fi_5_17 (zdec_at dm_X2_markHoles 34 rfl) ?_
    refine zr_icmp_ge C z31 (hR33 _ _) (zdec_at dm_X2_markHoles 35 rfl) rfl (fun g41 => ?_) (fun g41 => ?_)
    · have h := h.1 g41
      refine zr_iconst C (zdec_at dm_X2_markHoles 69 rfl) ?_
      refine zr_istore_n (L1 := [(2, zI 0), (0, zRf (zad Γ) 5), (1, zI a1)]) C (zdec_at dm_X2_markHoles 70 rfl) rfl (Nat.le_of_ble_eq_true rfl) rfl ?_
      refine zr_iconst C (zdec_at dm_X2_markHoles 71 rfl) ?_
      refine zr_istore_n (L1 := [(3, zI 0), (2, zI 0), (0, zRf (zad Γ) 5), (1, zI a1)]) C (zdec_at dm_X2_markHoles 72 rfl) rfl (Nat.le_of_ble_eq_true rfl) rfl ?_
      obtain ⟨I118, ⟨n52, q53⟩, hI51⟩ := h
      have lp50 : ∀ (n48 : Nat) (v42 : Int) (v43 : Int) (M46 : zM), I118 v42 v43 M46 n48 → zin v42 → zin v43 → zRng M46 → zV Γ mu_X2_markHoles (145, 0, 0) 118 [(0, zRf (zad Γ) 5), (2, zI v42), (3, zI v43)] [] M46 := by
        intro n48
        induction n48 using Nat.strongRecOn with
        | _ n48 ih49 =>
        intro v42 v43 M46 q54 z44 z45 hR47
        have h := hI51 v42 v43 M46 n48 q54 z44 z45 hR47
        refine zr_iload_n C 2 rfl (zdec_at dm_X2_markHoles 73 rfl) rfl ?_
        refine zr_aload_n C 0 rfl (zdec_at dm_X2_markHoles 74 rfl) rfl ?_
        refine zr_geti C fk_RX2_133 fi_5_17 (zdec_at dm_X2_markHoles 75 rfl) ?_
        refine zr_icmp_ge C z45 (hR47 _ _) (zdec_at dm_X2_markHoles 76 rfl) rfl (fun g55 => ?_) (fun g55 => ?_)
        · have h := h.1 g55
          refine zr_iload_n C 1 rfl (zdec_at dm_X2_markHoles 102 rfl) rfl ?_
          refine zr_iconst C (zdec_at dm_X2_markHoles 103 rfl) ?_
          refine zr_isub C (zdec_at dm_X2_markHoles 104 rfl) ?_
          obtain ⟨o56, h⟩ := h
          exact zr_ireturn C rfl (zdec_at dm_X2_markHoles 105 rfl) rfl ⟨o56, h⟩
        · have h := h.2 g55
          refine zr_iconst C (zdec_at dm_X2_markHoles 77 rfl) ?_
          refine zr_istore (L1 := [(4, zI 0), (0, zRf (zad Γ) 5), (2, zI v42), (3, zI v43)]) C (zdec_at dm_X2_markHoles 78 rfl) (Nat.le_of_ble_eq_true rfl) rfl ?_
          obtain ⟨I129, ⟨n67, q68⟩, hI66⟩ := h
          have lp65 : ∀ (n63 : Nat) (v57 : Int) (v58 : Int) (M61 : zM), I129 v57 v58 M61 n63 → zin v57 → zin v58 → zRng M61 → zV Γ mu_X2_markHoles (145, 0, 0) 129 [(0, zRf (zad Γ) 5), (2, zI v57), (3, zI v43), (4, zI v58)] [] M61 := by
            intro n63
            induction n63 using Nat.strongRecOn with
            | _ n63 ih64 =>
            intro v57 v58 M61 q69 z59 z60 hR62
            have h := hI66 v57 v58 M61 n63 q69 z59 z60 hR62
            refine zr_iload C 3 rfl (zdec_at dm_X2_markHoles 79 rfl) ?_
            refine zr_aload_n C 0 rfl (zdec_at dm_X2_markHoles 80 rfl) rfl ?_
            refine zr_geti C fk_RX2_127 fi_5_16 (zdec_at dm_X2_markHoles 81 rfl) ?_
            refine zr_icmp_ge C z60 (hR62 _ _) (zdec_at dm_X2_markHoles 82 rfl) rfl (fun g70 => ?_) (fun g70 => ?_)
            · have h := h.1 g70
              refine zr_iinc (L1 := [(3, zI (v43 + 1)), (0, zRf (zad Γ) 5), (2, zI v57), (4, zI v58)]) C 2 rfl (zdec_at dm_X2_markHoles 100 rfl) (Nat.le_of_ble_eq_true rfl) rfl ?_
              refine zr_goto C (zdec_at dm_X2_markHoles 101 rfl) rfl ?_
              obtain ⟨o71, h⟩ := h
              obtain ⟨n72, q73, q74⟩ := h
              exact zr_sub [1, 2, 0] rfl (ih49 n72 q73 _ _ _ q74 z59 o71 hR62)
            · have h := h.2 g70
              refine zr_aload_n C 0 rfl (zdec_at dm_X2_markHoles 83 rfl) rfl ?_
              refine zr_getr (q := 16) C fk_RX2_42 fi_5_13 (zdec_at dm_X2_markHoles 84 rfl) ?_
              refine zr_bipush C (zdec_at dm_X2_markHoles 85 rfl) (by decide) ?_
              refine zr_iload_n C 2 rfl (zdec_at dm_X2_markHoles 86 rfl) rfl ?_
              refine zr_imul C (zdec_at dm_X2_markHoles 87 rfl) ?_
              refine zr_iload C 3 rfl (zdec_at dm_X2_markHoles 88 rfl) ?_
              refine zr_iadd C (zdec_at dm_X2_markHoles 89 rfl) ?_
              obtain ⟨o75, h⟩ := h
              refine zr_iald C ai_16 o75 (zdec_at dm_X2_markHoles 90 rfl) ?_
              refine zr_if_ne C (hR62 _ _) (zdec_at dm_X2_markHoles 91 rfl) rfl (fun g76 => ?_) (fun g76 => ?_)
              · have h := h.1 g76
                refine zr_iinc (L1 := [(4, zI (v58 + 1)), (0, zRf (zad Γ) 5), (2, zI v57), (3, zI v43)]) C 3 rfl (zdec_at dm_X2_markHoles 98 rfl) (Nat.le_of_ble_eq_true rfl) rfl ?_
                refine zr_goto C (zdec_at dm_X2_markHoles 99 rfl) rfl ?_
                obtain ⟨o77, h⟩ := h
                obtain ⟨n78, q79, q80⟩ := h
                exact zr_sub [1, 2, 3, 0] rfl (ih64 n78 q79 _ _ _ q80 z59 o77 hR62)
              · have h := h.2 g76
                refine zr_iinc (L1 := [(2, zI (v57 + 1)), (0, zRf (zad Γ) 5), (3, zI v43), (4, zI v58)]) C 1 rfl (zdec_at dm_X2_markHoles 92 rfl) (Nat.le_of_ble_eq_true rfl) rfl ?_
                refine zr_aload_n C 1 rfl (zdec_at dm_X2_markHoles 93 rfl) rfl ?_
                refine zr_iload C 3 rfl (zdec_at dm_X2_markHoles 94 rfl) ?_
                refine zr_iload_n C 2 rfl (zdec_at dm_X2_markHoles 95 rfl) rfl ?_
                refine zr_iload_n C 0 rfl (zdec_at dm_X2_markHoles 96 rfl) rfl ?_
                obtain ⟨o81, h⟩ := h
                obtain ⟨g86, h⟩ := h
                refine zr_callV C [v58, v43, (v57 + 1)] hS_X2_spreadMark ck_RX2_136 iv_X2_spreadMark vc_X2 oc_5 rfl rfl (zdec_at dm_X2_markHoles 97 rfl) ⟨rfl, rfl, rfl, rfl⟩ ⟨by decide, by decide⟩ (Nat.le_of_ble_eq_true rfl) (zall_0 z60 (zall_0 z45 (zall_0 o81 zall_n))) ?_
                refine ⟨_, _, _, rfl, g86, fun M82 p85 _ hR83 => ?_⟩
                have h := h M82 p85 hR83
                show zV Γ mu_X2_markHoles (145, 0, 0) 164 [(2, zI (v57 + 1)), (0, zRf (zad Γ) 5), (3, zI v43), (4, zI v58)] [] M82
                refine zr_iinc (L1 := [(4, zI (v58 + 1)), (2, zI (v57 + 1)), (0, zRf (zad Γ) 5), (3, zI v43)]) C 3 rfl (zdec_at dm_X2_markHoles 98 rfl) (Nat.le_of_ble_eq_true rfl) rfl ?_
                refine zr_goto C (zdec_at dm_X2_markHoles 99 rfl) rfl ?_
                obtain ⟨o87, h⟩ := h
                obtain ⟨n88, q89, q90⟩ := h
                exact zr_sub [2, 1, 3, 0] rfl (ih64 n88 q89 _ _ _ q90 o81 o87 hR83)
          exact zr_sub [1, 2, 3, 0] rfl (lp65 n67 _ _ _ q68 z44 (by decide) hR47)
      exact zr_sub [2, 1, 0] rfl (lp50 n52 _ _ _ q53 (by decide) (by decide) hR33)
    · have h := h.2 g41
      refine zr_iconst C (zdec_at dm_X2_markHoles 36 rfl) ?_
      refine zr_istore_n (L1 := [(3, zI 0), (0, zRf (zad Γ) 5), (1, zI a1), (2, zI v30)]) C (zdec_at dm_X2_markHoles 37 rfl) rfl (Nat.le_of_ble_eq_true rfl) rfl ?_
      obtain ⟨I58, ⟨n99, q100⟩, hI98⟩ := h
      have lp97 : ∀ (n95 : Nat) (v91 : Int) (M93 : zM), I58 v91 M93 n95 → zin v91 → zRng M93 → zV Γ mu_X2_markHoles (145, 0, 0) 58 [(0, zRf (zad Γ) 5), (1, zI a1), (2, zI v30), (3, zI v91)] [] M93 := by
        intro n95
        induction n95 using Nat.strongRecOn with
        | _ n95 ih96 =>
        intro v91 M93 q101 z92 hR94
        have h := hI98 v91 M93 n95 q101 z92 hR94
        refine zr_iload_n C 3 rfl (zdec_at dm_X2_markHoles 38 rfl) rfl ?_
        refine zr_aload_n C 0 rfl (zdec_at dm_X2_markHoles 39 rfl) rfl ?_
        refine zr_geti C fk_RX2_127 fi_5_16 (zdec_at dm_X2_markHoles 40 rfl) ?_
        refine zr_icmp_ge C z92 (hR94 _ _) (zdec_at dm_X2_markHoles 41 rfl) rfl (fun g102 => ?_) (fun g102 => ?_)
        · have h := h.1 g102
          refine zr_iinc (L1 := [(2, zI (v30 + 1)), (0, zRf (zad Γ) 5), (1, zI a1), (3, zI v91)]) C 2 rfl (zdec_at dm_X2_markHoles 67 rfl) (Nat.le_of_ble_eq_true rfl) rfl ?_
          refine zr_goto C (zdec_at dm_X2_markHoles 68 rfl) rfl ?_
          obtain ⟨o103, h⟩ := h
          obtain ⟨n104, q105, q106⟩ := h
          exact zr_sub [1, 2, 0] rfl (ih35 n104 q105 _ _ q106 o103 hR94)
        · have h := h.2 g102
          refine zr_aload_n C 0 rfl (zdec_at dm_X2_markHoles 42 rfl) rfl ?_
          refine zr_getr (q := 16) C fk_RX2_42 fi_5_13 (zdec_at dm_X2_markHoles 43 rfl) ?_
          refine zr_bipush C (zdec_at dm_X2_markHoles 44 rfl) (by decide) ?_
          refine zr_iload_n C 2 rfl (zdec_at dm_X2_markHoles 45 rfl) rfl ?_
          refine zr_imul C (zdec_at dm_X2_markHoles 46 rfl) ?_
          refine zr_iload_n C 3 rfl (zdec_at dm_X2_markHoles 47 rfl) rfl ?_
          refine zr_iadd C (zdec_at dm_X2_markHoles 48 rfl) ?_
          refine zr_aload_n C 0 rfl (zdec_at dm_X2_markHoles 49 rfl) rfl ?_
          refine zr_aload_n C 0 rfl (zdec_at dm_X2_markHoles 50 rfl) rfl ?_
          refine zr_geti C fk_RX2_117 fi_5_14 (zdec_at dm_X2_markHoles 51 rfl) ?_
          refine zr_iload_n C 3 rfl (zdec_at dm_X2_markHoles 52 rfl) rfl ?_
          refine zr_iadd C (zdec_at dm_X2_markHoles 53 rfl) ?_
          refine zr_aload_n C 0 rfl (zdec_at dm_X2_markHoles 54 rfl) rfl ?_
          refine zr_geti C fk_RX2_120 fi_5_15 (zdec_at dm_X2_markHoles 55 rfl) ?_
          refine zr_iload_n C 2 rfl (zdec_at dm_X2_markHoles 56 rfl) rfl ?_
          refine zr_iadd C (zdec_at dm_X2_markHoles 57 rfl) ?_
          obtain ⟨o107, h⟩ := h
          obtain ⟨o108, h⟩ := h
          obtain ⟨g114, h⟩ := h
          refine zr_callV C [((M93 5 14) + v91), ((M93 5 15) + v30)] hS_X2_faceAt ck_RX2_71 iv_X2_faceAt vc_X2 oc_5 rfl rfl (zdec_at dm_X2_markHoles 58 rfl) ⟨rfl, rfl, rfl, rfl⟩ ⟨by decide, by decide⟩ (Nat.le_of_ble_eq_true rfl) (zall_0 o108 (zall_0 o107 zall_n)) ?_
          refine ⟨_, _, rfl, g114, fun r109 M110 p113 z112 hR111 => ?_⟩
          have h := h r109 M110 p113 z112 hR111
          show zV Γ mu_X2_markHoles (145, 0, 0) 92 [(0, zRf (zad Γ) 5), (1, zI a1), (2, zI v30), (3, zI v91)] [zI r109, zI ((18 * v30) + v91), zRf (zad Γ) 16] M110
          refine zr_iload_n C 1 rfl (zdec_at dm_X2_markHoles 59 rfl) rfl ?_
          refine zr_icmp_ne C z112 zz_a1 (zdec_at dm_X2_markHoles 60 rfl) rfl (fun g115 => ?_) (fun g115 => ?_)
          · have h := h.1 g115
            refine zr_iconst C (zdec_at dm_X2_markHoles 63 rfl) ?_
            obtain ⟨o116, h⟩ := h
            refine zr_iast C ai_16 o116 (by decide) (zdec_at dm_X2_markHoles 64 rfl) (fun M117 e118 => ?_)
            have h := h M117 e118
            have hR119 : zRng M117 := by rw [e118]; exact hR111.set (by decide) _ _
            refine zr_iinc (L1 := [(3, zI (v91 + 1)), (0, zRf (zad Γ) 5), (1, zI a1), (2, zI v30)]) C 3 rfl (zdec_at dm_X2_markHoles 65 rfl) (Nat.le_of_ble_eq_true rfl) rfl ?_
            refine zr_goto C (zdec_at dm_X2_markHoles 66 rfl) rfl ?_
            obtain ⟨o120, h⟩ := h
            obtain ⟨n121, q122, q123⟩ := h
            exact zr_sub [1, 2, 3, 0] rfl (ih96 n121 q122 _ _ q123 o120 hR119)
          · have h := h.2 g115
            refine zr_iconst C (zdec_at dm_X2_markHoles 61 rfl) ?_
            refine zr_goto C (zdec_at dm_X2_markHoles 62 rfl) rfl ?_
            obtain ⟨o124, h⟩ := h
            refine zr_iast C ai_16 o124 (by decide) (zdec_at dm_X2_markHoles 64 rfl) (fun M125 e126 => ?_)
            have h := h M125 e126
            have hR127 : zRng M125 := by rw [e126]; exact hR111.set (by decide) _ _
            refine zr_iinc (L1 := [(3, zI (v91 + 1)), (0, zRf (zad Γ) 5), (1, zI a1), (2, zI v30)]) C 3 rfl (zdec_at dm_X2_markHoles 65 rfl) (Nat.le_of_ble_eq_true rfl) rfl ?_
            refine zr_goto C (zdec_at dm_X2_markHoles 66 rfl) rfl ?_
            obtain ⟨o128, h⟩ := h
            obtain ⟨n129, q130, q131⟩ := h
            exact zr_sub [1, 2, 3, 0] rfl (ih96 n129 q130 _ _ q131 o128 hR127)
      exact zr_sub [1, 2, 3, 0] rfl (lp97 n99 _ _ q100 (by decide) hR33)
  exact zr_sub [1, 2, 0] rfl (lp36 n38 _ _ q39 (by decide) hR29)

set_option maxHeartbeats 400000 in
set_option maxRecDepth 100000 in
theorem sn_X2_spreadMark {pr_X2_isMark : Int → Int → zM → Prop} {po_X2_isMark : Int → Int → zM → Int → zM → Prop} (hS_X2_isMark : zSnd zS 145 0 0 yX2_isMark cX2_isMark 3 (some .boolean) 0 [2, 0, 0] (F_X2_isMark pr_X2_isMark po_X2_isMark)) : zSnd zS 145 0 0 yX2_spreadMark cX2_spreadMark 12 none 1 [2, 0, 0, 0] (fun xs P M => ∃ a1 a2 a3 : Int, xs = [5, a1, a2, a3] ∧ vc_X2_spreadMark pr_X2_isMark po_X2_isMark a1 a2 a3 P M) := by
  refine zSnd.of rfl (fun ad xs hz => Nat.le_trans (Nat.le_of_eq (zlen ad _ xs hz)) (by decide)) ?_
  intro Γ C _ _ xs M hz hF
  obtain ⟨a1, a2, a3, rfl, h⟩ := hF
  have zz_a1 := zall_h (zall_t hz) (by decide)
  have zz_a2 := zall_h (zall_t (zall_t hz)) (by decide)
  have zz_a3 := zall_h (zall_t (zall_t (zall_t hz))) (by decide)
  refine zr_rng (fun hR => ?_)
  have C : zC Γ mu_X2_spreadMark := C
  change zV Γ mu_X2_spreadMark (145, 0, 0) 0 [(0, zRf (zad Γ) 5), (1, zI a1), (2, zI a2), (3, zI a3)] [] M
  change vc_X2_spreadMark pr_X2_isMark po_X2_isMark a1 a2 a3 _ M at h
  unfold vc_X2_spreadMark at h
  refine zr_aload_n C 0 rfl (zdec_at dm_X2_spreadMark 0 rfl) rfl ?_
  refine zr_getr (q := 1) C fk_RX2_45 fi_5_0 (zdec_at dm_X2_spreadMark 1 rfl) ?_
  refine zr_geti C fk_RX2_82 fi_1_2 (zdec_at dm_X2_spreadMark 2 rfl) ?_
  have h := h (fun v1 => zin v1 → zV Γ mu_X2_spreadMark (145, 0, 0) 16 [(0, zRf (zad Γ) 5), (1, zI a1), (2, zI a2), (3, zI a3)] [zI v1] M) (fun v1 h z2 => by
    have h := h z2
    refine zr_istore (L1 := [(4, zI v1), (0, zRf (zad Γ) 5), (1, zI a1), (2, zI a2), (3, zI a3)]) C (zdec_at dm_X2_spreadMark 7 rfl) (Nat.le_of_ble_eq_true rfl) rfl ?_
    refine zr_aload_n C 1 rfl (zdec_at dm_X2_spreadMark 8 rfl) rfl ?_
    refine zr_getr (q := 16) C fk_RX2_42 fi_5_13 (zdec_at dm_X2_spreadMark 9 rfl) ?_
    refine zr_bipush C (zdec_at dm_X2_spreadMark 10 rfl) (by decide) ?_
    refine zr_iload_n C 3 rfl (zdec_at dm_X2_spreadMark 11 rfl) rfl ?_
    refine zr_imul C (zdec_at dm_X2_spreadMark 12 rfl) ?_
    refine zr_iload_n C 2 rfl (zdec_at dm_X2_spreadMark 13 rfl) rfl ?_
    refine zr_iadd C (zdec_at dm_X2_spreadMark 14 rfl) ?_
    refine zr_iload_n C 4 rfl (zdec_at dm_X2_spreadMark 15 rfl) rfl ?_
    obtain ⟨o3, h⟩ := h
    refine zr_iast C ai_16 o3 zz_a3 (zdec_at dm_X2_spreadMark 16 rfl) (fun M4 e5 => ?_)
    have h := h M4 e5
    have hR6 : zRng M4 := by rw [e5]; exact hR.set zz_a3 _ _
    refine zr_aload_n C 1 rfl (zdec_at dm_X2_spreadMark 17 rfl) rfl ?_
    refine zr_getr (q := 13) C fk_RX2_33 fi_5_10 (zdec_at dm_X2_spreadMark 18 rfl) ?_
    refine zr_iconst C (zdec_at dm_X2_spreadMark 19 rfl) ?_
    refine zr_bipush C (zdec_at dm_X2_spreadMark 20 rfl) (by decide) ?_
    refine zr_iload_n C 3 rfl (zdec_at dm_X2_spreadMark 21 rfl) rfl ?_
    refine zr_imul C (zdec_at dm_X2_spreadMark 22 rfl) ?_
    refine zr_iload_n C 2 rfl (zdec_at dm_X2_spreadMark 23 rfl) rfl ?_
    refine zr_iadd C (zdec_at dm_X2_spreadMark 24 rfl) ?_
    obtain ⟨o7, h⟩ := h
    refine zr_iast C ai_13 ⟨by decide, by decide⟩ o7 (zdec_at dm_X2_spreadMark 25 rfl) (fun M8 e9 => ?_)
    have h := h M8 e9
    have hR10 : zRng M8 := by rw [e9]; exact hR6.set o7 _ _
    refine zr_iconst C (zdec_at dm_X2_spreadMark 26 rfl) ?_
    refine zr_istore (L1 := [(5, zI 1), (4, zI v1), (0, zRf (zad Γ) 5), (1, zI a1), (2, zI a2), (3, zI a3)]) C (zdec_at dm_X2_spreadMark 27 rfl) (Nat.le_of_ble_eq_true rfl) rfl ?_
    refine zr_iconst C (zdec_at dm_X2_spreadMark 28 rfl) ?_
    refine zr_istore (L1 := [(6, zI 0), (5, zI 1), (4, zI v1), (0, zRf (zad Γ) 5), (1, zI a1), (2, zI a2), (3, zI a3)]) C (zdec_at dm_X2_spreadMark 29 rfl) (Nat.le_of_ble_eq_true rfl) rfl ?_
    obtain ⟨I48, ⟨n21, q22⟩, hI20⟩ := h
    have lp19 : ∀ (n17 : Nat) (v11 : Int) (v12 : Int) (M15 : zM), I48 v11 v12 M15 n17 → zin v11 → zin v12 → zRng M15 → zV Γ mu_X2_spreadMark (145, 0, 0) 48 [(0, zRf (zad Γ) 5), (3, zI a3), (4, zI v1), (5, zI v11), (6, zI v12)] [] M15 := by
      intro n17
      induction n17 using Nat.strongRecOn with
      | _ n17 ih18 =>
      intro v11 v12 M15 q23 z13 z14 hR16
      have h := hI20 v11 v12 M15 n17 q23 z13 z14 hR16
      refine zr_iload C 4 rfl (zdec_at dm_X2_spreadMark 30 rfl) ?_
      refine zr_iload C 3 rfl (zdec_at dm_X2_spreadMark 31 rfl) ?_
      refine zr_icmp_ge C z14 z13 (zdec_at dm_X2_spreadMark 32 rfl) rfl (fun g24 => ?_) (fun g24 => ?_)
      · have h := h.1 g24
        exact zr_return C rfl rfl (zdec_at dm_X2_spreadMark 107 rfl) rfl ⟨by decide, h⟩
      · have h := h.2 g24
        refine zr_iload C 4 rfl (zdec_at dm_X2_spreadMark 33 rfl) ?_
        refine zr_sipush C (zdec_at dm_X2_spreadMark 34 rfl) (by decide) ?_
        refine zr_icmp_ge C z14 (by decide) (zdec_at dm_X2_spreadMark 35 rfl) rfl (fun g25 => ?_) (fun g25 => ?_)
        · have h := h.1 g25
          exact zr_return C rfl rfl (zdec_at dm_X2_spreadMark 107 rfl) rfl ⟨by decide, h⟩
        · have h := h.2 g25
          refine zr_aload_n C 0 rfl (zdec_at dm_X2_spreadMark 36 rfl) rfl ?_
          refine zr_getr (q := 13) C fk_RX2_33 fi_5_10 (zdec_at dm_X2_spreadMark 37 rfl) ?_
          refine zr_iload C 4 rfl (zdec_at dm_X2_spreadMark 38 rfl) ?_
          obtain ⟨o26, h⟩ := h
          refine zr_iald C ai_13 o26 (zdec_at dm_X2_spreadMark 39 rfl) ?_
          refine zr_bipush C (zdec_at dm_X2_spreadMark 40 rfl) (by decide) ?_
          obtain ⟨o27, h⟩ := h
          refine zr_irem C (hR16 _ _) (by decide) ⟨o27, by decide⟩ (zdec_at dm_X2_spreadMark 41 rfl) ?_
          refine zr_istore (L1 := [(7, zI ((M15 13 v12) % 18)), (0, zRf (zad Γ) 5), (3, zI a3), (4, zI v1), (5, zI v11), (6, zI v12)]) C (zdec_at dm_X2_spreadMark 42 rfl) (Nat.le_of_ble_eq_true rfl) rfl ?_
          refine zr_aload_n C 1 rfl (zdec_at dm_X2_spreadMark 43 rfl) rfl ?_
          refine zr_getr (q := 13) C fk_RX2_33 fi_5_10 (zdec_at dm_X2_spreadMark 44 rfl) ?_
          refine zr_iload C 5 rfl (zdec_at dm_X2_spreadMark 45 rfl) ?_
          refine zr_iald C ai_13 o26 (zdec_at dm_X2_spreadMark 46 rfl) ?_
          refine zr_bipush C (zdec_at dm_X2_spreadMark 47 rfl) (by decide) ?_
          refine zr_idiv C (hR16 _ _) (by decide) ⟨o27, by decide⟩ (zdec_at dm_X2_spreadMark 48 rfl) ?_
          refine zr_istore (L1 := [(8, zI ((M15 13 v12) / 18)), (7, zI ((M15 13 v12) % 18)), (0, zRf (zad Γ) 5), (3, zI a3), (4, zI v1), (5, zI v11), (6, zI v12)]) C (zdec_at dm_X2_spreadMark 49 rfl) (Nat.le_of_ble_eq_true rfl) rfl ?_
          refine zr_iconst C (zdec_at dm_X2_spreadMark 50 rfl) ?_
          refine zr_istore (L1 := [(9, zI 0), (8, zI ((M15 13 v12) / 18)), (7, zI ((M15 13 v12) % 18)), (0, zRf (zad Γ) 5), (3, zI a3), (4, zI v1), (5, zI v11), (6, zI v12)]) C (zdec_at dm_X2_spreadMark 51 rfl) (Nat.le_of_ble_eq_true rfl) rfl ?_
          obtain ⟨I90, ⟨n38, q39⟩, hI37⟩ := h
          have lp36 : ∀ (n34 : Nat) (v28 : Int) (v29 : Int) (M32 : zM), I90 v28 v29 M32 n34 → zin v28 → zin v29 → zRng M32 → zV Γ mu_X2_spreadMark (145, 0, 0) 90 [(0, zRf (zad Γ) 5), (3, zI a3), (4, zI v1), (5, zI v28), (6, zI v12), (7, zI ((M15 13 v12) % 18)), (8, zI ((M15 13 v12) / 18)), (9, zI v29)] [] M32 := by
            intro n34
            induction n34 using Nat.strongRecOn with
            | _ n34 ih35 =>
            intro v28 v29 M32 q40 z30 z31 hR33
            have h := hI37 v28 v29 M32 n34 q40 z30 z31 hR33
            refine zr_iload C 7 rfl (zdec_at dm_X2_spreadMark 52 rfl) ?_
            refine zr_iload C 2 rfl (zdec_at dm_X2_spreadMark 53 rfl) ?_
            refine zr_icmp_ge C z31 z2 (zdec_at dm_X2_spreadMark 54 rfl) rfl (fun g41 => ?_) (fun g41 => ?_)
            · have h := h.1 g41
              refine zr_iinc (L1 := [(6, zI (v12 + 1)), (0, zRf (zad Γ) 5), (3, zI a3), (4, zI v1), (5, zI v28), (7, zI ((M15 13 v12) % 18)), (8, zI ((M15 13 v12) / 18)), (9, zI v29)]) C 4 rfl (zdec_at dm_X2_spreadMark 105 rfl) (Nat.le_of_ble_eq_true rfl) rfl ?_
              refine zr_goto C (zdec_at dm_X2_spreadMark 106 rfl) rfl ?_
              obtain ⟨o42, h⟩ := h
              obtain ⟨n43, q44, q45⟩ := h
              exact zr_sub [1, 2, 3, 4, 0] rfl (ih18 n43 q44 _ _ _ q45 z30 o42 hR33)
            · have h := h.2 g41
              refine zr_iload C 5 rfl (zdec_at dm_X2_spreadMark 55 rfl) ?_
              refine zr_gets1 C sk_RX2_88 (zdec_at dm_X2_spreadMark 56 rfl) ?_
              refine zr_iload C 7 rfl (zdec_at dm_X2_spreadMark 57 rfl) ?_
              obtain ⟨o46, h⟩ := h
              refine zr_sald1 C o46 (zdec_at dm_X2_spreadMark 58 rfl) ?_
              refine zr_iadd C (zdec_at dm_X2_spreadMark 59 rfl) ?_
              refine zr_istore (L1 := [(10, zI (((M15 13 v12) % 18) + (zac (Int.toNat v29)))), (0, zRf (zad Γ) 5), (3, zI a3), (4, zI v1), (5, zI v28), (6, zI v12), (7, zI ((M15 13 v12) % 18)), (8, zI ((M15 13 v12) / 18)), (9, zI v29)]) C (zdec_at dm_X2_spreadMark 60 rfl) (Nat.le_of_ble_eq_true rfl) rfl ?_
              refine zr_iload C 7 rfl (zdec_at dm_X2_spreadMark 61 rfl) ?_
              refine zr_gets2 C sk_RX2_91 (zdec_at dm_X2_spreadMark 62 rfl) ?_
              refine zr_iload C 8 rfl (zdec_at dm_X2_spreadMark 63 rfl) ?_
              refine zr_sald2 C o46 (zdec_at dm_X2_spreadMark 64 rfl) ?_
              refine zr_iadd C (zdec_at dm_X2_spreadMark 65 rfl) ?_
              refine zr_istore (L1 := [(11, zI (((M15 13 v12) / 18) + (zdn (Int.toNat v29)))), (10, zI (((M15 13 v12) % 18) + (zac (Int.toNat v29)))), (0, zRf (zad Γ) 5), (3, zI a3), (4, zI v1), (5, zI v28), (6, zI v12), (7, zI ((M15 13 v12) % 18)), (8, zI ((M15 13 v12) / 18)), (9, zI v29)]) C (zdec_at dm_X2_spreadMark 66 rfl) (Nat.le_of_ble_eq_true rfl) rfl ?_
              refine zr_aload_n C 2 rfl (zdec_at dm_X2_spreadMark 67 rfl) rfl ?_
              refine zr_iload C 1 rfl (zdec_at dm_X2_spreadMark 68 rfl) ?_
              refine zr_iload C 0 rfl (zdec_at dm_X2_spreadMark 69 rfl) ?_
              obtain ⟨o47, h⟩ := h
              obtain ⟨o48, h⟩ := h
              obtain ⟨g54, h⟩ := h
              refine zr_callV C [(((M15 13 v12) % 18) + (zac (Int.toNat v29))), (((M15 13 v12) / 18) + (zdn (Int.toNat v29)))] hS_X2_isMark ck_RX2_139 iv_X2_isMark vc_X2 oc_5 rfl rfl (zdec_at dm_X2_spreadMark 70 rfl) ⟨rfl, rfl, rfl, rfl⟩ ⟨by decide, by decide⟩ (Nat.le_of_ble_eq_true rfl) (zall_0 o48 (zall_0 o47 zall_n)) ?_
              refine ⟨_, _, rfl, g54, fun r49 M50 p53 z52 hR51 => ?_⟩
              have h := h r49 M50 p53 z52 hR51
              show zV Γ mu_X2_spreadMark (145, 0, 0) 127 [(11, zI (((M15 13 v12) / 18) + (zdn (Int.toNat v29)))), (10, zI (((M15 13 v12) % 18) + (zac (Int.toNat v29)))), (0, zRf (zad Γ) 5), (3, zI a3), (4, zI v1), (5, zI v28), (6, zI v12), (7, zI ((M15 13 v12) % 18)), (8, zI ((M15 13 v12) / 18)), (9, zI v29)] [zI r49] M50
              refine zr_if_eq C z52 (zdec_at dm_X2_spreadMark 71 rfl) rfl (fun g55 => ?_) (fun g55 => ?_)
              · have h := h.1 g55
                refine zr_iinc (L1 := [(9, zI (v29 + 1)), (11, zI (((M15 13 v12) / 18) + (zdn (Int.toNat v29)))), (10, zI (((M15 13 v12) % 18) + (zac (Int.toNat v29)))), (0, zRf (zad Γ) 5), (3, zI a3), (4, zI v1), (5, zI v28), (6, zI v12), (7, zI ((M15 13 v12) % 18)), (8, zI ((M15 13 v12) / 18))]) C 9 rfl (zdec_at dm_X2_spreadMark 103 rfl) (Nat.le_of_ble_eq_true rfl) rfl ?_
                refine zr_goto C (zdec_at dm_X2_spreadMark 104 rfl) rfl ?_
                obtain ⟨o56, h⟩ := h
                obtain ⟨n57, q58, q59⟩ := h
                exact zr_sub [3, 4, 5, 6, 7, 8, 9, 0] rfl (ih35 n57 q58 _ _ _ q59 z30 o56 hR51)
              · have h := h.2 g55
                refine zr_aload_n C 2 rfl (zdec_at dm_X2_spreadMark 72 rfl) rfl ?_
                refine zr_getr (q := 16) C fk_RX2_42 fi_5_13 (zdec_at dm_X2_spreadMark 73 rfl) ?_
                refine zr_bipush C (zdec_at dm_X2_spreadMark 74 rfl) (by decide) ?_
                refine zr_iload C 0 rfl (zdec_at dm_X2_spreadMark 75 rfl) ?_
                refine zr_imul C (zdec_at dm_X2_spreadMark 76 rfl) ?_
                refine zr_iload C 1 rfl (zdec_at dm_X2_spreadMark 77 rfl) ?_
                refine zr_iadd C (zdec_at dm_X2_spreadMark 78 rfl) ?_
                obtain ⟨o60, h⟩ := h
                refine zr_iald C ai_16 o60 (zdec_at dm_X2_spreadMark 79 rfl) ?_
                refine zr_if_ne C (hR51 _ _) (zdec_at dm_X2_spreadMark 80 rfl) rfl (fun g61 => ?_) (fun g61 => ?_)
                · have h := h.1 g61
                  refine zr_iinc (L1 := [(9, zI (v29 + 1)), (11, zI (((M15 13 v12) / 18) + (zdn (Int.toNat v29)))), (10, zI (((M15 13 v12) % 18) + (zac (Int.toNat v29)))), (0, zRf (zad Γ) 5), (3, zI a3), (4, zI v1), (5, zI v28), (6, zI v12), (7, zI ((M15 13 v12) % 18)), (8, zI ((M15 13 v12) / 18))]) C 9 rfl (zdec_at dm_X2_spreadMark 103 rfl) (Nat.le_of_ble_eq_true rfl) rfl ?_
                  refine zr_goto C (zdec_at dm_X2_spreadMark 104 rfl) rfl ?_
                  obtain ⟨o62, h⟩ := h
                  obtain ⟨n63, q64, q65⟩ := h
                  exact zr_sub [3, 4, 5, 6, 7, 8, 9, 0] rfl (ih35 n63 q64 _ _ _ q65 z30 o62 hR51)
                · have h := h.2 g61
                  refine zr_iload C 5 rfl (zdec_at dm_X2_spreadMark 81 rfl) ?_
                  refine zr_sipush C (zdec_at dm_X2_spreadMark 82 rfl) (by decide) ?_
                  refine zr_icmp_ge C z30 (by decide) (zdec_at dm_X2_spreadMark 83 rfl) rfl (fun g66 => ?_) (fun g66 => ?_)
                  · have h := h.1 g66
                    refine zr_iinc (L1 := [(9, zI (v29 + 1)), (11, zI (((M15 13 v12) / 18) + (zdn (Int.toNat v29)))), (10, zI (((M15 13 v12) % 18) + (zac (Int.toNat v29)))), (0, zRf (zad Γ) 5), (3, zI a3), (4, zI v1), (5, zI v28), (6, zI v12), (7, zI ((M15 13 v12) % 18)), (8, zI ((M15 13 v12) / 18))]) C 9 rfl (zdec_at dm_X2_spreadMark 103 rfl) (Nat.le_of_ble_eq_true rfl) rfl ?_
                    refine zr_goto C (zdec_at dm_X2_spreadMark 104 rfl) rfl ?_
                    obtain ⟨o67, h⟩ := h
                    obtain ⟨n68, q69, q70⟩ := h
                    exact zr_sub [3, 4, 5, 6, 7, 8, 9, 0] rfl (ih35 n68 q69 _ _ _ q70 z30 o67 hR51)
                  · have h := h.2 g66
                    refine zr_aload_n C 2 rfl (zdec_at dm_X2_spreadMark 84 rfl) rfl ?_
                    refine zr_getr (q := 16) C fk_RX2_42 fi_5_13 (zdec_at dm_X2_spreadMark 85 rfl) ?_
                    refine zr_bipush C (zdec_at dm_X2_spreadMark 86 rfl) (by decide) ?_
                    refine zr_iload C 0 rfl (zdec_at dm_X2_spreadMark 87 rfl) ?_
                    refine zr_imul C (zdec_at dm_X2_spreadMark 88 rfl) ?_
                    refine zr_iload C 1 rfl (zdec_at dm_X2_spreadMark 89 rfl) ?_
                    refine zr_iadd C (zdec_at dm_X2_spreadMark 90 rfl) ?_
                    refine zr_iload_n C 3 rfl (zdec_at dm_X2_spreadMark 91 rfl) rfl ?_
                    refine zr_iast C ai_16 o60 zz_a3 (zdec_at dm_X2_spreadMark 92 rfl) (fun M71 e72 => ?_)
                    have h := h M71 e72
                    have hR73 : zRng M71 := by rw [e72]; exact hR51.set zz_a3 _ _
                    refine zr_aload_n C 2 rfl (zdec_at dm_X2_spreadMark 93 rfl) rfl ?_
                    refine zr_getr (q := 13) C fk_RX2_33 fi_5_10 (zdec_at dm_X2_spreadMark 94 rfl) ?_
                    refine zr_iload C 5 rfl (zdec_at dm_X2_spreadMark 95 rfl) ?_
                    refine zr_bipush C (zdec_at dm_X2_spreadMark 96 rfl) (by decide) ?_
                    refine zr_iload C 0 rfl (zdec_at dm_X2_spreadMark 97 rfl) ?_
                    refine zr_imul C (zdec_at dm_X2_spreadMark 98 rfl) ?_
                    refine zr_iload C 1 rfl (zdec_at dm_X2_spreadMark 99 rfl) ?_
                    refine zr_iadd C (zdec_at dm_X2_spreadMark 100 rfl) ?_
                    obtain ⟨o74, h⟩ := h
                    obtain ⟨o75, h⟩ := h
                    refine zr_iast C ai_13 o74 o75 (zdec_at dm_X2_spreadMark 101 rfl) (fun M76 e77 => ?_)
                    have h := h M76 e77
                    have hR78 : zRng M76 := by rw [e77]; exact hR73.set o75 _ _
                    refine zr_iinc (L1 := [(5, zI (v28 + 1)), (11, zI (((M15 13 v12) / 18) + (zdn (Int.toNat v29)))), (10, zI (((M15 13 v12) % 18) + (zac (Int.toNat v29)))), (0, zRf (zad Γ) 5), (3, zI a3), (4, zI v1), (6, zI v12), (7, zI ((M15 13 v12) % 18)), (8, zI ((M15 13 v12) / 18)), (9, zI v29)]) C 5 rfl (zdec_at dm_X2_spreadMark 102 rfl) (Nat.le_of_ble_eq_true rfl) rfl ?_
                    refine zr_iinc (L1 := [(9, zI (v29 + 1)), (5, zI (v28 + 1)), (11, zI (((M15 13 v12) / 18) + (zdn (Int.toNat v29)))), (10, zI (((M15 13 v12) % 18) + (zac (Int.toNat v29)))), (0, zRf (zad Γ) 5), (3, zI a3), (4, zI v1), (6, zI v12), (7, zI ((M15 13 v12) % 18)), (8, zI ((M15 13 v12) / 18))]) C 9 rfl (zdec_at dm_X2_spreadMark 103 rfl) (Nat.le_of_ble_eq_true rfl) rfl ?_
                    refine zr_goto C (zdec_at dm_X2_spreadMark 104 rfl) rfl ?_
                    obtain ⟨o79, h⟩ := h
                    obtain ⟨o80, h⟩ := h
                    obtain ⟨n81, q82, q83⟩ := h
                    exact zr_sub [4, 5, 6, 1, 7, 8, 9, 0] rfl (ih35 n81 q82 _ _ _ q83 o79 o80 hR78)
          exact zr_sub [3, 4, 5, 6, 7, 2, 1, 0] rfl (lp36 n38 _ _ _ q39 z13 (by decide) hR16)
    exact zr_sub [3, 6, 2, 1, 0] rfl (lp19 n21 _ _ _ q22 (by decide) (by decide) hR10))
  refine zr_if_ne C (hR _ _) (zdec_at dm_X2_spreadMark 3 rfl) rfl (fun g84 => ?_) (fun g84 => ?_)
  · have h := h.1 g84
    refine zr_iconst C (zdec_at dm_X2_spreadMark 6 rfl) ?_
    exact zr_sub [0, 1, 2, 3] rfl (h (by decide))
  · have h := h.2 g84
    refine zr_bipush C (zdec_at dm_X2_spreadMark 4 rfl) (by decide) ?_
    refine zr_goto C (zdec_at dm_X2_spreadMark 5 rfl) rfl ?_
    exact zr_sub [0, 1, 2, 3] rfl (h (by decide))

set_option maxHeartbeats 400000 in
set_option maxRecDepth 100000 in
theorem sn_X2_isMark : zSnd zS 145 0 0 yX2_isMark cX2_isMark 3 (some .boolean) 0 [2, 0, 0] (fun xs P M => ∃ a1 a2 : Int, xs = [5, a1, a2] ∧ vc_X2_isMark a1 a2 P M) := by
  refine zSnd.of rfl (fun ad xs hz => Nat.le_trans (Nat.le_of_eq (zlen ad _ xs hz)) (by decide)) ?_
  intro Γ C _ _ xs M hz hF
  obtain ⟨a1, a2, rfl, h⟩ := hF
  have zz_a1 := zall_h (zall_t hz) (by decide)
  have zz_a2 := zall_h (zall_t (zall_t hz)) (by decide)
  refine zr_rng (fun hR => ?_)
  have C : zC Γ mu_X2_isMark := C
  change zV Γ mu_X2_isMark (145, 0, 0) 0 [(0, zRf (zad Γ) 5), (1, zI a1), (2, zI a2)] [] M
  change vc_X2_isMark a1 a2 _ M at h
  unfold vc_X2_isMark at h
  refine zr_iload_n C 1 rfl (zdec_at dm_X2_isMark 0 rfl) rfl ?_
  refine zr_if_lt C zz_a1 (zdec_at dm_X2_isMark 1 rfl) rfl (fun g1 => ?_) (fun g1 => ?_)
  · have h := h.1 g1
    refine zr_iconst C (zdec_at dm_X2_isMark 14 rfl) ?_
    exact zr_zreturn C rfl (by decide) (zdec_at dm_X2_isMark 15 rfl) rfl ⟨(by decide), h⟩
  · have h := h.2 g1
    refine zr_iload_n C 1 rfl (zdec_at dm_X2_isMark 2 rfl) rfl ?_
    refine zr_aload_n C 0 rfl (zdec_at dm_X2_isMark 3 rfl) rfl ?_
    refine zr_geti C fk_RX2_127 fi_5_16 (zdec_at dm_X2_isMark 4 rfl) ?_
    refine zr_icmp_ge C zz_a1 (hR _ _) (zdec_at dm_X2_isMark 5 rfl) rfl (fun g2 => ?_) (fun g2 => ?_)
    · have h := h.1 g2
      refine zr_iconst C (zdec_at dm_X2_isMark 14 rfl) ?_
      exact zr_zreturn C rfl (by decide) (zdec_at dm_X2_isMark 15 rfl) rfl ⟨(by decide), h⟩
    · have h := h.2 g2
      refine zr_iload_n C 2 rfl (zdec_at dm_X2_isMark 6 rfl) rfl ?_
      refine zr_if_lt C zz_a2 (zdec_at dm_X2_isMark 7 rfl) rfl (fun g3 => ?_) (fun g3 => ?_)
      · have h := h.1 g3
        refine zr_iconst C (zdec_at dm_X2_isMark 14 rfl) ?_
        exact zr_zreturn C rfl (by decide) (zdec_at dm_X2_isMark 15 rfl) rfl ⟨(by decide), h⟩
      · have h := h.2 g3
        refine zr_iload_n C 2 rfl (zdec_at dm_X2_isMark 8 rfl) rfl ?_
        refine zr_aload_n C 0 rfl (zdec_at dm_X2_isMark 9 rfl) rfl ?_
        refine zr_geti C fk_RX2_133 fi_5_17 (zdec_at dm_X2_isMark 10 rfl) ?_
        refine zr_icmp_ge C zz_a2 (hR _ _) (zdec_at dm_X2_isMark 11 rfl) rfl (fun g4 => ?_) (fun g4 => ?_)
        · have h := h.1 g4
          refine zr_iconst C (zdec_at dm_X2_isMark 14 rfl) ?_
          exact zr_zreturn C rfl (by decide) (zdec_at dm_X2_isMark 15 rfl) rfl ⟨(by decide), h⟩
        · have h := h.2 g4
          refine zr_iconst C (zdec_at dm_X2_isMark 12 rfl) ?_
          refine zr_goto C (zdec_at dm_X2_isMark 13 rfl) rfl ?_
          exact zr_zreturn C rfl (by decide) (zdec_at dm_X2_isMark 15 rfl) rfl ⟨(by decide), h⟩

set_option maxHeartbeats 400000 in
set_option maxRecDepth 100000 in
theorem sn_X2_markAt {pr_X2_isMark : Int → Int → zM → Prop} {po_X2_isMark : Int → Int → zM → Int → zM → Prop} (hS_X2_isMark : zSnd zS 145 0 0 yX2_isMark cX2_isMark 3 (some .boolean) 0 [2, 0, 0] (F_X2_isMark pr_X2_isMark po_X2_isMark)) : zSnd zS 145 0 0 yX2_markAt cX2_markAt 5 (some .int) 1 [2, 0, 0] (fun xs P M => ∃ a1 a2 : Int, xs = [5, a1, a2] ∧ vc_X2_markAt pr_X2_isMark po_X2_isMark a1 a2 P M) := by
  refine zSnd.of rfl (fun ad xs hz => Nat.le_trans (Nat.le_of_eq (zlen ad _ xs hz)) (by decide)) ?_
  intro Γ C _ _ xs M hz hF
  obtain ⟨a1, a2, rfl, h⟩ := hF
  have zz_a1 := zall_h (zall_t hz) (by decide)
  have zz_a2 := zall_h (zall_t (zall_t hz)) (by decide)
  refine zr_rng (fun hR => ?_)
  have C : zC Γ mu_X2_markAt := C
  change zV Γ mu_X2_markAt (145, 0, 0) 0 [(0, zRf (zad Γ) 5), (1, zI a1), (2, zI a2)] [] M
  change vc_X2_markAt pr_X2_isMark po_X2_isMark a1 a2 _ M at h
  unfold vc_X2_markAt at h
  refine zr_iload_n C 1 rfl (zdec_at dm_X2_markAt 0 rfl) rfl ?_
  refine zr_aload_n C 0 rfl (zdec_at dm_X2_markAt 1 rfl) rfl ?_
  refine zr_geti C fk_RX2_117 fi_5_14 (zdec_at dm_X2_markAt 2 rfl) ?_
  refine zr_isub C (zdec_at dm_X2_markAt 3 rfl) ?_
  refine zr_istore_n (L1 := [(3, zI (a1 - (M 5 14))), (0, zRf (zad Γ) 5), (1, zI a1), (2, zI a2)]) C (zdec_at dm_X2_markAt 4 rfl) rfl (Nat.le_of_ble_eq_true rfl) rfl ?_
  refine zr_iload_n C 3 rfl (zdec_at dm_X2_markAt 5 rfl) rfl ?_
  refine zr_aload_n C 1 rfl (zdec_at dm_X2_markAt 6 rfl) rfl ?_
  refine zr_geti C fk_RX2_120 fi_5_15 (zdec_at dm_X2_markAt 7 rfl) ?_
  refine zr_isub C (zdec_at dm_X2_markAt 8 rfl) ?_
  refine zr_istore (L1 := [(4, zI (a2 - (M 5 15))), (3, zI (a1 - (M 5 14))), (0, zRf (zad Γ) 5), (1, zI a1), (2, zI a2)]) C (zdec_at dm_X2_markAt 9 rfl) (Nat.le_of_ble_eq_true rfl) rfl ?_
  refine zr_aload_n C 2 rfl (zdec_at dm_X2_markAt 10 rfl) rfl ?_
  refine zr_iload_n C 1 rfl (zdec_at dm_X2_markAt 11 rfl) rfl ?_
  refine zr_iload C 0 rfl (zdec_at dm_X2_markAt 12 rfl) ?_
  obtain ⟨o1, h⟩ := h
  obtain ⟨o2, h⟩ := h
  obtain ⟨g8, h⟩ := h
  refine zr_callV C [(a1 - (M 5 14)), (a2 - (M 5 15))] hS_X2_isMark ck_RX2_139 iv_X2_isMark vc_X2 oc_5 rfl rfl (zdec_at dm_X2_markAt 13 rfl) ⟨rfl, rfl, rfl, rfl⟩ ⟨by decide, by decide⟩ (Nat.le_of_ble_eq_true rfl) (zall_0 o2 (zall_0 o1 zall_n)) ?_
  refine ⟨_, _, rfl, g8, fun r3 M4 p7 z6 hR5 => ?_⟩
  have h := h r3 M4 p7 z6 hR5
  show zV Γ mu_X2_markAt (145, 0, 0) 22 [(4, zI (a2 - (M 5 15))), (3, zI (a1 - (M 5 14))), (0, zRf (zad Γ) 5), (1, zI a1), (2, zI a2)] [zI r3] M4
  refine zr_if_eq C z6 (zdec_at dm_X2_markAt 14 rfl) rfl (fun g9 => ?_) (fun g9 => ?_)
  · have h := h.1 g9
    refine zr_iconst C (zdec_at dm_X2_markAt 24 rfl) ?_
    exact zr_ireturn C rfl (zdec_at dm_X2_markAt 25 rfl) rfl ⟨(by decide), h⟩
  · have h := h.2 g9
    refine zr_aload_n C 2 rfl (zdec_at dm_X2_markAt 15 rfl) rfl ?_
    refine zr_getr (q := 16) C fk_RX2_42 fi_5_13 (zdec_at dm_X2_markAt 16 rfl) ?_
    refine zr_bipush C (zdec_at dm_X2_markAt 17 rfl) (by decide) ?_
    refine zr_iload C 0 rfl (zdec_at dm_X2_markAt 18 rfl) ?_
    refine zr_imul C (zdec_at dm_X2_markAt 19 rfl) ?_
    refine zr_iload_n C 1 rfl (zdec_at dm_X2_markAt 20 rfl) rfl ?_
    refine zr_iadd C (zdec_at dm_X2_markAt 21 rfl) ?_
    obtain ⟨o10, h⟩ := h
    refine zr_iald C ai_16 o10 (zdec_at dm_X2_markAt 22 rfl) ?_
    refine zr_goto C (zdec_at dm_X2_markAt 23 rfl) rfl ?_
    exact zr_ireturn C rfl (zdec_at dm_X2_markAt 25 rfl) rfl ⟨(hR5 _ _), h⟩

set_option maxHeartbeats 400000 in
set_option maxRecDepth 100000 in
theorem sn_X2_isFilled {pr_X2_faceAt : Int → Int → zM → Prop} {po_X2_faceAt : Int → Int → zM → Int → zM → Prop} {pr_X2_markAt : Int → Int → zM → Prop} {po_X2_markAt : Int → Int → zM → Int → zM → Prop} (hS_X2_faceAt : zSnd zS 145 0 0 yX2_faceAt cX2_faceAt 3 (some .int) 0 [2, 0, 0] (F_X2_faceAt pr_X2_faceAt po_X2_faceAt)) (hS_X2_markAt : zSnd zS 145 0 0 yX2_markAt cX2_markAt 5 (some .int) 1 [2, 0, 0] (F_X2_markAt pr_X2_markAt po_X2_markAt)) : zSnd zS 145 0 0 yX2_isFilled cX2_isFilled 4 (some .boolean) 2 [2, 0, 0, 0] (fun xs P M => ∃ a1 a2 a3 : Int, xs = [5, a1, a2, a3] ∧ vc_X2_isFilled pr_X2_faceAt po_X2_faceAt pr_X2_markAt po_X2_markAt a1 a2 a3 P M) := by
  refine zSnd.of rfl (fun ad xs hz => Nat.le_trans (Nat.le_of_eq (zlen ad _ xs hz)) (by decide)) ?_
  intro Γ C _ _ xs M hz hF
  obtain ⟨a1, a2, a3, rfl, h⟩ := hF
  have zz_a1 := zall_h (zall_t hz) (by decide)
  have zz_a2 := zall_h (zall_t (zall_t hz)) (by decide)
  have zz_a3 := zall_h (zall_t (zall_t (zall_t hz))) (by decide)
  refine zr_rng (fun hR => ?_)
  have C : zC Γ mu_X2_isFilled := C
  change zV Γ mu_X2_isFilled (145, 0, 0) 0 [(0, zRf (zad Γ) 5), (1, zI a1), (2, zI a2), (3, zI a3)] [] M
  change vc_X2_isFilled pr_X2_faceAt po_X2_faceAt pr_X2_markAt po_X2_markAt a1 a2 a3 _ M at h
  unfold vc_X2_isFilled at h
  refine zr_aload_n C 0 rfl (zdec_at dm_X2_isFilled 0 rfl) rfl ?_
  refine zr_iload_n C 2 rfl (zdec_at dm_X2_isFilled 1 rfl) rfl ?_
  refine zr_iload_n C 3 rfl (zdec_at dm_X2_isFilled 2 rfl) rfl ?_
  obtain ⟨g6, h⟩ := h
  refine zr_callV C [a2, a3] hS_X2_faceAt ck_RX2_71 iv_X2_faceAt vc_X2 oc_5 rfl rfl (zdec_at dm_X2_isFilled 3 rfl) ⟨rfl, rfl, rfl, rfl⟩ ⟨by decide, by decide⟩ (Nat.le_of_ble_eq_true rfl) (zall_0 zz_a2 (zall_0 zz_a3 zall_n)) ?_
  refine ⟨_, _, rfl, g6, fun r1 M2 p5 z4 hR3 => ?_⟩
  have h := h r1 M2 p5 z4 hR3
  show zV Γ mu_X2_isFilled (145, 0, 0) 6 [(0, zRf (zad Γ) 5), (1, zI a1), (2, zI a2), (3, zI a3)] [zI r1] M2
  refine zr_iload_n C 1 rfl (zdec_at dm_X2_isFilled 4 rfl) rfl ?_
  refine zr_icmp_eq C z4 zz_a1 (zdec_at dm_X2_isFilled 5 rfl) rfl (fun g7 => ?_) (fun g7 => ?_)
  · have h := h.1 g7
    refine zr_iconst C (zdec_at dm_X2_isFilled 12 rfl) ?_
    refine zr_goto C (zdec_at dm_X2_isFilled 13 rfl) rfl ?_
    exact zr_zreturn C rfl (by decide) (zdec_at dm_X2_isFilled 15 rfl) rfl ⟨(by decide), h⟩
  · have h := h.2 g7
    refine zr_aload_n C 0 rfl (zdec_at dm_X2_isFilled 6 rfl) rfl ?_
    refine zr_iload_n C 2 rfl (zdec_at dm_X2_isFilled 7 rfl) rfl ?_
    refine zr_iload_n C 3 rfl (zdec_at dm_X2_isFilled 8 rfl) rfl ?_
    obtain ⟨g13, h⟩ := h
    refine zr_callV C [a2, a3] hS_X2_markAt ck_RX2_143 iv_X2_markAt vc_X2 oc_5 rfl rfl (zdec_at dm_X2_isFilled 9 rfl) ⟨rfl, rfl, rfl, rfl⟩ ⟨by decide, by decide⟩ (Nat.le_of_ble_eq_true rfl) (zall_0 zz_a2 (zall_0 zz_a3 zall_n)) ?_
    refine ⟨_, _, rfl, g13, fun r8 M9 p12 z11 hR10 => ?_⟩
    have h := h r8 M9 p12 z11 hR10
    show zV Γ mu_X2_isFilled (145, 0, 0) 16 [(0, zRf (zad Γ) 5), (1, zI a1), (2, zI a2), (3, zI a3)] [zI r8] M9
    refine zr_iconst C (zdec_at dm_X2_isFilled 10 rfl) ?_
    refine zr_icmp_le C z11 (by decide) (zdec_at dm_X2_isFilled 11 rfl) rfl (fun g14 => ?_) (fun g14 => ?_)
    · have h := h.1 g14
      refine zr_iconst C (zdec_at dm_X2_isFilled 14 rfl) ?_
      exact zr_zreturn C rfl (by decide) (zdec_at dm_X2_isFilled 15 rfl) rfl ⟨(by decide), h⟩
    · have h := h.2 g14
      refine zr_iconst C (zdec_at dm_X2_isFilled 12 rfl) ?_
      refine zr_goto C (zdec_at dm_X2_isFilled 13 rfl) rfl ?_
      exact zr_zreturn C rfl (by decide) (zdec_at dm_X2_isFilled 15 rfl) rfl ⟨(by decide), h⟩

set_option maxHeartbeats 400000 in
set_option maxRecDepth 100000 in
theorem sn_X2_liesIn {pr_X2_markHoles : Int → zM → Prop} {po_X2_markHoles : Int → zM → Int → zM → Prop} {pr_X2_markAt : Int → Int → zM → Prop} {po_X2_markAt : Int → Int → zM → Int → zM → Prop} {pr_X2_faceAt : Int → Int → zM → Prop} {po_X2_faceAt : Int → Int → zM → Int → zM → Prop} (hS_X2_markHoles : zSnd zS 145 0 0 yX2_markHoles cX2_markHoles 5 (some .int) 2 [2, 0] (F_X2_markHoles pr_X2_markHoles po_X2_markHoles)) (hS_X2_markAt : zSnd zS 145 0 0 yX2_markAt cX2_markAt 5 (some .int) 1 [2, 0, 0] (F_X2_markAt pr_X2_markAt po_X2_markAt)) (hS_X2_faceAt : zSnd zS 145 0 0 yX2_faceAt cX2_faceAt 3 (some .int) 0 [2, 0, 0] (F_X2_faceAt pr_X2_faceAt po_X2_faceAt)) : zSnd zS 145 0 0 yX2_liesIn cX2_liesIn 6 (some .boolean) 3 [2, 0, 0] (fun xs P M => ∃ a1 a2 : Int, xs = [5, a1, a2] ∧ vc_X2_liesIn pr_X2_markHoles po_X2_markHoles pr_X2_markAt po_X2_markAt pr_X2_faceAt po_X2_faceAt a1 a2 P M) := by
  refine zSnd.of rfl (fun ad xs hz => Nat.le_trans (Nat.le_of_eq (zlen ad _ xs hz)) (by decide)) ?_
  intro Γ C _ _ xs M hz hF
  obtain ⟨a1, a2, rfl, h⟩ := hF
  have zz_a1 := zall_h (zall_t hz) (by decide)
  have zz_a2 := zall_h (zall_t (zall_t hz)) (by decide)
  refine zr_rng (fun hR => ?_)
  have C : zC Γ mu_X2_liesIn := C
  change zV Γ mu_X2_liesIn (145, 0, 0) 0 [(0, zRf (zad Γ) 5), (1, zI a1), (2, zI a2)] [] M
  change vc_X2_liesIn pr_X2_markHoles po_X2_markHoles pr_X2_markAt po_X2_markAt pr_X2_faceAt po_X2_faceAt a1 a2 _ M at h
  unfold vc_X2_liesIn at h
  refine zr_aload_n C 0 rfl (zdec_at dm_X2_liesIn 0 rfl) rfl ?_
  refine zr_getr (q := 8) C fk_RX2_18 fi_5_5 (zdec_at dm_X2_liesIn 1 rfl) ?_
  refine zr_iload_n C 1 rfl (zdec_at dm_X2_liesIn 2 rfl) rfl ?_
  obtain ⟨o1, h⟩ := h
  refine zr_iald C ai_8 o1 (zdec_at dm_X2_liesIn 3 rfl) ?_
  refine zr_aload_n C 0 rfl (zdec_at dm_X2_liesIn 4 rfl) rfl ?_
  refine zr_getr (q := 8) C fk_RX2_18 fi_5_5 (zdec_at dm_X2_liesIn 5 rfl) ?_
  refine zr_iload_n C 2 rfl (zdec_at dm_X2_liesIn 6 rfl) rfl ?_
  obtain ⟨o2, h⟩ := h
  refine zr_iald C ai_8 o2 (zdec_at dm_X2_liesIn 7 rfl) ?_
  refine zr_icmp_le C (hR _ _) (hR _ _) (zdec_at dm_X2_liesIn 8 rfl) rfl (fun g3 => ?_) (fun g3 => ?_)
  · have h := h.1 g3
    refine zr_iconst C (zdec_at dm_X2_liesIn 36 rfl) ?_
    exact zr_zreturn C rfl (by decide) (zdec_at dm_X2_liesIn 37 rfl) rfl ⟨(by decide), h⟩
  · have h := h.2 g3
    refine zr_aload_n C 0 rfl (zdec_at dm_X2_liesIn 9 rfl) rfl ?_
    refine zr_getr (q := 10) C fk_RX2_24 fi_5_7 (zdec_at dm_X2_liesIn 10 rfl) ?_
    refine zr_iload_n C 1 rfl (zdec_at dm_X2_liesIn 11 rfl) rfl ?_
    refine zr_iald C ai_10 o1 (zdec_at dm_X2_liesIn 12 rfl) ?_
    refine zr_aload_n C 0 rfl (zdec_at dm_X2_liesIn 13 rfl) rfl ?_
    refine zr_getr (q := 10) C fk_RX2_24 fi_5_7 (zdec_at dm_X2_liesIn 14 rfl) ?_
    refine zr_iload_n C 2 rfl (zdec_at dm_X2_liesIn 15 rfl) rfl ?_
    refine zr_iald C ai_10 o2 (zdec_at dm_X2_liesIn 16 rfl) ?_
    refine zr_icmp_ge C (hR _ _) (hR _ _) (zdec_at dm_X2_liesIn 17 rfl) rfl (fun g4 => ?_) (fun g4 => ?_)
    · have h := h.1 g4
      refine zr_iconst C (zdec_at dm_X2_liesIn 36 rfl) ?_
      exact zr_zreturn C rfl (by decide) (zdec_at dm_X2_liesIn 37 rfl) rfl ⟨(by decide), h⟩
    · have h := h.2 g4
      refine zr_aload_n C 0 rfl (zdec_at dm_X2_liesIn 18 rfl) rfl ?_
      refine zr_getr (q := 9) C fk_RX2_21 fi_5_6 (zdec_at dm_X2_liesIn 19 rfl) ?_
      refine zr_iload_n C 1 rfl (zdec_at dm_X2_liesIn 20 rfl) rfl ?_
      refine zr_iald C ai_9 o1 (zdec_at dm_X2_liesIn 21 rfl) ?_
      refine zr_aload_n C 0 rfl (zdec_at dm_X2_liesIn 22 rfl) rfl ?_
      refine zr_getr (q := 9) C fk_RX2_21 fi_5_6 (zdec_at dm_X2_liesIn 23 rfl) ?_
      refine zr_iload_n C 2 rfl (zdec_at dm_X2_liesIn 24 rfl) rfl ?_
      refine zr_iald C ai_9 o2 (zdec_at dm_X2_liesIn 25 rfl) ?_
      refine zr_icmp_le C (hR _ _) (hR _ _) (zdec_at dm_X2_liesIn 26 rfl) rfl (fun g5 => ?_) (fun g5 => ?_)
      · have h := h.1 g5
        refine zr_iconst C (zdec_at dm_X2_liesIn 36 rfl) ?_
        exact zr_zreturn C rfl (by decide) (zdec_at dm_X2_liesIn 37 rfl) rfl ⟨(by decide), h⟩
      · have h := h.2 g5
        refine zr_aload_n C 0 rfl (zdec_at dm_X2_liesIn 27 rfl) rfl ?_
        refine zr_getr (q := 11) C fk_RX2_27 fi_5_8 (zdec_at dm_X2_liesIn 28 rfl) ?_
        refine zr_iload_n C 1 rfl (zdec_at dm_X2_liesIn 29 rfl) rfl ?_
        refine zr_iald C ai_11 o1 (zdec_at dm_X2_liesIn 30 rfl) ?_
        refine zr_aload_n C 0 rfl (zdec_at dm_X2_liesIn 31 rfl) rfl ?_
        refine zr_getr (q := 11) C fk_RX2_27 fi_5_8 (zdec_at dm_X2_liesIn 32 rfl) ?_
        refine zr_iload_n C 2 rfl (zdec_at dm_X2_liesIn 33 rfl) rfl ?_
        refine zr_iald C ai_11 o2 (zdec_at dm_X2_liesIn 34 rfl) ?_
        refine zr_icmp_lt C (hR _ _) (hR _ _) (zdec_at dm_X2_liesIn 35 rfl) rfl (fun g6 => ?_) (fun g6 => ?_)
        · have h := h.1 g6
          refine zr_aload_n C 0 rfl (zdec_at dm_X2_liesIn 38 rfl) rfl ?_
          refine zr_iload_n C 2 rfl (zdec_at dm_X2_liesIn 39 rfl) rfl ?_
          obtain ⟨g12, h⟩ := h
          refine zr_callV C [a2] hS_X2_markHoles ck_RX2_146 iv_X2_markHoles vc_X2 oc_5 rfl rfl (zdec_at dm_X2_liesIn 40 rfl) ⟨rfl, rfl, rfl, rfl⟩ ⟨by decide, by decide⟩ (Nat.le_of_ble_eq_true rfl) (zall_0 zz_a2 zall_n) ?_
          refine ⟨_, rfl, g12, fun r7 M8 p11 z10 hR9 => ?_⟩
          have h := h r7 M8 p11 z10 hR9
          show zV Γ mu_X2_liesIn (145, 0, 0) 67 [(0, zRf (zad Γ) 5), (1, zI a1), (2, zI a2)] [zI r7] M8
          refine zr_pop C rfl (zdec_at dm_X2_liesIn 41 rfl) ?_
          refine zr_aload_n C 0 rfl (zdec_at dm_X2_liesIn 42 rfl) rfl ?_
          refine zr_aload_n C 0 rfl (zdec_at dm_X2_liesIn 43 rfl) rfl ?_
          refine zr_getr (q := 7) C fk_RX2_15 fi_5_4 (zdec_at dm_X2_liesIn 44 rfl) ?_
          refine zr_iload_n C 1 rfl (zdec_at dm_X2_liesIn 45 rfl) rfl ?_
          refine zr_iald C ai_7 o1 (zdec_at dm_X2_liesIn 46 rfl) ?_
          refine zr_bipush C (zdec_at dm_X2_liesIn 47 rfl) (by decide) ?_
          obtain ⟨o13, h⟩ := h
          refine zr_irem C (hR9 _ _) (by decide) ⟨o13, by decide⟩ (zdec_at dm_X2_liesIn 48 rfl) ?_
          refine zr_aload_n C 0 rfl (zdec_at dm_X2_liesIn 49 rfl) rfl ?_
          refine zr_getr (q := 7) C fk_RX2_15 fi_5_4 (zdec_at dm_X2_liesIn 50 rfl) ?_
          refine zr_iload_n C 1 rfl (zdec_at dm_X2_liesIn 51 rfl) rfl ?_
          refine zr_iald C ai_7 o1 (zdec_at dm_X2_liesIn 52 rfl) ?_
          refine zr_bipush C (zdec_at dm_X2_liesIn 53 rfl) (by decide) ?_
          refine zr_idiv C (hR9 _ _) (by decide) ⟨o13, by decide⟩ (zdec_at dm_X2_liesIn 54 rfl) ?_
          obtain ⟨g19, h⟩ := h
          refine zr_callV C [((M8 7 a1) % 16), ((M8 7 a1) / 16)] hS_X2_markAt ck_RX2_143 iv_X2_markAt vc_X2 oc_5 rfl rfl (zdec_at dm_X2_liesIn 55 rfl) ⟨rfl, rfl, rfl, rfl⟩ ⟨by decide, by decide⟩ (Nat.le_of_ble_eq_true rfl) (zall_0 (z_rz (a := (M8 7 a1)) (b := 16) ⟨o13, by decide⟩ (by decide)) (zall_0 (z_dz2 (a := (M8 7 a1)) (b := 16) ⟨o13, by decide⟩ (hR9 _ _)) zall_n)) ?_
          refine ⟨_, _, rfl, g19, fun r14 M15 p18 z17 hR16 => ?_⟩
          have h := h r14 M15 p18 z17 hR16
          show zV Γ mu_X2_liesIn (145, 0, 0) 90 [(0, zRf (zad Γ) 5), (1, zI a1), (2, zI a2)] [zI r14] M15
          refine zr_istore_n (L1 := [(3, zI r14), (0, zRf (zad Γ) 5), (1, zI a1), (2, zI a2)]) C (zdec_at dm_X2_liesIn 56 rfl) rfl (Nat.le_of_ble_eq_true rfl) rfl ?_
          refine zr_iload_n C 0 rfl (zdec_at dm_X2_liesIn 57 rfl) rfl ?_
          refine zr_iconst C (zdec_at dm_X2_liesIn 58 rfl) ?_
          refine zr_icmp_gt C z17 (by decide) (zdec_at dm_X2_liesIn 59 rfl) rfl (fun g20 => ?_) (fun g20 => ?_)
          · have h := h.1 g20
            refine zr_aload_n C 1 rfl (zdec_at dm_X2_liesIn 62 rfl) rfl ?_
            refine zr_getr (q := 9) C fk_RX2_21 fi_5_6 (zdec_at dm_X2_liesIn 63 rfl) ?_
            refine zr_iload_n C 2 rfl (zdec_at dm_X2_liesIn 64 rfl) rfl ?_
            refine zr_iald C ai_9 o1 (zdec_at dm_X2_liesIn 65 rfl) ?_
            refine zr_istore (L1 := [(4, zI (M15 9 a1)), (3, zI r14), (0, zRf (zad Γ) 5), (1, zI a1), (2, zI a2)]) C (zdec_at dm_X2_liesIn 66 rfl) (Nat.le_of_ble_eq_true rfl) rfl ?_
            obtain ⟨I106, ⟨n29, q30⟩, hI28⟩ := h
            have lp27 : ∀ (n25 : Nat) (v21 : Int) (M23 : zM), I106 v21 M23 n25 → zin v21 → zRng M23 → zV Γ mu_X2_liesIn (145, 0, 0) 106 [(0, zRf (zad Γ) 5), (1, zI a1), (3, zI r14), (4, zI v21)] [] M23 := by
              intro n25
              induction n25 using Nat.strongRecOn with
              | _ n25 ih26 =>
              intro v21 M23 q31 z22 hR24
              have h := hI28 v21 M23 n25 q31 z22 hR24
              refine zr_iload C 3 rfl (zdec_at dm_X2_liesIn 67 rfl) ?_
              refine zr_aload_n C 0 rfl (zdec_at dm_X2_liesIn 68 rfl) rfl ?_
              refine zr_getr (q := 11) C fk_RX2_27 fi_5_8 (zdec_at dm_X2_liesIn 69 rfl) ?_
              refine zr_iload_n C 1 rfl (zdec_at dm_X2_liesIn 70 rfl) rfl ?_
              refine zr_iald C ai_11 o1 (zdec_at dm_X2_liesIn 71 rfl) ?_
              refine zr_icmp_gt C z22 (hR24 _ _) (zdec_at dm_X2_liesIn 72 rfl) rfl (fun g32 => ?_) (fun g32 => ?_)
              · have h := h.1 g32
                refine zr_iconst C (zdec_at dm_X2_liesIn 102 rfl) ?_
                exact zr_zreturn C rfl (by decide) (zdec_at dm_X2_liesIn 103 rfl) rfl ⟨(by decide), h⟩
              · have h := h.2 g32
                refine zr_aload_n C 0 rfl (zdec_at dm_X2_liesIn 73 rfl) rfl ?_
                refine zr_getr (q := 8) C fk_RX2_18 fi_5_5 (zdec_at dm_X2_liesIn 74 rfl) ?_
                refine zr_iload_n C 1 rfl (zdec_at dm_X2_liesIn 75 rfl) rfl ?_
                refine zr_iald C ai_8 o1 (zdec_at dm_X2_liesIn 76 rfl) ?_
                refine zr_istore (L1 := [(5, zI (M23 8 a1)), (0, zRf (zad Γ) 5), (1, zI a1), (3, zI r14), (4, zI v21)]) C (zdec_at dm_X2_liesIn 77 rfl) (Nat.le_of_ble_eq_true rfl) rfl ?_
                obtain ⟨I125, ⟨n41, q42⟩, hI40⟩ := h
                have lp39 : ∀ (n37 : Nat) (v33 : Int) (M35 : zM), I125 v33 M35 n37 → zin v33 → zRng M35 → zV Γ mu_X2_liesIn (145, 0, 0) 125 [(0, zRf (zad Γ) 5), (1, zI a1), (3, zI r14), (4, zI v21), (5, zI v33)] [] M35 := by
                  intro n37
                  induction n37 using Nat.strongRecOn with
                  | _ n37 ih38 =>
                  intro v33 M35 q43 z34 hR36
                  have h := hI40 v33 M35 n37 q43 z34 hR36
                  refine zr_iload C 4 rfl (zdec_at dm_X2_liesIn 78 rfl) ?_
                  refine zr_aload_n C 0 rfl (zdec_at dm_X2_liesIn 79 rfl) rfl ?_
                  refine zr_getr (q := 10) C fk_RX2_24 fi_5_7 (zdec_at dm_X2_liesIn 80 rfl) ?_
                  refine zr_iload_n C 1 rfl (zdec_at dm_X2_liesIn 81 rfl) rfl ?_
                  refine zr_iald C ai_10 o1 (zdec_at dm_X2_liesIn 82 rfl) ?_
                  refine zr_icmp_gt C z34 (hR36 _ _) (zdec_at dm_X2_liesIn 83 rfl) rfl (fun g44 => ?_) (fun g44 => ?_)
                  · have h := h.1 g44
                    refine zr_iinc (L1 := [(4, zI (v21 + 1)), (0, zRf (zad Γ) 5), (1, zI a1), (3, zI r14), (5, zI v33)]) C 3 rfl (zdec_at dm_X2_liesIn 100 rfl) (Nat.le_of_ble_eq_true rfl) rfl ?_
                    refine zr_goto C (zdec_at dm_X2_liesIn 101 rfl) rfl ?_
                    obtain ⟨o45, h⟩ := h
                    obtain ⟨n46, q47, q48⟩ := h
                    exact zr_sub [1, 2, 3, 0] rfl (ih26 n46 q47 _ _ q48 o45 hR36)
                  · have h := h.2 g44
                    refine zr_aload_n C 0 rfl (zdec_at dm_X2_liesIn 84 rfl) rfl ?_
                    refine zr_iload C 4 rfl (zdec_at dm_X2_liesIn 85 rfl) ?_
                    refine zr_iload C 3 rfl (zdec_at dm_X2_liesIn 86 rfl) ?_
                    obtain ⟨g54, h⟩ := h
                    refine zr_callV C [v33, v21] hS_X2_faceAt ck_RX2_71 iv_X2_faceAt vc_X2 oc_5 rfl rfl (zdec_at dm_X2_liesIn 87 rfl) ⟨rfl, rfl, rfl, rfl⟩ ⟨by decide, by decide⟩ (Nat.le_of_ble_eq_true rfl) (zall_0 z34 (zall_0 z22 zall_n)) ?_
                    refine ⟨_, _, rfl, g54, fun r49 M50 p53 z52 hR51 => ?_⟩
                    have h := h r49 M50 p53 z52 hR51
                    show zV Γ mu_X2_liesIn (145, 0, 0) 144 [(0, zRf (zad Γ) 5), (1, zI a1), (3, zI r14), (4, zI v21), (5, zI v33)] [zI r49] M50
                    refine zr_iload_n C 1 rfl (zdec_at dm_X2_liesIn 88 rfl) rfl ?_
                    refine zr_icmp_ne C z52 zz_a1 (zdec_at dm_X2_liesIn 89 rfl) rfl (fun g55 => ?_) (fun g55 => ?_)
                    · have h := h.1 g55
                      refine zr_iinc (L1 := [(5, zI (v33 + 1)), (0, zRf (zad Γ) 5), (1, zI a1), (3, zI r14), (4, zI v21)]) C 4 rfl (zdec_at dm_X2_liesIn 98 rfl) (Nat.le_of_ble_eq_true rfl) rfl ?_
                      refine zr_goto C (zdec_at dm_X2_liesIn 99 rfl) rfl ?_
                      obtain ⟨o56, h⟩ := h
                      obtain ⟨n57, q58, q59⟩ := h
                      exact zr_sub [1, 2, 3, 4, 0] rfl (ih38 n57 q58 _ _ q59 o56 hR51)
                    · have h := h.2 g55
                      refine zr_aload_n C 0 rfl (zdec_at dm_X2_liesIn 90 rfl) rfl ?_
                      refine zr_iload C 4 rfl (zdec_at dm_X2_liesIn 91 rfl) ?_
                      refine zr_iload C 3 rfl (zdec_at dm_X2_liesIn 92 rfl) ?_
                      obtain ⟨g65, h⟩ := h
                      refine zr_callV C [v33, v21] hS_X2_markAt ck_RX2_143 iv_X2_markAt vc_X2 oc_5 rfl rfl (zdec_at dm_X2_liesIn 93 rfl) ⟨rfl, rfl, rfl, rfl⟩ ⟨by decide, by decide⟩ (Nat.le_of_ble_eq_true rfl) (zall_0 z34 (zall_0 z22 zall_n)) ?_
                      refine ⟨_, _, rfl, g65, fun r60 M61 p64 z63 hR62 => ?_⟩
                      have h := h r60 M61 p64 z63 hR62
                      show zV Γ mu_X2_liesIn (145, 0, 0) 156 [(0, zRf (zad Γ) 5), (1, zI a1), (3, zI r14), (4, zI v21), (5, zI v33)] [zI r60] M61
                      refine zr_iload_n C 2 rfl (zdec_at dm_X2_liesIn 94 rfl) rfl ?_
                      refine zr_icmp_eq C z63 z17 (zdec_at dm_X2_liesIn 95 rfl) rfl (fun g66 => ?_) (fun g66 => ?_)
                      · have h := h.1 g66
                        refine zr_iinc (L1 := [(5, zI (v33 + 1)), (0, zRf (zad Γ) 5), (1, zI a1), (3, zI r14), (4, zI v21)]) C 4 rfl (zdec_at dm_X2_liesIn 98 rfl) (Nat.le_of_ble_eq_true rfl) rfl ?_
                        refine zr_goto C (zdec_at dm_X2_liesIn 99 rfl) rfl ?_
                        obtain ⟨o67, h⟩ := h
                        obtain ⟨n68, q69, q70⟩ := h
                        exact zr_sub [1, 2, 3, 4, 0] rfl (ih38 n68 q69 _ _ q70 o67 hR62)
                      · have h := h.2 g66
                        refine zr_iconst C (zdec_at dm_X2_liesIn 96 rfl) ?_
                        exact zr_zreturn C rfl (by decide) (zdec_at dm_X2_liesIn 97 rfl) rfl ⟨(by decide), h⟩
                exact zr_sub [1, 2, 3, 4, 0] rfl (lp39 n41 _ _ q42 (hR24 _ _) hR24)
            exact zr_sub [2, 3, 1, 0] rfl (lp27 n29 _ _ q30 (hR16 _ _) hR16)
          · have h := h.2 g20
            refine zr_iconst C (zdec_at dm_X2_liesIn 60 rfl) ?_
            exact zr_zreturn C rfl (by decide) (zdec_at dm_X2_liesIn 61 rfl) rfl ⟨(by decide), h⟩
        · have h := h.2 g6
          refine zr_iconst C (zdec_at dm_X2_liesIn 36 rfl) ?_
          exact zr_zreturn C rfl (by decide) (zdec_at dm_X2_liesIn 37 rfl) rfl ⟨(by decide), h⟩

set_option maxHeartbeats 400000 in
set_option maxRecDepth 100000 in
theorem sn_X2_depth {pr_X2_liesIn : Int → Int → zM → Prop} {po_X2_liesIn : Int → Int → zM → Int → zM → Prop} (hS_X2_liesIn : zSnd zS 145 0 0 yX2_liesIn cX2_liesIn 6 (some .boolean) 3 [2, 0, 0] (F_X2_liesIn pr_X2_liesIn po_X2_liesIn)) : zSnd zS 145 0 0 yX2_depth cX2_depth 4 (some .int) 4 [2, 0] (fun xs P M => ∃ a1 : Int, xs = [5, a1] ∧ vc_X2_depth pr_X2_liesIn po_X2_liesIn a1 P M) := by
  refine zSnd.of rfl (fun ad xs hz => Nat.le_trans (Nat.le_of_eq (zlen ad _ xs hz)) (by decide)) ?_
  intro Γ C _ _ xs M hz hF
  obtain ⟨a1, rfl, h⟩ := hF
  have zz_a1 := zall_h (zall_t hz) (by decide)
  refine zr_rng (fun hR => ?_)
  have C : zC Γ mu_X2_depth := C
  change zV Γ mu_X2_depth (145, 0, 0) 0 [(0, zRf (zad Γ) 5), (1, zI a1)] [] M
  change vc_X2_depth pr_X2_liesIn po_X2_liesIn a1 _ M at h
  unfold vc_X2_depth at h
  refine zr_iconst C (zdec_at dm_X2_depth 0 rfl) ?_
  refine zr_istore_n (L1 := [(2, zI 0), (0, zRf (zad Γ) 5), (1, zI a1)]) C (zdec_at dm_X2_depth 1 rfl) rfl (Nat.le_of_ble_eq_true rfl) rfl ?_
  refine zr_iconst C (zdec_at dm_X2_depth 2 rfl) ?_
  refine zr_istore_n (L1 := [(3, zI 0), (2, zI 0), (0, zRf (zad Γ) 5), (1, zI a1)]) C (zdec_at dm_X2_depth 3 rfl) rfl (Nat.le_of_ble_eq_true rfl) rfl ?_
  obtain ⟨I4, ⟨n11, q12⟩, hI10⟩ := h
  have lp9 : ∀ (n7 : Nat) (v1 : Int) (v2 : Int) (M5 : zM), I4 v1 v2 M5 n7 → zin v1 → zin v2 → zRng M5 → zV Γ mu_X2_depth (145, 0, 0) 4 [(0, zRf (zad Γ) 5), (1, zI a1), (2, zI v1), (3, zI v2)] [] M5 := by
    intro n7
    induction n7 using Nat.strongRecOn with
    | _ n7 ih8 =>
    intro v1 v2 M5 q13 z3 z4 hR6
    have h := hI10 v1 v2 M5 n7 q13 z3 z4 hR6
    refine zr_iload_n C 3 rfl (zdec_at dm_X2_depth 4 rfl) rfl ?_
    refine zr_aload_n C 0 rfl (zdec_at dm_X2_depth 5 rfl) rfl ?_
    refine zr_geti C fk_RX2_56 fi_5_2 (zdec_at dm_X2_depth 6 rfl) ?_
    refine zr_icmp_ge C z4 (hR6 _ _) (zdec_at dm_X2_depth 7 rfl) rfl (fun g14 => ?_) (fun g14 => ?_)
    · have h := h.1 g14
      refine zr_iload_n C 2 rfl (zdec_at dm_X2_depth 19 rfl) rfl ?_
      exact zr_ireturn C rfl (zdec_at dm_X2_depth 20 rfl) rfl ⟨z3, h⟩
    · have h := h.2 g14
      refine zr_iload_n C 3 rfl (zdec_at dm_X2_depth 8 rfl) rfl ?_
      refine zr_iload_n C 1 rfl (zdec_at dm_X2_depth 9 rfl) rfl ?_
      refine zr_icmp_eq C z4 zz_a1 (zdec_at dm_X2_depth 10 rfl) rfl (fun g15 => ?_) (fun g15 => ?_)
      · have h := h.1 g15
        refine zr_iinc (L1 := [(3, zI (v2 + 1)), (0, zRf (zad Γ) 5), (1, zI a1), (2, zI v1)]) C 3 rfl (zdec_at dm_X2_depth 17 rfl) (Nat.le_of_ble_eq_true rfl) rfl ?_
        refine zr_goto C (zdec_at dm_X2_depth 18 rfl) rfl ?_
        obtain ⟨o16, h⟩ := h
        obtain ⟨n17, q18, q19⟩ := h
        exact zr_sub [1, 2, 3, 0] rfl (ih8 n17 q18 _ _ _ q19 z3 o16 hR6)
      · have h := h.2 g15
        refine zr_aload_n C 0 rfl (zdec_at dm_X2_depth 11 rfl) rfl ?_
        refine zr_iload_n C 1 rfl (zdec_at dm_X2_depth 12 rfl) rfl ?_
        refine zr_iload_n C 3 rfl (zdec_at dm_X2_depth 13 rfl) rfl ?_
        obtain ⟨g25, h⟩ := h
        refine zr_callV C [a1, v2] hS_X2_liesIn ck_RX2_149 iv_X2_liesIn vc_X2 oc_5 rfl rfl (zdec_at dm_X2_depth 14 rfl) ⟨rfl, rfl, rfl, rfl⟩ ⟨by decide, by decide⟩ (Nat.le_of_ble_eq_true rfl) (zall_0 zz_a1 (zall_0 z4 zall_n)) ?_
        refine ⟨_, _, rfl, g25, fun r20 M21 p24 z23 hR22 => ?_⟩
        have h := h r20 M21 p24 z23 hR22
        show zV Γ mu_X2_depth (145, 0, 0) 23 [(0, zRf (zad Γ) 5), (1, zI a1), (2, zI v1), (3, zI v2)] [zI r20] M21
        refine zr_if_eq C z23 (zdec_at dm_X2_depth 15 rfl) rfl (fun g26 => ?_) (fun g26 => ?_)
        · have h := h.1 g26
          refine zr_iinc (L1 := [(3, zI (v2 + 1)), (0, zRf (zad Γ) 5), (1, zI a1), (2, zI v1)]) C 3 rfl (zdec_at dm_X2_depth 17 rfl) (Nat.le_of_ble_eq_true rfl) rfl ?_
          refine zr_goto C (zdec_at dm_X2_depth 18 rfl) rfl ?_
          obtain ⟨o27, h⟩ := h
          obtain ⟨n28, q29, q30⟩ := h
          exact zr_sub [1, 2, 3, 0] rfl (ih8 n28 q29 _ _ _ q30 z3 o27 hR22)
        · have h := h.2 g26
          refine zr_iinc (L1 := [(2, zI (v1 + 1)), (0, zRf (zad Γ) 5), (1, zI a1), (3, zI v2)]) C 2 rfl (zdec_at dm_X2_depth 16 rfl) (Nat.le_of_ble_eq_true rfl) rfl ?_
          refine zr_iinc (L1 := [(3, zI (v2 + 1)), (2, zI (v1 + 1)), (0, zRf (zad Γ) 5), (1, zI a1)]) C 3 rfl (zdec_at dm_X2_depth 17 rfl) (Nat.le_of_ble_eq_true rfl) rfl ?_
          refine zr_goto C (zdec_at dm_X2_depth 18 rfl) rfl ?_
          obtain ⟨o31, h⟩ := h
          obtain ⟨o32, h⟩ := h
          obtain ⟨n33, q34, q35⟩ := h
          exact zr_sub [2, 3, 1, 0] rfl (ih8 n33 q34 _ _ _ q35 o31 o32 hR22)
  exact zr_sub [2, 3, 1, 0] rfl (lp9 n11 _ _ _ q12 (by decide) (by decide) hR)

set_option maxHeartbeats 400000 in
set_option maxRecDepth 100000 in
theorem sn_X1_trace {pr_X1_listTurns : zM → Prop} {po_X1_listTurns : zM → zM → Prop} {pr_X1_wayOn : Int → Int → Int → Int → zM → Prop} {po_X1_wayOn : Int → Int → Int → Int → zM → Int → zM → Prop} (hS_X1_listTurns : zSnd zS 145 0 0 yX1_listTurns cX1_listTurns 2 none 1 [2] (F_X1_listTurns pr_X1_listTurns po_X1_listTurns)) (hS_X1_wayOn : zSnd zS 145 0 0 yX1_wayOn cX1_wayOn 8 (some .int) 2 [2, 0, 0, 0, 0] (F_X1_wayOn pr_X1_wayOn po_X1_wayOn)) : zSnd zS 145 0 0 yX1_trace cX1_trace 8 none 3 [2, 0] (fun xs P M => ∃ a1 : Int, xs = [17, a1] ∧ vc_X1_trace pr_X1_listTurns po_X1_listTurns pr_X1_wayOn po_X1_wayOn a1 P M) := by
  refine zSnd.of rfl (fun ad xs hz => Nat.le_trans (Nat.le_of_eq (zlen ad _ xs hz)) (by decide)) ?_
  intro Γ C _ _ xs M hz hF
  obtain ⟨a1, rfl, h⟩ := hF
  have zz_a1 := zall_h (zall_t hz) (by decide)
  refine zr_rng (fun hR => ?_)
  have C : zC Γ mu_X1_trace := C
  change zV Γ mu_X1_trace (145, 0, 0) 0 [(0, zRf (zad Γ) 17), (1, zI a1)] [] M
  change vc_X1_trace pr_X1_listTurns po_X1_listTurns pr_X1_wayOn po_X1_wayOn a1 _ M at h
  unfold vc_X1_trace at h
  refine zr_aload_n C 0 rfl (zdec_at dm_X1_trace 0 rfl) rfl ?_
  refine zr_geti C fk_RX1_37 fi_17_6 (zdec_at dm_X1_trace 1 rfl) ?_
  refine zr_aload_n C 0 rfl (zdec_at dm_X1_trace 2 rfl) rfl ?_
  refine zr_getr (q := 5) C fk_RX1_33 fi_17_0 (zdec_at dm_X1_trace 3 rfl) ?_
  refine zr_geti C fk_RX1_41 fi_5_1 (zdec_at dm_X1_trace 4 rfl) ?_
  have h := h (zV Γ mu_X1_trace (145, 0, 0) 23 [(0, zRf (zad Γ) 17), (1, zI a1)] [] M) (fun h => by
    refine zr_aload_n C 0 rfl (zdec_at dm_X1_trace 11 rfl) rfl ?_
    refine zr_aload_n C 0 rfl (zdec_at dm_X1_trace 12 rfl) rfl ?_
    refine zr_getr (q := 5) C fk_RX1_33 fi_17_0 (zdec_at dm_X1_trace 13 rfl) ?_
    refine zr_geti C fk_RX1_41 fi_5_1 (zdec_at dm_X1_trace 14 rfl) ?_
    refine zr_puti C fk_RX1_37 fi_17_6 (hR _ _) (zdec_at dm_X1_trace 15 rfl) (fun M1 e2 => ?_)
    have h := h M1 e2
    have hR3 : zRng M1 := by rw [e2]; exact hR.set (hR _ _) _ _
    refine zr_aload_n C 0 rfl (zdec_at dm_X1_trace 16 rfl) rfl ?_
    refine zr_iload_n C 1 rfl (zdec_at dm_X1_trace 17 rfl) rfl ?_
    refine zr_puti C fk_RX1_44 fi_17_7 zz_a1 (zdec_at dm_X1_trace 18 rfl) (fun M4 e5 => ?_)
    have h := h M4 e5
    have hR6 : zRng M4 := by rw [e5]; exact hR3.set zz_a1 _ _
    refine zr_aload_n C 0 rfl (zdec_at dm_X1_trace 19 rfl) rfl ?_
    refine zr_getr (q := 5) C fk_RX1_33 fi_17_0 (zdec_at dm_X1_trace 20 rfl) ?_
    refine zr_getr (q := 7) C fk_RX1_47 fi_5_4 (zdec_at dm_X1_trace 21 rfl) ?_
    refine zr_iload_n C 1 rfl (zdec_at dm_X1_trace 22 rfl) rfl ?_
    obtain ⟨o7, h⟩ := h
    refine zr_iald C ai_7 o7 (zdec_at dm_X1_trace 23 rfl) ?_
    refine zr_bipush C (zdec_at dm_X1_trace 24 rfl) (by decide) ?_
    obtain ⟨o8, h⟩ := h
    refine zr_irem C (hR6 _ _) (by decide) ⟨o8, by decide⟩ (zdec_at dm_X1_trace 25 rfl) ?_
    refine zr_istore_n (L1 := [(2, zI ((M4 7 a1) % 16)), (0, zRf (zad Γ) 17), (1, zI a1)]) C (zdec_at dm_X1_trace 26 rfl) rfl (Nat.le_of_ble_eq_true rfl) rfl ?_
    refine zr_aload_n C 1 rfl (zdec_at dm_X1_trace 27 rfl) rfl ?_
    refine zr_getr (q := 5) C fk_RX1_33 fi_17_0 (zdec_at dm_X1_trace 28 rfl) ?_
    refine zr_getr (q := 7) C fk_RX1_47 fi_5_4 (zdec_at dm_X1_trace 29 rfl) ?_
    refine zr_iload_n C 2 rfl (zdec_at dm_X1_trace 30 rfl) rfl ?_
    refine zr_iald C ai_7 o7 (zdec_at dm_X1_trace 31 rfl) ?_
    refine zr_bipush C (zdec_at dm_X1_trace 32 rfl) (by decide) ?_
    refine zr_idiv C (hR6 _ _) (by decide) ⟨o8, by decide⟩ (zdec_at dm_X1_trace 33 rfl) ?_
    refine zr_istore_n (L1 := [(3, zI ((M4 7 a1) / 16)), (2, zI ((M4 7 a1) % 16)), (0, zRf (zad Γ) 17), (1, zI a1)]) C (zdec_at dm_X1_trace 34 rfl) rfl (Nat.le_of_ble_eq_true rfl) rfl ?_
    refine zr_iload_n C 1 rfl (zdec_at dm_X1_trace 35 rfl) rfl ?_
    refine zr_istore (L1 := [(4, zI ((M4 7 a1) % 16)), (3, zI ((M4 7 a1) / 16)), (2, zI ((M4 7 a1) % 16)), (0, zRf (zad Γ) 17), (1, zI a1)]) C (zdec_at dm_X1_trace 36 rfl) (Nat.le_of_ble_eq_true rfl) rfl ?_
    refine zr_iload_n C 1 rfl (zdec_at dm_X1_trace 37 rfl) rfl ?_
    refine zr_istore (L1 := [(5, zI ((M4 7 a1) / 16)), (4, zI ((M4 7 a1) % 16)), (3, zI ((M4 7 a1) / 16)), (2, zI ((M4 7 a1) % 16)), (0, zRf (zad Γ) 17), (1, zI a1)]) C (zdec_at dm_X1_trace 38 rfl) (Nat.le_of_ble_eq_true rfl) rfl ?_
    refine zr_iconst C (zdec_at dm_X1_trace 39 rfl) ?_
    refine zr_istore (L1 := [(6, zI 0), (5, zI ((M4 7 a1) / 16)), (4, zI ((M4 7 a1) % 16)), (3, zI ((M4 7 a1) / 16)), (2, zI ((M4 7 a1) % 16)), (0, zRf (zad Γ) 17), (1, zI a1)]) C (zdec_at dm_X1_trace 40 rfl) (Nat.le_of_ble_eq_true rfl) rfl ?_
    refine zr_iconst C (zdec_at dm_X1_trace 41 rfl) ?_
    refine zr_istore (L1 := [(7, zI 0), (6, zI 0), (5, zI ((M4 7 a1) / 16)), (4, zI ((M4 7 a1) % 16)), (3, zI ((M4 7 a1) / 16)), (2, zI ((M4 7 a1) % 16)), (0, zRf (zad Γ) 17), (1, zI a1)]) C (zdec_at dm_X1_trace 42 rfl) (Nat.le_of_ble_eq_true rfl) rfl ?_
    obtain ⟨I77, ⟨n23, q24⟩, hI22⟩ := h
    have lp21 : ∀ (n19 : Nat) (v9 : Int) (v10 : Int) (v11 : Int) (v12 : Int) (M17 : zM), I77 v9 v10 v11 v12 M17 n19 → zin v9 → zin v10 → zin v11 → zin v12 → zRng M17 → zV Γ mu_X1_trace (145, 0, 0) 77 [(0, zRf (zad Γ) 17), (1, zI a1), (2, zI v9), (3, zI v10), (4, zI ((M4 7 a1) % 16)), (5, zI ((M4 7 a1) / 16)), (6, zI v11), (7, zI v12)] [] M17 := by
      intro n19
      induction n19 using Nat.strongRecOn with
      | _ n19 ih20 =>
      intro v9 v10 v11 v12 M17 q25 z13 z14 z15 z16 hR18
      have h := hI22 v9 v10 v11 v12 M17 n19 q25 z13 z14 z15 z16 hR18
      refine zr_iload C 7 rfl (zdec_at dm_X1_trace 43 rfl) ?_
      refine zr_sipush C (zdec_at dm_X1_trace 44 rfl) (by decide) ?_
      have h := h (fun M26 => zRng M26 → zV Γ mu_X1_trace (145, 0, 0) 177 [(0, zRf (zad Γ) 17), (4, zI ((M4 7 a1) % 16)), (5, zI ((M4 7 a1) / 16))] [] M26) (fun M26 h hR27 => by
        have h := h hR27
        refine zr_aload_n C 0 rfl (zdec_at dm_X1_trace 100 rfl) rfl ?_
        refine zr_getr (q := 19) C fk_RX1_15 fi_17_3 (zdec_at dm_X1_trace 101 rfl) ?_
        refine zr_aload_n C 0 rfl (zdec_at dm_X1_trace 102 rfl) rfl ?_
        refine zr_geti C fk_RX1_50 fi_17_1 (zdec_at dm_X1_trace 103 rfl) ?_
        refine zr_iload C 1 rfl (zdec_at dm_X1_trace 104 rfl) ?_
        obtain ⟨o28, h⟩ := h
        refine zr_iast C ai_19 o28 (z_rz (a := (M4 7 a1)) (b := 16) ⟨o8, by decide⟩ (by decide)) (zdec_at dm_X1_trace 105 rfl) (fun M29 e30 => ?_)
        have h := h M29 e30
        have hR31 : zRng M29 := by rw [e30]; exact hR27.set (z_rz (a := (M4 7 a1)) (b := 16) ⟨o8, by decide⟩ (by decide)) _ _
        refine zr_aload_n C 0 rfl (zdec_at dm_X1_trace 106 rfl) rfl ?_
        refine zr_getr (q := 20) C fk_RX1_18 fi_17_4 (zdec_at dm_X1_trace 107 rfl) ?_
        refine zr_aload_n C 0 rfl (zdec_at dm_X1_trace 108 rfl) rfl ?_
        refine zr_geti C fk_RX1_50 fi_17_1 (zdec_at dm_X1_trace 109 rfl) ?_
        refine zr_iload C 2 rfl (zdec_at dm_X1_trace 110 rfl) ?_
        obtain ⟨o32, h⟩ := h
        refine zr_iast C ai_20 o32 (z_dz2 (a := (M4 7 a1)) (b := 16) ⟨o8, by decide⟩ (hR6 _ _)) (zdec_at dm_X1_trace 111 rfl) (fun M33 e34 => ?_)
        have h := h M33 e34
        have hR35 : zRng M33 := by rw [e34]; exact hR31.set (z_dz2 (a := (M4 7 a1)) (b := 16) ⟨o8, by decide⟩ (hR6 _ _)) _ _
        refine zr_aload_n C 0 rfl (zdec_at dm_X1_trace 112 rfl) rfl ?_
        obtain ⟨g40, h⟩ := h
        refine zr_callV C [] hS_X1_listTurns ck_RX1_63 iv_X1_listTurns vc_X1 oc_17 rfl rfl (zdec_at dm_X1_trace 113 rfl) ⟨rfl, rfl, rfl, rfl⟩ ⟨by decide, by decide⟩ (Nat.le_of_ble_eq_true rfl) zall_n ?_
        refine ⟨rfl, g40, fun M36 p39 _ hR37 => ?_⟩
        have h := h M36 p39 hR37
        show zV Γ mu_X1_trace (145, 0, 0) 203 [(0, zRf (zad Γ) 17), (4, zI ((M4 7 a1) % 16)), (5, zI ((M4 7 a1) / 16))] [] M36
        exact zr_return C rfl rfl (zdec_at dm_X1_trace 114 rfl) rfl ⟨by decide, h⟩)
      refine zr_icmp_ge C z16 (by decide) (zdec_at dm_X1_trace 45 rfl) rfl (fun g41 => ?_) (fun g41 => ?_)
      · have h := h.1 g41
        exact zr_sub [0, 4, 5] rfl (h hR18)
      · have h := h.2 g41
        refine zr_aload_n C 0 rfl (zdec_at dm_X1_trace 46 rfl) rfl ?_
        refine zr_getr (q := 18) C fk_RX1_9 fi_17_2 (zdec_at dm_X1_trace 47 rfl) ?_
        refine zr_iload C 7 rfl (zdec_at dm_X1_trace 48 rfl) ?_
        refine zr_iload C 6 rfl (zdec_at dm_X1_trace 49 rfl) ?_
        obtain ⟨o42, h⟩ := h
        refine zr_iast C ai_18 o42 z15 (zdec_at dm_X1_trace 50 rfl) (fun M43 e44 => ?_)
        have h := h M43 e44
        have hR45 : zRng M43 := by rw [e44]; exact hR18.set z15 _ _
        refine zr_aload_n C 0 rfl (zdec_at dm_X1_trace 51 rfl) rfl ?_
        refine zr_getr (q := 19) C fk_RX1_15 fi_17_3 (zdec_at dm_X1_trace 52 rfl) ?_
        refine zr_iload C 7 rfl (zdec_at dm_X1_trace 53 rfl) ?_
        refine zr_iload_n C 2 rfl (zdec_at dm_X1_trace 54 rfl) rfl ?_
        refine zr_iast C ai_19 o42 z13 (zdec_at dm_X1_trace 55 rfl) (fun M46 e47 => ?_)
        have h := h M46 e47
        have hR48 : zRng M46 := by rw [e47]; exact hR45.set z13 _ _
        refine zr_aload_n C 0 rfl (zdec_at dm_X1_trace 56 rfl) rfl ?_
        refine zr_getr (q := 20) C fk_RX1_18 fi_17_4 (zdec_at dm_X1_trace 57 rfl) ?_
        refine zr_iload C 7 rfl (zdec_at dm_X1_trace 58 rfl) ?_
        refine zr_iload_n C 3 rfl (zdec_at dm_X1_trace 59 rfl) rfl ?_
        refine zr_iast C ai_20 o42 z14 (zdec_at dm_X1_trace 60 rfl) (fun M49 e50 => ?_)
        have h := h M49 e50
        have hR51 : zRng M49 := by rw [e50]; exact hR48.set z14 _ _
        refine zr_aload_n C 0 rfl (zdec_at dm_X1_trace 61 rfl) rfl ?_
        refine zr_iload C 7 rfl (zdec_at dm_X1_trace 62 rfl) ?_
        refine zr_iconst C (zdec_at dm_X1_trace 63 rfl) ?_
        refine zr_iadd C (zdec_at dm_X1_trace 64 rfl) ?_
        obtain ⟨o52, h⟩ := h
        refine zr_puti C fk_RX1_50 fi_17_1 o52 (zdec_at dm_X1_trace 65 rfl) (fun M53 e54 => ?_)
        have h := h M53 e54
        have hR55 : zRng M53 := by rw [e54]; exact hR51.set o52 _ _
        refine zr_iload_n C 2 rfl (zdec_at dm_X1_trace 66 rfl) rfl ?_
        refine zr_gets1 C sk_RX1_53 (zdec_at dm_X1_trace 67 rfl) ?_
        refine zr_iload C 6 rfl (zdec_at dm_X1_trace 68 rfl) ?_
        refine zr_iconst C (zdec_at dm_X1_trace 69 rfl) ?_
        refine zr_iand C (zdec_at dm_X1_trace 70 rfl) ?_
        obtain ⟨o56, h⟩ := h
        refine zr_sald1 C o56 (zdec_at dm_X1_trace 71 rfl) ?_
        refine zr_iadd C (zdec_at dm_X1_trace 72 rfl) ?_
        refine zr_istore_n (L1 := [(2, zI (v9 + (zac (Int.toNat (zland v11 3))))), (0, zRf (zad Γ) 17), (1, zI a1), (3, zI v10), (4, zI ((M4 7 a1) % 16)), (5, zI ((M4 7 a1) / 16)), (6, zI v11), (7, zI v12)]) C (zdec_at dm_X1_trace 73 rfl) rfl (Nat.le_of_ble_eq_true rfl) rfl ?_
        refine zr_iload_n C 3 rfl (zdec_at dm_X1_trace 74 rfl) rfl ?_
        refine zr_gets2 C sk_RX1_56 (zdec_at dm_X1_trace 75 rfl) ?_
        refine zr_iload C 6 rfl (zdec_at dm_X1_trace 76 rfl) ?_
        refine zr_iconst C (zdec_at dm_X1_trace 77 rfl) ?_
        refine zr_iand C (zdec_at dm_X1_trace 78 rfl) ?_
        refine zr_sald2 C o56 (zdec_at dm_X1_trace 79 rfl) ?_
        refine zr_iadd C (zdec_at dm_X1_trace 80 rfl) ?_
        refine zr_istore_n (L1 := [(3, zI (v10 + (zdn (Int.toNat (zland v11 3))))), (2, zI (v9 + (zac (Int.toNat (zland v11 3))))), (0, zRf (zad Γ) 17), (1, zI a1), (4, zI ((M4 7 a1) % 16)), (5, zI ((M4 7 a1) / 16)), (6, zI v11), (7, zI v12)]) C (zdec_at dm_X1_trace 81 rfl) rfl (Nat.le_of_ble_eq_true rfl) rfl ?_
        refine zr_aload_n C 2 rfl (zdec_at dm_X1_trace 82 rfl) rfl ?_
        refine zr_iload_n C 3 rfl (zdec_at dm_X1_trace 83 rfl) rfl ?_
        refine zr_iload_n C 1 rfl (zdec_at dm_X1_trace 84 rfl) rfl ?_
        refine zr_iload_n C 0 rfl (zdec_at dm_X1_trace 85 rfl) rfl ?_
        refine zr_iload C 6 rfl (zdec_at dm_X1_trace 86 rfl) ?_
        obtain ⟨o57, h⟩ := h
        obtain ⟨o58, h⟩ := h
        obtain ⟨g64, h⟩ := h
        refine zr_callV C [a1, (v9 + (zac (Int.toNat (zland v11 3)))), (v10 + (zdn (Int.toNat (zland v11 3)))), v11] hS_X1_wayOn ck_RX1_59 iv_X1_wayOn vc_X1 oc_17 rfl rfl (zdec_at dm_X1_trace 87 rfl) ⟨rfl, rfl, rfl, rfl⟩ ⟨by decide, by decide⟩ (Nat.le_of_ble_eq_true rfl) (zall_0 zz_a1 (zall_0 o58 (zall_0 o57 (zall_0 z15 zall_n)))) ?_
        refine ⟨_, _, _, _, rfl, g64, fun r59 M60 p63 z62 hR61 => ?_⟩
        have h := h r59 M60 p63 z62 hR61
        show zV Γ mu_X1_trace (145, 0, 0) 149 [(3, zI (v10 + (zdn (Int.toNat (zland v11 3))))), (2, zI (v9 + (zac (Int.toNat (zland v11 3))))), (0, zRf (zad Γ) 17), (1, zI a1), (4, zI ((M4 7 a1) % 16)), (5, zI ((M4 7 a1) / 16)), (6, zI v11), (7, zI v12)] [zI r59] M60
        refine zr_istore (L1 := [(6, zI r59), (3, zI (v10 + (zdn (Int.toNat (zland v11 3))))), (2, zI (v9 + (zac (Int.toNat (zland v11 3))))), (0, zRf (zad Γ) 17), (1, zI a1), (4, zI ((M4 7 a1) % 16)), (5, zI ((M4 7 a1) / 16)), (7, zI v12)]) C (zdec_at dm_X1_trace 88 rfl) (Nat.le_of_ble_eq_true rfl) rfl ?_
        refine zr_iload_n C 2 rfl (zdec_at dm_X1_trace 89 rfl) rfl ?_
        refine zr_iload C 5 rfl (zdec_at dm_X1_trace 90 rfl) ?_
        refine zr_icmp_ne C o58 (z_rz (a := (M4 7 a1)) (b := 16) ⟨o8, by decide⟩ (by decide)) (zdec_at dm_X1_trace 91 rfl) rfl (fun g65 => ?_) (fun g65 => ?_)
        · have h := h.1 g65
          refine zr_iinc (L1 := [(7, zI (v12 + 1)), (6, zI r59), (3, zI (v10 + (zdn (Int.toNat (zland v11 3))))), (2, zI (v9 + (zac (Int.toNat (zland v11 3))))), (0, zRf (zad Γ) 17), (1, zI a1), (4, zI ((M4 7 a1) % 16)), (5, zI ((M4 7 a1) / 16))]) C 7 rfl (zdec_at dm_X1_trace 98 rfl) (Nat.le_of_ble_eq_true rfl) rfl ?_
          refine zr_goto C (zdec_at dm_X1_trace 99 rfl) rfl ?_
          obtain ⟨n66, q67, q68⟩ := h
          exact zr_sub [4, 5, 3, 2, 6, 7, 1, 0] rfl (ih20 n66 q67 _ _ _ _ _ q68 o58 o57 z62 o52 hR61)
        · have h := h.2 g65
          refine zr_iload_n C 1 rfl (zdec_at dm_X1_trace 92 rfl) rfl ?_
          refine zr_iload C 6 rfl (zdec_at dm_X1_trace 93 rfl) ?_
          refine zr_icmp_ne C o57 (z_dz2 (a := (M4 7 a1)) (b := 16) ⟨o8, by decide⟩ (hR6 _ _)) (zdec_at dm_X1_trace 94 rfl) rfl (fun g69 => ?_) (fun g69 => ?_)
          · have h := h.1 g69
            refine zr_iinc (L1 := [(7, zI (v12 + 1)), (6, zI r59), (3, zI (v10 + (zdn (Int.toNat (zland v11 3))))), (2, zI (v9 + (zac (Int.toNat (zland v11 3))))), (0, zRf (zad Γ) 17), (1, zI a1), (4, zI ((M4 7 a1) % 16)), (5, zI ((M4 7 a1) / 16))]) C 7 rfl (zdec_at dm_X1_trace 98 rfl) (Nat.le_of_ble_eq_true rfl) rfl ?_
            refine zr_goto C (zdec_at dm_X1_trace 99 rfl) rfl ?_
            obtain ⟨n70, q71, q72⟩ := h
            exact zr_sub [4, 5, 3, 2, 6, 7, 1, 0] rfl (ih20 n70 q71 _ _ _ _ _ q72 o58 o57 z62 o52 hR61)
          · have h := h.2 g69
            refine zr_iload C 0 rfl (zdec_at dm_X1_trace 95 rfl) ?_
            refine zr_if_ne C z62 (zdec_at dm_X1_trace 96 rfl) rfl (fun g73 => ?_) (fun g73 => ?_)
            · have h := h.1 g73
              refine zr_iinc (L1 := [(7, zI (v12 + 1)), (6, zI r59), (3, zI (v10 + (zdn (Int.toNat (zland v11 3))))), (2, zI (v9 + (zac (Int.toNat (zland v11 3))))), (0, zRf (zad Γ) 17), (1, zI a1), (4, zI ((M4 7 a1) % 16)), (5, zI ((M4 7 a1) / 16))]) C 7 rfl (zdec_at dm_X1_trace 98 rfl) (Nat.le_of_ble_eq_true rfl) rfl ?_
              refine zr_goto C (zdec_at dm_X1_trace 99 rfl) rfl ?_
              obtain ⟨n74, q75, q76⟩ := h
              exact zr_sub [4, 5, 3, 2, 6, 7, 1, 0] rfl (ih20 n74 q75 _ _ _ _ _ q76 o58 o57 z62 o52 hR61)
            · have h := h.2 g73
              refine zr_goto C (zdec_at dm_X1_trace 97 rfl) rfl ?_
              exact zr_sub [3, 5, 6] rfl (h hR61)
    exact zr_sub [6, 7, 5, 4, 3, 2, 1, 0] rfl (lp21 n23 _ _ _ _ _ q24 (z_rz (a := (M4 7 a1)) (b := 16) ⟨o8, by decide⟩ (by decide)) (z_dz2 (a := (M4 7 a1)) (b := 16) ⟨o8, by decide⟩ (hR6 _ _)) (by decide) (by decide) hR6))
  refine zr_icmp_ne C (hR _ _) (hR _ _) (zdec_at dm_X1_trace 5 rfl) rfl (fun g77 => ?_) (fun g77 => ?_)
  · have h := h.1 g77
    exact zr_sub [0, 1] rfl (h)
  · have h := h.2 g77
    refine zr_aload_n C 0 rfl (zdec_at dm_X1_trace 6 rfl) rfl ?_
    refine zr_geti C fk_RX1_44 fi_17_7 (zdec_at dm_X1_trace 7 rfl) ?_
    refine zr_iload_n C 1 rfl (zdec_at dm_X1_trace 8 rfl) rfl ?_
    refine zr_icmp_ne C (hR _ _) zz_a1 (zdec_at dm_X1_trace 9 rfl) rfl (fun g78 => ?_) (fun g78 => ?_)
    · have h := h.1 g78
      exact zr_sub [0, 1] rfl (h)
    · have h := h.2 g78
      exact zr_return C rfl rfl (zdec_at dm_X1_trace 10 rfl) rfl ⟨by decide, h⟩

set_option maxHeartbeats 400000 in
set_option maxRecDepth 100000 in
theorem sn_X1_wayOn {pr_X1_isInQuarter : Int → Int → Int → Int → zM → Prop} {po_X1_isInQuarter : Int → Int → Int → Int → zM → Int → zM → Prop} (hS_X1_isInQuarter : zSnd zS 145 0 0 yX1_isInQuarter cX1_isInQuarter 8 (some .boolean) 1 [2, 0, 0, 0, 0] (F_X1_isInQuarter pr_X1_isInQuarter po_X1_isInQuarter)) : zSnd zS 145 0 0 yX1_wayOn cX1_wayOn 8 (some .int) 2 [2, 0, 0, 0, 0] (fun xs P M => ∃ a1 a2 a3 a4 : Int, xs = [17, a1, a2, a3, a4] ∧ vc_X1_wayOn pr_X1_isInQuarter po_X1_isInQuarter a1 a2 a3 a4 P M) := by
  refine zSnd.of rfl (fun ad xs hz => Nat.le_trans (Nat.le_of_eq (zlen ad _ xs hz)) (by decide)) ?_
  intro Γ C _ _ xs M hz hF
  obtain ⟨a1, a2, a3, a4, rfl, h⟩ := hF
  have zz_a1 := zall_h (zall_t hz) (by decide)
  have zz_a2 := zall_h (zall_t (zall_t hz)) (by decide)
  have zz_a3 := zall_h (zall_t (zall_t (zall_t hz))) (by decide)
  have zz_a4 := zall_h (zall_t (zall_t (zall_t (zall_t hz)))) (by decide)
  refine zr_rng (fun hR => ?_)
  have C : zC Γ mu_X1_wayOn := C
  change zV Γ mu_X1_wayOn (145, 0, 0) 0 [(0, zRf (zad Γ) 17), (1, zI a1), (2, zI a2), (3, zI a3), (4, zI a4)] [] M
  change vc_X1_wayOn pr_X1_isInQuarter po_X1_isInQuarter a1 a2 a3 a4 _ M at h
  unfold vc_X1_wayOn at h
  refine zr_aload_n C 0 rfl (zdec_at dm_X1_wayOn 0 rfl) rfl ?_
  refine zr_iload_n C 1 rfl (zdec_at dm_X1_wayOn 1 rfl) rfl ?_
  refine zr_iload_n C 2 rfl (zdec_at dm_X1_wayOn 2 rfl) rfl ?_
  refine zr_iload_n C 3 rfl (zdec_at dm_X1_wayOn 3 rfl) rfl ?_
  refine zr_iload C 4 rfl (zdec_at dm_X1_wayOn 4 rfl) ?_
  obtain ⟨g6, h⟩ := h
  refine zr_callV C [a1, a2, a3, a4] hS_X1_isInQuarter ck_RX1_66 iv_X1_isInQuarter vc_X1 oc_17 rfl rfl (zdec_at dm_X1_wayOn 5 rfl) ⟨rfl, rfl, rfl, rfl⟩ ⟨by decide, by decide⟩ (Nat.le_of_ble_eq_true rfl) (zall_0 zz_a1 (zall_0 zz_a2 (zall_0 zz_a3 (zall_0 zz_a4 zall_n)))) ?_
  refine ⟨_, _, _, _, rfl, g6, fun r1 M2 p5 z4 hR3 => ?_⟩
  have h := h r1 M2 p5 z4 hR3
  show zV Γ mu_X1_wayOn (145, 0, 0) 9 [(0, zRf (zad Γ) 17), (1, zI a1), (2, zI a2), (3, zI a3), (4, zI a4)] [zI r1] M2
  refine zr_istore (L1 := [(5, zI r1), (0, zRf (zad Γ) 17), (1, zI a1), (2, zI a2), (3, zI a3), (4, zI a4)]) C (zdec_at dm_X1_wayOn 6 rfl) (Nat.le_of_ble_eq_true rfl) rfl ?_
  refine zr_aload_n C 1 rfl (zdec_at dm_X1_wayOn 7 rfl) rfl ?_
  refine zr_iload_n C 2 rfl (zdec_at dm_X1_wayOn 8 rfl) rfl ?_
  refine zr_iload_n C 3 rfl (zdec_at dm_X1_wayOn 9 rfl) rfl ?_
  refine zr_iload_n C 4 rfl (zdec_at dm_X1_wayOn 10 rfl) rfl ?_
  refine zr_iload C 5 rfl (zdec_at dm_X1_wayOn 11 rfl) ?_
  refine zr_iconst C (zdec_at dm_X1_wayOn 12 rfl) ?_
  refine zr_iadd C (zdec_at dm_X1_wayOn 13 rfl) ?_
  obtain ⟨o7, h⟩ := h
  obtain ⟨g13, h⟩ := h
  refine zr_callV C [a1, a2, a3, (a4 + 3)] hS_X1_isInQuarter ck_RX1_66 iv_X1_isInQuarter vc_X1 oc_17 rfl rfl (zdec_at dm_X1_wayOn 14 rfl) ⟨rfl, rfl, rfl, rfl⟩ ⟨by decide, by decide⟩ (Nat.le_of_ble_eq_true rfl) (zall_0 zz_a1 (zall_0 zz_a2 (zall_0 zz_a3 (zall_0 o7 zall_n)))) ?_
  refine ⟨_, _, _, _, rfl, g13, fun r8 M9 p12 z11 hR10 => ?_⟩
  have h := h r8 M9 p12 z11 hR10
  show zV Γ mu_X1_wayOn (145, 0, 0) 22 [(5, zI r1), (0, zRf (zad Γ) 17), (1, zI a1), (2, zI a2), (3, zI a3), (4, zI a4)] [zI r8] M9
  refine zr_istore (L1 := [(6, zI r8), (5, zI r1), (0, zRf (zad Γ) 17), (1, zI a1), (2, zI a2), (3, zI a3), (4, zI a4)]) C (zdec_at dm_X1_wayOn 15 rfl) (Nat.le_of_ble_eq_true rfl) rfl ?_
  refine zr_iload C 0 rfl (zdec_at dm_X1_wayOn 16 rfl) ?_
  have h := h (fun v14 => zin v14 → zV Γ mu_X1_wayOn (145, 0, 0) 53 [(4, zI a4), (5, zI r1)] [zI v14] M9) (fun v14 h z15 => by
    have h := h z15
    refine zr_istore (L1 := [(7, zI v14), (4, zI a4), (5, zI r1)]) C (zdec_at dm_X1_wayOn 29 rfl) (Nat.le_of_ble_eq_true rfl) rfl ?_
    refine zr_iload C 0 rfl (zdec_at dm_X1_wayOn 30 rfl) ?_
    refine zr_if_eq C z15 (zdec_at dm_X1_wayOn 31 rfl) rfl (fun g16 => ?_) (fun g16 => ?_)
    · have h := h.1 g16
      refine zr_iload C 2 rfl (zdec_at dm_X1_wayOn 38 rfl) ?_
      refine zr_if_eq C z4 (zdec_at dm_X1_wayOn 39 rfl) rfl (fun g17 => ?_) (fun g17 => ?_)
      · have h := h.1 g17
        refine zr_iload C 1 rfl (zdec_at dm_X1_wayOn 42 rfl) ?_
        refine zr_iconst C (zdec_at dm_X1_wayOn 43 rfl) ?_
        refine zr_iadd C (zdec_at dm_X1_wayOn 44 rfl) ?_
        refine zr_iconst C (zdec_at dm_X1_wayOn 45 rfl) ?_
        refine zr_iand C (zdec_at dm_X1_wayOn 46 rfl) ?_
        exact zr_ireturn C rfl (zdec_at dm_X1_wayOn 47 rfl) rfl ⟨(zland_z _ _), h⟩
      · have h := h.2 g17
        refine zr_iload C 1 rfl (zdec_at dm_X1_wayOn 40 rfl) ?_
        refine zr_goto C (zdec_at dm_X1_wayOn 41 rfl) rfl ?_
        exact zr_ireturn C rfl (zdec_at dm_X1_wayOn 47 rfl) rfl ⟨zz_a4, h⟩
    · have h := h.2 g16
      refine zr_iload C 1 rfl (zdec_at dm_X1_wayOn 32 rfl) ?_
      refine zr_iconst C (zdec_at dm_X1_wayOn 33 rfl) ?_
      refine zr_iadd C (zdec_at dm_X1_wayOn 34 rfl) ?_
      refine zr_iconst C (zdec_at dm_X1_wayOn 35 rfl) ?_
      refine zr_iand C (zdec_at dm_X1_wayOn 36 rfl) ?_
      exact zr_ireturn C rfl (zdec_at dm_X1_wayOn 37 rfl) rfl ⟨(zland_z _ _), h⟩)
  have h := h (zV Γ mu_X1_wayOn (145, 0, 0) 52 [(4, zI a4), (5, zI r1)] [] M9) (fun h => by
    refine zr_iconst C (zdec_at dm_X1_wayOn 28 rfl) ?_
    exact zr_sub [0, 1] rfl (h (by decide)))
  refine zr_if_eq C z11 (zdec_at dm_X1_wayOn 17 rfl) rfl (fun g18 => ?_) (fun g18 => ?_)
  · have h := h.1 g18
    exact zr_sub [6, 1] rfl (h)
  · have h := h.2 g18
    refine zr_iload C 1 rfl (zdec_at dm_X1_wayOn 18 rfl) ?_
    have h := h (zV Γ mu_X1_wayOn (145, 0, 0) 48 [(4, zI a4), (5, zI r1)] [] M9) (fun h => by
      refine zr_iconst C (zdec_at dm_X1_wayOn 26 rfl) ?_
      refine zr_goto C (zdec_at dm_X1_wayOn 27 rfl) rfl ?_
      exact zr_sub [0, 1] rfl (h (by decide)))
    refine zr_if_ne C z4 (zdec_at dm_X1_wayOn 19 rfl) rfl (fun g19 => ?_) (fun g19 => ?_)
    · have h := h.1 g19
      exact zr_sub [6, 1] rfl (h)
    · have h := h.2 g19
      refine zr_aload_n C 2 rfl (zdec_at dm_X1_wayOn 20 rfl) rfl ?_
      refine zr_getr (q := 5) C fk_RX1_33 fi_17_0 (zdec_at dm_X1_wayOn 21 rfl) ?_
      refine zr_getr (q := 1) C fk_RX1_70 fi_5_0 (zdec_at dm_X1_wayOn 22 rfl) ?_
      refine zr_geti C fk_RX1_74 fi_1_2 (zdec_at dm_X1_wayOn 23 rfl) ?_
      refine zr_iconst C (zdec_at dm_X1_wayOn 24 rfl) ?_
      refine zr_icmp_ne C (hR10 _ _) (by decide) (zdec_at dm_X1_wayOn 25 rfl) rfl (fun g20 => ?_) (fun g20 => ?_)
      · have h := h.1 g20
        exact zr_sub [6, 1] rfl (h)
      · have h := h.2 g20
        exact zr_sub [6, 1] rfl (h)

set_option maxHeartbeats 400000 in
set_option maxRecDepth 100000 in
theorem sn_X1_isInQuarter {pr_X2_faceAt : Int → Int → zM → Prop} {po_X2_faceAt : Int → Int → zM → Int → zM → Prop} (hS_X2_faceAt : zSnd zS 145 0 0 yX2_faceAt cX2_faceAt 3 (some .int) 0 [2, 0, 0] (F_X2_faceAt pr_X2_faceAt po_X2_faceAt)) : zSnd zS 145 0 0 yX1_isInQuarter cX1_isInQuarter 8 (some .boolean) 1 [2, 0, 0, 0, 0] (fun xs P M => ∃ a1 a2 a3 a4 : Int, xs = [17, a1, a2, a3, a4] ∧ vc_X1_isInQuarter pr_X2_faceAt po_X2_faceAt a1 a2 a3 a4 P M) := by
  refine zSnd.of rfl (fun ad xs hz => Nat.le_trans (Nat.le_of_eq (zlen ad _ xs hz)) (by decide)) ?_
  intro Γ C _ _ xs M hz hF
  obtain ⟨a1, a2, a3, a4, rfl, h⟩ := hF
  have zz_a1 := zall_h (zall_t hz) (by decide)
  have zz_a2 := zall_h (zall_t (zall_t hz)) (by decide)
  have zz_a3 := zall_h (zall_t (zall_t (zall_t hz))) (by decide)
  have zz_a4 := zall_h (zall_t (zall_t (zall_t (zall_t hz)))) (by decide)
  refine zr_rng (fun hR => ?_)
  have C : zC Γ mu_X1_isInQuarter := C
  change zV Γ mu_X1_isInQuarter (145, 0, 0) 0 [(0, zRf (zad Γ) 17), (1, zI a1), (2, zI a2), (3, zI a3), (4, zI a4)] [] M
  change vc_X1_isInQuarter pr_X2_faceAt po_X2_faceAt a1 a2 a3 a4 _ M at h
  unfold vc_X1_isInQuarter at h
  refine zr_iload C 4 rfl (zdec_at dm_X1_isInQuarter 0 rfl) ?_
  refine zr_iconst C (zdec_at dm_X1_isInQuarter 1 rfl) ?_
  refine zr_iand C (zdec_at dm_X1_isInQuarter 2 rfl) ?_
  refine zr_istore (L1 := [(5, zI (zland a4 3)), (0, zRf (zad Γ) 17), (1, zI a1), (2, zI a2), (3, zI a3), (4, zI a4)]) C (zdec_at dm_X1_isInQuarter 3 rfl) (Nat.le_of_ble_eq_true rfl) rfl ?_
  refine zr_iload C 0 rfl (zdec_at dm_X1_isInQuarter 4 rfl) ?_
  refine zr_iconst C (zdec_at dm_X1_isInQuarter 5 rfl) ?_
  have h := h (fun v1 => zin v1 → zV Γ mu_X1_isInQuarter (145, 0, 0) 25 [(0, zRf (zad Γ) 17), (1, zI a1), (3, zI a3), (5, zI (zland a4 3))] [zI v1] M) (fun v1 h z2 => by
    have h := h z2
    refine zr_istore (L1 := [(6, zI v1), (0, zRf (zad Γ) 17), (1, zI a1), (3, zI a3), (5, zI (zland a4 3))]) C (zdec_at dm_X1_isInQuarter 15 rfl) (Nat.le_of_ble_eq_true rfl) rfl ?_
    refine zr_iload C 4 rfl (zdec_at dm_X1_isInQuarter 16 rfl) ?_
    refine zr_iconst C (zdec_at dm_X1_isInQuarter 17 rfl) ?_
    have h := h (fun v3 => zin v3 → zV Γ mu_X1_isInQuarter (145, 0, 0) 40 [(0, zRf (zad Γ) 17), (1, zI a1), (6, zI v1)] [zI v3] M) (fun v3 h z4 => by
      have h := h z4
      refine zr_istore (L1 := [(7, zI v3), (0, zRf (zad Γ) 17), (1, zI a1), (6, zI v1)]) C (zdec_at dm_X1_isInQuarter 24 rfl) (Nat.le_of_ble_eq_true rfl) rfl ?_
      refine zr_aload_n C 1 rfl (zdec_at dm_X1_isInQuarter 25 rfl) rfl ?_
      refine zr_getr (q := 5) C fk_RX1_33 fi_17_0 (zdec_at dm_X1_isInQuarter 26 rfl) ?_
      refine zr_iload C 3 rfl (zdec_at dm_X1_isInQuarter 27 rfl) ?_
      refine zr_iload C 0 rfl (zdec_at dm_X1_isInQuarter 28 rfl) ?_
      obtain ⟨g10, h⟩ := h
      refine zr_callV C [v1, v3] hS_X2_faceAt ck_RX1_79 iv_X2_faceAt vc_X2 oc_5 rfl rfl (zdec_at dm_X1_isInQuarter 29 rfl) ⟨rfl, rfl, rfl, rfl⟩ ⟨by decide, by decide⟩ (Nat.le_of_ble_eq_true rfl) (zall_0 z2 (zall_0 z4 zall_n)) ?_
      refine ⟨_, _, rfl, g10, fun r5 M6 p9 z8 hR7 => ?_⟩
      have h := h r5 M6 p9 z8 hR7
      show zV Γ mu_X1_isInQuarter (145, 0, 0) 53 [(7, zI v3), (0, zRf (zad Γ) 17), (1, zI a1), (6, zI v1)] [zI r5] M6
      refine zr_iload_n C 2 rfl (zdec_at dm_X1_isInQuarter 30 rfl) rfl ?_
      refine zr_icmp_ne C z8 zz_a1 (zdec_at dm_X1_isInQuarter 31 rfl) rfl (fun g11 => ?_) (fun g11 => ?_)
      · have h := h.1 g11
        refine zr_iconst C (zdec_at dm_X1_isInQuarter 34 rfl) ?_
        exact zr_zreturn C rfl (by decide) (zdec_at dm_X1_isInQuarter 35 rfl) rfl ⟨(by decide), h⟩
      · have h := h.2 g11
        refine zr_iconst C (zdec_at dm_X1_isInQuarter 32 rfl) ?_
        refine zr_goto C (zdec_at dm_X1_isInQuarter 33 rfl) rfl ?_
        exact zr_zreturn C rfl (by decide) (zdec_at dm_X1_isInQuarter 35 rfl) rfl ⟨(by decide), h⟩)
    refine zr_icmp_lt C (zland_z _ _) (by decide) (zdec_at dm_X1_isInQuarter 18 rfl) rfl (fun g12 => ?_) (fun g12 => ?_)
    · have h := h.1 g12
      refine zr_iload_n C 3 rfl (zdec_at dm_X1_isInQuarter 23 rfl) rfl ?_
      exact zr_sub [1, 2, 0] rfl (h zz_a3)
    · have h := h.2 g12
      refine zr_iload_n C 3 rfl (zdec_at dm_X1_isInQuarter 19 rfl) rfl ?_
      refine zr_iconst C (zdec_at dm_X1_isInQuarter 20 rfl) ?_
      refine zr_isub C (zdec_at dm_X1_isInQuarter 21 rfl) ?_
      refine zr_goto C (zdec_at dm_X1_isInQuarter 22 rfl) rfl ?_
      obtain ⟨o13, h⟩ := h
      exact zr_sub [1, 2, 0] rfl (h o13))
  have h := h (zV Γ mu_X1_isInQuarter (145, 0, 0) 18 [(0, zRf (zad Γ) 17), (1, zI a1), (2, zI a2), (3, zI a3), (5, zI (zland a4 3))] [] M) (fun h => by
    refine zr_iload_n C 2 rfl (zdec_at dm_X1_isInQuarter 10 rfl) rfl ?_
    refine zr_iconst C (zdec_at dm_X1_isInQuarter 11 rfl) ?_
    refine zr_isub C (zdec_at dm_X1_isInQuarter 12 rfl) ?_
    refine zr_goto C (zdec_at dm_X1_isInQuarter 13 rfl) rfl ?_
    obtain ⟨o14, h⟩ := h
    exact zr_sub [0, 1, 3, 4] rfl (h o14))
  refine zr_icmp_eq C (zland_z _ _) (by decide) (zdec_at dm_X1_isInQuarter 6 rfl) rfl (fun g15 => ?_) (fun g15 => ?_)
  · have h := h.1 g15
    exact zr_sub [1, 2, 3, 4, 0] rfl (h)
  · have h := h.2 g15
    refine zr_iload C 0 rfl (zdec_at dm_X1_isInQuarter 7 rfl) ?_
    refine zr_iconst C (zdec_at dm_X1_isInQuarter 8 rfl) ?_
    refine zr_icmp_ne C (zland_z _ _) (by decide) (zdec_at dm_X1_isInQuarter 9 rfl) rfl (fun g16 => ?_) (fun g16 => ?_)
    · have h := h.1 g16
      refine zr_iload_n C 3 rfl (zdec_at dm_X1_isInQuarter 14 rfl) rfl ?_
      exact zr_sub [1, 2, 4, 0] rfl (h zz_a2)
    · have h := h.2 g16
      exact zr_sub [1, 2, 3, 4, 0] rfl (h)

set_option maxHeartbeats 400000 in
set_option maxRecDepth 100000 in
theorem sn_X1_listTurns {pr_X1_turnAt : Int → zM → Prop} {po_X1_turnAt : Int → zM → Int → zM → Prop} (hS_X1_turnAt : zSnd zS 145 0 0 yX1_turnAt cX1_turnAt 4 (some .int) 0 [2, 0] (F_X1_turnAt pr_X1_turnAt po_X1_turnAt)) : zSnd zS 145 0 0 yX1_listTurns cX1_listTurns 2 none 1 [2] (fun xs P M => xs = [17] ∧ vc_X1_listTurns pr_X1_turnAt po_X1_turnAt P M) := by
  refine zSnd.of rfl (fun ad xs hz => Nat.le_trans (Nat.le_of_eq (zlen ad _ xs hz)) (by decide)) ?_
  intro Γ C _ _ xs M hz hF
  obtain ⟨rfl, h⟩ := hF
  refine zr_rng (fun hR => ?_)
  have C : zC Γ mu_X1_listTurns := C
  change zV Γ mu_X1_listTurns (145, 0, 0) 0 [(0, zRf (zad Γ) 17)] [] M
  change vc_X1_listTurns pr_X1_turnAt po_X1_turnAt _ M at h
  unfold vc_X1_listTurns at h
  refine zr_aload_n C 0 rfl (zdec_at dm_X1_listTurns 0 rfl) rfl ?_
  refine zr_iconst C (zdec_at dm_X1_listTurns 1 rfl) ?_
  refine zr_puti C fk_RX1_83 fi_17_8 (by decide) (zdec_at dm_X1_listTurns 2 rfl) (fun M1 e2 => ?_)
  have h := h M1 e2
  have hR3 : zRng M1 := by rw [e2]; exact hR.set (by decide) _ _
  refine zr_iconst C (zdec_at dm_X1_listTurns 3 rfl) ?_
  refine zr_istore_n (L1 := [(1, zI 0), (0, zRf (zad Γ) 17)]) C (zdec_at dm_X1_listTurns 4 rfl) rfl (Nat.le_of_ble_eq_true rfl) rfl ?_
  obtain ⟨I7, ⟨n12, q13⟩, hI11⟩ := h
  have lp10 : ∀ (n8 : Nat) (v4 : Int) (M6 : zM), I7 v4 M6 n8 → zin v4 → zRng M6 → zV Γ mu_X1_listTurns (145, 0, 0) 7 [(0, zRf (zad Γ) 17), (1, zI v4)] [] M6 := by
    intro n8
    induction n8 using Nat.strongRecOn with
    | _ n8 ih9 =>
    intro v4 M6 q14 z5 hR7
    have h := hI11 v4 M6 n8 q14 z5 hR7
    refine zr_iload_n C 1 rfl (zdec_at dm_X1_listTurns 5 rfl) rfl ?_
    refine zr_aload_n C 0 rfl (zdec_at dm_X1_listTurns 6 rfl) rfl ?_
    refine zr_geti C fk_RX1_50 fi_17_1 (zdec_at dm_X1_listTurns 7 rfl) ?_
    refine zr_icmp_ge C z5 (hR7 _ _) (zdec_at dm_X1_listTurns 8 rfl) rfl (fun g15 => ?_) (fun g15 => ?_)
    · have h := h.1 g15
      exact zr_return C rfl rfl (zdec_at dm_X1_listTurns 27 rfl) rfl ⟨by decide, h⟩
    · have h := h.2 g15
      refine zr_aload_n C 0 rfl (zdec_at dm_X1_listTurns 9 rfl) rfl ?_
      refine zr_iload_n C 1 rfl (zdec_at dm_X1_listTurns 10 rfl) rfl ?_
      obtain ⟨g21, h⟩ := h
      refine zr_callV C [v4] hS_X1_turnAt ck_RX1_86 iv_X1_turnAt vc_X1 oc_17 rfl rfl (zdec_at dm_X1_listTurns 11 rfl) ⟨rfl, rfl, rfl, rfl⟩ ⟨by decide, by decide⟩ (Nat.le_of_ble_eq_true rfl) (zall_0 z5 zall_n) ?_
      refine ⟨_, rfl, g21, fun r16 M17 p20 z19 hR18 => ?_⟩
      have h := h r16 M17 p20 z19 hR18
      show zV Γ mu_X1_listTurns (145, 0, 0) 20 [(0, zRf (zad Γ) 17), (1, zI v4)] [zI r16] M17
      refine zr_if_eq C z19 (zdec_at dm_X1_listTurns 12 rfl) rfl (fun g22 => ?_) (fun g22 => ?_)
      · have h := h.1 g22
        refine zr_iinc (L1 := [(1, zI (v4 + 1)), (0, zRf (zad Γ) 17)]) C 1 rfl (zdec_at dm_X1_listTurns 25 rfl) (Nat.le_of_ble_eq_true rfl) rfl ?_
        refine zr_goto C (zdec_at dm_X1_listTurns 26 rfl) rfl ?_
        obtain ⟨o23, h⟩ := h
        obtain ⟨n24, q25, q26⟩ := h
        exact zr_sub [1, 0] rfl (ih9 n24 q25 _ _ q26 o23 hR18)
      · have h := h.2 g22
        refine zr_aload_n C 0 rfl (zdec_at dm_X1_listTurns 13 rfl) rfl ?_
        refine zr_getr (q := 22) C fk_RX1_24 fi_17_9 (zdec_at dm_X1_listTurns 14 rfl) ?_
        refine zr_aload_n C 0 rfl (zdec_at dm_X1_listTurns 15 rfl) rfl ?_
        refine zr_geti C fk_RX1_83 fi_17_8 (zdec_at dm_X1_listTurns 16 rfl) ?_
        refine zr_iload_n C 1 rfl (zdec_at dm_X1_listTurns 17 rfl) rfl ?_
        obtain ⟨o27, h⟩ := h
        refine zr_iast C ai_22 o27 z5 (zdec_at dm_X1_listTurns 18 rfl) (fun M28 e29 => ?_)
        have h := h M28 e29
        have hR30 : zRng M28 := by rw [e29]; exact hR18.set z5 _ _
        refine zr_aload_n C 0 rfl (zdec_at dm_X1_listTurns 19 rfl) rfl ?_
        refine zr_dup C rfl (zdec_at dm_X1_listTurns 20 rfl) ?_
        refine zr_geti C fk_RX1_83 fi_17_8 (zdec_at dm_X1_listTurns 21 rfl) ?_
        refine zr_iconst C (zdec_at dm_X1_listTurns 22 rfl) ?_
        refine zr_iadd C (zdec_at dm_X1_listTurns 23 rfl) ?_
        obtain ⟨o31, h⟩ := h
        refine zr_puti C fk_RX1_83 fi_17_8 o31 (zdec_at dm_X1_listTurns 24 rfl) (fun M32 e33 => ?_)
        have h := h M32 e33
        have hR34 : zRng M32 := by rw [e33]; exact hR30.set o31 _ _
        refine zr_iinc (L1 := [(1, zI (v4 + 1)), (0, zRf (zad Γ) 17)]) C 1 rfl (zdec_at dm_X1_listTurns 25 rfl) (Nat.le_of_ble_eq_true rfl) rfl ?_
        refine zr_goto C (zdec_at dm_X1_listTurns 26 rfl) rfl ?_
        obtain ⟨o35, h⟩ := h
        obtain ⟨n36, q37, q38⟩ := h
        exact zr_sub [1, 0] rfl (ih9 n36 q37 _ _ q38 o35 hR34)
  exact zr_sub [1, 0] rfl (lp10 n12 _ _ q13 (by decide) hR3)

set_option maxHeartbeats 400000 in
set_option maxRecDepth 100000 in
theorem sn_X1_turnAt : zSnd zS 145 0 0 yX1_turnAt cX1_turnAt 4 (some .int) 0 [2, 0] (fun xs P M => ∃ a1 : Int, xs = [17, a1] ∧ vc_X1_turnAt a1 P M) := by
  refine zSnd.of rfl (fun ad xs hz => Nat.le_trans (Nat.le_of_eq (zlen ad _ xs hz)) (by decide)) ?_
  intro Γ C _ _ xs M hz hF
  obtain ⟨a1, rfl, h⟩ := hF
  have zz_a1 := zall_h (zall_t hz) (by decide)
  refine zr_rng (fun hR => ?_)
  have C : zC Γ mu_X1_turnAt := C
  change zV Γ mu_X1_turnAt (145, 0, 0) 0 [(0, zRf (zad Γ) 17), (1, zI a1)] [] M
  change vc_X1_turnAt a1 _ M at h
  unfold vc_X1_turnAt at h
  refine zr_iload_n C 1 rfl (zdec_at dm_X1_turnAt 0 rfl) rfl ?_
  have h := h (fun v1 => zin v1 → zV Γ mu_X1_turnAt (145, 0, 0) 26 [(0, zRf (zad Γ) 17), (1, zI a1)] [zI v1] M) (fun v1 h z2 => by
    have h := h z2
    refine zr_istore_n (L1 := [(2, zI v1), (0, zRf (zad Γ) 17), (1, zI a1)]) C (zdec_at dm_X1_turnAt 16 rfl) rfl (Nat.le_of_ble_eq_true rfl) rfl ?_
    refine zr_aload_n C 1 rfl (zdec_at dm_X1_turnAt 17 rfl) rfl ?_
    refine zr_getr (q := 18) C fk_RX1_9 fi_17_2 (zdec_at dm_X1_turnAt 18 rfl) ?_
    refine zr_iload_n C 2 rfl (zdec_at dm_X1_turnAt 19 rfl) rfl ?_
    obtain ⟨o3, h⟩ := h
    refine zr_iald C ai_18 o3 (zdec_at dm_X1_turnAt 20 rfl) ?_
    refine zr_iload_n C 0 rfl (zdec_at dm_X1_turnAt 21 rfl) rfl ?_
    refine zr_isub C (zdec_at dm_X1_turnAt 22 rfl) ?_
    refine zr_iconst C (zdec_at dm_X1_turnAt 23 rfl) ?_
    refine zr_iand C (zdec_at dm_X1_turnAt 24 rfl) ?_
    refine zr_istore_n (L1 := [(3, zI (zland ((M 18 a1) - v1) 3)), (2, zI v1), (0, zRf (zad Γ) 17), (1, zI a1)]) C (zdec_at dm_X1_turnAt 25 rfl) rfl (Nat.le_of_ble_eq_true rfl) rfl ?_
    refine zr_iload_n C 0 rfl (zdec_at dm_X1_turnAt 26 rfl) rfl ?_
    refine zr_if_ne C (zland_z _ _) (zdec_at dm_X1_turnAt 27 rfl) rfl (fun g4 => ?_) (fun g4 => ?_)
    · have h := h.1 g4
      refine zr_iload_n C 0 rfl (zdec_at dm_X1_turnAt 30 rfl) rfl ?_
      refine zr_iconst C (zdec_at dm_X1_turnAt 31 rfl) ?_
      refine zr_icmp_ne C (zland_z _ _) (by decide) (zdec_at dm_X1_turnAt 32 rfl) rfl (fun g5 => ?_) (fun g5 => ?_)
      · have h := h.1 g5
        refine zr_iconst C (zdec_at dm_X1_turnAt 35 rfl) ?_
        exact zr_ireturn C rfl (zdec_at dm_X1_turnAt 36 rfl) rfl ⟨(by decide), h⟩
      · have h := h.2 g5
        refine zr_iconst C (zdec_at dm_X1_turnAt 33 rfl) ?_
        refine zr_goto C (zdec_at dm_X1_turnAt 34 rfl) rfl ?_
        exact zr_ireturn C rfl (zdec_at dm_X1_turnAt 36 rfl) rfl ⟨(by decide), h⟩
    · have h := h.2 g4
      refine zr_iconst C (zdec_at dm_X1_turnAt 28 rfl) ?_
      exact zr_ireturn C rfl (zdec_at dm_X1_turnAt 29 rfl) rfl ⟨(by decide), h⟩)
  refine zr_if_ne C zz_a1 (zdec_at dm_X1_turnAt 1 rfl) rfl (fun g6 => ?_) (fun g6 => ?_)
  · have h := h.1 g6
    refine zr_aload_n C 0 rfl (zdec_at dm_X1_turnAt 10 rfl) rfl ?_
    refine zr_getr (q := 18) C fk_RX1_9 fi_17_2 (zdec_at dm_X1_turnAt 11 rfl) ?_
    refine zr_iload_n C 1 rfl (zdec_at dm_X1_turnAt 12 rfl) rfl ?_
    refine zr_iconst C (zdec_at dm_X1_turnAt 13 rfl) ?_
    refine zr_isub C (zdec_at dm_X1_turnAt 14 rfl) ?_
    obtain ⟨o7, h⟩ := h
    refine zr_iald C ai_18 o7 (zdec_at dm_X1_turnAt 15 rfl) ?_
    exact zr_sub [0, 1] rfl (h (hR _ _))
  · have h := h.2 g6
    refine zr_aload_n C 0 rfl (zdec_at dm_X1_turnAt 2 rfl) rfl ?_
    refine zr_getr (q := 18) C fk_RX1_9 fi_17_2 (zdec_at dm_X1_turnAt 3 rfl) ?_
    refine zr_aload_n C 0 rfl (zdec_at dm_X1_turnAt 4 rfl) rfl ?_
    refine zr_geti C fk_RX1_50 fi_17_1 (zdec_at dm_X1_turnAt 5 rfl) ?_
    refine zr_iconst C (zdec_at dm_X1_turnAt 6 rfl) ?_
    refine zr_isub C (zdec_at dm_X1_turnAt 7 rfl) ?_
    obtain ⟨o8, h⟩ := h
    refine zr_iald C ai_18 o8 (zdec_at dm_X1_turnAt 8 rfl) ?_
    refine zr_goto C (zdec_at dm_X1_turnAt 9 rfl) rfl ?_
    exact zr_sub [0, 1] rfl (h (hR _ _))

set_option maxHeartbeats 400000 in
set_option maxRecDepth 100000 in
theorem sn_X1_decideCorners {pr_X1_sumCorners : Int → Int → zM → Prop} {po_X1_sumCorners : Int → Int → zM → Int → zM → Prop} {pr_X1_followCorners : Int → Int → zM → Prop} {po_X1_followCorners : Int → Int → zM → zM → Prop} (hS_X1_sumCorners : zSnd zS 145 0 0 yX1_sumCorners cX1_sumCorners 4 (some .int) 2 [2, 0, 0] (F_X1_sumCorners pr_X1_sumCorners po_X1_sumCorners)) (hS_X1_followCorners : zSnd zS 145 0 0 yX1_followCorners cX1_followCorners 5 none 2 [2, 0, 0] (F_X1_followCorners pr_X1_followCorners po_X1_followCorners)) : zSnd zS 145 0 0 yX1_decideCorners cX1_decideCorners 4 (some .int) 3 [2, 0] (fun xs P M => ∃ a1 : Int, xs = [17, a1] ∧ vc_X1_decideCorners pr_X1_sumCorners po_X1_sumCorners pr_X1_followCorners po_X1_followCorners a1 P M) := by
  refine zSnd.of rfl (fun ad xs hz => Nat.le_trans (Nat.le_of_eq (zlen ad _ xs hz)) (by decide)) ?_
  intro Γ C _ _ xs M hz hF
  obtain ⟨a1, rfl, h⟩ := hF
  have zz_a1 := zall_h (zall_t hz) (by decide)
  refine zr_rng (fun hR => ?_)
  have C : zC Γ mu_X1_decideCorners := C
  change zV Γ mu_X1_decideCorners (145, 0, 0) 0 [(0, zRf (zad Γ) 17), (1, zI a1)] [] M
  change vc_X1_decideCorners pr_X1_sumCorners po_X1_sumCorners pr_X1_followCorners po_X1_followCorners a1 _ M at h
  unfold vc_X1_decideCorners at h
  refine zr_aload_n C 0 rfl (zdec_at dm_X1_decideCorners 0 rfl) rfl ?_
  refine zr_iload_n C 1 rfl (zdec_at dm_X1_decideCorners 1 rfl) rfl ?_
  refine zr_iconst C (zdec_at dm_X1_decideCorners 2 rfl) ?_
  obtain ⟨g6, h⟩ := h
  refine zr_callV C [a1, 1] hS_X1_sumCorners ck_RX1_90 iv_X1_sumCorners vc_X1 oc_17 rfl rfl (zdec_at dm_X1_decideCorners 3 rfl) ⟨rfl, rfl, rfl, rfl⟩ ⟨by decide, by decide⟩ (Nat.le_of_ble_eq_true rfl) (zall_0 zz_a1 (zall_0 (by decide) zall_n)) ?_
  refine ⟨_, _, rfl, g6, fun r1 M2 p5 z4 hR3 => ?_⟩
  have h := h r1 M2 p5 z4 hR3
  show zV Γ mu_X1_decideCorners (145, 0, 0) 6 [(0, zRf (zad Γ) 17), (1, zI a1)] [zI r1] M2
  refine zr_istore_n (L1 := [(2, zI r1), (0, zRf (zad Γ) 17), (1, zI a1)]) C (zdec_at dm_X1_decideCorners 4 rfl) rfl (Nat.le_of_ble_eq_true rfl) rfl ?_
  refine zr_aload_n C 1 rfl (zdec_at dm_X1_decideCorners 5 rfl) rfl ?_
  refine zr_iload_n C 2 rfl (zdec_at dm_X1_decideCorners 6 rfl) rfl ?_
  refine zr_iconst C (zdec_at dm_X1_decideCorners 7 rfl) ?_
  obtain ⟨g12, h⟩ := h
  refine zr_callV C [a1, 0] hS_X1_sumCorners ck_RX1_90 iv_X1_sumCorners vc_X1 oc_17 rfl rfl (zdec_at dm_X1_decideCorners 8 rfl) ⟨rfl, rfl, rfl, rfl⟩ ⟨by decide, by decide⟩ (Nat.le_of_ble_eq_true rfl) (zall_0 zz_a1 (zall_0 (by decide) zall_n)) ?_
  refine ⟨_, _, rfl, g12, fun r7 M8 p11 z10 hR9 => ?_⟩
  have h := h r7 M8 p11 z10 hR9
  show zV Γ mu_X1_decideCorners (145, 0, 0) 13 [(2, zI r1), (0, zRf (zad Γ) 17), (1, zI a1)] [zI r7] M8
  refine zr_istore_n (L1 := [(3, zI r7), (2, zI r1), (0, zRf (zad Γ) 17), (1, zI a1)]) C (zdec_at dm_X1_decideCorners 9 rfl) rfl (Nat.le_of_ble_eq_true rfl) rfl ?_
  refine zr_iload_n C 0 rfl (zdec_at dm_X1_decideCorners 10 rfl) rfl ?_
  refine zr_iload_n C 1 rfl (zdec_at dm_X1_decideCorners 11 rfl) rfl ?_
  refine zr_icmp_gt C z10 z4 (zdec_at dm_X1_decideCorners 12 rfl) rfl (fun g13 => ?_) (fun g13 => ?_)
  · have h := h.1 g13
    refine zr_aload_n C 2 rfl (zdec_at dm_X1_decideCorners 19 rfl) rfl ?_
    refine zr_iload_n C 3 rfl (zdec_at dm_X1_decideCorners 20 rfl) rfl ?_
    refine zr_iconst C (zdec_at dm_X1_decideCorners 21 rfl) ?_
    obtain ⟨g19, h⟩ := h
    refine zr_callV C [a1, 1] hS_X1_sumCorners ck_RX1_90 iv_X1_sumCorners vc_X1 oc_17 rfl rfl (zdec_at dm_X1_decideCorners 22 rfl) ⟨rfl, rfl, rfl, rfl⟩ ⟨by decide, by decide⟩ (Nat.le_of_ble_eq_true rfl) (zall_0 zz_a1 (zall_0 (by decide) zall_n)) ?_
    refine ⟨_, _, rfl, g19, fun r14 M15 p18 z17 hR16 => ?_⟩
    have h := h r14 M15 p18 z17 hR16
    show zV Γ mu_X1_decideCorners (145, 0, 0) 33 [(3, zI r7), (2, zI r1), (0, zRf (zad Γ) 17), (1, zI a1)] [zI r14] M15
    refine zr_pop C rfl (zdec_at dm_X1_decideCorners 23 rfl) ?_
    refine zr_aload_n C 2 rfl (zdec_at dm_X1_decideCorners 24 rfl) rfl ?_
    refine zr_iload_n C 3 rfl (zdec_at dm_X1_decideCorners 25 rfl) rfl ?_
    refine zr_iconst C (zdec_at dm_X1_decideCorners 26 rfl) ?_
    obtain ⟨g24, h⟩ := h
    refine zr_callV C [a1, 1] hS_X1_followCorners ck_RX1_93 iv_X1_followCorners vc_X1 oc_17 rfl rfl (zdec_at dm_X1_decideCorners 27 rfl) ⟨rfl, rfl, rfl, rfl⟩ ⟨by decide, by decide⟩ (Nat.le_of_ble_eq_true rfl) (zall_0 zz_a1 (zall_0 (by decide) zall_n)) ?_
    refine ⟨_, _, rfl, g24, fun M20 p23 _ hR21 => ?_⟩
    have h := h M20 p23 hR21
    show zV Γ mu_X1_decideCorners (145, 0, 0) 40 [(3, zI r7), (2, zI r1), (0, zRf (zad Γ) 17), (1, zI a1)] [] M20
    refine zr_iload_n C 1 rfl (zdec_at dm_X1_decideCorners 28 rfl) rfl ?_
    exact zr_ireturn C rfl (zdec_at dm_X1_decideCorners 29 rfl) rfl ⟨z4, h⟩
  · have h := h.2 g13
    refine zr_aload_n C 2 rfl (zdec_at dm_X1_decideCorners 13 rfl) rfl ?_
    refine zr_iload_n C 3 rfl (zdec_at dm_X1_decideCorners 14 rfl) rfl ?_
    refine zr_iconst C (zdec_at dm_X1_decideCorners 15 rfl) ?_
    obtain ⟨g29, h⟩ := h
    refine zr_callV C [a1, 0] hS_X1_followCorners ck_RX1_93 iv_X1_followCorners vc_X1 oc_17 rfl rfl (zdec_at dm_X1_decideCorners 16 rfl) ⟨rfl, rfl, rfl, rfl⟩ ⟨by decide, by decide⟩ (Nat.le_of_ble_eq_true rfl) (zall_0 zz_a1 (zall_0 (by decide) zall_n)) ?_
    refine ⟨_, _, rfl, g29, fun M25 p28 _ hR26 => ?_⟩
    have h := h M25 p28 hR26
    show zV Γ mu_X1_decideCorners (145, 0, 0) 25 [(3, zI r7), (2, zI r1), (0, zRf (zad Γ) 17), (1, zI a1)] [] M25
    refine zr_iload_n C 0 rfl (zdec_at dm_X1_decideCorners 17 rfl) rfl ?_
    exact zr_ireturn C rfl (zdec_at dm_X1_decideCorners 18 rfl) rfl ⟨z10, h⟩

set_option maxHeartbeats 400000 in
set_option maxRecDepth 100000 in
theorem sn_X1_sumCorners {pr_X1_priceWithout : Int → zM → Prop} {po_X1_priceWithout : Int → zM → Int → zM → Prop} (hS_X1_priceWithout : zSnd zS 145 0 0 yX1_priceWithout cX1_priceWithout 3 (some .int) 1 [2, 0] (F_X1_priceWithout pr_X1_priceWithout po_X1_priceWithout)) : zSnd zS 145 0 0 yX1_sumCorners cX1_sumCorners 4 (some .int) 2 [2, 0, 0] (fun xs P M => ∃ a1 a2 : Int, xs = [17, a1, a2] ∧ vc_X1_sumCorners pr_X1_priceWithout po_X1_priceWithout a1 a2 P M) := by
  refine zSnd.of rfl (fun ad xs hz => Nat.le_trans (Nat.le_of_eq (zlen ad _ xs hz)) (by decide)) ?_
  intro Γ C _ _ xs M hz hF
  obtain ⟨a1, a2, rfl, h⟩ := hF
  have zz_a1 := zall_h (zall_t hz) (by decide)
  have zz_a2 := zall_h (zall_t (zall_t hz)) (by decide)
  refine zr_rng (fun hR => ?_)
  have C : zC Γ mu_X1_sumCorners := C
  change zV Γ mu_X1_sumCorners (145, 0, 0) 0 [(0, zRf (zad Γ) 17), (1, zI a1), (2, zI a2)] [] M
  change vc_X1_sumCorners pr_X1_priceWithout po_X1_priceWithout a1 a2 _ M at h
  unfold vc_X1_sumCorners at h
  refine zr_aload_n C 0 rfl (zdec_at dm_X1_sumCorners 0 rfl) rfl ?_
  refine zr_getr (q := 23) C fk_RX1_27 fi_17_10 (zdec_at dm_X1_sumCorners 1 rfl) ?_
  refine zr_aload_n C 0 rfl (zdec_at dm_X1_sumCorners 2 rfl) rfl ?_
  refine zr_geti C fk_RX1_83 fi_17_8 (zdec_at dm_X1_sumCorners 3 rfl) ?_
  refine zr_iload_n C 2 rfl (zdec_at dm_X1_sumCorners 4 rfl) rfl ?_
  have h := h (fun v1 => zin v1 → zV Γ mu_X1_sumCorners (145, 0, 0) 18 [(0, zRf (zad Γ) 17), (1, zI a1), (2, zI a2)] [zI v1, zI (M 17 8), zRf (zad Γ) 23] M) (fun v1 h z2 => by
    have h := h z2
    obtain ⟨o3, h⟩ := h
    refine zr_iast C ai_23 o3 z2 (zdec_at dm_X1_sumCorners 9 rfl) (fun M4 e5 => ?_)
    have h := h M4 e5
    have hR6 : zRng M4 := by rw [e5]; exact hR.set z2 _ _
    refine zr_aload_n C 0 rfl (zdec_at dm_X1_sumCorners 10 rfl) rfl ?_
    refine zr_getr (q := 24) C fk_RX1_30 fi_17_11 (zdec_at dm_X1_sumCorners 11 rfl) ?_
    refine zr_aload_n C 0 rfl (zdec_at dm_X1_sumCorners 12 rfl) rfl ?_
    refine zr_geti C fk_RX1_83 fi_17_8 (zdec_at dm_X1_sumCorners 13 rfl) ?_
    refine zr_iload_n C 2 rfl (zdec_at dm_X1_sumCorners 14 rfl) rfl ?_
    refine zr_iconst C (zdec_at dm_X1_sumCorners 15 rfl) ?_
    refine zr_icmp_ne C zz_a2 (by decide) (zdec_at dm_X1_sumCorners 16 rfl) rfl (fun g7 => ?_) (fun g7 => ?_)
    · have h := h.1 g7
      refine zr_ldc C (zdec_at dm_X1_sumCorners 19 rfl) kc_RX1_97 ?_
      obtain ⟨o8, h⟩ := h
      refine zr_iast C ai_24 o8 (by decide) (zdec_at dm_X1_sumCorners 20 rfl) (fun M9 e10 => ?_)
      have h := h M9 e10
      have hR11 : zRng M9 := by rw [e10]; exact hR6.set (by decide) _ _
      refine zr_aload_n C 0 rfl (zdec_at dm_X1_sumCorners 21 rfl) rfl ?_
      refine zr_geti C fk_RX1_83 fi_17_8 (zdec_at dm_X1_sumCorners 22 rfl) ?_
      refine zr_iconst C (zdec_at dm_X1_sumCorners 23 rfl) ?_
      refine zr_isub C (zdec_at dm_X1_sumCorners 24 rfl) ?_
      refine zr_istore_n (L1 := [(3, zI ((M9 17 8) - 1)), (0, zRf (zad Γ) 17), (1, zI a1), (2, zI a2)]) C (zdec_at dm_X1_sumCorners 25 rfl) rfl (Nat.le_of_ble_eq_true rfl) rfl ?_
      obtain ⟨o13, h⟩ := h
      obtain ⟨I46, ⟨n21, q22⟩, hI20⟩ := h
      have lp19 : ∀ (n17 : Nat) (v12 : Int) (M15 : zM), I46 v12 M15 n17 → zin v12 → zRng M15 → zV Γ mu_X1_sumCorners (145, 0, 0) 46 [(0, zRf (zad Γ) 17), (1, zI a1), (2, zI a2), (3, zI v12)] [] M15 := by
        intro n17
        induction n17 using Nat.strongRecOn with
        | _ n17 ih18 =>
        intro v12 M15 q23 z14 hR16
        have h := hI20 v12 M15 n17 q23 z14 hR16
        refine zr_iload_n C 3 rfl (zdec_at dm_X1_sumCorners 26 rfl) rfl ?_
        refine zr_if_lt C z14 (zdec_at dm_X1_sumCorners 27 rfl) rfl (fun g24 => ?_) (fun g24 => ?_)
        · have h := h.1 g24
          refine zr_iload_n C 2 rfl (zdec_at dm_X1_sumCorners 65 rfl) rfl ?_
          refine zr_iconst C (zdec_at dm_X1_sumCorners 66 rfl) ?_
          refine zr_icmp_ne C zz_a2 (by decide) (zdec_at dm_X1_sumCorners 67 rfl) rfl (fun g25 => ?_) (fun g25 => ?_)
          · have h := h.1 g25
            refine zr_aload_n C 0 rfl (zdec_at dm_X1_sumCorners 73 rfl) rfl ?_
            refine zr_getr (q := 23) C fk_RX1_27 fi_17_10 (zdec_at dm_X1_sumCorners 74 rfl) ?_
            refine zr_iconst C (zdec_at dm_X1_sumCorners 75 rfl) ?_
            refine zr_iald C ai_23 ⟨by decide, by decide⟩ (zdec_at dm_X1_sumCorners 76 rfl) ?_
            exact zr_ireturn C rfl (zdec_at dm_X1_sumCorners 77 rfl) rfl ⟨(hR16 _ _), h⟩
          · have h := h.2 g25
            refine zr_aload_n C 0 rfl (zdec_at dm_X1_sumCorners 68 rfl) rfl ?_
            refine zr_getr (q := 24) C fk_RX1_30 fi_17_11 (zdec_at dm_X1_sumCorners 69 rfl) ?_
            refine zr_iconst C (zdec_at dm_X1_sumCorners 70 rfl) ?_
            refine zr_iald C ai_24 ⟨by decide, by decide⟩ (zdec_at dm_X1_sumCorners 71 rfl) ?_
            refine zr_goto C (zdec_at dm_X1_sumCorners 72 rfl) rfl ?_
            exact zr_ireturn C rfl (zdec_at dm_X1_sumCorners 77 rfl) rfl ⟨(hR16 _ _), h⟩
        · have h := h.2 g24
          refine zr_aload_n C 0 rfl (zdec_at dm_X1_sumCorners 28 rfl) rfl ?_
          refine zr_getr (q := 23) C fk_RX1_27 fi_17_10 (zdec_at dm_X1_sumCorners 29 rfl) ?_
          refine zr_iload_n C 3 rfl (zdec_at dm_X1_sumCorners 30 rfl) rfl ?_
          refine zr_aload_n C 0 rfl (zdec_at dm_X1_sumCorners 31 rfl) rfl ?_
          refine zr_iload_n C 3 rfl (zdec_at dm_X1_sumCorners 32 rfl) rfl ?_
          obtain ⟨g31, h⟩ := h
          refine zr_callV C [v12] hS_X1_priceWithout ck_RX1_98 iv_X1_priceWithout vc_X1 oc_17 rfl rfl (zdec_at dm_X1_sumCorners 33 rfl) ⟨rfl, rfl, rfl, rfl⟩ ⟨by decide, by decide⟩ (Nat.le_of_ble_eq_true rfl) (zall_0 z14 zall_n) ?_
          refine ⟨_, rfl, g31, fun r26 M27 p30 z29 hR28 => ?_⟩
          have h := h r26 M27 p30 z29 hR28
          show zV Γ mu_X1_sumCorners (145, 0, 0) 60 [(0, zRf (zad Γ) 17), (1, zI a1), (2, zI a2), (3, zI v12)] [zI r26, zI v12, zRf (zad Γ) 23] M27
          refine zr_aload_n C 0 rfl (zdec_at dm_X1_sumCorners 34 rfl) rfl ?_
          refine zr_getr (q := 23) C fk_RX1_27 fi_17_10 (zdec_at dm_X1_sumCorners 35 rfl) ?_
          refine zr_iload_n C 3 rfl (zdec_at dm_X1_sumCorners 36 rfl) rfl ?_
          refine zr_iconst C (zdec_at dm_X1_sumCorners 37 rfl) ?_
          refine zr_iadd C (zdec_at dm_X1_sumCorners 38 rfl) ?_
          obtain ⟨o32, h⟩ := h
          refine zr_iald C ai_23 o32 (zdec_at dm_X1_sumCorners 39 rfl) ?_
          refine zr_iadd C (zdec_at dm_X1_sumCorners 40 rfl) ?_
          refine zr_bipush C (zdec_at dm_X1_sumCorners 41 rfl) (by decide) ?_
          refine zr_aload_n C 0 rfl (zdec_at dm_X1_sumCorners 42 rfl) rfl ?_
          refine zr_getr (q := 24) C fk_RX1_30 fi_17_11 (zdec_at dm_X1_sumCorners 43 rfl) ?_
          refine zr_iload_n C 3 rfl (zdec_at dm_X1_sumCorners 44 rfl) rfl ?_
          refine zr_iconst C (zdec_at dm_X1_sumCorners 45 rfl) ?_
          refine zr_iadd C (zdec_at dm_X1_sumCorners 46 rfl) ?_
          refine zr_iald C ai_24 o32 (zdec_at dm_X1_sumCorners 47 rfl) ?_
          refine zr_iadd C (zdec_at dm_X1_sumCorners 48 rfl) ?_
          obtain ⟨o33, h⟩ := h
          obtain ⟨o34, h⟩ := h
          refine zr_mmin C o33 o34 mk_RX1_101 kw_mmin_s kw_mini kw_mmin_c (by decide) ⟨rfl, rfl⟩ (Nat.le_of_ble_eq_true rfl) (zdec_at dm_X1_sumCorners 49 rfl) (fun z35 => ?_)
          obtain ⟨o36, h⟩ := h
          refine zr_iast C ai_23 o36 z35 (zdec_at dm_X1_sumCorners 50 rfl) (fun M37 e38 => ?_)
          have h := h M37 e38
          have hR39 : zRng M37 := by rw [e38]; exact hR28.set z35 _ _
          refine zr_aload_n C 0 rfl (zdec_at dm_X1_sumCorners 51 rfl) rfl ?_
          refine zr_getr (q := 24) C fk_RX1_30 fi_17_11 (zdec_at dm_X1_sumCorners 52 rfl) ?_
          refine zr_iload_n C 3 rfl (zdec_at dm_X1_sumCorners 53 rfl) rfl ?_
          refine zr_iload_n C 1 rfl (zdec_at dm_X1_sumCorners 54 rfl) rfl ?_
          refine zr_aload_n C 0 rfl (zdec_at dm_X1_sumCorners 55 rfl) rfl ?_
          refine zr_getr (q := 23) C fk_RX1_27 fi_17_10 (zdec_at dm_X1_sumCorners 56 rfl) ?_
          refine zr_iload_n C 3 rfl (zdec_at dm_X1_sumCorners 57 rfl) rfl ?_
          refine zr_iconst C (zdec_at dm_X1_sumCorners 58 rfl) ?_
          refine zr_iadd C (zdec_at dm_X1_sumCorners 59 rfl) ?_
          refine zr_iald C ai_23 o32 (zdec_at dm_X1_sumCorners 60 rfl) ?_
          refine zr_iadd C (zdec_at dm_X1_sumCorners 61 rfl) ?_
          obtain ⟨o40, h⟩ := h
          refine zr_iast C ai_24 o36 o40 (zdec_at dm_X1_sumCorners 62 rfl) (fun M41 e42 => ?_)
          have h := h M41 e42
          have hR43 : zRng M41 := by rw [e42]; exact hR39.set o40 _ _
          refine zr_iinc (L1 := [(3, zI (v12 + (-1))), (0, zRf (zad Γ) 17), (1, zI a1), (2, zI a2)]) C 3 rfl (zdec_at dm_X1_sumCorners 63 rfl) (Nat.le_of_ble_eq_true rfl) rfl ?_
          refine zr_goto C (zdec_at dm_X1_sumCorners 64 rfl) rfl ?_
          obtain ⟨o44, h⟩ := h
          obtain ⟨n45, q46, q47⟩ := h
          exact zr_sub [1, 2, 3, 0] rfl (ih18 n45 q46 _ _ q47 o44 hR43)
      exact zr_sub [1, 2, 3, 0] rfl (lp19 n21 _ _ q22 o13 hR11)
    · have h := h.2 g7
      refine zr_iconst C (zdec_at dm_X1_sumCorners 17 rfl) ?_
      refine zr_goto C (zdec_at dm_X1_sumCorners 18 rfl) rfl ?_
      obtain ⟨o48, h⟩ := h
      refine zr_iast C ai_24 o48 (by decide) (zdec_at dm_X1_sumCorners 20 rfl) (fun M49 e50 => ?_)
      have h := h M49 e50
      have hR51 : zRng M49 := by rw [e50]; exact hR6.set (by decide) _ _
      refine zr_aload_n C 0 rfl (zdec_at dm_X1_sumCorners 21 rfl) rfl ?_
      refine zr_geti C fk_RX1_83 fi_17_8 (zdec_at dm_X1_sumCorners 22 rfl) ?_
      refine zr_iconst C (zdec_at dm_X1_sumCorners 23 rfl) ?_
      refine zr_isub C (zdec_at dm_X1_sumCorners 24 rfl) ?_
      refine zr_istore_n (L1 := [(3, zI ((M49 17 8) - 1)), (0, zRf (zad Γ) 17), (1, zI a1), (2, zI a2)]) C (zdec_at dm_X1_sumCorners 25 rfl) rfl (Nat.le_of_ble_eq_true rfl) rfl ?_
      obtain ⟨o53, h⟩ := h
      obtain ⟨I46, ⟨n61, q62⟩, hI60⟩ := h
      have lp59 : ∀ (n57 : Nat) (v52 : Int) (M55 : zM), I46 v52 M55 n57 → zin v52 → zRng M55 → zV Γ mu_X1_sumCorners (145, 0, 0) 46 [(0, zRf (zad Γ) 17), (1, zI a1), (2, zI a2), (3, zI v52)] [] M55 := by
        intro n57
        induction n57 using Nat.strongRecOn with
        | _ n57 ih58 =>
        intro v52 M55 q63 z54 hR56
        have h := hI60 v52 M55 n57 q63 z54 hR56
        refine zr_iload_n C 3 rfl (zdec_at dm_X1_sumCorners 26 rfl) rfl ?_
        refine zr_if_lt C z54 (zdec_at dm_X1_sumCorners 27 rfl) rfl (fun g64 => ?_) (fun g64 => ?_)
        · have h := h.1 g64
          refine zr_iload_n C 2 rfl (zdec_at dm_X1_sumCorners 65 rfl) rfl ?_
          refine zr_iconst C (zdec_at dm_X1_sumCorners 66 rfl) ?_
          refine zr_icmp_ne C zz_a2 (by decide) (zdec_at dm_X1_sumCorners 67 rfl) rfl (fun g65 => ?_) (fun g65 => ?_)
          · have h := h.1 g65
            refine zr_aload_n C 0 rfl (zdec_at dm_X1_sumCorners 73 rfl) rfl ?_
            refine zr_getr (q := 23) C fk_RX1_27 fi_17_10 (zdec_at dm_X1_sumCorners 74 rfl) ?_
            refine zr_iconst C (zdec_at dm_X1_sumCorners 75 rfl) ?_
            refine zr_iald C ai_23 ⟨by decide, by decide⟩ (zdec_at dm_X1_sumCorners 76 rfl) ?_
            exact zr_ireturn C rfl (zdec_at dm_X1_sumCorners 77 rfl) rfl ⟨(hR56 _ _), h⟩
          · have h := h.2 g65
            refine zr_aload_n C 0 rfl (zdec_at dm_X1_sumCorners 68 rfl) rfl ?_
            refine zr_getr (q := 24) C fk_RX1_30 fi_17_11 (zdec_at dm_X1_sumCorners 69 rfl) ?_
            refine zr_iconst C (zdec_at dm_X1_sumCorners 70 rfl) ?_
            refine zr_iald C ai_24 ⟨by decide, by decide⟩ (zdec_at dm_X1_sumCorners 71 rfl) ?_
            refine zr_goto C (zdec_at dm_X1_sumCorners 72 rfl) rfl ?_
            exact zr_ireturn C rfl (zdec_at dm_X1_sumCorners 77 rfl) rfl ⟨(hR56 _ _), h⟩
        · have h := h.2 g64
          refine zr_aload_n C 0 rfl (zdec_at dm_X1_sumCorners 28 rfl) rfl ?_
          refine zr_getr (q := 23) C fk_RX1_27 fi_17_10 (zdec_at dm_X1_sumCorners 29 rfl) ?_
          refine zr_iload_n C 3 rfl (zdec_at dm_X1_sumCorners 30 rfl) rfl ?_
          refine zr_aload_n C 0 rfl (zdec_at dm_X1_sumCorners 31 rfl) rfl ?_
          refine zr_iload_n C 3 rfl (zdec_at dm_X1_sumCorners 32 rfl) rfl ?_
          obtain ⟨g71, h⟩ := h
          refine zr_callV C [v52] hS_X1_priceWithout ck_RX1_98 iv_X1_priceWithout vc_X1 oc_17 rfl rfl (zdec_at dm_X1_sumCorners 33 rfl) ⟨rfl, rfl, rfl, rfl⟩ ⟨by decide, by decide⟩ (Nat.le_of_ble_eq_true rfl) (zall_0 z54 zall_n) ?_
          refine ⟨_, rfl, g71, fun r66 M67 p70 z69 hR68 => ?_⟩
          have h := h r66 M67 p70 z69 hR68
          show zV Γ mu_X1_sumCorners (145, 0, 0) 60 [(0, zRf (zad Γ) 17), (1, zI a1), (2, zI a2), (3, zI v52)] [zI r66, zI v52, zRf (zad Γ) 23] M67
          refine zr_aload_n C 0 rfl (zdec_at dm_X1_sumCorners 34 rfl) rfl ?_
          refine zr_getr (q := 23) C fk_RX1_27 fi_17_10 (zdec_at dm_X1_sumCorners 35 rfl) ?_
          refine zr_iload_n C 3 rfl (zdec_at dm_X1_sumCorners 36 rfl) rfl ?_
          refine zr_iconst C (zdec_at dm_X1_sumCorners 37 rfl) ?_
          refine zr_iadd C (zdec_at dm_X1_sumCorners 38 rfl) ?_
          obtain ⟨o72, h⟩ := h
          refine zr_iald C ai_23 o72 (zdec_at dm_X1_sumCorners 39 rfl) ?_
          refine zr_iadd C (zdec_at dm_X1_sumCorners 40 rfl) ?_
          refine zr_bipush C (zdec_at dm_X1_sumCorners 41 rfl) (by decide) ?_
          refine zr_aload_n C 0 rfl (zdec_at dm_X1_sumCorners 42 rfl) rfl ?_
          refine zr_getr (q := 24) C fk_RX1_30 fi_17_11 (zdec_at dm_X1_sumCorners 43 rfl) ?_
          refine zr_iload_n C 3 rfl (zdec_at dm_X1_sumCorners 44 rfl) rfl ?_
          refine zr_iconst C (zdec_at dm_X1_sumCorners 45 rfl) ?_
          refine zr_iadd C (zdec_at dm_X1_sumCorners 46 rfl) ?_
          refine zr_iald C ai_24 o72 (zdec_at dm_X1_sumCorners 47 rfl) ?_
          refine zr_iadd C (zdec_at dm_X1_sumCorners 48 rfl) ?_
          obtain ⟨o73, h⟩ := h
          obtain ⟨o74, h⟩ := h
          refine zr_mmin C o73 o74 mk_RX1_101 kw_mmin_s kw_mini kw_mmin_c (by decide) ⟨rfl, rfl⟩ (Nat.le_of_ble_eq_true rfl) (zdec_at dm_X1_sumCorners 49 rfl) (fun z75 => ?_)
          obtain ⟨o76, h⟩ := h
          refine zr_iast C ai_23 o76 z75 (zdec_at dm_X1_sumCorners 50 rfl) (fun M77 e78 => ?_)
          have h := h M77 e78
          have hR79 : zRng M77 := by rw [e78]; exact hR68.set z75 _ _
          refine zr_aload_n C 0 rfl (zdec_at dm_X1_sumCorners 51 rfl) rfl ?_
          refine zr_getr (q := 24) C fk_RX1_30 fi_17_11 (zdec_at dm_X1_sumCorners 52 rfl) ?_
          refine zr_iload_n C 3 rfl (zdec_at dm_X1_sumCorners 53 rfl) rfl ?_
          refine zr_iload_n C 1 rfl (zdec_at dm_X1_sumCorners 54 rfl) rfl ?_
          refine zr_aload_n C 0 rfl (zdec_at dm_X1_sumCorners 55 rfl) rfl ?_
          refine zr_getr (q := 23) C fk_RX1_27 fi_17_10 (zdec_at dm_X1_sumCorners 56 rfl) ?_
          refine zr_iload_n C 3 rfl (zdec_at dm_X1_sumCorners 57 rfl) rfl ?_
          refine zr_iconst C (zdec_at dm_X1_sumCorners 58 rfl) ?_
          refine zr_iadd C (zdec_at dm_X1_sumCorners 59 rfl) ?_
          refine zr_iald C ai_23 o72 (zdec_at dm_X1_sumCorners 60 rfl) ?_
          refine zr_iadd C (zdec_at dm_X1_sumCorners 61 rfl) ?_
          obtain ⟨o80, h⟩ := h
          refine zr_iast C ai_24 o76 o80 (zdec_at dm_X1_sumCorners 62 rfl) (fun M81 e82 => ?_)
          have h := h M81 e82
          have hR83 : zRng M81 := by rw [e82]; exact hR79.set o80 _ _
          refine zr_iinc (L1 := [(3, zI (v52 + (-1))), (0, zRf (zad Γ) 17), (1, zI a1), (2, zI a2)]) C 3 rfl (zdec_at dm_X1_sumCorners 63 rfl) (Nat.le_of_ble_eq_true rfl) rfl ?_
          refine zr_goto C (zdec_at dm_X1_sumCorners 64 rfl) rfl ?_
          obtain ⟨o84, h⟩ := h
          obtain ⟨n85, q86, q87⟩ := h
          exact zr_sub [1, 2, 3, 0] rfl (ih58 n85 q86 _ _ q87 o84 hR83)
      exact zr_sub [1, 2, 3, 0] rfl (lp59 n61 _ _ q62 o53 hR51))
  refine zr_if_ne C zz_a2 (zdec_at dm_X1_sumCorners 5 rfl) rfl (fun g88 => ?_) (fun g88 => ?_)
  · have h := h.1 g88
    refine zr_ldc C (zdec_at dm_X1_sumCorners 8 rfl) kc_RX1_97 ?_
    exact zr_sub [0, 1, 2] rfl (h (by decide))
  · have h := h.2 g88
    refine zr_iconst C (zdec_at dm_X1_sumCorners 6 rfl) ?_
    refine zr_goto C (zdec_at dm_X1_sumCorners 7 rfl) rfl ?_
    exact zr_sub [0, 1, 2] rfl (h (by decide))

set_option maxHeartbeats 400000 in
set_option maxRecDepth 100000 in
theorem sn_X1_priceWithout {pr_X1_turnAt : Int → zM → Prop} {po_X1_turnAt : Int → zM → Int → zM → Prop} (hS_X1_turnAt : zSnd zS 145 0 0 yX1_turnAt cX1_turnAt 4 (some .int) 0 [2, 0] (F_X1_turnAt pr_X1_turnAt po_X1_turnAt)) : zSnd zS 145 0 0 yX1_priceWithout cX1_priceWithout 3 (some .int) 1 [2, 0] (fun xs P M => ∃ a1 : Int, xs = [17, a1] ∧ vc_X1_priceWithout pr_X1_turnAt po_X1_turnAt a1 P M) := by
  refine zSnd.of rfl (fun ad xs hz => Nat.le_trans (Nat.le_of_eq (zlen ad _ xs hz)) (by decide)) ?_
  intro Γ C _ _ xs M hz hF
  obtain ⟨a1, rfl, h⟩ := hF
  have zz_a1 := zall_h (zall_t hz) (by decide)
  refine zr_rng (fun hR => ?_)
  have C : zC Γ mu_X1_priceWithout := C
  change zV Γ mu_X1_priceWithout (145, 0, 0) 0 [(0, zRf (zad Γ) 17), (1, zI a1)] [] M
  change vc_X1_priceWithout pr_X1_turnAt po_X1_turnAt a1 _ M at h
  unfold vc_X1_priceWithout at h
  refine zr_iload_n C 1 rfl (zdec_at dm_X1_priceWithout 0 rfl) rfl ?_
  refine zr_iconst C (zdec_at dm_X1_priceWithout 1 rfl) ?_
  refine zr_iadd C (zdec_at dm_X1_priceWithout 2 rfl) ?_
  refine zr_aload_n C 0 rfl (zdec_at dm_X1_priceWithout 3 rfl) rfl ?_
  refine zr_geti C fk_RX1_83 fi_17_8 (zdec_at dm_X1_priceWithout 4 rfl) ?_
  have h := h (fun v1 => zin v1 → zV Γ mu_X1_priceWithout (145, 0, 0) 17 [(0, zRf (zad Γ) 17), (1, zI a1)] [zI v1] M) (fun v1 h z2 => by
    have h := h z2
    refine zr_istore_n (L1 := [(2, zI v1), (0, zRf (zad Γ) 17), (1, zI a1)]) C (zdec_at dm_X1_priceWithout 11 rfl) rfl (Nat.le_of_ble_eq_true rfl) rfl ?_
    refine zr_aload_n C 1 rfl (zdec_at dm_X1_priceWithout 12 rfl) rfl ?_
    refine zr_aload_n C 1 rfl (zdec_at dm_X1_priceWithout 13 rfl) rfl ?_
    refine zr_getr (q := 22) C fk_RX1_24 fi_17_9 (zdec_at dm_X1_priceWithout 14 rfl) ?_
    refine zr_iload_n C 2 rfl (zdec_at dm_X1_priceWithout 15 rfl) rfl ?_
    obtain ⟨o3, h⟩ := h
    refine zr_iald C ai_22 o3 (zdec_at dm_X1_priceWithout 16 rfl) ?_
    obtain ⟨g9, h⟩ := h
    refine zr_callV C [(M 22 a1)] hS_X1_turnAt ck_RX1_86 iv_X1_turnAt vc_X1 oc_17 rfl rfl (zdec_at dm_X1_priceWithout 17 rfl) ⟨rfl, rfl, rfl, rfl⟩ ⟨by decide, by decide⟩ (Nat.le_of_ble_eq_true rfl) (zall_0 (hR _ _) zall_n) ?_
    refine ⟨_, rfl, g9, fun r4 M5 p8 z7 hR6 => ?_⟩
    have h := h r4 M5 p8 z7 hR6
    show zV Γ mu_X1_priceWithout (145, 0, 0) 28 [(2, zI v1), (0, zRf (zad Γ) 17), (1, zI a1)] [zI r4] M5
    refine zr_aload_n C 1 rfl (zdec_at dm_X1_priceWithout 18 rfl) rfl ?_
    refine zr_aload_n C 1 rfl (zdec_at dm_X1_priceWithout 19 rfl) rfl ?_
    refine zr_getr (q := 22) C fk_RX1_24 fi_17_9 (zdec_at dm_X1_priceWithout 20 rfl) ?_
    refine zr_iload_n C 0 rfl (zdec_at dm_X1_priceWithout 21 rfl) rfl ?_
    obtain ⟨o10, h⟩ := h
    refine zr_iald C ai_22 o10 (zdec_at dm_X1_priceWithout 22 rfl) ?_
    obtain ⟨g16, h⟩ := h
    refine zr_callV C [(M5 22 v1)] hS_X1_turnAt ck_RX1_86 iv_X1_turnAt vc_X1 oc_17 rfl rfl (zdec_at dm_X1_priceWithout 23 rfl) ⟨rfl, rfl, rfl, rfl⟩ ⟨by decide, by decide⟩ (Nat.le_of_ble_eq_true rfl) (zall_0 (hR6 _ _) zall_n) ?_
    refine ⟨_, rfl, g16, fun r11 M12 p15 z14 hR13 => ?_⟩
    have h := h r11 M12 p15 z14 hR13
    show zV Γ mu_X1_priceWithout (145, 0, 0) 38 [(2, zI v1), (0, zRf (zad Γ) 17), (1, zI a1)] [zI r11, zI r4] M12
    refine zr_icmp_ne C z7 z14 (zdec_at dm_X1_priceWithout 24 rfl) rfl (fun g17 => ?_) (fun g17 => ?_)
    · have h := h.1 g17
      refine zr_bipush C (zdec_at dm_X1_priceWithout 27 rfl) (by decide) ?_
      exact zr_ireturn C rfl (zdec_at dm_X1_priceWithout 28 rfl) rfl ⟨(by decide), h⟩
    · have h := h.2 g17
      refine zr_bipush C (zdec_at dm_X1_priceWithout 25 rfl) (by decide) ?_
      refine zr_goto C (zdec_at dm_X1_priceWithout 26 rfl) rfl ?_
      exact zr_ireturn C rfl (zdec_at dm_X1_priceWithout 28 rfl) rfl ⟨(by decide), h⟩)
  obtain ⟨o18, h⟩ := h
  refine zr_icmp_ge C o18 (hR _ _) (zdec_at dm_X1_priceWithout 5 rfl) rfl (fun g19 => ?_) (fun g19 => ?_)
  · have h := h.1 g19
    refine zr_iconst C (zdec_at dm_X1_priceWithout 10 rfl) ?_
    exact zr_sub [0, 1] rfl (h (by decide))
  · have h := h.2 g19
    refine zr_iload_n C 1 rfl (zdec_at dm_X1_priceWithout 6 rfl) rfl ?_
    refine zr_iconst C (zdec_at dm_X1_priceWithout 7 rfl) ?_
    refine zr_iadd C (zdec_at dm_X1_priceWithout 8 rfl) ?_
    refine zr_goto C (zdec_at dm_X1_priceWithout 9 rfl) rfl ?_
    exact zr_sub [0, 1] rfl (h o18)

