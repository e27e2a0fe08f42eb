set_option maxHeartbeats 400000 in
set_option maxRecDepth 100000 in
theorem sn_X1_followCorners {pr_J7_fill_53178 : Int → Int → zM → Prop} {po_J7_fill_53178 : Int → Int → zM → zM → Prop} {pr_X1_priceWithout : Int → zM → Prop} {po_X1_priceWithout : Int → zM → Int → zM → Prop} (hS_J7_fill_53178 : zSnd zS 145 0 0 yJ7_fill_53178 cJ7_fill_53178 4 none 0 [2, 0] (F_J7_fill_53178 pr_J7_fill_53178 po_J7_fill_53178)) (hS_X1_priceWithout : zSnd zS 145 0 0 yX1_priceWithout cX1_priceWithout 3 (some .int) 1 [2, 0] (F_X1_priceWithout pr_X1_priceWithout po_X1_priceWithout)) : zSnd zS 145 0 0 yX1_followCorners cX1_followCorners 5 none 2 [2, 0, 0] (fun xs P M => ∃ a1 a2 : Int, xs = [17, a1, a2] ∧ vc_X1_followCorners pr_J7_fill_53178 po_J7_fill_53178 pr_X1_priceWithout po_X1_priceWithout a1 a2 P M) := by
  refine zSnd.of rfl (fun ad xs hz => Nat.le_trans (Nat.le_of_eq (zlen ad _ xs hz)) (by decide)) ?_
  intro Γ C _ _ xs M hz hF
  obtain ⟨a1, a2, rfl, h⟩ := hF
  have zz_a1 := zall_h (zall_t hz) (by decide)
  have zz_a2 := zall_h (zall_t (zall_t hz)) (by decide)
  refine zr_rng (fun hR => ?_)
  have C : zC Γ mu_X1_followCorners := C
  change zV Γ mu_X1_followCorners (145, 0, 0) 0 [(0, zRf (zad Γ) 17), (1, zI a1), (2, zI a2)] [] M
  change vc_X1_followCorners pr_J7_fill_53178 po_J7_fill_53178 pr_X1_priceWithout po_X1_priceWithout a1 a2 _ M at h
  unfold vc_X1_followCorners at h
  refine zr_aload_n C 0 rfl (zdec_at dm_X1_followCorners 0 rfl) rfl ?_
  refine zr_getr (q := 21) C fk_RX1_21 fi_17_5 (zdec_at dm_X1_followCorners 1 rfl) ?_
  refine zr_iconst C (zdec_at dm_X1_followCorners 2 rfl) ?_
  obtain ⟨g5, h⟩ := h
  refine zr_callS C [21, 0] hS_J7_fill_53178 ck_RX1_106 sv_J7_fill_53178 rfl rfl (zdec_at dm_X1_followCorners 3 rfl) ⟨rfl, rfl, rfl, rfl⟩ ⟨by decide, by decide⟩ (Nat.le_of_ble_eq_true rfl) (zall_2 (zall_0 (by decide) zall_n)) ?_
  refine ⟨_, _, rfl, g5, fun M1 p4 _ hR2 => ?_⟩
  have h := h M1 p4 hR2
  show zV Γ mu_X1_followCorners (145, 0, 0) 8 [(0, zRf (zad Γ) 17), (1, zI a1), (2, zI a2)] [] M1
  refine zr_iload_n C 2 rfl (zdec_at dm_X1_followCorners 4 rfl) rfl ?_
  refine zr_istore_n (L1 := [(3, zI a2), (0, zRf (zad Γ) 17), (1, zI a1), (2, zI a2)]) C (zdec_at dm_X1_followCorners 5 rfl) rfl (Nat.le_of_ble_eq_true rfl) rfl ?_
  refine zr_iconst C (zdec_at dm_X1_followCorners 6 rfl) ?_
  refine zr_istore (L1 := [(4, zI 0), (3, zI a2), (0, zRf (zad Γ) 17), (1, zI a1), (2, zI a2)]) C (zdec_at dm_X1_followCorners 7 rfl) (Nat.le_of_ble_eq_true rfl) rfl ?_
  obtain ⟨I13, ⟨n16, q17⟩, hI15⟩ := h
  have lp14 : ∀ (n12 : Nat) (v6 : Int) (v7 : Int) (M10 : zM), I13 v6 v7 M10 n12 → zin v6 → zin v7 → zRng M10 → zV Γ mu_X1_followCorners (145, 0, 0) 13 [(0, zRf (zad Γ) 17), (3, zI v6), (4, zI v7)] [] M10 := by
    intro n12
    induction n12 using Nat.strongRecOn with
    | _ n12 ih13 =>
    intro v6 v7 M10 q18 z8 z9 hR11
    have h := hI15 v6 v7 M10 n12 q18 z8 z9 hR11
    refine zr_iload C 2 rfl (zdec_at dm_X1_followCorners 8 rfl) ?_
    refine zr_aload_n C 0 rfl (zdec_at dm_X1_followCorners 9 rfl) rfl ?_
    refine zr_geti C fk_RX1_83 fi_17_8 (zdec_at dm_X1_followCorners 10 rfl) ?_
    refine zr_icmp_ge C z9 (hR11 _ _) (zdec_at dm_X1_followCorners 11 rfl) rfl (fun g19 => ?_) (fun g19 => ?_)
    · have h := h.1 g19
      exact zr_return C rfl rfl (zdec_at dm_X1_followCorners 47 rfl) rfl ⟨by decide, h⟩
    · have h := h.2 g19
      refine zr_aload_n C 0 rfl (zdec_at dm_X1_followCorners 12 rfl) rfl ?_
      refine zr_getr (q := 21) C fk_RX1_21 fi_17_5 (zdec_at dm_X1_followCorners 13 rfl) ?_
      refine zr_aload_n C 0 rfl (zdec_at dm_X1_followCorners 14 rfl) rfl ?_
      refine zr_getr (q := 22) C fk_RX1_24 fi_17_9 (zdec_at dm_X1_followCorners 15 rfl) ?_
      refine zr_iload C 2 rfl (zdec_at dm_X1_followCorners 16 rfl) ?_
      obtain ⟨o20, h⟩ := h
      refine zr_iald C ai_22 o20 (zdec_at dm_X1_followCorners 17 rfl) ?_
      refine zr_iload_n C 1 rfl (zdec_at dm_X1_followCorners 18 rfl) rfl ?_
      obtain ⟨o21, h⟩ := h
      refine zr_iast C ai_21 o21 z8 (zdec_at dm_X1_followCorners 19 rfl) (fun M22 e23 => ?_)
      have h := h M22 e23
      have hR24 : zRng M22 := by rw [e23]; exact hR11.set z8 _ _
      refine zr_iload_n C 1 rfl (zdec_at dm_X1_followCorners 20 rfl) rfl ?_
      refine zr_iconst C (zdec_at dm_X1_followCorners 21 rfl) ?_
      refine zr_icmp_ne C z8 (by decide) (zdec_at dm_X1_followCorners 22 rfl) rfl (fun g25 => ?_) (fun g25 => ?_)
      · have h := h.1 g25
        refine zr_aload_n C 0 rfl (zdec_at dm_X1_followCorners 26 rfl) rfl ?_
        refine zr_getr (q := 23) C fk_RX1_27 fi_17_10 (zdec_at dm_X1_followCorners 27 rfl) ?_
        refine zr_iload C 2 rfl (zdec_at dm_X1_followCorners 28 rfl) ?_
        refine zr_iald C ai_23 o20 (zdec_at dm_X1_followCorners 29 rfl) ?_
        refine zr_aload_n C 0 rfl (zdec_at dm_X1_followCorners 30 rfl) rfl ?_
        refine zr_iload C 2 rfl (zdec_at dm_X1_followCorners 31 rfl) ?_
        obtain ⟨g31, h⟩ := h
        refine zr_callV C [v7] hS_X1_priceWithout ck_RX1_98 iv_X1_priceWithout vc_X1 oc_17 rfl rfl (zdec_at dm_X1_followCorners 32 rfl) ⟨rfl, rfl, rfl, rfl⟩ ⟨by decide, by decide⟩ (Nat.le_of_ble_eq_true rfl) (zall_0 z9 zall_n) ?_
        refine ⟨_, rfl, g31, fun r26 M27 p30 z29 hR28 => ?_⟩
        have h := h r26 M27 p30 z29 hR28
        show zV Γ mu_X1_followCorners (145, 0, 0) 58 [(0, zRf (zad Γ) 17), (3, zI v6), (4, zI v7)] [zI r26, zI (M22 23 v7)] M27
        refine zr_aload_n C 0 rfl (zdec_at dm_X1_followCorners 33 rfl) rfl ?_
        refine zr_getr (q := 23) C fk_RX1_27 fi_17_10 (zdec_at dm_X1_followCorners 34 rfl) ?_
        refine zr_iload C 2 rfl (zdec_at dm_X1_followCorners 35 rfl) ?_
        refine zr_iconst C (zdec_at dm_X1_followCorners 36 rfl) ?_
        refine zr_iadd C (zdec_at dm_X1_followCorners 37 rfl) ?_
        obtain ⟨o32, h⟩ := h
        refine zr_iald C ai_23 o32 (zdec_at dm_X1_followCorners 38 rfl) ?_
        refine zr_iadd C (zdec_at dm_X1_followCorners 39 rfl) ?_
        obtain ⟨o33, h⟩ := h
        refine zr_icmp_ne C (hR24 _ _) o33 (zdec_at dm_X1_followCorners 40 rfl) rfl (fun g34 => ?_) (fun g34 => ?_)
        · have h := h.1 g34
          refine zr_iconst C (zdec_at dm_X1_followCorners 43 rfl) ?_
          refine zr_istore_n (L1 := [(3, zI 1), (0, zRf (zad Γ) 17), (4, zI v7)]) C (zdec_at dm_X1_followCorners 44 rfl) rfl (Nat.le_of_ble_eq_true rfl) rfl ?_
          refine zr_iinc (L1 := [(4, zI (v7 + 1)), (3, zI 1), (0, zRf (zad Γ) 17)]) C 2 rfl (zdec_at dm_X1_followCorners 45 rfl) (Nat.le_of_ble_eq_true rfl) rfl ?_
          refine zr_goto C (zdec_at dm_X1_followCorners 46 rfl) rfl ?_
          obtain ⟨o35, h⟩ := h
          obtain ⟨n36, q37, q38⟩ := h
          exact zr_sub [2, 1, 0] rfl (ih13 n36 q37 _ _ _ q38 (by decide) o35 hR28)
        · have h := h.2 g34
          refine zr_iconst C (zdec_at dm_X1_followCorners 41 rfl) ?_
          refine zr_goto C (zdec_at dm_X1_followCorners 42 rfl) rfl ?_
          refine zr_istore_n (L1 := [(3, zI 0), (0, zRf (zad Γ) 17), (4, zI v7)]) C (zdec_at dm_X1_followCorners 44 rfl) rfl (Nat.le_of_ble_eq_true rfl) rfl ?_
          refine zr_iinc (L1 := [(4, zI (v7 + 1)), (3, zI 0), (0, zRf (zad Γ) 17)]) C 2 rfl (zdec_at dm_X1_followCorners 45 rfl) (Nat.le_of_ble_eq_true rfl) rfl ?_
          refine zr_goto C (zdec_at dm_X1_followCorners 46 rfl) rfl ?_
          obtain ⟨o39, h⟩ := h
          obtain ⟨n40, q41, q42⟩ := h
          exact zr_sub [2, 1, 0] rfl (ih13 n40 q41 _ _ _ q42 (by decide) o39 hR28)
      · have h := h.2 g25
        refine zr_iconst C (zdec_at dm_X1_followCorners 23 rfl) ?_
        refine zr_istore_n (L1 := [(3, zI 0), (0, zRf (zad Γ) 17), (4, zI v7)]) C (zdec_at dm_X1_followCorners 24 rfl) rfl (Nat.le_of_ble_eq_true rfl) rfl ?_
        refine zr_goto C (zdec_at dm_X1_followCorners 25 rfl) rfl ?_
        refine zr_iinc (L1 := [(4, zI (v7 + 1)), (3, zI 0), (0, zRf (zad Γ) 17)]) C 2 rfl (zdec_at dm_X1_followCorners 45 rfl) (Nat.le_of_ble_eq_true rfl) rfl ?_
        refine zr_goto C (zdec_at dm_X1_followCorners 46 rfl) rfl ?_
        obtain ⟨o43, h⟩ := h
        obtain ⟨n44, q45, q46⟩ := h
        exact zr_sub [2, 1, 0] rfl (ih13 n44 q45 _ _ _ q46 (by decide) o43 hR24)
  exact zr_sub [2, 1, 0] rfl (lp14 n16 _ _ _ q17 zz_a2 (by decide) hR2)

set_option maxHeartbeats 400000 in
set_option maxRecDepth 100000 in
theorem sn_X1_staysInBand {pr_X1_isNear : Int → Int → Int → Int → zM → Prop} {po_X1_isNear : Int → Int → Int → Int → zM → Int → zM → Prop} (hS_X1_isNear : zSnd zS 145 0 0 yX1_isNear cX1_isNear 17 (some .boolean) 0 [2, 0, 0, 0, 0] (F_X1_isNear pr_X1_isNear po_X1_isNear)) : zSnd zS 145 0 0 yX1_staysInBand cX1_staysInBand 5 (some .boolean) 1 [2, 0, 0, 0] (fun xs P M => ∃ a1 a2 a3 : Int, xs = [17, a1, a2, a3] ∧ vc_X1_staysInBand pr_X1_isNear po_X1_isNear a1 a2 a3 P M) := by
  refine zSnd.of rfl (fun ad xs hz => Nat.le_trans (Nat.le_of_eq (zlen ad _ xs hz)) (by decide)) ?_
  intro Γ C _ _ xs M hz hF
  obtain ⟨a1, a2, a3, rfl, h⟩ := hF
  have zz_a1 := zall_h (zall_t hz) (by decide)
  have zz_a2 := zall_h (zall_t (zall_t hz)) (by decide)
  have zz_a3 := zall_h (zall_t (zall_t (zall_t hz))) (by decide)
  refine zr_rng (fun hR => ?_)
  have C : zC Γ mu_X1_staysInBand := C
  change zV Γ mu_X1_staysInBand (145, 0, 0) 0 [(0, zRf (zad Γ) 17), (1, zI a1), (2, zI a2), (3, zI a3)] [] M
  change vc_X1_staysInBand pr_X1_isNear po_X1_isNear a1 a2 a3 _ M at h
  unfold vc_X1_staysInBand at h
  refine zr_iload_n C 1 rfl (zdec_at dm_X1_staysInBand 0 rfl) rfl ?_
  refine zr_iconst C (zdec_at dm_X1_staysInBand 1 rfl) ?_
  refine zr_iadd C (zdec_at dm_X1_staysInBand 2 rfl) ?_
  refine zr_istore (L1 := [(4, zI (a1 + 1)), (0, zRf (zad Γ) 17), (1, zI a1), (2, zI a2), (3, zI a3)]) C (zdec_at dm_X1_staysInBand 3 rfl) (Nat.le_of_ble_eq_true rfl) rfl ?_
  obtain ⟨o2, h⟩ := h
  obtain ⟨I5, ⟨n10, q11⟩, hI9⟩ := h
  have lp8 : ∀ (n6 : Nat) (v1 : Int) (M4 : zM), I5 v1 M4 n6 → zin v1 → zRng M4 → zV Γ mu_X1_staysInBand (145, 0, 0) 5 [(0, zRf (zad Γ) 17), (1, zI a1), (2, zI a2), (3, zI a3), (4, zI v1)] [] M4 := by
    intro n6
    induction n6 using Nat.strongRecOn with
    | _ n6 ih7 =>
    intro v1 M4 q12 z3 hR5
    have h := hI9 v1 M4 n6 q12 z3 hR5
    refine zr_iload C 4 rfl (zdec_at dm_X1_staysInBand 4 rfl) ?_
    refine zr_iload_n C 2 rfl (zdec_at dm_X1_staysInBand 5 rfl) rfl ?_
    refine zr_icmp_ge C z3 zz_a2 (zdec_at dm_X1_staysInBand 6 rfl) rfl (fun g13 => ?_) (fun g13 => ?_)
    · have h := h.1 g13
      refine zr_iconst C (zdec_at dm_X1_staysInBand 18 rfl) ?_
      exact zr_zreturn C rfl (by decide) (zdec_at dm_X1_staysInBand 19 rfl) rfl ⟨(by decide), h⟩
    · have h := h.2 g13
      refine zr_aload_n C 0 rfl (zdec_at dm_X1_staysInBand 7 rfl) rfl ?_
      refine zr_iload_n C 1 rfl (zdec_at dm_X1_staysInBand 8 rfl) rfl ?_
      refine zr_iload_n C 2 rfl (zdec_at dm_X1_staysInBand 9 rfl) rfl ?_
      refine zr_iload C 4 rfl (zdec_at dm_X1_staysInBand 10 rfl) ?_
      refine zr_iload_n C 3 rfl (zdec_at dm_X1_staysInBand 11 rfl) rfl ?_
      obtain ⟨g19, h⟩ := h
      refine zr_callV C [a1, a2, v1, a3] hS_X1_isNear ck_RX1_112 iv_X1_isNear vc_X1 oc_17 rfl rfl (zdec_at dm_X1_staysInBand 12 rfl) ⟨rfl, rfl, rfl, rfl⟩ ⟨by decide, by decide⟩ (Nat.le_of_ble_eq_true rfl) (zall_0 zz_a1 (zall_0 zz_a2 (zall_0 z3 (zall_0 zz_a3 zall_n)))) ?_
      refine ⟨_, _, _, _, rfl, g19, fun r14 M15 p18 z17 hR16 => ?_⟩
      have h := h r14 M15 p18 z17 hR16
      show zV Γ mu_X1_staysInBand (145, 0, 0) 20 [(0, zRf (zad Γ) 17), (1, zI a1), (2, zI a2), (3, zI a3), (4, zI v1)] [zI r14] M15
      refine zr_if_ne C z17 (zdec_at dm_X1_staysInBand 13 rfl) rfl (fun g20 => ?_) (fun g20 => ?_)
      · have h := h.1 g20
        refine zr_iinc (L1 := [(4, zI (v1 + 1)), (0, zRf (zad Γ) 17), (1, zI a1), (2, zI a2), (3, zI a3)]) C 4 rfl (zdec_at dm_X1_staysInBand 16 rfl) (Nat.le_of_ble_eq_true rfl) rfl ?_
        refine zr_goto C (zdec_at dm_X1_staysInBand 17 rfl) rfl ?_
        obtain ⟨o21, h⟩ := h
        obtain ⟨n22, q23, q24⟩ := h
        exact zr_sub [1, 2, 3, 4, 0] rfl (ih7 n22 q23 _ _ q24 o21 hR16)
      · have h := h.2 g20
        refine zr_iconst C (zdec_at dm_X1_staysInBand 14 rfl) ?_
        exact zr_zreturn C rfl (by decide) (zdec_at dm_X1_staysInBand 15 rfl) rfl ⟨(by decide), h⟩
  exact zr_sub [1, 2, 3, 4, 0] rfl (lp8 n10 _ _ q11 o2 hR)

set_option maxHeartbeats 400000 in
set_option maxRecDepth 100000 in
theorem sn_X1_isNear : zSnd zS 145 0 0 yX1_isNear cX1_isNear 17 (some .boolean) 0 [2, 0, 0, 0, 0] (fun xs P M => ∃ a1 a2 a3 a4 : Int, xs = [17, a1, a2, a3, a4] ∧ vc_X1_isNear a1 a2 a3 a4 P M) := by
  refine zSnd.of rfl (fun ad xs hz => Nat.le_trans (Nat.le_of_eq (zlen ad _ xs hz)) (by decide)) ?_
  intro Γ C _ _ xs M hz hF
  obtain ⟨a1, a2, a3, a4, rfl, h⟩ := hF
  have zz_a1 := zall_h (zall_t hz) (by decide)
  have zz_a2 := zall_h (zall_t (zall_t hz)) (by decide)
  have zz_a3 := zall_h (zall_t (zall_t (zall_t hz))) (by decide)
  have zz_a4 := zall_h (zall_t (zall_t (zall_t (zall_t hz)))) (by decide)
  refine zr_rng (fun hR => ?_)
  have C : zC Γ mu_X1_isNear := C
  change zV Γ mu_X1_isNear (145, 0, 0) 0 [(0, zRf (zad Γ) 17), (1, zI a1), (2, zI a2), (3, zI a3), (4, zI a4)] [] M
  change vc_X1_isNear a1 a2 a3 a4 _ M at h
  unfold vc_X1_isNear at h
  refine zr_aload_n C 0 rfl (zdec_at dm_X1_isNear 0 rfl) rfl ?_
  refine zr_getr (q := 19) C fk_RX1_15 fi_17_3 (zdec_at dm_X1_isNear 1 rfl) ?_
  refine zr_iload_n C 2 rfl (zdec_at dm_X1_isNear 2 rfl) rfl ?_
  obtain ⟨o1, h⟩ := h
  refine zr_iald C ai_19 o1 (zdec_at dm_X1_isNear 3 rfl) ?_
  refine zr_aload_n C 0 rfl (zdec_at dm_X1_isNear 4 rfl) rfl ?_
  refine zr_getr (q := 19) C fk_RX1_15 fi_17_3 (zdec_at dm_X1_isNear 5 rfl) ?_
  refine zr_iload_n C 1 rfl (zdec_at dm_X1_isNear 6 rfl) rfl ?_
  obtain ⟨o2, h⟩ := h
  refine zr_iald C ai_19 o2 (zdec_at dm_X1_isNear 7 rfl) ?_
  refine zr_isub C (zdec_at dm_X1_isNear 8 rfl) ?_
  obtain ⟨o3, h⟩ := h
  refine zr_i2l C o3 (zdec_at dm_X1_isNear 9 rfl) ?_
  refine zr_lstore (L1 := [(5, zJ ((M 19 a2) - (M 19 a1))), (0, zRf (zad Γ) 17), (1, zI a1), (2, zI a2), (3, zI a3), (4, zI a4)]) C (zdec_at dm_X1_isNear 10 rfl) (Nat.le_of_ble_eq_true rfl) rfl ?_
  refine zr_aload_n C 1 rfl (zdec_at dm_X1_isNear 11 rfl) rfl ?_
  refine zr_getr (q := 20) C fk_RX1_18 fi_17_4 (zdec_at dm_X1_isNear 12 rfl) ?_
  refine zr_iload_n C 3 rfl (zdec_at dm_X1_isNear 13 rfl) rfl ?_
  refine zr_iald C ai_20 o1 (zdec_at dm_X1_isNear 14 rfl) ?_
  refine zr_aload_n C 1 rfl (zdec_at dm_X1_isNear 15 rfl) rfl ?_
  refine zr_getr (q := 20) C fk_RX1_18 fi_17_4 (zdec_at dm_X1_isNear 16 rfl) ?_
  refine zr_iload_n C 2 rfl (zdec_at dm_X1_isNear 17 rfl) rfl ?_
  refine zr_iald C ai_20 o2 (zdec_at dm_X1_isNear 18 rfl) ?_
  refine zr_isub C (zdec_at dm_X1_isNear 19 rfl) ?_
  obtain ⟨o4, h⟩ := h
  refine zr_i2l C o4 (zdec_at dm_X1_isNear 20 rfl) ?_
  refine zr_lstore (L1 := [(7, zJ ((M 20 a2) - (M 20 a1))), (5, zJ ((M 19 a2) - (M 19 a1))), (0, zRf (zad Γ) 17), (1, zI a1), (2, zI a2), (3, zI a3), (4, zI a4)]) C (zdec_at dm_X1_isNear 21 rfl) (Nat.le_of_ble_eq_true rfl) rfl ?_
  refine zr_aload_n C 2 rfl (zdec_at dm_X1_isNear 22 rfl) rfl ?_
  refine zr_getr (q := 19) C fk_RX1_15 fi_17_3 (zdec_at dm_X1_isNear 23 rfl) ?_
  refine zr_iload_n C 5 rfl (zdec_at dm_X1_isNear 24 rfl) rfl ?_
  obtain ⟨o5, h⟩ := h
  refine zr_iald C ai_19 o5 (zdec_at dm_X1_isNear 25 rfl) ?_
  refine zr_aload_n C 2 rfl (zdec_at dm_X1_isNear 26 rfl) rfl ?_
  refine zr_getr (q := 19) C fk_RX1_15 fi_17_3 (zdec_at dm_X1_isNear 27 rfl) ?_
  refine zr_iload_n C 3 rfl (zdec_at dm_X1_isNear 28 rfl) rfl ?_
  refine zr_iald C ai_19 o2 (zdec_at dm_X1_isNear 29 rfl) ?_
  refine zr_isub C (zdec_at dm_X1_isNear 30 rfl) ?_
  obtain ⟨o6, h⟩ := h
  refine zr_i2l C o6 (zdec_at dm_X1_isNear 31 rfl) ?_
  refine zr_lstore (L1 := [(9, zJ ((M 19 a3) - (M 19 a1))), (7, zJ ((M 20 a2) - (M 20 a1))), (5, zJ ((M 19 a2) - (M 19 a1))), (0, zRf (zad Γ) 17), (1, zI a1), (2, zI a2), (3, zI a3), (4, zI a4)]) C (zdec_at dm_X1_isNear 32 rfl) (Nat.le_of_ble_eq_true rfl) rfl ?_
  refine zr_aload_n C 3 rfl (zdec_at dm_X1_isNear 33 rfl) rfl ?_
  refine zr_getr (q := 20) C fk_RX1_18 fi_17_4 (zdec_at dm_X1_isNear 34 rfl) ?_
  refine zr_iload_n C 6 rfl (zdec_at dm_X1_isNear 35 rfl) rfl ?_
  refine zr_iald C ai_20 o5 (zdec_at dm_X1_isNear 36 rfl) ?_
  refine zr_aload_n C 3 rfl (zdec_at dm_X1_isNear 37 rfl) rfl ?_
  refine zr_getr (q := 20) C fk_RX1_18 fi_17_4 (zdec_at dm_X1_isNear 38 rfl) ?_
  refine zr_iload_n C 4 rfl (zdec_at dm_X1_isNear 39 rfl) rfl ?_
  refine zr_iald C ai_20 o2 (zdec_at dm_X1_isNear 40 rfl) ?_
  refine zr_isub C (zdec_at dm_X1_isNear 41 rfl) ?_
  obtain ⟨o7, h⟩ := h
  refine zr_i2l C o7 (zdec_at dm_X1_isNear 42 rfl) ?_
  refine zr_lstore (L1 := [(11, zJ ((M 20 a3) - (M 20 a1))), (9, zJ ((M 19 a3) - (M 19 a1))), (7, zJ ((M 20 a2) - (M 20 a1))), (5, zJ ((M 19 a2) - (M 19 a1))), (0, zRf (zad Γ) 17), (1, zI a1), (2, zI a2), (3, zI a3), (4, zI a4)]) C (zdec_at dm_X1_isNear 43 rfl) (Nat.le_of_ble_eq_true rfl) rfl ?_
  refine zr_lload C 3 rfl (zdec_at dm_X1_isNear 44 rfl) ?_
  refine zr_lload C 3 rfl (zdec_at dm_X1_isNear 45 rfl) ?_
  refine zr_lmul C (zdec_at dm_X1_isNear 46 rfl) ?_
  refine zr_lload C 2 rfl (zdec_at dm_X1_isNear 47 rfl) ?_
  refine zr_lload C 2 rfl (zdec_at dm_X1_isNear 48 rfl) ?_
  refine zr_lmul C (zdec_at dm_X1_isNear 49 rfl) ?_
  refine zr_ladd C (zdec_at dm_X1_isNear 50 rfl) ?_
  refine zr_lstore (L1 := [(13, zJ ((((M 19 a2) - (M 19 a1)) * ((M 19 a2) - (M 19 a1))) + (((M 20 a2) - (M 20 a1)) * ((M 20 a2) - (M 20 a1))))), (11, zJ ((M 20 a3) - (M 20 a1))), (9, zJ ((M 19 a3) - (M 19 a1))), (7, zJ ((M 20 a2) - (M 20 a1))), (5, zJ ((M 19 a2) - (M 19 a1))), (0, zRf (zad Γ) 17), (1, zI a1), (2, zI a2), (3, zI a3), (4, zI a4)]) C (zdec_at dm_X1_isNear 51 rfl) (Nat.le_of_ble_eq_true rfl) rfl ?_
  refine zr_lload C 0 rfl (zdec_at dm_X1_isNear 52 rfl) ?_
  refine zr_lconst (v := 0) C (zdec_at dm_X1_isNear 53 rfl) rfl ?_
  obtain ⟨o8, h⟩ := h
  refine zr_lcmp_ne C o8 (by decide) (zdec_at dm_X1_isNear 54 rfl) (zdec_at dm_X1_isNear 55 rfl) rfl (fun g9 => ?_) (fun g9 => ?_)
  · have h := h.1 g9
    refine zr_lload C 4 rfl (zdec_at dm_X1_isNear 76 rfl) ?_
    refine zr_lload C 1 rfl (zdec_at dm_X1_isNear 77 rfl) ?_
    refine zr_lmul C (zdec_at dm_X1_isNear 78 rfl) ?_
    refine zr_lload C 3 rfl (zdec_at dm_X1_isNear 79 rfl) ?_
    refine zr_lload C 2 rfl (zdec_at dm_X1_isNear 80 rfl) ?_
    refine zr_lmul C (zdec_at dm_X1_isNear 81 rfl) ?_
    refine zr_lsub C (zdec_at dm_X1_isNear 82 rfl) ?_
    refine zr_lstore (L1 := [(15, zJ ((((M 19 a2) - (M 19 a1)) * ((M 20 a3) - (M 20 a1))) - (((M 20 a2) - (M 20 a1)) * ((M 19 a3) - (M 19 a1))))), (13, zJ ((((M 19 a2) - (M 19 a1)) * ((M 19 a2) - (M 19 a1))) + (((M 20 a2) - (M 20 a1)) * ((M 20 a2) - (M 20 a1))))), (11, zJ ((M 20 a3) - (M 20 a1))), (9, zJ ((M 19 a3) - (M 19 a1))), (7, zJ ((M 20 a2) - (M 20 a1))), (5, zJ ((M 19 a2) - (M 19 a1))), (0, zRf (zad Γ) 17), (1, zI a1), (2, zI a2), (3, zI a3), (4, zI a4)]) C (zdec_at dm_X1_isNear 83 rfl) (Nat.le_of_ble_eq_true rfl) rfl ?_
    refine zr_ldc2 C (zdec_at dm_X1_isNear 84 rfl) kc_RX1_115 ?_
    refine zr_lload C 0 rfl (zdec_at dm_X1_isNear 85 rfl) ?_
    refine zr_lmul C (zdec_at dm_X1_isNear 86 rfl) ?_
    refine zr_lload C 0 rfl (zdec_at dm_X1_isNear 87 rfl) ?_
    refine zr_lmul C (zdec_at dm_X1_isNear 88 rfl) ?_
    refine zr_iload C 10 rfl (zdec_at dm_X1_isNear 89 rfl) ?_
    refine zr_i2l C zz_a4 (zdec_at dm_X1_isNear 90 rfl) ?_
    refine zr_iload C 10 rfl (zdec_at dm_X1_isNear 91 rfl) ?_
    refine zr_i2l C zz_a4 (zdec_at dm_X1_isNear 92 rfl) ?_
    refine zr_lmul C (zdec_at dm_X1_isNear 93 rfl) ?_
    refine zr_lload C 1 rfl (zdec_at dm_X1_isNear 94 rfl) ?_
    refine zr_lmul C (zdec_at dm_X1_isNear 95 rfl) ?_
    obtain ⟨o10, h⟩ := h
    obtain ⟨o11, h⟩ := h
    refine zr_lcmp_gt C o10 o11 (zdec_at dm_X1_isNear 96 rfl) (zdec_at dm_X1_isNear 97 rfl) rfl (fun g12 => ?_) (fun g12 => ?_)
    · have h := h.1 g12
      refine zr_iconst C (zdec_at dm_X1_isNear 100 rfl) ?_
      exact zr_zreturn C rfl (by decide) (zdec_at dm_X1_isNear 101 rfl) rfl ⟨(by decide), h⟩
    · have h := h.2 g12
      refine zr_iconst C (zdec_at dm_X1_isNear 98 rfl) ?_
      refine zr_goto C (zdec_at dm_X1_isNear 99 rfl) rfl ?_
      exact zr_zreturn C rfl (by decide) (zdec_at dm_X1_isNear 101 rfl) rfl ⟨(by decide), h⟩
  · have h := h.2 g9
    refine zr_ldc2 C (zdec_at dm_X1_isNear 56 rfl) kc_RX1_115 ?_
    refine zr_lload C 2 rfl (zdec_at dm_X1_isNear 57 rfl) ?_
    refine zr_lload C 2 rfl (zdec_at dm_X1_isNear 58 rfl) ?_
    refine zr_lmul C (zdec_at dm_X1_isNear 59 rfl) ?_
    refine zr_lload C 1 rfl (zdec_at dm_X1_isNear 60 rfl) ?_
    refine zr_lload C 1 rfl (zdec_at dm_X1_isNear 61 rfl) ?_
    refine zr_lmul C (zdec_at dm_X1_isNear 62 rfl) ?_
    refine zr_ladd C (zdec_at dm_X1_isNear 63 rfl) ?_
    refine zr_lmul C (zdec_at dm_X1_isNear 64 rfl) ?_
    refine zr_iload C 9 rfl (zdec_at dm_X1_isNear 65 rfl) ?_
    refine zr_i2l C zz_a4 (zdec_at dm_X1_isNear 66 rfl) ?_
    refine zr_iload C 9 rfl (zdec_at dm_X1_isNear 67 rfl) ?_
    refine zr_i2l C zz_a4 (zdec_at dm_X1_isNear 68 rfl) ?_
    refine zr_lmul C (zdec_at dm_X1_isNear 69 rfl) ?_
    obtain ⟨o13, h⟩ := h
    obtain ⟨o14, h⟩ := h
    refine zr_lcmp_gt C o13 o14 (zdec_at dm_X1_isNear 70 rfl) (zdec_at dm_X1_isNear 71 rfl) rfl (fun g15 => ?_) (fun g15 => ?_)
    · have h := h.1 g15
      refine zr_iconst C (zdec_at dm_X1_isNear 74 rfl) ?_
      exact zr_zreturn C rfl (by decide) (zdec_at dm_X1_isNear 75 rfl) rfl ⟨(by decide), h⟩
    · have h := h.2 g15
      refine zr_iconst C (zdec_at dm_X1_isNear 72 rfl) ?_
      refine zr_goto C (zdec_at dm_X1_isNear 73 rfl) rfl ?_
      exact zr_zreturn C rfl (by decide) (zdec_at dm_X1_isNear 75 rfl) rfl ⟨(by decide), h⟩

set_option maxHeartbeats 400000 in
set_option maxRecDepth 100000 in
theorem sn_X6_find {pr_X1_trace : Int → zM → Prop} {po_X1_trace : Int → zM → zM → Prop} {pr_X6_follow : Int → zM → Prop} {po_X6_follow : Int → zM → zM → Prop} {pr_X6_lookAhead : Int → Int → Int → zM → Prop} {po_X6_lookAhead : Int → Int → Int → zM → zM → Prop} (hS_X1_trace : zSnd zS 145 0 0 yX1_trace cX1_trace 8 none 3 [2, 0] (F_X1_trace pr_X1_trace po_X1_trace)) (hS_X6_follow : zSnd zS 145 0 0 yX6_follow cX6_follow 4 none 0 [2, 0] (F_X6_follow pr_X6_follow po_X6_follow)) (hS_X6_lookAhead : zSnd zS 145 0 0 yX6_lookAhead cX6_lookAhead 9 none 2 [2, 0, 0, 0] (F_X6_lookAhead pr_X6_lookAhead po_X6_lookAhead)) : zSnd zS 145 0 0 yX6_find cX6_find 5 none 4 [2, 0, 0] (fun xs P M => ∃ a1 a2 : Int, xs = [42, a1, a2] ∧ vc_X6_find pr_X1_trace po_X1_trace pr_X6_follow po_X6_follow pr_X6_lookAhead po_X6_lookAhead a1 a2 P M) := by
  refine zSnd.of rfl (fun ad xs hz => Nat.le_trans (Nat.le_of_eq (zlen ad _ xs hz)) (by decide)) ?_
  intro Γ C _ _ xs M hz hF
  obtain ⟨a1, a2, rfl, h⟩ := hF
  have zz_a1 := zall_h (zall_t hz) (by decide)
  have zz_a2 := zall_h (zall_t (zall_t hz)) (by decide)
  refine zr_rng (fun hR => ?_)
  have C : zC Γ mu_X6_find := C
  change zV Γ mu_X6_find (145, 0, 0) 0 [(0, zRf (zad Γ) 42), (1, zI a1), (2, zI a2)] [] M
  change vc_X6_find pr_X1_trace po_X1_trace pr_X6_follow po_X6_follow pr_X6_lookAhead po_X6_lookAhead a1 a2 _ M at h
  unfold vc_X6_find at h
  refine zr_aload_n C 0 rfl (zdec_at dm_X6_find 0 rfl) rfl ?_
  refine zr_getr (q := 17) C fk_RX6_27 fi_42_0 (zdec_at dm_X6_find 1 rfl) ?_
  refine zr_iload_n C 1 rfl (zdec_at dm_X6_find 2 rfl) rfl ?_
  obtain ⟨g5, h⟩ := h
  refine zr_callV C [a1] hS_X1_trace ck_RX6_35 iv_X1_trace vc_X1 oc_17 rfl rfl (zdec_at dm_X6_find 3 rfl) ⟨rfl, rfl, rfl, rfl⟩ ⟨by decide, by decide⟩ (Nat.le_of_ble_eq_true rfl) (zall_0 zz_a1 zall_n) ?_
  refine ⟨_, rfl, g5, fun M1 p4 _ hR2 => ?_⟩
  have h := h M1 p4 hR2
  show zV Γ mu_X6_find (145, 0, 0) 8 [(0, zRf (zad Γ) 42), (1, zI a1), (2, zI a2)] [] M1
  refine zr_aload_n C 0 rfl (zdec_at dm_X6_find 4 rfl) rfl ?_
  refine zr_geti C fk_RX6_31 fi_42_3 (zdec_at dm_X6_find 5 rfl) ?_
  refine zr_aload_n C 0 rfl (zdec_at dm_X6_find 6 rfl) rfl ?_
  refine zr_getr (q := 17) C fk_RX6_27 fi_42_0 (zdec_at dm_X6_find 7 rfl) ?_
  refine zr_geti C fk_RX6_41 fi_17_6 (zdec_at dm_X6_find 8 rfl) ?_
  have h := h (zV Γ mu_X6_find (145, 0, 0) 39 [(0, zRf (zad Γ) 42), (1, zI a1), (2, zI a2)] [] M1) (fun h => by
    refine zr_aload_n C 0 rfl (zdec_at dm_X6_find 19 rfl) rfl ?_
    refine zr_aload_n C 0 rfl (zdec_at dm_X6_find 20 rfl) rfl ?_
    refine zr_getr (q := 17) C fk_RX6_27 fi_42_0 (zdec_at dm_X6_find 21 rfl) ?_
    refine zr_geti C fk_RX6_41 fi_17_6 (zdec_at dm_X6_find 22 rfl) ?_
    refine zr_puti C fk_RX6_31 fi_42_3 (hR2 _ _) (zdec_at dm_X6_find 23 rfl) (fun M6 e7 => ?_)
    have h := h M6 e7
    have hR8 : zRng M6 := by rw [e7]; exact hR2.set (hR2 _ _) _ _
    refine zr_aload_n C 0 rfl (zdec_at dm_X6_find 24 rfl) rfl ?_
    refine zr_iload_n C 1 rfl (zdec_at dm_X6_find 25 rfl) rfl ?_
    refine zr_puti C fk_RX6_42 fi_42_4 zz_a1 (zdec_at dm_X6_find 26 rfl) (fun M9 e10 => ?_)
    have h := h M9 e10
    have hR11 : zRng M9 := by rw [e10]; exact hR8.set zz_a1 _ _
    refine zr_aload_n C 0 rfl (zdec_at dm_X6_find 27 rfl) rfl ?_
    refine zr_iload_n C 2 rfl (zdec_at dm_X6_find 28 rfl) rfl ?_
    refine zr_puti C fk_RX6_45 fi_42_5 zz_a2 (zdec_at dm_X6_find 29 rfl) (fun M12 e13 => ?_)
    have h := h M12 e13
    have hR14 : zRng M12 := by rw [e13]; exact hR11.set zz_a2 _ _
    refine zr_aload_n C 0 rfl (zdec_at dm_X6_find 30 rfl) rfl ?_
    refine zr_getr (q := 17) C fk_RX6_27 fi_42_0 (zdec_at dm_X6_find 31 rfl) ?_
    refine zr_geti C fk_RX6_48 fi_17_1 (zdec_at dm_X6_find 32 rfl) ?_
    refine zr_istore_n (L1 := [(3, zI (M12 17 1)), (0, zRf (zad Γ) 42), (1, zI a1), (2, zI a2)]) C (zdec_at dm_X6_find 33 rfl) rfl (Nat.le_of_ble_eq_true rfl) rfl ?_
    refine zr_iload_n C 0 rfl (zdec_at dm_X6_find 34 rfl) rfl ?_
    refine zr_iconst C (zdec_at dm_X6_find 35 rfl) ?_
    refine zr_isub C (zdec_at dm_X6_find 36 rfl) ?_
    refine zr_istore (L1 := [(4, zI ((M12 17 1) - 1)), (3, zI (M12 17 1)), (0, zRf (zad Γ) 42), (1, zI a1), (2, zI a2)]) C (zdec_at dm_X6_find 37 rfl) (Nat.le_of_ble_eq_true rfl) rfl ?_
    obtain ⟨o16, h⟩ := h
    obtain ⟨I73, ⟨n24, q25⟩, hI23⟩ := h
    have lp22 : ∀ (n20 : Nat) (v15 : Int) (M18 : zM), I73 v15 M18 n20 → zin v15 → zRng M18 → zV Γ mu_X6_find (145, 0, 0) 73 [(0, zRf (zad Γ) 42), (2, zI a2), (3, zI (M12 17 1)), (4, zI v15)] [] M18 := by
      intro n20
      induction n20 using Nat.strongRecOn with
      | _ n20 ih21 =>
      intro v15 M18 q26 z17 hR19
      have h := hI23 v15 M18 n20 q26 z17 hR19
      refine zr_iload C 3 rfl (zdec_at dm_X6_find 38 rfl) ?_
      refine zr_if_lt C z17 (zdec_at dm_X6_find 39 rfl) rfl (fun g27 => ?_) (fun g27 => ?_)
      · have h := h.1 g27
        refine zr_aload_n C 0 rfl (zdec_at dm_X6_find 47 rfl) rfl ?_
        refine zr_iload_n C 2 rfl (zdec_at dm_X6_find 48 rfl) rfl ?_
        obtain ⟨g32, h⟩ := h
        refine zr_callV C [(M12 17 1)] hS_X6_follow ck_RX6_55 iv_X6_follow vc_X6 oc_42 rfl rfl (zdec_at dm_X6_find 49 rfl) ⟨rfl, rfl, rfl, rfl⟩ ⟨by decide, by decide⟩ (Nat.le_of_ble_eq_true rfl) (zall_0 (hR14 _ _) zall_n) ?_
        refine ⟨_, rfl, g32, fun M28 p31 _ hR29 => ?_⟩
        have h := h M28 p31 hR29
        show zV Γ mu_X6_find (145, 0, 0) 97 [(0, zRf (zad Γ) 42), (2, zI a2), (3, zI (M12 17 1)), (4, zI v15)] [] M28
        exact zr_return C rfl rfl (zdec_at dm_X6_find 50 rfl) rfl ⟨by decide, h⟩
      · have h := h.2 g27
        refine zr_aload_n C 0 rfl (zdec_at dm_X6_find 40 rfl) rfl ?_
        refine zr_iload C 3 rfl (zdec_at dm_X6_find 41 rfl) ?_
        refine zr_iload_n C 2 rfl (zdec_at dm_X6_find 42 rfl) rfl ?_
        refine zr_iload_n C 1 rfl (zdec_at dm_X6_find 43 rfl) rfl ?_
        obtain ⟨g37, h⟩ := h
        refine zr_callV C [v15, (M12 17 1), a2] hS_X6_lookAhead ck_RX6_51 iv_X6_lookAhead vc_X6 oc_42 rfl rfl (zdec_at dm_X6_find 44 rfl) ⟨rfl, rfl, rfl, rfl⟩ ⟨by decide, by decide⟩ (Nat.le_of_ble_eq_true rfl) (zall_0 z17 (zall_0 (hR14 _ _) (zall_0 zz_a2 zall_n))) ?_
        refine ⟨_, _, _, rfl, g37, fun M33 p36 _ hR34 => ?_⟩
        have h := h M33 p36 hR34
        show zV Γ mu_X6_find (145, 0, 0) 86 [(0, zRf (zad Γ) 42), (2, zI a2), (3, zI (M12 17 1)), (4, zI v15)] [] M33
        refine zr_iinc (L1 := [(4, zI (v15 + (-1))), (0, zRf (zad Γ) 42), (2, zI a2), (3, zI (M12 17 1))]) C 3 rfl (zdec_at dm_X6_find 45 rfl) (Nat.le_of_ble_eq_true rfl) rfl ?_
        refine zr_goto C (zdec_at dm_X6_find 46 rfl) rfl ?_
        obtain ⟨o38, h⟩ := h
        obtain ⟨n39, q40, q41⟩ := h
        exact zr_sub [1, 2, 3, 0] rfl (ih21 n39 q40 _ _ q41 o38 hR34)
    exact zr_sub [2, 4, 1, 0] rfl (lp22 n24 _ _ q25 o16 hR14))
  refine zr_icmp_ne C (hR2 _ _) (hR2 _ _) (zdec_at dm_X6_find 9 rfl) rfl (fun g42 => ?_) (fun g42 => ?_)
  · have h := h.1 g42
    exact zr_sub [0, 1, 2] rfl (h)
  · have h := h.2 g42
    refine zr_aload_n C 0 rfl (zdec_at dm_X6_find 10 rfl) rfl ?_
    refine zr_geti C fk_RX6_42 fi_42_4 (zdec_at dm_X6_find 11 rfl) ?_
    refine zr_iload_n C 1 rfl (zdec_at dm_X6_find 12 rfl) rfl ?_
    refine zr_icmp_ne C (hR2 _ _) zz_a1 (zdec_at dm_X6_find 13 rfl) rfl (fun g43 => ?_) (fun g43 => ?_)
    · have h := h.1 g43
      exact zr_sub [0, 1, 2] rfl (h)
    · have h := h.2 g43
      refine zr_aload_n C 0 rfl (zdec_at dm_X6_find 14 rfl) rfl ?_
      refine zr_geti C fk_RX6_45 fi_42_5 (zdec_at dm_X6_find 15 rfl) ?_
      refine zr_iload_n C 2 rfl (zdec_at dm_X6_find 16 rfl) rfl ?_
      refine zr_icmp_ne C (hR2 _ _) zz_a2 (zdec_at dm_X6_find 17 rfl) rfl (fun g44 => ?_) (fun g44 => ?_)
      · have h := h.1 g44
        exact zr_sub [0, 1, 2] rfl (h)
      · have h := h.2 g44
        exact zr_return C rfl rfl (zdec_at dm_X6_find 18 rfl) rfl ⟨by decide, h⟩

set_option maxHeartbeats 400000 in
set_option maxRecDepth 100000 in
theorem sn_X6_lookAhead {pr_X6_staysNear : Int → Int → Int → zM → Prop} {po_X6_staysNear : Int → Int → Int → zM → Int → zM → Prop} (hS_X6_staysNear : zSnd zS 145 0 0 yX6_staysNear cX6_staysNear 5 (some .boolean) 1 [2, 0, 0, 0] (F_X6_staysNear pr_X6_staysNear po_X6_staysNear)) : zSnd zS 145 0 0 yX6_lookAhead cX6_lookAhead 9 none 2 [2, 0, 0, 0] (fun xs P M => ∃ a1 a2 a3 : Int, xs = [42, a1, a2, a3] ∧ vc_X6_lookAhead pr_X6_staysNear po_X6_staysNear a1 a2 a3 P M) := by
  refine zSnd.of rfl (fun ad xs hz => Nat.le_trans (Nat.le_of_eq (zlen ad _ xs hz)) (by decide)) ?_
  intro Γ C _ _ xs M hz hF
  obtain ⟨a1, a2, a3, rfl, h⟩ := hF
  have zz_a1 := zall_h (zall_t hz) (by decide)
  have zz_a2 := zall_h (zall_t (zall_t hz)) (by decide)
  have zz_a3 := zall_h (zall_t (zall_t (zall_t hz))) (by decide)
  refine zr_rng (fun hR => ?_)
  have C : zC Γ mu_X6_lookAhead := C
  change zV Γ mu_X6_lookAhead (145, 0, 0) 0 [(0, zRf (zad Γ) 42), (1, zI a1), (2, zI a2), (3, zI a3)] [] M
  change vc_X6_lookAhead pr_X6_staysNear po_X6_staysNear a1 a2 a3 _ M at h
  unfold vc_X6_lookAhead at h
  refine zr_aload_n C 0 rfl (zdec_at dm_X6_lookAhead 0 rfl) rfl ?_
  refine zr_getr (q := 46) C fk_RX6_21 fi_42_8 (zdec_at dm_X6_lookAhead 1 rfl) ?_
  refine zr_iload_n C 1 rfl (zdec_at dm_X6_lookAhead 2 rfl) rfl ?_
  refine zr_ldc C (zdec_at dm_X6_lookAhead 3 rfl) kc_RX6_58 ?_
  obtain ⟨o1, h⟩ := h
  refine zr_iast C ai_46 o1 (by decide) (zdec_at dm_X6_lookAhead 4 rfl) (fun M2 e3 => ?_)
  have h := h M2 e3
  have hR4 : zRng M2 := by rw [e3]; exact hR.set (by decide) _ _
  refine zr_aload_n C 0 rfl (zdec_at dm_X6_lookAhead 5 rfl) rfl ?_
  refine zr_getr (q := 47) C fk_RX6_24 fi_42_9 (zdec_at dm_X6_lookAhead 6 rfl) ?_
  refine zr_iload_n C 1 rfl (zdec_at dm_X6_lookAhead 7 rfl) rfl ?_
  refine zr_iload_n C 2 rfl (zdec_at dm_X6_lookAhead 8 rfl) rfl ?_
  refine zr_iast C ai_47 o1 zz_a2 (zdec_at dm_X6_lookAhead 9 rfl) (fun M5 e6 => ?_)
  have h := h M5 e6
  have hR7 : zRng M5 := by rw [e6]; exact hR4.set zz_a2 _ _
  refine zr_ldc C (zdec_at dm_X6_lookAhead 10 rfl) kc_RX6_58 ?_
  refine zr_istore (L1 := [(4, zI 1000000), (0, zRf (zad Γ) 42), (1, zI a1), (2, zI a2), (3, zI a3)]) C (zdec_at dm_X6_lookAhead 11 rfl) (Nat.le_of_ble_eq_true rfl) rfl ?_
  refine zr_iload_n C 3 rfl (zdec_at dm_X6_lookAhead 12 rfl) rfl ?_
  refine zr_iconst C (zdec_at dm_X6_lookAhead 13 rfl) ?_
  refine zr_isub C (zdec_at dm_X6_lookAhead 14 rfl) ?_
  refine zr_istore (L1 := [(5, zI (a2 - 1)), (4, zI 1000000), (0, zRf (zad Γ) 42), (1, zI a1), (2, zI a2), (3, zI a3)]) C (zdec_at dm_X6_lookAhead 15 rfl) (Nat.le_of_ble_eq_true rfl) rfl ?_
  obtain ⟨o10, h⟩ := h
  obtain ⟨I24, ⟨n19, q20⟩, hI18⟩ := h
  have lp17 : ∀ (n15 : Nat) (v8 : Int) (v9 : Int) (M13 : zM), I24 v8 v9 M13 n15 → zin v8 → zin v9 → zRng M13 → zV Γ mu_X6_lookAhead (145, 0, 0) 24 [(0, zRf (zad Γ) 42), (1, zI a1), (2, zI a2), (3, zI a3), (4, zI v8), (5, zI v9)] [] M13 := by
    intro n15
    induction n15 using Nat.strongRecOn with
    | _ n15 ih16 =>
    intro v8 v9 M13 q21 z11 z12 hR14
    have h := hI18 v8 v9 M13 n15 q21 z11 z12 hR14
    refine zr_iload C 5 rfl (zdec_at dm_X6_lookAhead 16 rfl) ?_
    refine zr_iload_n C 1 rfl (zdec_at dm_X6_lookAhead 17 rfl) rfl ?_
    refine zr_icmp_le C z12 zz_a1 (zdec_at dm_X6_lookAhead 18 rfl) rfl (fun g22 => ?_) (fun g22 => ?_)
    · have h := h.1 g22
      refine zr_aload_n C 0 rfl (zdec_at dm_X6_lookAhead 97 rfl) rfl ?_
      refine zr_iload_n C 1 rfl (zdec_at dm_X6_lookAhead 98 rfl) rfl ?_
      refine zr_iload_n C 2 rfl (zdec_at dm_X6_lookAhead 99 rfl) rfl ?_
      refine zr_iload_n C 3 rfl (zdec_at dm_X6_lookAhead 100 rfl) rfl ?_
      obtain ⟨g28, h⟩ := h
      refine zr_callV C [a1, a2, a3] hS_X6_staysNear ck_RX6_59 iv_X6_staysNear vc_X6 oc_42 rfl rfl (zdec_at dm_X6_lookAhead 101 rfl) ⟨rfl, rfl, rfl, rfl⟩ ⟨by decide, by decide⟩ (Nat.le_of_ble_eq_true rfl) (zall_0 zz_a1 (zall_0 zz_a2 (zall_0 zz_a3 zall_n))) ?_
      refine ⟨_, _, _, rfl, g28, fun r23 M24 p27 z26 hR25 => ?_⟩
      have h := h r23 M24 p27 z26 hR25
      show zV Γ mu_X6_lookAhead (145, 0, 0) 181 [(0, zRf (zad Γ) 42), (1, zI a1), (2, zI a2), (3, zI a3), (4, zI v8), (5, zI v9)] [zI r23] M24
      refine zr_istore (L1 := [(5, zI r23), (0, zRf (zad Γ) 42), (1, zI a1), (2, zI a2), (3, zI a3), (4, zI v8)]) C (zdec_at dm_X6_lookAhead 102 rfl) (Nat.le_of_ble_eq_true rfl) rfl ?_
      refine zr_aload_n C 1 rfl (zdec_at dm_X6_lookAhead 103 rfl) rfl ?_
      refine zr_getr (q := 44) C fk_RX6_15 fi_42_6 (zdec_at dm_X6_lookAhead 104 rfl) ?_
      refine zr_iload_n C 2 rfl (zdec_at dm_X6_lookAhead 105 rfl) rfl ?_
      refine zr_iload C 0 rfl (zdec_at dm_X6_lookAhead 106 rfl) ?_
      have h := h (fun v29 => zin v29 → zV Γ mu_X6_lookAhead (145, 0, 0) 203 [(0, zRf (zad Γ) 42), (1, zI a1), (2, zI a2), (5, zI r23)] [zI v29, zI a1, zRf (zad Γ) 44] M24) (fun v29 h z30 => by
        have h := h z30
        refine zr_iast C ai_44 o1 z30 (zdec_at dm_X6_lookAhead 114 rfl) (fun M31 e32 => ?_)
        have h := h M31 e32
        have hR33 : zRng M31 := by rw [e32]; exact hR25.set z30 _ _
        refine zr_aload_n C 0 rfl (zdec_at dm_X6_lookAhead 115 rfl) rfl ?_
        refine zr_getr (q := 45) C fk_RX6_18 fi_42_7 (zdec_at dm_X6_lookAhead 116 rfl) ?_
        refine zr_iload_n C 1 rfl (zdec_at dm_X6_lookAhead 117 rfl) rfl ?_
        refine zr_iload C 3 rfl (zdec_at dm_X6_lookAhead 118 rfl) ?_
        refine zr_if_eq C z26 (zdec_at dm_X6_lookAhead 119 rfl) rfl (fun g34 => ?_) (fun g34 => ?_)
        · have h := h.1 g34
          refine zr_aload_n C 0 rfl (zdec_at dm_X6_lookAhead 122 rfl) rfl ?_
          refine zr_getr (q := 47) C fk_RX6_24 fi_42_9 (zdec_at dm_X6_lookAhead 123 rfl) ?_
          refine zr_iload_n C 1 rfl (zdec_at dm_X6_lookAhead 124 rfl) rfl ?_
          refine zr_iald C ai_47 o1 (zdec_at dm_X6_lookAhead 125 rfl) ?_
          refine zr_iast C ai_45 o1 (hR33 _ _) (zdec_at dm_X6_lookAhead 126 rfl) (fun M35 e36 => ?_)
          have h := h M35 e36
          have hR37 : zRng M35 := by rw [e36]; exact hR33.set (hR33 _ _) _ _
          exact zr_return C rfl rfl (zdec_at dm_X6_lookAhead 127 rfl) rfl ⟨by decide, h⟩
        · have h := h.2 g34
          refine zr_iload_n C 2 rfl (zdec_at dm_X6_lookAhead 120 rfl) rfl ?_
          refine zr_goto C (zdec_at dm_X6_lookAhead 121 rfl) rfl ?_
          refine zr_iast C ai_45 o1 zz_a2 (zdec_at dm_X6_lookAhead 126 rfl) (fun M38 e39 => ?_)
          have h := h M38 e39
          have hR40 : zRng M38 := by rw [e39]; exact hR33.set zz_a2 _ _
          exact zr_return C rfl rfl (zdec_at dm_X6_lookAhead 127 rfl) rfl ⟨by decide, h⟩)
      refine zr_if_eq C z26 (zdec_at dm_X6_lookAhead 107 rfl) rfl (fun g41 => ?_) (fun g41 => ?_)
      · have h := h.1 g41
        refine zr_aload_n C 1 rfl (zdec_at dm_X6_lookAhead 110 rfl) rfl ?_
        refine zr_getr (q := 46) C fk_RX6_21 fi_42_8 (zdec_at dm_X6_lookAhead 111 rfl) ?_
        refine zr_iload_n C 2 rfl (zdec_at dm_X6_lookAhead 112 rfl) rfl ?_
        refine zr_iald C ai_46 o1 (zdec_at dm_X6_lookAhead 113 rfl) ?_
        exact zr_sub [1, 2, 3, 0] rfl (h (hR25 _ _))
      · have h := h.2 g41
        refine zr_iconst C (zdec_at dm_X6_lookAhead 108 rfl) ?_
        refine zr_goto C (zdec_at dm_X6_lookAhead 109 rfl) rfl ?_
        exact zr_sub [1, 2, 3, 0] rfl (h (by decide))
    · have h := h.2 g22
      refine zr_iconst C (zdec_at dm_X6_lookAhead 19 rfl) ?_
      refine zr_aload_n C 0 rfl (zdec_at dm_X6_lookAhead 20 rfl) rfl ?_
      refine zr_getr (q := 44) C fk_RX6_15 fi_42_6 (zdec_at dm_X6_lookAhead 21 rfl) ?_
      refine zr_iload C 5 rfl (zdec_at dm_X6_lookAhead 22 rfl) ?_
      obtain ⟨o42, h⟩ := h
      refine zr_iald C ai_44 o42 (zdec_at dm_X6_lookAhead 23 rfl) ?_
      refine zr_iadd C (zdec_at dm_X6_lookAhead 24 rfl) ?_
      refine zr_aload_n C 0 rfl (zdec_at dm_X6_lookAhead 25 rfl) rfl ?_
      refine zr_getr (q := 46) C fk_RX6_21 fi_42_8 (zdec_at dm_X6_lookAhead 26 rfl) ?_
      refine zr_iload_n C 1 rfl (zdec_at dm_X6_lookAhead 27 rfl) rfl ?_
      refine zr_iald C ai_46 o1 (zdec_at dm_X6_lookAhead 28 rfl) ?_
      have h := h (fun v43 => zin v43 → zV Γ mu_X6_lookAhead (145, 0, 0) 53 [(0, zRf (zad Γ) 42), (1, zI a1), (2, zI a2), (3, zI a3), (4, zI v8), (5, zI v9)] [zI v43] M13) (fun v43 h z44 => by
        have h := h z44
        refine zr_istore (L1 := [(6, zI v43), (0, zRf (zad Γ) 42), (1, zI a1), (2, zI a2), (3, zI a3), (4, zI v8), (5, zI v9)]) C (zdec_at dm_X6_lookAhead 33 rfl) (Nat.le_of_ble_eq_true rfl) rfl ?_
        refine zr_iload_n C 2 rfl (zdec_at dm_X6_lookAhead 34 rfl) rfl ?_
        have h := h (fun v45 => zin v45 → zV Γ mu_X6_lookAhead (145, 0, 0) 78 [(0, zRf (zad Γ) 42), (1, zI a1), (2, zI a2), (3, zI a3), (4, zI v8), (5, zI v9), (6, zI v43)] [zI v45] M13) (fun v45 h z46 => by
          have h := h z46
          refine zr_istore (L1 := [(7, zI v45), (0, zRf (zad Γ) 42), (1, zI a1), (2, zI a2), (3, zI a3), (4, zI v8), (5, zI v9), (6, zI v43)]) C (zdec_at dm_X6_lookAhead 47 rfl) (Nat.le_of_ble_eq_true rfl) rfl ?_
          refine zr_iload C 7 rfl (zdec_at dm_X6_lookAhead 48 rfl) ?_
          have h := h (fun v47 M49 => zin v47 → zRng M49 → zV Γ mu_X6_lookAhead (145, 0, 0) 106 [(0, zRf (zad Γ) 42), (1, zI a1), (2, zI a2), (3, zI a3), (4, zI v8), (5, zI v9), (6, zI v43), (7, zI v45)] [zI v47] M49) (fun v47 M49 h z48 hR50 => by
            have h := h z48 hR50
            refine zr_istore (L1 := [(8, zI v47), (0, zRf (zad Γ) 42), (1, zI a1), (2, zI a2), (3, zI a3), (4, zI v8), (5, zI v9), (6, zI v43), (7, zI v45)]) C (zdec_at dm_X6_lookAhead 61 rfl) (Nat.le_of_ble_eq_true rfl) rfl ?_
            refine zr_iload C 0 rfl (zdec_at dm_X6_lookAhead 62 rfl) ?_
            have h := h (fun M51 => zRng M51 → zV Γ mu_X6_lookAhead (145, 0, 0) 141 [(0, zRf (zad Γ) 42), (1, zI a1), (2, zI a2), (3, zI a3), (4, zI v8), (5, zI v9), (7, zI v45), (8, zI v47)] [] M51) (fun M51 h hR52 => by
              have h := h hR52
              refine zr_iload C 7 rfl (zdec_at dm_X6_lookAhead 81 rfl) ?_
              refine zr_if_eq C z48 (zdec_at dm_X6_lookAhead 82 rfl) rfl (fun g53 => ?_) (fun g53 => ?_)
              · have h := h.1 g53
                refine zr_iinc (L1 := [(5, zI (v9 + (-1))), (0, zRf (zad Γ) 42), (1, zI a1), (2, zI a2), (3, zI a3), (4, zI v8), (7, zI v45), (8, zI v47)]) C 5 rfl (zdec_at dm_X6_lookAhead 95 rfl) (Nat.le_of_ble_eq_true rfl) rfl ?_
                refine zr_goto C (zdec_at dm_X6_lookAhead 96 rfl) rfl ?_
                obtain ⟨o54, h⟩ := h
                obtain ⟨n55, q56, q57⟩ := h
                exact zr_sub [1, 2, 3, 4, 5, 0] rfl (ih16 n55 q56 _ _ _ q57 z11 o54 hR52)
              · have h := h.2 g53
                refine zr_iload C 6 rfl (zdec_at dm_X6_lookAhead 83 rfl) ?_
                refine zr_if_eq C z46 (zdec_at dm_X6_lookAhead 84 rfl) rfl (fun g58 => ?_) (fun g58 => ?_)
                · have h := h.1 g58
                  refine zr_iinc (L1 := [(5, zI (v9 + (-1))), (0, zRf (zad Γ) 42), (1, zI a1), (2, zI a2), (3, zI a3), (4, zI v8), (7, zI v45), (8, zI v47)]) C 5 rfl (zdec_at dm_X6_lookAhead 95 rfl) (Nat.le_of_ble_eq_true rfl) rfl ?_
                  refine zr_goto C (zdec_at dm_X6_lookAhead 96 rfl) rfl ?_
                  obtain ⟨o59, h⟩ := h
                  obtain ⟨n60, q61, q62⟩ := h
                  exact zr_sub [1, 2, 3, 4, 5, 0] rfl (ih16 n60 q61 _ _ _ q62 z11 o59 hR52)
                · have h := h.2 g58
                  refine zr_iconst C (zdec_at dm_X6_lookAhead 85 rfl) ?_
                  refine zr_aload_n C 0 rfl (zdec_at dm_X6_lookAhead 86 rfl) rfl ?_
                  refine zr_getr (q := 46) C fk_RX6_21 fi_42_8 (zdec_at dm_X6_lookAhead 87 rfl) ?_
                  refine zr_iload C 5 rfl (zdec_at dm_X6_lookAhead 88 rfl) ?_
                  refine zr_iald C ai_46 o42 (zdec_at dm_X6_lookAhead 89 rfl) ?_
                  refine zr_iadd C (zdec_at dm_X6_lookAhead 90 rfl) ?_
                  refine zr_istore (L1 := [(4, zI (1 + (M51 46 v9))), (0, zRf (zad Γ) 42), (1, zI a1), (2, zI a2), (3, zI a3), (5, zI v9), (7, zI v45), (8, zI v47)]) C (zdec_at dm_X6_lookAhead 91 rfl) (Nat.le_of_ble_eq_true rfl) rfl ?_
                  refine zr_aload_n C 1 rfl (zdec_at dm_X6_lookAhead 92 rfl) rfl ?_
                  refine zr_iload C 5 rfl (zdec_at dm_X6_lookAhead 93 rfl) ?_
                  refine zr_puti C fk_RX6_63 fi_42_10 z12 (zdec_at dm_X6_lookAhead 94 rfl) (fun M63 e64 => ?_)
                  have h := h M63 e64
                  have hR65 : zRng M63 := by rw [e64]; exact hR52.set z12 _ _
                  refine zr_iinc (L1 := [(5, zI (v9 + (-1))), (4, zI (1 + (M51 46 v9))), (0, zRf (zad Γ) 42), (1, zI a1), (2, zI a2), (3, zI a3), (7, zI v45), (8, zI v47)]) C 5 rfl (zdec_at dm_X6_lookAhead 95 rfl) (Nat.le_of_ble_eq_true rfl) rfl ?_
                  refine zr_goto C (zdec_at dm_X6_lookAhead 96 rfl) rfl ?_
                  obtain ⟨o66, h⟩ := h
                  obtain ⟨o67, h⟩ := h
                  obtain ⟨n68, q69, q70⟩ := h
                  exact zr_sub [2, 3, 4, 5, 1, 0] rfl (ih16 n68 q69 _ _ _ q70 o66 o67 hR65))
            refine zr_if_eq C z48 (zdec_at dm_X6_lookAhead 63 rfl) rfl (fun g71 => ?_) (fun g71 => ?_)
            · have h := h.1 g71
              exact zr_sub [1, 2, 3, 4, 5, 6, 8, 0] rfl (h hR50)
            · have h := h.2 g71
              refine zr_iload C 7 rfl (zdec_at dm_X6_lookAhead 64 rfl) ?_
              refine zr_if_eq C z44 (zdec_at dm_X6_lookAhead 65 rfl) rfl (fun g72 => ?_) (fun g72 => ?_)
              · have h := h.1 g72
                exact zr_sub [1, 2, 3, 4, 5, 6, 8, 0] rfl (h hR50)
              · have h := h.2 g72
                refine zr_aload_n C 1 rfl (zdec_at dm_X6_lookAhead 66 rfl) rfl ?_
                refine zr_getr (q := 46) C fk_RX6_21 fi_42_8 (zdec_at dm_X6_lookAhead 67 rfl) ?_
                refine zr_iload_n C 2 rfl (zdec_at dm_X6_lookAhead 68 rfl) rfl ?_
                refine zr_iconst C (zdec_at dm_X6_lookAhead 69 rfl) ?_
                refine zr_aload_n C 1 rfl (zdec_at dm_X6_lookAhead 70 rfl) rfl ?_
                refine zr_getr (q := 44) C fk_RX6_15 fi_42_6 (zdec_at dm_X6_lookAhead 71 rfl) ?_
                refine zr_iload C 6 rfl (zdec_at dm_X6_lookAhead 72 rfl) ?_
                refine zr_iald C ai_44 o42 (zdec_at dm_X6_lookAhead 73 rfl) ?_
                refine zr_iadd C (zdec_at dm_X6_lookAhead 74 rfl) ?_
                obtain ⟨o73, h⟩ := h
                refine zr_iast C ai_46 o1 o73 (zdec_at dm_X6_lookAhead 75 rfl) (fun M74 e75 => ?_)
                have h := h M74 e75
                have hR76 : zRng M74 := by rw [e75]; exact hR50.set o73 _ _
                refine zr_aload_n C 1 rfl (zdec_at dm_X6_lookAhead 76 rfl) rfl ?_
                refine zr_getr (q := 47) C fk_RX6_24 fi_42_9 (zdec_at dm_X6_lookAhead 77 rfl) ?_
                refine zr_iload_n C 2 rfl (zdec_at dm_X6_lookAhead 78 rfl) rfl ?_
                refine zr_iload C 6 rfl (zdec_at dm_X6_lookAhead 79 rfl) ?_
                refine zr_iast C ai_47 o1 z12 (zdec_at dm_X6_lookAhead 80 rfl) (fun M77 e78 => ?_)
                have h := h M77 e78
                have hR79 : zRng M77 := by rw [e78]; exact hR76.set z12 _ _
                exact zr_sub [1, 2, 3, 4, 5, 6, 8, 0] rfl (h hR79))
          have h := h (fun M80 => zRng M80 → zV Γ mu_X6_lookAhead (145, 0, 0) 105 [(0, zRf (zad Γ) 42), (1, zI a1), (2, zI a2), (3, zI a3), (4, zI v8), (5, zI v9), (6, zI v43), (7, zI v45)] [] M80) (fun M80 h hR81 => by
            have h := h hR81
            refine zr_iconst C (zdec_at dm_X6_lookAhead 60 rfl) ?_
            exact zr_sub [0, 1, 2, 3, 4, 5, 6, 7] rfl (h (by decide) hR81))
          have h := h (zV Γ mu_X6_lookAhead (145, 0, 0) 90 [(0, zRf (zad Γ) 42), (1, zI a1), (2, zI a2), (3, zI a3), (4, zI v8), (5, zI v9), (6, zI v43), (7, zI v45)] [] M13) (fun h => by
            refine zr_aload_n C 0 rfl (zdec_at dm_X6_lookAhead 52 rfl) rfl ?_
            refine zr_iload_n C 1 rfl (zdec_at dm_X6_lookAhead 53 rfl) rfl ?_
            refine zr_iload C 5 rfl (zdec_at dm_X6_lookAhead 54 rfl) ?_
            refine zr_iload_n C 3 rfl (zdec_at dm_X6_lookAhead 55 rfl) rfl ?_
            obtain ⟨g87, h⟩ := h
            refine zr_callV C [a1, v9, a3] hS_X6_staysNear ck_RX6_59 iv_X6_staysNear vc_X6 oc_42 rfl rfl (zdec_at dm_X6_lookAhead 56 rfl) ⟨rfl, rfl, rfl, rfl⟩ ⟨by decide, by decide⟩ (Nat.le_of_ble_eq_true rfl) (zall_0 zz_a1 (zall_0 z12 (zall_0 zz_a3 zall_n))) ?_
            refine ⟨_, _, _, rfl, g87, fun r82 M83 p86 z85 hR84 => ?_⟩
            have h := h r82 M83 p86 z85 hR84
            show zV Γ mu_X6_lookAhead (145, 0, 0) 98 [(0, zRf (zad Γ) 42), (1, zI a1), (2, zI a2), (3, zI a3), (4, zI v8), (5, zI v9), (6, zI v43), (7, zI v45)] [zI r82] M83
            refine zr_if_eq C z85 (zdec_at dm_X6_lookAhead 57 rfl) rfl (fun g88 => ?_) (fun g88 => ?_)
            · have h := h.1 g88
              exact zr_sub [0, 1, 2, 3, 4, 5, 6, 7] rfl (h hR84)
            · have h := h.2 g88
              refine zr_iconst C (zdec_at dm_X6_lookAhead 58 rfl) ?_
              refine zr_goto C (zdec_at dm_X6_lookAhead 59 rfl) rfl ?_
              exact zr_sub [0, 1, 2, 3, 4, 5, 6, 7] rfl (h (by decide) hR84))
          refine zr_if_ne C z44 (zdec_at dm_X6_lookAhead 49 rfl) rfl (fun g89 => ?_) (fun g89 => ?_)
          · have h := h.1 g89
            exact zr_sub [1, 2, 3, 4, 5, 6, 7, 0] rfl (h)
          · have h := h.2 g89
            refine zr_iload C 0 rfl (zdec_at dm_X6_lookAhead 50 rfl) ?_
            refine zr_if_eq C z46 (zdec_at dm_X6_lookAhead 51 rfl) rfl (fun g90 => ?_) (fun g90 => ?_)
            · have h := h.1 g90
              exact zr_sub [1, 2, 3, 4, 5, 6, 7, 0] rfl (h hR14)
            · have h := h.2 g90
              exact zr_sub [1, 2, 3, 4, 5, 6, 7, 0] rfl (h))
        have h := h (zV Γ mu_X6_lookAhead (145, 0, 0) 77 [(0, zRf (zad Γ) 42), (1, zI a1), (2, zI a2), (3, zI a3), (4, zI v8), (5, zI v9), (6, zI v43)] [] M13) (fun h => by
          refine zr_iconst C (zdec_at dm_X6_lookAhead 46 rfl) ?_
          exact zr_sub [0, 1, 2, 3, 4, 5, 6] rfl (h (by decide)))
        refine zr_if_ne C zz_a1 (zdec_at dm_X6_lookAhead 35 rfl) rfl (fun g91 => ?_) (fun g91 => ?_)
        · have h := h.1 g91
          exact zr_sub [1, 2, 3, 4, 5, 6, 0] rfl (h)
        · have h := h.2 g91
          refine zr_iconst C (zdec_at dm_X6_lookAhead 36 rfl) ?_
          refine zr_aload_n C 1 rfl (zdec_at dm_X6_lookAhead 37 rfl) rfl ?_
          refine zr_getr (q := 46) C fk_RX6_21 fi_42_8 (zdec_at dm_X6_lookAhead 38 rfl) ?_
          refine zr_iload C 6 rfl (zdec_at dm_X6_lookAhead 39 rfl) ?_
          refine zr_iald C ai_46 o42 (zdec_at dm_X6_lookAhead 40 rfl) ?_
          refine zr_iadd C (zdec_at dm_X6_lookAhead 41 rfl) ?_
          refine zr_iload C 5 rfl (zdec_at dm_X6_lookAhead 42 rfl) ?_
          obtain ⟨o92, h⟩ := h
          refine zr_icmp_ge C o92 z11 (zdec_at dm_X6_lookAhead 43 rfl) rfl (fun g93 => ?_) (fun g93 => ?_)
          · have h := h.1 g93
            exact zr_sub [1, 2, 3, 4, 5, 6, 0] rfl (h)
          · have h := h.2 g93
            refine zr_iconst C (zdec_at dm_X6_lookAhead 44 rfl) ?_
            refine zr_goto C (zdec_at dm_X6_lookAhead 45 rfl) rfl ?_
            exact zr_sub [1, 2, 3, 4, 5, 6, 0] rfl (h (by decide)))
      obtain ⟨o94, h⟩ := h
      refine zr_icmp_ge C o94 (hR14 _ _) (zdec_at dm_X6_lookAhead 29 rfl) rfl (fun g95 => ?_) (fun g95 => ?_)
      · have h := h.1 g95
        refine zr_iconst C (zdec_at dm_X6_lookAhead 32 rfl) ?_
        exact zr_sub [0, 1, 2, 3, 4, 5] rfl (h (by decide))
      · have h := h.2 g95
        refine zr_iconst C (zdec_at dm_X6_lookAhead 30 rfl) ?_
        refine zr_goto C (zdec_at dm_X6_lookAhead 31 rfl) rfl ?_
        exact zr_sub [0, 1, 2, 3, 4, 5] rfl (h (by decide))
  exact zr_sub [2, 3, 4, 5, 1, 0] rfl (lp17 n19 _ _ _ q20 (by decide) o10 hR7)

set_option maxHeartbeats 400000 in
set_option maxRecDepth 100000 in
theorem sn_X6_staysNear {pr_X1_isNear : Int → Int → Int → Int → zM → Prop} {po_X1_isNear : Int → Int → Int → Int → zM → Int → zM → Prop} (hS_X1_isNear : zSnd zS 145 0 0 yX1_isNear cX1_isNear 17 (some .boolean) 0 [2, 0, 0, 0, 0] (F_X1_isNear pr_X1_isNear po_X1_isNear)) : zSnd zS 145 0 0 yX6_staysNear cX6_staysNear 5 (some .boolean) 1 [2, 0, 0, 0] (fun xs P M => ∃ a1 a2 a3 : Int, xs = [42, a1, a2, a3] ∧ vc_X6_staysNear pr_X1_isNear po_X1_isNear a1 a2 a3 P M) := by
  refine zSnd.of rfl (fun ad xs hz => Nat.le_trans (Nat.le_of_eq (zlen ad _ xs hz)) (by decide)) ?_
  intro Γ C _ _ xs M hz hF
  obtain ⟨a1, a2, a3, rfl, h⟩ := hF
  have zz_a1 := zall_h (zall_t hz) (by decide)
  have zz_a2 := zall_h (zall_t (zall_t hz)) (by decide)
  have zz_a3 := zall_h (zall_t (zall_t (zall_t hz))) (by decide)
  refine zr_rng (fun hR => ?_)
  have C : zC Γ mu_X6_staysNear := C
  change zV Γ mu_X6_staysNear (145, 0, 0) 0 [(0, zRf (zad Γ) 42), (1, zI a1), (2, zI a2), (3, zI a3)] [] M
  change vc_X6_staysNear pr_X1_isNear po_X1_isNear a1 a2 a3 _ M at h
  unfold vc_X6_staysNear at h
  refine zr_aload_n C 0 rfl (zdec_at dm_X6_staysNear 0 rfl) rfl ?_
  refine zr_geti C fk_RX6_66 fi_42_11 (zdec_at dm_X6_staysNear 1 rfl) ?_
  refine zr_iload_n C 1 rfl (zdec_at dm_X6_staysNear 2 rfl) rfl ?_
  refine zr_icmp_le C (hR _ _) zz_a1 (zdec_at dm_X6_staysNear 3 rfl) rfl (fun g1 => ?_) (fun g1 => ?_)
  · have h := h.1 g1
    refine zr_iload_n C 1 rfl (zdec_at dm_X6_staysNear 19 rfl) rfl ?_
    refine zr_iconst C (zdec_at dm_X6_staysNear 20 rfl) ?_
    refine zr_iadd C (zdec_at dm_X6_staysNear 21 rfl) ?_
    refine zr_istore (L1 := [(4, zI (a1 + 1)), (0, zRf (zad Γ) 42), (1, zI a1), (2, zI a2), (3, zI a3)]) C (zdec_at dm_X6_staysNear 22 rfl) (Nat.le_of_ble_eq_true rfl) rfl ?_
    obtain ⟨o3, h⟩ := h
    obtain ⟨I40, ⟨n11, q12⟩, hI10⟩ := h
    have lp9 : ∀ (n7 : Nat) (v2 : Int) (M5 : zM), I40 v2 M5 n7 → zin v2 → zRng M5 → zV Γ mu_X6_staysNear (145, 0, 0) 40 [(0, zRf (zad Γ) 42), (1, zI a1), (2, zI a2), (3, zI a3), (4, zI v2)] [] M5 := by
      intro n7
      induction n7 using Nat.strongRecOn with
      | _ n7 ih8 =>
      intro v2 M5 q13 z4 hR6
      have h := hI10 v2 M5 n7 q13 z4 hR6
      refine zr_iload C 4 rfl (zdec_at dm_X6_staysNear 23 rfl) ?_
      refine zr_iload_n C 2 rfl (zdec_at dm_X6_staysNear 24 rfl) rfl ?_
      refine zr_icmp_ge C z4 zz_a2 (zdec_at dm_X6_staysNear 25 rfl) rfl (fun g14 => ?_) (fun g14 => ?_)
      · have h := h.1 g14
        refine zr_iconst C (zdec_at dm_X6_staysNear 41 rfl) ?_
        exact zr_zreturn C rfl (by decide) (zdec_at dm_X6_staysNear 42 rfl) rfl ⟨(by decide), h⟩
      · have h := h.2 g14
        refine zr_aload_n C 0 rfl (zdec_at dm_X6_staysNear 26 rfl) rfl ?_
        refine zr_getr (q := 17) C fk_RX6_27 fi_42_0 (zdec_at dm_X6_staysNear 27 rfl) ?_
        refine zr_iload_n C 1 rfl (zdec_at dm_X6_staysNear 28 rfl) rfl ?_
        refine zr_iload_n C 2 rfl (zdec_at dm_X6_staysNear 29 rfl) rfl ?_
        refine zr_iload C 4 rfl (zdec_at dm_X6_staysNear 30 rfl) ?_
        refine zr_iload_n C 3 rfl (zdec_at dm_X6_staysNear 31 rfl) rfl ?_
        obtain ⟨g20, h⟩ := h
        refine zr_callV C [a1, a2, v2, a3] hS_X1_isNear ck_RX6_69 iv_X1_isNear vc_X1 oc_17 rfl rfl (zdec_at dm_X6_staysNear 32 rfl) ⟨rfl, rfl, rfl, rfl⟩ ⟨by decide, by decide⟩ (Nat.le_of_ble_eq_true rfl) (zall_0 zz_a1 (zall_0 zz_a2 (zall_0 z4 (zall_0 zz_a3 zall_n)))) ?_
        refine ⟨_, _, _, _, rfl, g20, fun r15 M16 p19 z18 hR17 => ?_⟩
        have h := h r15 M16 p19 z18 hR17
        show zV Γ mu_X6_staysNear (145, 0, 0) 58 [(0, zRf (zad Γ) 42), (1, zI a1), (2, zI a2), (3, zI a3), (4, zI v2)] [zI r15] M16
        refine zr_if_ne C z18 (zdec_at dm_X6_staysNear 33 rfl) rfl (fun g21 => ?_) (fun g21 => ?_)
        · have h := h.1 g21
          refine zr_iinc (L1 := [(4, zI (v2 + 1)), (0, zRf (zad Γ) 42), (1, zI a1), (2, zI a2), (3, zI a3)]) C 4 rfl (zdec_at dm_X6_staysNear 39 rfl) (Nat.le_of_ble_eq_true rfl) rfl ?_
          refine zr_goto C (zdec_at dm_X6_staysNear 40 rfl) rfl ?_
          obtain ⟨o22, h⟩ := h
          obtain ⟨n23, q24, q25⟩ := h
          exact zr_sub [1, 2, 3, 4, 0] rfl (ih8 n23 q24 _ _ q25 o22 hR17)
        · have h := h.2 g21
          refine zr_aload_n C 0 rfl (zdec_at dm_X6_staysNear 34 rfl) rfl ?_
          refine zr_iload C 4 rfl (zdec_at dm_X6_staysNear 35 rfl) ?_
          refine zr_puti C fk_RX6_66 fi_42_11 z4 (zdec_at dm_X6_staysNear 36 rfl) (fun M26 e27 => ?_)
          have h := h M26 e27
          have hR28 : zRng M26 := by rw [e27]; exact hR17.set z4 _ _
          refine zr_iconst C (zdec_at dm_X6_staysNear 37 rfl) ?_
          exact zr_zreturn C rfl (by decide) (zdec_at dm_X6_staysNear 38 rfl) rfl ⟨(by decide), h⟩
    exact zr_sub [1, 2, 3, 4, 0] rfl (lp9 n11 _ _ q12 o3 hR)
  · have h := h.2 g1
    refine zr_aload_n C 0 rfl (zdec_at dm_X6_staysNear 4 rfl) rfl ?_
    refine zr_geti C fk_RX6_66 fi_42_11 (zdec_at dm_X6_staysNear 5 rfl) ?_
    refine zr_iload_n C 2 rfl (zdec_at dm_X6_staysNear 6 rfl) rfl ?_
    refine zr_icmp_ge C (hR _ _) zz_a2 (zdec_at dm_X6_staysNear 7 rfl) rfl (fun g29 => ?_) (fun g29 => ?_)
    · have h := h.1 g29
      refine zr_iload_n C 1 rfl (zdec_at dm_X6_staysNear 19 rfl) rfl ?_
      refine zr_iconst C (zdec_at dm_X6_staysNear 20 rfl) ?_
      refine zr_iadd C (zdec_at dm_X6_staysNear 21 rfl) ?_
      refine zr_istore (L1 := [(4, zI (a1 + 1)), (0, zRf (zad Γ) 42), (1, zI a1), (2, zI a2), (3, zI a3)]) C (zdec_at dm_X6_staysNear 22 rfl) (Nat.le_of_ble_eq_true rfl) rfl ?_
      obtain ⟨o31, h⟩ := h
      obtain ⟨I40, ⟨n39, q40⟩, hI38⟩ := h
      have lp37 : ∀ (n35 : Nat) (v30 : Int) (M33 : zM), I40 v30 M33 n35 → zin v30 → zRng M33 → zV Γ mu_X6_staysNear (145, 0, 0) 40 [(0, zRf (zad Γ) 42), (1, zI a1), (2, zI a2), (3, zI a3), (4, zI v30)] [] M33 := by
        intro n35
        induction n35 using Nat.strongRecOn with
        | _ n35 ih36 =>
        intro v30 M33 q41 z32 hR34
        have h := hI38 v30 M33 n35 q41 z32 hR34
        refine zr_iload C 4 rfl (zdec_at dm_X6_staysNear 23 rfl) ?_
        refine zr_iload_n C 2 rfl (zdec_at dm_X6_staysNear 24 rfl) rfl ?_
        refine zr_icmp_ge C z32 zz_a2 (zdec_at dm_X6_staysNear 25 rfl) rfl (fun g42 => ?_) (fun g42 => ?_)
        · have h := h.1 g42
          refine zr_iconst C (zdec_at dm_X6_staysNear 41 rfl) ?_
          exact zr_zreturn C rfl (by decide) (zdec_at dm_X6_staysNear 42 rfl) rfl ⟨(by decide), h⟩
        · have h := h.2 g42
          refine zr_aload_n C 0 rfl (zdec_at dm_X6_staysNear 26 rfl) rfl ?_
          refine zr_getr (q := 17) C fk_RX6_27 fi_42_0 (zdec_at dm_X6_staysNear 27 rfl) ?_
          refine zr_iload_n C 1 rfl (zdec_at dm_X6_staysNear 28 rfl) rfl ?_
          refine zr_iload_n C 2 rfl (zdec_at dm_X6_staysNear 29 rfl) rfl ?_
          refine zr_iload C 4 rfl (zdec_at dm_X6_staysNear 30 rfl) ?_
          refine zr_iload_n C 3 rfl (zdec_at dm_X6_staysNear 31 rfl) rfl ?_
          obtain ⟨g48, h⟩ := h
          refine zr_callV C [a1, a2, v30, a3] hS_X1_isNear ck_RX6_69 iv_X1_isNear vc_X1 oc_17 rfl rfl (zdec_at dm_X6_staysNear 32 rfl) ⟨rfl, rfl, rfl, rfl⟩ ⟨by decide, by decide⟩ (Nat.le_of_ble_eq_true rfl) (zall_0 zz_a1 (zall_0 zz_a2 (zall_0 z32 (zall_0 zz_a3 zall_n)))) ?_
          refine ⟨_, _, _, _, rfl, g48, fun r43 M44 p47 z46 hR45 => ?_⟩
          have h := h r43 M44 p47 z46 hR45
          show zV Γ mu_X6_staysNear (145, 0, 0) 58 [(0, zRf (zad Γ) 42), (1, zI a1), (2, zI a2), (3, zI a3), (4, zI v30)] [zI r43] M44
          refine zr_if_ne C z46 (zdec_at dm_X6_staysNear 33 rfl) rfl (fun g49 => ?_) (fun g49 => ?_)
          · have h := h.1 g49
            refine zr_iinc (L1 := [(4, zI (v30 + 1)), (0, zRf (zad Γ) 42), (1, zI a1), (2, zI a2), (3, zI a3)]) C 4 rfl (zdec_at dm_X6_staysNear 39 rfl) (Nat.le_of_ble_eq_true rfl) rfl ?_
            refine zr_goto C (zdec_at dm_X6_staysNear 40 rfl) rfl ?_
            obtain ⟨o50, h⟩ := h
            obtain ⟨n51, q52, q53⟩ := h
            exact zr_sub [1, 2, 3, 4, 0] rfl (ih36 n51 q52 _ _ q53 o50 hR45)
          · have h := h.2 g49
            refine zr_aload_n C 0 rfl (zdec_at dm_X6_staysNear 34 rfl) rfl ?_
            refine zr_iload C 4 rfl (zdec_at dm_X6_staysNear 35 rfl) ?_
            refine zr_puti C fk_RX6_66 fi_42_11 z32 (zdec_at dm_X6_staysNear 36 rfl) (fun M54 e55 => ?_)
            have h := h M54 e55
            have hR56 : zRng M54 := by rw [e55]; exact hR45.set z32 _ _
            refine zr_iconst C (zdec_at dm_X6_staysNear 37 rfl) ?_
            exact zr_zreturn C rfl (by decide) (zdec_at dm_X6_staysNear 38 rfl) rfl ⟨(by decide), h⟩
      exact zr_sub [1, 2, 3, 4, 0] rfl (lp37 n39 _ _ q40 o31 hR)
    · have h := h.2 g29
      refine zr_aload_n C 0 rfl (zdec_at dm_X6_staysNear 8 rfl) rfl ?_
      refine zr_getr (q := 17) C fk_RX6_27 fi_42_0 (zdec_at dm_X6_staysNear 9 rfl) ?_
      refine zr_iload_n C 1 rfl (zdec_at dm_X6_staysNear 10 rfl) rfl ?_
      refine zr_iload_n C 2 rfl (zdec_at dm_X6_staysNear 11 rfl) rfl ?_
      refine zr_aload_n C 0 rfl (zdec_at dm_X6_staysNear 12 rfl) rfl ?_
      refine zr_geti C fk_RX6_66 fi_42_11 (zdec_at dm_X6_staysNear 13 rfl) ?_
      refine zr_iload_n C 3 rfl (zdec_at dm_X6_staysNear 14 rfl) rfl ?_
      obtain ⟨g62, h⟩ := h
      refine zr_callV C [a1, a2, (M 42 11), a3] hS_X1_isNear ck_RX6_69 iv_X1_isNear vc_X1 oc_17 rfl rfl (zdec_at dm_X6_staysNear 15 rfl) ⟨rfl, rfl, rfl, rfl⟩ ⟨by decide, by decide⟩ (Nat.le_of_ble_eq_true rfl) (zall_0 zz_a1 (zall_0 zz_a2 (zall_0 (hR _ _) (zall_0 zz_a3 zall_n)))) ?_
      refine ⟨_, _, _, _, rfl, g62, fun r57 M58 p61 z60 hR59 => ?_⟩
      have h := h r57 M58 p61 z60 hR59
      show zV Γ mu_X6_staysNear (145, 0, 0) 30 [(0, zRf (zad Γ) 42), (1, zI a1), (2, zI a2), (3, zI a3)] [zI r57] M58
      refine zr_if_ne C z60 (zdec_at dm_X6_staysNear 16 rfl) rfl (fun g63 => ?_) (fun g63 => ?_)
      · have h := h.1 g63
        refine zr_iload_n C 1 rfl (zdec_at dm_X6_staysNear 19 rfl) rfl ?_
        refine zr_iconst C (zdec_at dm_X6_staysNear 20 rfl) ?_
        refine zr_iadd C (zdec_at dm_X6_staysNear 21 rfl) ?_
        refine zr_istore (L1 := [(4, zI (a1 + 1)), (0, zRf (zad Γ) 42), (1, zI a1), (2, zI a2), (3, zI a3)]) C (zdec_at dm_X6_staysNear 22 rfl) (Nat.le_of_ble_eq_true rfl) rfl ?_
        obtain ⟨o65, h⟩ := h
        obtain ⟨I40, ⟨n73, q74⟩, hI72⟩ := h
        have lp71 : ∀ (n69 : Nat) (v64 : Int) (M67 : zM), I40 v64 M67 n69 → zin v64 → zRng M67 → zV Γ mu_X6_staysNear (145, 0, 0) 40 [(0, zRf (zad Γ) 42), (1, zI a1), (2, zI a2), (3, zI a3), (4, zI v64)] [] M67 := by
          intro n69
          induction n69 using Nat.strongRecOn with
          | _ n69 ih70 =>
          intro v64 M67 q75 z66 hR68
          have h := hI72 v64 M67 n69 q75 z66 hR68
          refine zr_iload C 4 rfl (zdec_at dm_X6_staysNear 23 rfl) ?_
          refine zr_iload_n C 2 rfl (zdec_at dm_X6_staysNear 24 rfl) rfl ?_
          refine zr_icmp_ge C z66 zz_a2 (zdec_at dm_X6_staysNear 25 rfl) rfl (fun g76 => ?_) (fun g76 => ?_)
          · have h := h.1 g76
            refine zr_iconst C (zdec_at dm_X6_staysNear 41 rfl) ?_
            exact zr_zreturn C rfl (by decide) (zdec_at dm_X6_staysNear 42 rfl) rfl ⟨(by decide), h⟩
          · have h := h.2 g76
            refine zr_aload_n C 0 rfl (zdec_at dm_X6_staysNear 26 rfl) rfl ?_
            refine zr_getr (q := 17) C fk_RX6_27 fi_42_0 (zdec_at dm_X6_staysNear 27 rfl) ?_
            refine zr_iload_n C 1 rfl (zdec_at dm_X6_staysNear 28 rfl) rfl ?_
            refine zr_iload_n C 2 rfl (zdec_at dm_X6_staysNear 29 rfl) rfl ?_
            refine zr_iload C 4 rfl (zdec_at dm_X6_staysNear 30 rfl) ?_
            refine zr_iload_n C 3 rfl (zdec_at dm_X6_staysNear 31 rfl) rfl ?_
            obtain ⟨g82, h⟩ := h
            refine zr_callV C [a1, a2, v64, a3] hS_X1_isNear ck_RX6_69 iv_X1_isNear vc_X1 oc_17 rfl rfl (zdec_at dm_X6_staysNear 32 rfl) ⟨rfl, rfl, rfl, rfl⟩ ⟨by decide, by decide⟩ (Nat.le_of_ble_eq_true rfl) (zall_0 zz_a1 (zall_0 zz_a2 (zall_0 z66 (zall_0 zz_a3 zall_n)))) ?_
            refine ⟨_, _, _, _, rfl, g82, fun r77 M78 p81 z80 hR79 => ?_⟩
            have h := h r77 M78 p81 z80 hR79
            show zV Γ mu_X6_staysNear (145, 0, 0) 58 [(0, zRf (zad Γ) 42), (1, zI a1), (2, zI a2), (3, zI a3), (4, zI v64)] [zI r77] M78
            refine zr_if_ne C z80 (zdec_at dm_X6_staysNear 33 rfl) rfl (fun g83 => ?_) (fun g83 => ?_)
            · have h := h.1 g83
              refine zr_iinc (L1 := [(4, zI (v64 + 1)), (0, zRf (zad Γ) 42), (1, zI a1), (2, zI a2), (3, zI a3)]) C 4 rfl (zdec_at dm_X6_staysNear 39 rfl) (Nat.le_of_ble_eq_true rfl) rfl ?_
              refine zr_goto C (zdec_at dm_X6_staysNear 40 rfl) rfl ?_
              obtain ⟨o84, h⟩ := h
              obtain ⟨n85, q86, q87⟩ := h
              exact zr_sub [1, 2, 3, 4, 0] rfl (ih70 n85 q86 _ _ q87 o84 hR79)
            · have h := h.2 g83
              refine zr_aload_n C 0 rfl (zdec_at dm_X6_staysNear 34 rfl) rfl ?_
              refine zr_iload C 4 rfl (zdec_at dm_X6_staysNear 35 rfl) ?_
              refine zr_puti C fk_RX6_66 fi_42_11 z66 (zdec_at dm_X6_staysNear 36 rfl) (fun M88 e89 => ?_)
              have h := h M88 e89
              have hR90 : zRng M88 := by rw [e89]; exact hR79.set z66 _ _
              refine zr_iconst C (zdec_at dm_X6_staysNear 37 rfl) ?_
              exact zr_zreturn C rfl (by decide) (zdec_at dm_X6_staysNear 38 rfl) rfl ⟨(by decide), h⟩
        exact zr_sub [1, 2, 3, 4, 0] rfl (lp71 n73 _ _ q74 o65 hR59)
      · have h := h.2 g63
        refine zr_iconst C (zdec_at dm_X6_staysNear 17 rfl) ?_
        exact zr_zreturn C rfl (by decide) (zdec_at dm_X6_staysNear 18 rfl) rfl ⟨(by decide), h⟩

set_option maxHeartbeats 400000 in
set_option maxRecDepth 100000 in
theorem sn_X6_follow : zSnd zS 145 0 0 yX6_follow cX6_follow 4 none 0 [2, 0] (fun xs P M => ∃ a1 : Int, xs = [42, a1] ∧ vc_X6_follow a1 P M) := by
  refine zSnd.of rfl (fun ad xs hz => Nat.le_trans (Nat.le_of_eq (zlen ad _ xs hz)) (by decide)) ?_
  intro Γ C _ _ xs M hz hF
  obtain ⟨a1, rfl, h⟩ := hF
  have zz_a1 := zall_h (zall_t hz) (by decide)
  refine zr_rng (fun hR => ?_)
  have C : zC Γ mu_X6_follow := C
  change zV Γ mu_X6_follow (145, 0, 0) 0 [(0, zRf (zad Γ) 42), (1, zI a1)] [] M
  change vc_X6_follow a1 _ M at h
  unfold vc_X6_follow at h
  refine zr_aload_n C 0 rfl (zdec_at dm_X6_follow 0 rfl) rfl ?_
  refine zr_getr (q := 43) C fk_RX6_9 fi_42_2 (zdec_at dm_X6_follow 1 rfl) ?_
  refine zr_iconst C (zdec_at dm_X6_follow 2 rfl) ?_
  refine zr_iconst C (zdec_at dm_X6_follow 3 rfl) ?_
  refine zr_iast C ai_43 ⟨by decide, by decide⟩ (by decide) (zdec_at dm_X6_follow 4 rfl) (fun M1 e2 => ?_)
  have h := h M1 e2
  have hR3 : zRng M1 := by rw [e2]; exact hR.set (by decide) _ _
  refine zr_aload_n C 0 rfl (zdec_at dm_X6_follow 5 rfl) rfl ?_
  refine zr_iconst C (zdec_at dm_X6_follow 6 rfl) ?_
  refine zr_puti C fk_RX6_73 fi_42_1 (by decide) (zdec_at dm_X6_follow 7 rfl) (fun M4 e5 => ?_)
  have h := h M4 e5
  have hR6 : zRng M4 := by rw [e5]; exact hR3.set (by decide) _ _
  refine zr_iconst C (zdec_at dm_X6_follow 8 rfl) ?_
  refine zr_istore_n (L1 := [(2, zI 0), (0, zRf (zad Γ) 42), (1, zI a1)]) C (zdec_at dm_X6_follow 9 rfl) rfl (Nat.le_of_ble_eq_true rfl) rfl ?_
  refine zr_iconst C (zdec_at dm_X6_follow 10 rfl) ?_
  refine zr_istore_n (L1 := [(3, zI 0), (2, zI 0), (0, zRf (zad Γ) 42), (1, zI a1)]) C (zdec_at dm_X6_follow 11 rfl) rfl (Nat.le_of_ble_eq_true rfl) rfl ?_
  obtain ⟨I16, ⟨n17, q18⟩, hI16⟩ := h
  have lp15 : ∀ (n13 : Nat) (v7 : Int) (v8 : Int) (M11 : zM), I16 v7 v8 M11 n13 → zin v7 → zin v8 → zRng M11 → zV Γ mu_X6_follow (145, 0, 0) 16 [(0, zRf (zad Γ) 42), (1, zI a1), (2, zI v7), (3, zI v8)] [] M11 := by
    intro n13
    induction n13 using Nat.strongRecOn with
    | _ n13 ih14 =>
    intro v7 v8 M11 q19 z9 z10 hR12
    have h := hI16 v7 v8 M11 n13 q19 z9 z10 hR12
    refine zr_iload_n C 3 rfl (zdec_at dm_X6_follow 12 rfl) rfl ?_
    refine zr_iload_n C 1 rfl (zdec_at dm_X6_follow 13 rfl) rfl ?_
    refine zr_icmp_ge C z10 zz_a1 (zdec_at dm_X6_follow 14 rfl) rfl (fun g20 => ?_) (fun g20 => ?_)
    · have h := h.1 g20
      exact zr_return C rfl rfl (zdec_at dm_X6_follow 50 rfl) rfl ⟨by decide, h⟩
    · have h := h.2 g20
      refine zr_iload_n C 2 rfl (zdec_at dm_X6_follow 15 rfl) rfl ?_
      refine zr_iload_n C 1 rfl (zdec_at dm_X6_follow 16 rfl) rfl ?_
      refine zr_icmp_ge C z9 zz_a1 (zdec_at dm_X6_follow 17 rfl) rfl (fun g21 => ?_) (fun g21 => ?_)
      · have h := h.1 g21
        exact zr_return C rfl rfl (zdec_at dm_X6_follow 50 rfl) rfl ⟨by decide, h⟩
      · have h := h.2 g21
        refine zr_iload_n C 3 rfl (zdec_at dm_X6_follow 18 rfl) rfl ?_
        have h := h (fun v22 => zin v22 → zV Γ mu_X6_follow (145, 0, 0) 59 [(0, zRf (zad Γ) 42), (1, zI a1), (2, zI v22), (3, zI v8)] [] M11) (fun v22 h z23 => by
          have h := h z23
          refine zr_aload_n C 0 rfl (zdec_at dm_X6_follow 37 rfl) rfl ?_
          refine zr_iload_n C 3 rfl (zdec_at dm_X6_follow 38 rfl) rfl ?_
          refine zr_iconst C (zdec_at dm_X6_follow 39 rfl) ?_
          refine zr_iadd C (zdec_at dm_X6_follow 40 rfl) ?_
          obtain ⟨o24, h⟩ := h
          refine zr_puti C fk_RX6_73 fi_42_1 o24 (zdec_at dm_X6_follow 41 rfl) (fun M25 e26 => ?_)
          have h := h M25 e26
          have hR27 : zRng M25 := by rw [e26]; exact hR12.set o24 _ _
          refine zr_aload_n C 0 rfl (zdec_at dm_X6_follow 42 rfl) rfl ?_
          refine zr_getr (q := 43) C fk_RX6_9 fi_42_2 (zdec_at dm_X6_follow 43 rfl) ?_
          refine zr_aload_n C 0 rfl (zdec_at dm_X6_follow 44 rfl) rfl ?_
          refine zr_geti C fk_RX6_73 fi_42_1 (zdec_at dm_X6_follow 45 rfl) ?_
          refine zr_iload_n C 2 rfl (zdec_at dm_X6_follow 46 rfl) rfl ?_
          obtain ⟨o28, h⟩ := h
          refine zr_iast C ai_43 o28 z23 (zdec_at dm_X6_follow 47 rfl) (fun M29 e30 => ?_)
          have h := h M29 e30
          have hR31 : zRng M29 := by rw [e30]; exact hR27.set z23 _ _
          refine zr_iinc (L1 := [(3, zI (v8 + 1)), (0, zRf (zad Γ) 42), (1, zI a1), (2, zI v22)]) C 3 rfl (zdec_at dm_X6_follow 48 rfl) (Nat.le_of_ble_eq_true rfl) rfl ?_
          refine zr_goto C (zdec_at dm_X6_follow 49 rfl) rfl ?_
          obtain ⟨n32, q33, q34⟩ := h
          exact zr_sub [1, 2, 3, 0] rfl (ih14 n32 q33 _ _ _ q34 z23 o24 hR31))
        refine zr_if_ne C z10 (zdec_at dm_X6_follow 19 rfl) rfl (fun g35 => ?_) (fun g35 => ?_)
        · have h := h.1 g35
          refine zr_iload_n C 3 rfl (zdec_at dm_X6_follow 24 rfl) rfl ?_
          refine zr_iconst C (zdec_at dm_X6_follow 25 rfl) ?_
          have h := h (fun v36 => zin v36 → zV Γ mu_X6_follow (145, 0, 0) 58 [(0, zRf (zad Γ) 42), (1, zI a1), (3, zI v8)] [zI v36] M11) (fun v36 h z37 => by
            have h := h z37
            refine zr_istore_n (L1 := [(2, zI v36), (0, zRf (zad Γ) 42), (1, zI a1), (3, zI v8)]) C (zdec_at dm_X6_follow 36 rfl) rfl (Nat.le_of_ble_eq_true rfl) rfl ?_
            exact zr_sub [1, 2, 0, 3] rfl (h z37))
          refine zr_icmp_ne C z10 (by decide) (zdec_at dm_X6_follow 26 rfl) rfl (fun g38 => ?_) (fun g38 => ?_)
          · have h := h.1 g38
            refine zr_aload_n C 0 rfl (zdec_at dm_X6_follow 32 rfl) rfl ?_
            refine zr_getr (q := 45) C fk_RX6_18 fi_42_7 (zdec_at dm_X6_follow 33 rfl) ?_
            refine zr_iload_n C 2 rfl (zdec_at dm_X6_follow 34 rfl) rfl ?_
            obtain ⟨o39, h⟩ := h
            refine zr_iald C ai_45 o39 (zdec_at dm_X6_follow 35 rfl) ?_
            exact zr_sub [0, 1, 3] rfl (h (hR12 _ _))
          · have h := h.2 g38
            refine zr_aload_n C 0 rfl (zdec_at dm_X6_follow 27 rfl) rfl ?_
            refine zr_getr (q := 47) C fk_RX6_24 fi_42_9 (zdec_at dm_X6_follow 28 rfl) ?_
            refine zr_iload_n C 2 rfl (zdec_at dm_X6_follow 29 rfl) rfl ?_
            obtain ⟨o40, h⟩ := h
            refine zr_iald C ai_47 o40 (zdec_at dm_X6_follow 30 rfl) ?_
            refine zr_goto C (zdec_at dm_X6_follow 31 rfl) rfl ?_
            exact zr_sub [0, 1, 3] rfl (h (hR12 _ _))
        · have h := h.2 g35
          refine zr_aload_n C 0 rfl (zdec_at dm_X6_follow 20 rfl) rfl ?_
          refine zr_geti C fk_RX6_63 fi_42_10 (zdec_at dm_X6_follow 21 rfl) ?_
          refine zr_istore_n (L1 := [(2, zI (M11 42 10)), (0, zRf (zad Γ) 42), (1, zI a1), (3, zI v8)]) C (zdec_at dm_X6_follow 22 rfl) rfl (Nat.le_of_ble_eq_true rfl) rfl ?_
          refine zr_goto C (zdec_at dm_X6_follow 23 rfl) rfl ?_
          exact zr_sub [1, 2, 0, 3] rfl (h (hR12 _ _))
  exact zr_sub [2, 3, 1, 0] rfl (lp15 n17 _ _ _ q18 (by decide) (by decide) hR6)

set_option maxHeartbeats 400000 in
set_option maxRecDepth 100000 in
theorem sn_X6_hold {pr_X6_isCrossed : Int → Int → Int → Int → zM → Prop} {po_X6_isCrossed : Int → Int → Int → Int → zM → Int → zM → Prop} (hS_X6_isCrossed : zSnd zS 145 0 0 yX6_isCrossed cX6_isCrossed 10 (some .boolean) 0 [2, 0, 0, 0, 0] (F_X6_isCrossed pr_X6_isCrossed po_X6_isCrossed)) : zSnd zS 145 0 0 yX6_hold cX6_hold 5 (some .boolean) 1 [2, 0, 0] (fun xs P M => ∃ a1 a2 : Int, xs = [42, a1, a2] ∧ vc_X6_hold pr_X6_isCrossed po_X6_isCrossed a1 a2 P M) := by
  refine zSnd.of rfl (fun ad xs hz => Nat.le_trans (Nat.le_of_eq (zlen ad _ xs hz)) (by decide)) ?_
  intro Γ C _ _ xs M hz hF
  obtain ⟨a1, a2, rfl, h⟩ := hF
  have zz_a1 := zall_h (zall_t hz) (by decide)
  have zz_a2 := zall_h (zall_t (zall_t hz)) (by decide)
  refine zr_rng (fun hR => ?_)
  have C : zC Γ mu_X6_hold := C
  change zV Γ mu_X6_hold (145, 0, 0) 0 [(0, zRf (zad Γ) 42), (1, zI a1), (2, zI a2)] [] M
  change vc_X6_hold pr_X6_isCrossed po_X6_isCrossed a1 a2 _ M at h
  unfold vc_X6_hold at h
  refine zr_iconst C (zdec_at dm_X6_hold 0 rfl) ?_
  refine zr_istore_n (L1 := [(3, zI 0), (0, zRf (zad Γ) 42), (1, zI a1), (2, zI a2)]) C (zdec_at dm_X6_hold 1 rfl) rfl (Nat.le_of_ble_eq_true rfl) rfl ?_
  refine zr_iconst C (zdec_at dm_X6_hold 2 rfl) ?_
  refine zr_istore (L1 := [(4, zI 0), (3, zI 0), (0, zRf (zad Γ) 42), (1, zI a1), (2, zI a2)]) C (zdec_at dm_X6_hold 3 rfl) (Nat.le_of_ble_eq_true rfl) rfl ?_
  obtain ⟨I5, ⟨n11, q12⟩, hI10⟩ := h
  have lp9 : ∀ (n7 : Nat) (v1 : Int) (v2 : Int) (M5 : zM), I5 v1 v2 M5 n7 → zin v1 → zin v2 → zRng M5 → zV Γ mu_X6_hold (145, 0, 0) 5 [(0, zRf (zad Γ) 42), (1, zI a1), (2, zI a2), (3, zI v1), (4, zI v2)] [] M5 := by
    intro n7
    induction n7 using Nat.strongRecOn with
    | _ n7 ih8 =>
    intro v1 v2 M5 q13 z3 z4 hR6
    have h := hI10 v1 v2 M5 n7 q13 z3 z4 hR6
    refine zr_iload C 4 rfl (zdec_at dm_X6_hold 4 rfl) ?_
    refine zr_aload_n C 0 rfl (zdec_at dm_X6_hold 5 rfl) rfl ?_
    refine zr_geti C fk_RX6_73 fi_42_1 (zdec_at dm_X6_hold 6 rfl) ?_
    refine zr_icmp_ge C z4 (hR6 _ _) (zdec_at dm_X6_hold 7 rfl) rfl (fun g14 => ?_) (fun g14 => ?_)
    · have h := h.1 g14
      refine zr_iload_n C 3 rfl (zdec_at dm_X6_hold 31 rfl) rfl ?_
      obtain ⟨o15, h⟩ := h
      exact zr_zreturn C rfl o15 (zdec_at dm_X6_hold 32 rfl) rfl ⟨z3, h⟩
    · have h := h.2 g14
      refine zr_aload_n C 0 rfl (zdec_at dm_X6_hold 8 rfl) rfl ?_
      refine zr_aload_n C 0 rfl (zdec_at dm_X6_hold 9 rfl) rfl ?_
      refine zr_getr (q := 43) C fk_RX6_9 fi_42_2 (zdec_at dm_X6_hold 10 rfl) ?_
      refine zr_iload C 4 rfl (zdec_at dm_X6_hold 11 rfl) ?_
      obtain ⟨o16, h⟩ := h
      refine zr_iald C ai_43 o16 (zdec_at dm_X6_hold 12 rfl) ?_
      refine zr_aload_n C 0 rfl (zdec_at dm_X6_hold 13 rfl) rfl ?_
      refine zr_getr (q := 43) C fk_RX6_9 fi_42_2 (zdec_at dm_X6_hold 14 rfl) ?_
      refine zr_iload C 4 rfl (zdec_at dm_X6_hold 15 rfl) ?_
      refine zr_iconst C (zdec_at dm_X6_hold 16 rfl) ?_
      refine zr_iadd C (zdec_at dm_X6_hold 17 rfl) ?_
      obtain ⟨o17, h⟩ := h
      refine zr_iald C ai_43 o17 (zdec_at dm_X6_hold 18 rfl) ?_
      refine zr_iload_n C 1 rfl (zdec_at dm_X6_hold 19 rfl) rfl ?_
      refine zr_iload_n C 2 rfl (zdec_at dm_X6_hold 20 rfl) rfl ?_
      obtain ⟨g23, h⟩ := h
      refine zr_callV C [(M5 43 v2), (M5 43 (v2 + 1)), a1, a2] hS_X6_isCrossed ck_RX6_76 iv_X6_isCrossed vc_X6 oc_42 rfl rfl (zdec_at dm_X6_hold 21 rfl) ⟨rfl, rfl, rfl, rfl⟩ ⟨by decide, by decide⟩ (Nat.le_of_ble_eq_true rfl) (zall_0 (hR6 _ _) (zall_0 (hR6 _ _) (zall_0 zz_a1 (zall_0 zz_a2 zall_n)))) ?_
      refine ⟨_, _, _, _, rfl, g23, fun r18 M19 p22 z21 hR20 => ?_⟩
      have h := h r18 M19 p22 z21 hR20
      show zV Γ mu_X6_hold (145, 0, 0) 36 [(0, zRf (zad Γ) 42), (1, zI a1), (2, zI a2), (3, zI v1), (4, zI v2)] [zI r18] M19
      refine zr_if_eq C z21 (zdec_at dm_X6_hold 22 rfl) rfl (fun g24 => ?_) (fun g24 => ?_)
      · have h := h.1 g24
        refine zr_iinc (L1 := [(4, zI (v2 + 1)), (0, zRf (zad Γ) 42), (1, zI a1), (2, zI a2), (3, zI v1)]) C 4 rfl (zdec_at dm_X6_hold 29 rfl) (Nat.le_of_ble_eq_true rfl) rfl ?_
        refine zr_goto C (zdec_at dm_X6_hold 30 rfl) rfl ?_
        obtain ⟨o25, h⟩ := h
        obtain ⟨n26, q27, q28⟩ := h
        exact zr_sub [1, 2, 3, 4, 0] rfl (ih8 n26 q27 _ _ _ q28 z3 o25 hR20)
      · have h := h.2 g24
        refine zr_iload_n C 3 rfl (zdec_at dm_X6_hold 23 rfl) rfl ?_
        refine zr_if_ne C z3 (zdec_at dm_X6_hold 24 rfl) rfl (fun g29 => ?_) (fun g29 => ?_)
        · have h := h.1 g29
          refine zr_iconst C (zdec_at dm_X6_hold 27 rfl) ?_
          refine zr_istore_n (L1 := [(3, zI 0), (0, zRf (zad Γ) 42), (1, zI a1), (2, zI a2), (4, zI v2)]) C (zdec_at dm_X6_hold 28 rfl) rfl (Nat.le_of_ble_eq_true rfl) rfl ?_
          refine zr_iinc (L1 := [(4, zI (v2 + 1)), (3, zI 0), (0, zRf (zad Γ) 42), (1, zI a1), (2, zI a2)]) C 4 rfl (zdec_at dm_X6_hold 29 rfl) (Nat.le_of_ble_eq_true rfl) rfl ?_
          refine zr_goto C (zdec_at dm_X6_hold 30 rfl) rfl ?_
          obtain ⟨o30, h⟩ := h
          obtain ⟨n31, q32, q33⟩ := h
          exact zr_sub [2, 3, 4, 1, 0] rfl (ih8 n31 q32 _ _ _ q33 (by decide) o30 hR20)
        · have h := h.2 g29
          refine zr_iconst C (zdec_at dm_X6_hold 25 rfl) ?_
          refine zr_goto C (zdec_at dm_X6_hold 26 rfl) rfl ?_
          refine zr_istore_n (L1 := [(3, zI 1), (0, zRf (zad Γ) 42), (1, zI a1), (2, zI a2), (4, zI v2)]) C (zdec_at dm_X6_hold 28 rfl) rfl (Nat.le_of_ble_eq_true rfl) rfl ?_
          refine zr_iinc (L1 := [(4, zI (v2 + 1)), (3, zI 1), (0, zRf (zad Γ) 42), (1, zI a1), (2, zI a2)]) C 4 rfl (zdec_at dm_X6_hold 29 rfl) (Nat.le_of_ble_eq_true rfl) rfl ?_
          refine zr_goto C (zdec_at dm_X6_hold 30 rfl) rfl ?_
          obtain ⟨o34, h⟩ := h
          obtain ⟨n35, q36, q37⟩ := h
          exact zr_sub [2, 3, 4, 1, 0] rfl (ih8 n35 q36 _ _ _ q37 (by decide) o34 hR20)
  exact zr_sub [2, 3, 4, 1, 0] rfl (lp9 n11 _ _ _ q12 (by decide) (by decide) hR)

set_option maxHeartbeats 400000 in
set_option maxRecDepth 100000 in
theorem sn_X6_isCrossed : zSnd zS 145 0 0 yX6_isCrossed cX6_isCrossed 10 (some .boolean) 0 [2, 0, 0, 0, 0] (fun xs P M => ∃ a1 a2 a3 a4 : Int, xs = [42, a1, a2, a3, a4] ∧ vc_X6_isCrossed a1 a2 a3 a4 P M) := by
  refine zSnd.of rfl (fun ad xs hz => Nat.le_trans (Nat.le_of_eq (zlen ad _ xs hz)) (by decide)) ?_
  intro Γ C _ _ xs M hz hF
  obtain ⟨a1, a2, a3, a4, rfl, h⟩ := hF
  have zz_a1 := zall_h (zall_t hz) (by decide)
  have zz_a2 := zall_h (zall_t (zall_t hz)) (by decide)
  have zz_a3 := zall_h (zall_t (zall_t (zall_t hz))) (by decide)
  have zz_a4 := zall_h (zall_t (zall_t (zall_t (zall_t hz)))) (by decide)
  refine zr_rng (fun hR => ?_)
  have C : zC Γ mu_X6_isCrossed := C
  change zV Γ mu_X6_isCrossed (145, 0, 0) 0 [(0, zRf (zad Γ) 42), (1, zI a1), (2, zI a2), (3, zI a3), (4, zI a4)] [] M
  change vc_X6_isCrossed a1 a2 a3 a4 _ M at h
  unfold vc_X6_isCrossed at h
  refine zr_aload_n C 0 rfl (zdec_at dm_X6_isCrossed 0 rfl) rfl ?_
  refine zr_getr (q := 17) C fk_RX6_27 fi_42_0 (zdec_at dm_X6_isCrossed 1 rfl) ?_
  refine zr_getr (q := 20) C fk_RX6_79 fi_17_4 (zdec_at dm_X6_isCrossed 2 rfl) ?_
  refine zr_iload_n C 1 rfl (zdec_at dm_X6_isCrossed 3 rfl) rfl ?_
  obtain ⟨o1, h⟩ := h
  refine zr_iald C ai_20 o1 (zdec_at dm_X6_isCrossed 4 rfl) ?_
  refine zr_istore (L1 := [(5, zI (M 20 a1)), (0, zRf (zad Γ) 42), (1, zI a1), (2, zI a2), (3, zI a3), (4, zI a4)]) C (zdec_at dm_X6_isCrossed 5 rfl) (Nat.le_of_ble_eq_true rfl) rfl ?_
  refine zr_aload_n C 1 rfl (zdec_at dm_X6_isCrossed 6 rfl) rfl ?_
  refine zr_getr (q := 17) C fk_RX6_27 fi_42_0 (zdec_at dm_X6_isCrossed 7 rfl) ?_
  refine zr_getr (q := 20) C fk_RX6_79 fi_17_4 (zdec_at dm_X6_isCrossed 8 rfl) ?_
  refine zr_iload_n C 3 rfl (zdec_at dm_X6_isCrossed 9 rfl) rfl ?_
  obtain ⟨o2, h⟩ := h
  refine zr_iald C ai_20 o2 (zdec_at dm_X6_isCrossed 10 rfl) ?_
  refine zr_istore (L1 := [(6, zI (M 20 a2)), (5, zI (M 20 a1)), (0, zRf (zad Γ) 42), (1, zI a1), (2, zI a2), (3, zI a3), (4, zI a4)]) C (zdec_at dm_X6_isCrossed 11 rfl) (Nat.le_of_ble_eq_true rfl) rfl ?_
  refine zr_iload C 1 rfl (zdec_at dm_X6_isCrossed 12 rfl) ?_
  refine zr_iload C 6 rfl (zdec_at dm_X6_isCrossed 13 rfl) ?_
  have h := h (fun v3 => zin v3 → zV Γ mu_X6_isCrossed (145, 0, 0) 34 [(0, zRf (zad Γ) 42), (1, zI a1), (2, zI a2), (3, zI a3), (4, zI a4), (5, zI (M 20 a1)), (6, zI (M 20 a2))] [zI v3] M) (fun v3 h z4 => by
    have h := h z4
    refine zr_iload C 6 rfl (zdec_at dm_X6_isCrossed 18 rfl) ?_
    refine zr_iload C 4 rfl (zdec_at dm_X6_isCrossed 19 rfl) ?_
    have h := h (fun v5 => zin v5 → zV Γ mu_X6_isCrossed (145, 0, 0) 46 [(0, zRf (zad Γ) 42), (1, zI a1), (2, zI a2), (3, zI a3), (4, zI a4), (5, zI (M 20 a1)), (6, zI (M 20 a2))] [zI v5, zI v3] M) (fun v5 h z6 => by
      have h := h z6
      refine zr_icmp_ne C z4 z6 (zdec_at dm_X6_isCrossed 24 rfl) rfl (fun g7 => ?_) (fun g7 => ?_)
      · have h := h.1 g7
        refine zr_aload_n C 0 rfl (zdec_at dm_X6_isCrossed 27 rfl) rfl ?_
        refine zr_getr (q := 17) C fk_RX6_27 fi_42_0 (zdec_at dm_X6_isCrossed 28 rfl) ?_
        refine zr_getr (q := 19) C fk_RX6_82 fi_17_3 (zdec_at dm_X6_isCrossed 29 rfl) ?_
        refine zr_iload_n C 1 rfl (zdec_at dm_X6_isCrossed 30 rfl) rfl ?_
        refine zr_iald C ai_19 o1 (zdec_at dm_X6_isCrossed 31 rfl) ?_
        refine zr_istore (L1 := [(7, zI (M 19 a1)), (0, zRf (zad Γ) 42), (1, zI a1), (2, zI a2), (3, zI a3), (4, zI a4), (5, zI (M 20 a1)), (6, zI (M 20 a2))]) C (zdec_at dm_X6_isCrossed 32 rfl) (Nat.le_of_ble_eq_true rfl) rfl ?_
        refine zr_iload C 7 rfl (zdec_at dm_X6_isCrossed 33 rfl) ?_
        refine zr_iload C 6 rfl (zdec_at dm_X6_isCrossed 34 rfl) ?_
        refine zr_isub C (zdec_at dm_X6_isCrossed 35 rfl) ?_
        refine zr_istore (L1 := [(8, zI ((M 20 a2) - (M 20 a1))), (7, zI (M 19 a1)), (0, zRf (zad Γ) 42), (1, zI a1), (2, zI a2), (3, zI a3), (4, zI a4), (5, zI (M 20 a1)), (6, zI (M 20 a2))]) C (zdec_at dm_X6_isCrossed 36 rfl) (Nat.le_of_ble_eq_true rfl) rfl ?_
        refine zr_iconst C (zdec_at dm_X6_isCrossed 37 rfl) ?_
        refine zr_iload C 1 rfl (zdec_at dm_X6_isCrossed 38 rfl) ?_
        refine zr_imul C (zdec_at dm_X6_isCrossed 39 rfl) ?_
        refine zr_iconst C (zdec_at dm_X6_isCrossed 40 rfl) ?_
        refine zr_iload_n C 5 rfl (zdec_at dm_X6_isCrossed 41 rfl) rfl ?_
        refine zr_imul C (zdec_at dm_X6_isCrossed 42 rfl) ?_
        refine zr_isub C (zdec_at dm_X6_isCrossed 43 rfl) ?_
        refine zr_iconst C (zdec_at dm_X6_isCrossed 44 rfl) ?_
        refine zr_isub C (zdec_at dm_X6_isCrossed 45 rfl) ?_
        refine zr_iload C 0 rfl (zdec_at dm_X6_isCrossed 46 rfl) ?_
        refine zr_imul C (zdec_at dm_X6_isCrossed 47 rfl) ?_
        refine zr_iconst C (zdec_at dm_X6_isCrossed 48 rfl) ?_
        refine zr_iload C 6 rfl (zdec_at dm_X6_isCrossed 49 rfl) ?_
        refine zr_imul C (zdec_at dm_X6_isCrossed 50 rfl) ?_
        refine zr_iconst C (zdec_at dm_X6_isCrossed 51 rfl) ?_
        refine zr_iadd C (zdec_at dm_X6_isCrossed 52 rfl) ?_
        refine zr_iconst C (zdec_at dm_X6_isCrossed 53 rfl) ?_
        refine zr_iload C 7 rfl (zdec_at dm_X6_isCrossed 54 rfl) ?_
        refine zr_imul C (zdec_at dm_X6_isCrossed 55 rfl) ?_
        refine zr_isub C (zdec_at dm_X6_isCrossed 56 rfl) ?_
        refine zr_aload_n C 2 rfl (zdec_at dm_X6_isCrossed 57 rfl) rfl ?_
        refine zr_getr (q := 17) C fk_RX6_27 fi_42_0 (zdec_at dm_X6_isCrossed 58 rfl) ?_
        refine zr_getr (q := 19) C fk_RX6_82 fi_17_3 (zdec_at dm_X6_isCrossed 59 rfl) ?_
        refine zr_iload_n C 4 rfl (zdec_at dm_X6_isCrossed 60 rfl) rfl ?_
        refine zr_iald C ai_19 o2 (zdec_at dm_X6_isCrossed 61 rfl) ?_
        refine zr_iload C 1 rfl (zdec_at dm_X6_isCrossed 62 rfl) ?_
        refine zr_isub C (zdec_at dm_X6_isCrossed 63 rfl) ?_
        refine zr_imul C (zdec_at dm_X6_isCrossed 64 rfl) ?_
        refine zr_iadd C (zdec_at dm_X6_isCrossed 65 rfl) ?_
        refine zr_istore (L1 := [(9, zI (((((2 * (M 19 a1)) - (2 * a3)) - 1) * ((M 20 a2) - (M 20 a1))) + ((((2 * a4) + 1) - (2 * (M 20 a1))) * ((M 19 a2) - (M 19 a1))))), (8, zI ((M 20 a2) - (M 20 a1))), (7, zI (M 19 a1)), (0, zRf (zad Γ) 42), (1, zI a1), (2, zI a2), (3, zI a3), (4, zI a4), (5, zI (M 20 a1)), (6, zI (M 20 a2))]) C (zdec_at dm_X6_isCrossed 66 rfl) (Nat.le_of_ble_eq_true rfl) rfl ?_
        refine zr_iload C 1 rfl (zdec_at dm_X6_isCrossed 67 rfl) ?_
        obtain ⟨o8, h⟩ := h
        refine zr_if_le C o8 (zdec_at dm_X6_isCrossed 68 rfl) rfl (fun g9 => ?_) (fun g9 => ?_)
        · have h := h.1 g9
          refine zr_iload C 0 rfl (zdec_at dm_X6_isCrossed 75 rfl) ?_
          obtain ⟨o10, h⟩ := h
          refine zr_if_ge C o10 (zdec_at dm_X6_isCrossed 76 rfl) rfl (fun g11 => ?_) (fun g11 => ?_)
          · have h := h.1 g11
            refine zr_iconst C (zdec_at dm_X6_isCrossed 79 rfl) ?_
            exact zr_zreturn C rfl (by decide) (zdec_at dm_X6_isCrossed 80 rfl) rfl ⟨(by decide), h⟩
          · have h := h.2 g11
            refine zr_iconst C (zdec_at dm_X6_isCrossed 77 rfl) ?_
            refine zr_goto C (zdec_at dm_X6_isCrossed 78 rfl) rfl ?_
            exact zr_zreturn C rfl (by decide) (zdec_at dm_X6_isCrossed 80 rfl) rfl ⟨(by decide), h⟩
        · have h := h.2 g9
          refine zr_iload C 0 rfl (zdec_at dm_X6_isCrossed 69 rfl) ?_
          obtain ⟨o12, h⟩ := h
          refine zr_if_le C o12 (zdec_at dm_X6_isCrossed 70 rfl) rfl (fun g13 => ?_) (fun g13 => ?_)
          · have h := h.1 g13
            refine zr_iconst C (zdec_at dm_X6_isCrossed 73 rfl) ?_
            refine zr_goto C (zdec_at dm_X6_isCrossed 74 rfl) rfl ?_
            exact zr_zreturn C rfl (by decide) (zdec_at dm_X6_isCrossed 80 rfl) rfl ⟨(by decide), h⟩
          · have h := h.2 g13
            refine zr_iconst C (zdec_at dm_X6_isCrossed 71 rfl) ?_
            refine zr_goto C (zdec_at dm_X6_isCrossed 72 rfl) rfl ?_
            exact zr_zreturn C rfl (by decide) (zdec_at dm_X6_isCrossed 80 rfl) rfl ⟨(by decide), h⟩
      · have h := h.2 g7
        refine zr_iconst C (zdec_at dm_X6_isCrossed 25 rfl) ?_
        exact zr_zreturn C rfl (by decide) (zdec_at dm_X6_isCrossed 26 rfl) rfl ⟨(by decide), h⟩)
    refine zr_icmp_gt C (hR _ _) zz_a4 (zdec_at dm_X6_isCrossed 20 rfl) rfl (fun g14 => ?_) (fun g14 => ?_)
    · have h := h.1 g14
      refine zr_iconst C (zdec_at dm_X6_isCrossed 23 rfl) ?_
      exact zr_sub [0, 1, 2, 3, 4, 5, 6] rfl (h (by decide))
    · have h := h.2 g14
      refine zr_iconst C (zdec_at dm_X6_isCrossed 21 rfl) ?_
      refine zr_goto C (zdec_at dm_X6_isCrossed 22 rfl) rfl ?_
      exact zr_sub [0, 1, 2, 3, 4, 5, 6] rfl (h (by decide)))
  refine zr_icmp_gt C (hR _ _) zz_a4 (zdec_at dm_X6_isCrossed 14 rfl) rfl (fun g15 => ?_) (fun g15 => ?_)
  · have h := h.1 g15
    refine zr_iconst C (zdec_at dm_X6_isCrossed 17 rfl) ?_
    exact zr_sub [2, 3, 4, 5, 6, 1, 0] rfl (h (by decide))
  · have h := h.2 g15
    refine zr_iconst C (zdec_at dm_X6_isCrossed 15 rfl) ?_
    refine zr_goto C (zdec_at dm_X6_isCrossed 16 rfl) rfl ?_
    exact zr_sub [2, 3, 4, 5, 6, 1, 0] rfl (h (by decide))

set_option maxHeartbeats 400000 in
set_option maxRecDepth 100000 in
theorem sn_X9_growSquares {pr_X9_squareAt : Int → Int → zM → Prop} {po_X9_squareAt : Int → Int → zM → Int → zM → Prop} {pr_X2_faceAt : Int → Int → zM → Prop} {po_X2_faceAt : Int → Int → zM → Int → zM → Prop} (hS_X9_squareAt : zSnd zS 145 0 0 yX9_squareAt cX9_squareAt 3 (some .int) 0 [2, 0, 0] (F_X9_squareAt pr_X9_squareAt po_X9_squareAt)) (hS_X2_faceAt : zSnd zS 145 0 0 yX2_faceAt cX2_faceAt 3 (some .int) 0 [2, 0, 0] (F_X2_faceAt pr_X2_faceAt po_X2_faceAt)) : zSnd zS 145 0 0 yX9_growSquares cX9_growSquares 5 none 1 [2, 0] (fun xs P M => ∃ a1 : Int, xs = [48, a1] ∧ vc_X9_growSquares pr_X9_squareAt po_X9_squareAt pr_X2_faceAt po_X2_faceAt a1 P M) := by
  refine zSnd.of rfl (fun ad xs hz => Nat.le_trans (Nat.le_of_eq (zlen ad _ xs hz)) (by decide)) ?_
  intro Γ C _ _ xs M hz hF
  obtain ⟨a1, rfl, h⟩ := hF
  have zz_a1 := zall_h (zall_t hz) (by decide)
  refine zr_rng (fun hR => ?_)
  have C : zC Γ mu_X9_growSquares := C
  change zV Γ mu_X9_growSquares (145, 0, 0) 0 [(0, zRf (zad Γ) 48), (1, zI a1)] [] M
  change vc_X9_growSquares pr_X9_squareAt po_X9_squareAt pr_X2_faceAt po_X2_faceAt a1 _ M at h
  unfold vc_X9_growSquares at h
  refine zr_aload_n C 0 rfl (zdec_at dm_X9_growSquares 0 rfl) rfl ?_
  refine zr_iload_n C 1 rfl (zdec_at dm_X9_growSquares 1 rfl) rfl ?_
  refine zr_puti C fk_RX9_19 fi_48_2 zz_a1 (zdec_at dm_X9_growSquares 2 rfl) (fun M1 e2 => ?_)
  have h := h M1 e2
  have hR3 : zRng M1 := by rw [e2]; exact hR.set zz_a1 _ _
  refine zr_iconst C (zdec_at dm_X9_growSquares 3 rfl) ?_
  refine zr_istore_n (L1 := [(2, zI 0), (0, zRf (zad Γ) 48), (1, zI a1)]) C (zdec_at dm_X9_growSquares 4 rfl) rfl (Nat.le_of_ble_eq_true rfl) rfl ?_
  obtain ⟨I7, ⟨n12, q13⟩, hI11⟩ := h
  have lp10 : ∀ (n8 : Nat) (v4 : Int) (M6 : zM), I7 v4 M6 n8 → zin v4 → zRng M6 → zV Γ mu_X9_growSquares (145, 0, 0) 7 [(0, zRf (zad Γ) 48), (1, zI a1), (2, zI v4)] [] M6 := by
    intro n8
    induction n8 using Nat.strongRecOn with
    | _ n8 ih9 =>
    intro v4 M6 q14 z5 hR7
    have h := hI11 v4 M6 n8 q14 z5 hR7
    refine zr_iload_n C 2 rfl (zdec_at dm_X9_growSquares 5 rfl) rfl ?_
    refine zr_aload_n C 0 rfl (zdec_at dm_X9_growSquares 6 rfl) rfl ?_
    refine zr_getr (q := 5) C fk_RX9_15 fi_48_0 (zdec_at dm_X9_growSquares 7 rfl) ?_
    refine zr_getr (q := 1) C fk_RX9_23 fi_5_0 (zdec_at dm_X9_growSquares 8 rfl) ?_
    refine zr_geti C fk_RX9_29 fi_1_1 (zdec_at dm_X9_growSquares 9 rfl) ?_
    refine zr_icmp_ge C z5 (hR7 _ _) (zdec_at dm_X9_growSquares 10 rfl) rfl (fun g15 => ?_) (fun g15 => ?_)
    · have h := h.1 g15
      exact zr_return C rfl rfl (zdec_at dm_X9_growSquares 66 rfl) rfl ⟨by decide, h⟩
    · have h := h.2 g15
      refine zr_iconst C (zdec_at dm_X9_growSquares 11 rfl) ?_
      refine zr_istore_n (L1 := [(3, zI 0), (0, zRf (zad Γ) 48), (1, zI a1), (2, zI v4)]) C (zdec_at dm_X9_growSquares 12 rfl) rfl (Nat.le_of_ble_eq_true rfl) rfl ?_
      obtain ⟨I23, ⟨n24, q25⟩, hI23⟩ := h
      have lp22 : ∀ (n20 : Nat) (v16 : Int) (M18 : zM), I23 v16 M18 n20 → zin v16 → zRng M18 → zV Γ mu_X9_growSquares (145, 0, 0) 23 [(0, zRf (zad Γ) 48), (1, zI a1), (2, zI v4), (3, zI v16)] [] M18 := by
        intro n20
        induction n20 using Nat.strongRecOn with
        | _ n20 ih21 =>
        intro v16 M18 q26 z17 hR19
        have h := hI23 v16 M18 n20 q26 z17 hR19
        refine zr_iload_n C 3 rfl (zdec_at dm_X9_growSquares 13 rfl) rfl ?_
        refine zr_aload_n C 0 rfl (zdec_at dm_X9_growSquares 14 rfl) rfl ?_
        refine zr_getr (q := 5) C fk_RX9_15 fi_48_0 (zdec_at dm_X9_growSquares 15 rfl) ?_
        refine zr_getr (q := 1) C fk_RX9_23 fi_5_0 (zdec_at dm_X9_growSquares 16 rfl) ?_
        refine zr_geti C fk_RX9_34 fi_1_0 (zdec_at dm_X9_growSquares 17 rfl) ?_
        refine zr_icmp_ge C z17 (hR19 _ _) (zdec_at dm_X9_growSquares 18 rfl) rfl (fun g27 => ?_) (fun g27 => ?_)
        · have h := h.1 g27
          refine zr_iinc (L1 := [(2, zI (v4 + 1)), (0, zRf (zad Γ) 48), (1, zI a1), (3, zI v16)]) C 2 rfl (zdec_at dm_X9_growSquares 64 rfl) (Nat.le_of_ble_eq_true rfl) rfl ?_
          refine zr_goto C (zdec_at dm_X9_growSquares 65 rfl) rfl ?_
          obtain ⟨o28, h⟩ := h
          obtain ⟨n29, q30, q31⟩ := h
          exact zr_sub [1, 2, 0] rfl (ih9 n29 q30 _ _ q31 o28 hR19)
        · have h := h.2 g27
          refine zr_aload_n C 0 rfl (zdec_at dm_X9_growSquares 19 rfl) rfl ?_
          refine zr_iload_n C 3 rfl (zdec_at dm_X9_growSquares 20 rfl) rfl ?_
          refine zr_iconst C (zdec_at dm_X9_growSquares 21 rfl) ?_
          refine zr_isub C (zdec_at dm_X9_growSquares 22 rfl) ?_
          refine zr_iload_n C 2 rfl (zdec_at dm_X9_growSquares 23 rfl) rfl ?_
          refine zr_iconst C (zdec_at dm_X9_growSquares 24 rfl) ?_
          refine zr_isub C (zdec_at dm_X9_growSquares 25 rfl) ?_
          obtain ⟨o32, h⟩ := h
          obtain ⟨o33, h⟩ := h
          obtain ⟨g39, h⟩ := h
          refine zr_callV C [(v16 - 1), (v4 - 1)] hS_X9_squareAt ck_RX9_37 iv_X9_squareAt vc_X9 oc_48 rfl rfl (zdec_at dm_X9_growSquares 26 rfl) ⟨rfl, rfl, rfl, rfl⟩ ⟨by decide, by decide⟩ (Nat.le_of_ble_eq_true rfl) (zall_0 o33 (zall_0 o32 zall_n)) ?_
          refine ⟨_, _, rfl, g39, fun r34 M35 p38 z37 hR36 => ?_⟩
          have h := h r34 M35 p38 z37 hR36
          show zV Γ mu_X9_growSquares (145, 0, 0) 47 [(0, zRf (zad Γ) 48), (1, zI a1), (2, zI v4), (3, zI v16)] [zI r34] M35
          refine zr_aload_n C 0 rfl (zdec_at dm_X9_growSquares 27 rfl) rfl ?_
          refine zr_iload_n C 3 rfl (zdec_at dm_X9_growSquares 28 rfl) rfl ?_
          refine zr_iconst C (zdec_at dm_X9_growSquares 29 rfl) ?_
          refine zr_isub C (zdec_at dm_X9_growSquares 30 rfl) ?_
          refine zr_iload_n C 2 rfl (zdec_at dm_X9_growSquares 31 rfl) rfl ?_
          obtain ⟨g45, h⟩ := h
          refine zr_callV C [(v16 - 1), v4] hS_X9_squareAt ck_RX9_37 iv_X9_squareAt vc_X9 oc_48 rfl rfl (zdec_at dm_X9_growSquares 32 rfl) ⟨rfl, rfl, rfl, rfl⟩ ⟨by decide, by decide⟩ (Nat.le_of_ble_eq_true rfl) (zall_0 o33 (zall_0 z5 zall_n)) ?_
          refine ⟨_, _, rfl, g45, fun r40 M41 p44 z43 hR42 => ?_⟩
          have h := h r40 M41 p44 z43 hR42
          show zV Γ mu_X9_growSquares (145, 0, 0) 55 [(0, zRf (zad Γ) 48), (1, zI a1), (2, zI v4), (3, zI v16)] [zI r40, zI r34] M41
          refine zr_aload_n C 0 rfl (zdec_at dm_X9_growSquares 33 rfl) rfl ?_
          refine zr_iload_n C 3 rfl (zdec_at dm_X9_growSquares 34 rfl) rfl ?_
          refine zr_iload_n C 2 rfl (zdec_at dm_X9_growSquares 35 rfl) rfl ?_
          refine zr_iconst C (zdec_at dm_X9_growSquares 36 rfl) ?_
          refine zr_isub C (zdec_at dm_X9_growSquares 37 rfl) ?_
          obtain ⟨g51, h⟩ := h
          refine zr_callV C [v16, (v4 - 1)] hS_X9_squareAt ck_RX9_37 iv_X9_squareAt vc_X9 oc_48 rfl rfl (zdec_at dm_X9_growSquares 38 rfl) ⟨rfl, rfl, rfl, rfl⟩ ⟨by decide, by decide⟩ (Nat.le_of_ble_eq_true rfl) (zall_0 z17 (zall_0 o32 zall_n)) ?_
          refine ⟨_, _, rfl, g51, fun r46 M47 p50 z49 hR48 => ?_⟩
          have h := h r46 M47 p50 z49 hR48
          show zV Γ mu_X9_growSquares (145, 0, 0) 63 [(0, zRf (zad Γ) 48), (1, zI a1), (2, zI v4), (3, zI v16)] [zI r46, zI r40, zI r34] M47
          refine zr_mmin C z43 z49 mk_RX9_41 kw_mmin_s kw_mini kw_mmin_c (by decide) ⟨rfl, rfl⟩ (Nat.le_of_ble_eq_true rfl) (zdec_at dm_X9_growSquares 39 rfl) (fun z52 => ?_)
          refine zr_mmin C z37 z52 mk_RX9_41 kw_mmin_s kw_mini kw_mmin_c (by decide) ⟨rfl, rfl⟩ (Nat.le_of_ble_eq_true rfl) (zdec_at dm_X9_growSquares 40 rfl) (fun z53 => ?_)
          refine zr_istore (L1 := [(4, zI (min r34 (min r40 r46))), (0, zRf (zad Γ) 48), (1, zI a1), (2, zI v4), (3, zI v16)]) C (zdec_at dm_X9_growSquares 41 rfl) (Nat.le_of_ble_eq_true rfl) rfl ?_
          refine zr_aload_n C 1 rfl (zdec_at dm_X9_growSquares 42 rfl) rfl ?_
          refine zr_getr (q := 49) C fk_RX9_9 fi_48_1 (zdec_at dm_X9_growSquares 43 rfl) ?_
          refine zr_bipush C (zdec_at dm_X9_growSquares 44 rfl) (by decide) ?_
          refine zr_iload_n C 3 rfl (zdec_at dm_X9_growSquares 45 rfl) rfl ?_
          refine zr_imul C (zdec_at dm_X9_growSquares 46 rfl) ?_
          refine zr_iload_n C 4 rfl (zdec_at dm_X9_growSquares 47 rfl) rfl ?_
          refine zr_iadd C (zdec_at dm_X9_growSquares 48 rfl) ?_
          refine zr_aload_n C 1 rfl (zdec_at dm_X9_growSquares 49 rfl) rfl ?_
          refine zr_getr (q := 5) C fk_RX9_15 fi_48_0 (zdec_at dm_X9_growSquares 50 rfl) ?_
          refine zr_iload_n C 4 rfl (zdec_at dm_X9_growSquares 51 rfl) rfl ?_
          refine zr_iload_n C 3 rfl (zdec_at dm_X9_growSquares 52 rfl) rfl ?_
          obtain ⟨g59, h⟩ := h
          refine zr_callV C [v16, v4] hS_X2_faceAt ck_RX9_46 iv_X2_faceAt vc_X2 oc_5 rfl rfl (zdec_at dm_X9_growSquares 53 rfl) ⟨rfl, rfl, rfl, rfl⟩ ⟨by decide, by decide⟩ (Nat.le_of_ble_eq_true rfl) (zall_0 z17 (zall_0 z5 zall_n)) ?_
          refine ⟨_, _, rfl, g59, fun r54 M55 p58 z57 hR56 => ?_⟩
          have h := h r54 M55 p58 z57 hR56
          show zV Γ mu_X9_growSquares (145, 0, 0) 90 [(4, zI (min r34 (min r40 r46))), (0, zRf (zad Γ) 48), (1, zI a1), (2, zI v4), (3, zI v16)] [zI r54, zI ((16 * v4) + v16), zRf (zad Γ) 49] M55
          refine zr_iload_n C 2 rfl (zdec_at dm_X9_growSquares 54 rfl) rfl ?_
          refine zr_icmp_ne C z57 zz_a1 (zdec_at dm_X9_growSquares 55 rfl) rfl (fun g60 => ?_) (fun g60 => ?_)
          · have h := h.1 g60
            refine zr_iconst C (zdec_at dm_X9_growSquares 60 rfl) ?_
            obtain ⟨o61, h⟩ := h
            refine zr_iast C ai_49 o61 (by decide) (zdec_at dm_X9_growSquares 61 rfl) (fun M62 e63 => ?_)
            have h := h M62 e63
            have hR64 : zRng M62 := by rw [e63]; exact hR56.set (by decide) _ _
            refine zr_iinc (L1 := [(3, zI (v16 + 1)), (4, zI (min r34 (min r40 r46))), (0, zRf (zad Γ) 48), (1, zI a1), (2, zI v4)]) C 4 rfl (zdec_at dm_X9_growSquares 62 rfl) (Nat.le_of_ble_eq_true rfl) rfl ?_
            refine zr_goto C (zdec_at dm_X9_growSquares 63 rfl) rfl ?_
            obtain ⟨o65, h⟩ := h
            obtain ⟨n66, q67, q68⟩ := h
            exact zr_sub [2, 3, 4, 0] rfl (ih21 n66 q67 _ _ q68 o65 hR64)
          · have h := h.2 g60
            refine zr_iconst C (zdec_at dm_X9_growSquares 56 rfl) ?_
            refine zr_iload C 0 rfl (zdec_at dm_X9_growSquares 57 rfl) ?_
            refine zr_iadd C (zdec_at dm_X9_growSquares 58 rfl) ?_
            refine zr_goto C (zdec_at dm_X9_growSquares 59 rfl) rfl ?_
            obtain ⟨o69, h⟩ := h
            obtain ⟨o70, h⟩ := h
            refine zr_iast C ai_49 o69 o70 (zdec_at dm_X9_growSquares 61 rfl) (fun M71 e72 => ?_)
            have h := h M71 e72
            have hR73 : zRng M71 := by rw [e72]; exact hR56.set o70 _ _
            refine zr_iinc (L1 := [(3, zI (v16 + 1)), (4, zI (min r34 (min r40 r46))), (0, zRf (zad Γ) 48), (1, zI a1), (2, zI v4)]) C 4 rfl (zdec_at dm_X9_growSquares 62 rfl) (Nat.le_of_ble_eq_true rfl) rfl ?_
            refine zr_goto C (zdec_at dm_X9_growSquares 63 rfl) rfl ?_
            obtain ⟨o74, h⟩ := h
            obtain ⟨n75, q76, q77⟩ := h
            exact zr_sub [2, 3, 4, 0] rfl (ih21 n75 q76 _ _ q77 o74 hR73)
      exact zr_sub [1, 2, 3, 0] rfl (lp22 n24 _ _ q25 (by decide) hR7)
  exact zr_sub [1, 2, 0] rfl (lp10 n12 _ _ q13 (by decide) hR3)

set_option maxHeartbeats 400000 in
set_option maxRecDepth 100000 in
theorem sn_X9_squareAt : zSnd zS 145 0 0 yX9_squareAt cX9_squareAt 3 (some .int) 0 [2, 0, 0] (fun xs P M => ∃ a1 a2 : Int, xs = [48, a1, a2] ∧ vc_X9_squareAt a1 a2 P M) := by
  refine zSnd.of rfl (fun ad xs hz => Nat.le_trans (Nat.le_of_eq (zlen ad _ xs hz)) (by decide)) ?_
  intro Γ C _ _ xs M hz hF
  obtain ⟨a1, a2, rfl, h⟩ := hF
  have zz_a1 := zall_h (zall_t hz) (by decide)
  have zz_a2 := zall_h (zall_t (zall_t hz)) (by decide)
  refine zr_rng (fun hR => ?_)
  have C : zC Γ mu_X9_squareAt := C
  change zV Γ mu_X9_squareAt (145, 0, 0) 0 [(0, zRf (zad Γ) 48), (1, zI a1), (2, zI a2)] [] M
  change vc_X9_squareAt a1 a2 _ M at h
  unfold vc_X9_squareAt at h
  refine zr_iload_n C 1 rfl (zdec_at dm_X9_squareAt 0 rfl) rfl ?_
  refine zr_if_lt C zz_a1 (zdec_at dm_X9_squareAt 1 rfl) rfl (fun g1 => ?_) (fun g1 => ?_)
  · have h := h.1 g1
    refine zr_iconst C (zdec_at dm_X9_squareAt 25 rfl) ?_
    exact zr_ireturn C rfl (zdec_at dm_X9_squareAt 26 rfl) rfl ⟨(by decide), h⟩
  · have h := h.2 g1
    refine zr_iload_n C 1 rfl (zdec_at dm_X9_squareAt 2 rfl) rfl ?_
    refine zr_aload_n C 0 rfl (zdec_at dm_X9_squareAt 3 rfl) rfl ?_
    refine zr_getr (q := 5) C fk_RX9_15 fi_48_0 (zdec_at dm_X9_squareAt 4 rfl) ?_
    refine zr_getr (q := 1) C fk_RX9_23 fi_5_0 (zdec_at dm_X9_squareAt 5 rfl) ?_
    refine zr_geti C fk_RX9_34 fi_1_0 (zdec_at dm_X9_squareAt 6 rfl) ?_
    refine zr_icmp_ge C zz_a1 (hR _ _) (zdec_at dm_X9_squareAt 7 rfl) rfl (fun g2 => ?_) (fun g2 => ?_)
    · have h := h.1 g2
      refine zr_iconst C (zdec_at dm_X9_squareAt 25 rfl) ?_
      exact zr_ireturn C rfl (zdec_at dm_X9_squareAt 26 rfl) rfl ⟨(by decide), h⟩
    · have h := h.2 g2
      refine zr_iload_n C 2 rfl (zdec_at dm_X9_squareAt 8 rfl) rfl ?_
      refine zr_if_lt C zz_a2 (zdec_at dm_X9_squareAt 9 rfl) rfl (fun g3 => ?_) (fun g3 => ?_)
      · have h := h.1 g3
        refine zr_iconst C (zdec_at dm_X9_squareAt 25 rfl) ?_
        exact zr_ireturn C rfl (zdec_at dm_X9_squareAt 26 rfl) rfl ⟨(by decide), h⟩
      · have h := h.2 g3
        refine zr_iload_n C 2 rfl (zdec_at dm_X9_squareAt 10 rfl) rfl ?_
        refine zr_aload_n C 0 rfl (zdec_at dm_X9_squareAt 11 rfl) rfl ?_
        refine zr_getr (q := 5) C fk_RX9_15 fi_48_0 (zdec_at dm_X9_squareAt 12 rfl) ?_
        refine zr_getr (q := 1) C fk_RX9_23 fi_5_0 (zdec_at dm_X9_squareAt 13 rfl) ?_
        refine zr_geti C fk_RX9_29 fi_1_1 (zdec_at dm_X9_squareAt 14 rfl) ?_
        refine zr_icmp_ge C zz_a2 (hR _ _) (zdec_at dm_X9_squareAt 15 rfl) rfl (fun g4 => ?_) (fun g4 => ?_)
        · have h := h.1 g4
          refine zr_iconst C (zdec_at dm_X9_squareAt 25 rfl) ?_
          exact zr_ireturn C rfl (zdec_at dm_X9_squareAt 26 rfl) rfl ⟨(by decide), h⟩
        · have h := h.2 g4
          refine zr_aload_n C 0 rfl (zdec_at dm_X9_squareAt 16 rfl) rfl ?_
          refine zr_getr (q := 49) C fk_RX9_9 fi_48_1 (zdec_at dm_X9_squareAt 17 rfl) ?_
          refine zr_bipush C (zdec_at dm_X9_squareAt 18 rfl) (by decide) ?_
          refine zr_iload_n C 2 rfl (zdec_at dm_X9_squareAt 19 rfl) rfl ?_
          refine zr_imul C (zdec_at dm_X9_squareAt 20 rfl) ?_
          refine zr_iload_n C 1 rfl (zdec_at dm_X9_squareAt 21 rfl) rfl ?_
          refine zr_iadd C (zdec_at dm_X9_squareAt 22 rfl) ?_
          obtain ⟨o5, h⟩ := h
          refine zr_iald C ai_49 o5 (zdec_at dm_X9_squareAt 23 rfl) ?_
          refine zr_goto C (zdec_at dm_X9_squareAt 24 rfl) rfl ?_
          exact zr_ireturn C rfl (zdec_at dm_X9_squareAt 26 rfl) rfl ⟨(hR _ _), h⟩

set_option maxHeartbeats 400000 in
set_option maxRecDepth 100000 in
theorem sn_X9_greatestBreadth {pr_X9_growSquares : Int → zM → Prop} {po_X9_growSquares : Int → zM → zM → Prop} {pr_X9_squareAt : Int → Int → zM → Prop} {po_X9_squareAt : Int → Int → zM → Int → zM → Prop} (hS_X9_growSquares : zSnd zS 145 0 0 yX9_growSquares cX9_growSquares 5 none 1 [2, 0] (F_X9_growSquares pr_X9_growSquares po_X9_growSquares)) (hS_X9_squareAt : zSnd zS 145 0 0 yX9_squareAt cX9_squareAt 3 (some .int) 0 [2, 0, 0] (F_X9_squareAt pr_X9_squareAt po_X9_squareAt)) : zSnd zS 145 0 0 yX9_greatestBreadth cX9_greatestBreadth 5 (some .int) 2 [2, 0] (fun xs P M => ∃ a1 : Int, xs = [48, a1] ∧ vc_X9_greatestBreadth pr_X9_growSquares po_X9_growSquares pr_X9_squareAt po_X9_squareAt a1 P M) := by
  refine zSnd.of rfl (fun ad xs hz => Nat.le_trans (Nat.le_of_eq (zlen ad _ xs hz)) (by decide)) ?_
  intro Γ C _ _ xs M hz hF
  obtain ⟨a1, rfl, h⟩ := hF
  have zz_a1 := zall_h (zall_t hz) (by decide)
  refine zr_rng (fun hR => ?_)
  have C : zC Γ mu_X9_greatestBreadth := C
  change zV Γ mu_X9_greatestBreadth (145, 0, 0) 0 [(0, zRf (zad Γ) 48), (1, zI a1)] [] M
  change vc_X9_greatestBreadth pr_X9_growSquares po_X9_growSquares pr_X9_squareAt po_X9_squareAt a1 _ M at h
  unfold vc_X9_greatestBreadth at h
  refine zr_aload_n C 0 rfl (zdec_at dm_X9_greatestBreadth 0 rfl) rfl ?_
  refine zr_iload_n C 1 rfl (zdec_at dm_X9_greatestBreadth 1 rfl) rfl ?_
  obtain ⟨g5, h⟩ := h
  refine zr_callV C [a1] hS_X9_growSquares ck_RX9_49 iv_X9_growSquares vc_X9 oc_48 rfl rfl (zdec_at dm_X9_greatestBreadth 2 rfl) ⟨rfl, rfl, rfl, rfl⟩ ⟨by decide, by decide⟩ (Nat.le_of_ble_eq_true rfl) (zall_0 zz_a1 zall_n) ?_
  refine ⟨_, rfl, g5, fun M1 p4 _ hR2 => ?_⟩
  have h := h M1 p4 hR2
  show zV Γ mu_X9_greatestBreadth (145, 0, 0) 5 [(0, zRf (zad Γ) 48), (1, zI a1)] [] M1
  refine zr_iconst C (zdec_at dm_X9_greatestBreadth 3 rfl) ?_
  refine zr_istore_n (L1 := [(2, zI 0), (0, zRf (zad Γ) 48), (1, zI a1)]) C (zdec_at dm_X9_greatestBreadth 4 rfl) rfl (Nat.le_of_ble_eq_true rfl) rfl ?_
  refine zr_iconst C (zdec_at dm_X9_greatestBreadth 5 rfl) ?_
  refine zr_istore_n (L1 := [(3, zI 0), (2, zI 0), (0, zRf (zad Γ) 48), (1, zI a1)]) C (zdec_at dm_X9_greatestBreadth 6 rfl) rfl (Nat.le_of_ble_eq_true rfl) rfl ?_
  obtain ⟨I9, ⟨n16, q17⟩, hI15⟩ := h
  have lp14 : ∀ (n12 : Nat) (v6 : Int) (v7 : Int) (M10 : zM), I9 v6 v7 M10 n12 → zin v6 → zin v7 → zRng M10 → zV Γ mu_X9_greatestBreadth (145, 0, 0) 9 [(0, zRf (zad Γ) 48), (2, zI v6), (3, zI v7)] [] M10 := by
    intro n12
    induction n12 using Nat.strongRecOn with
    | _ n12 ih13 =>
    intro v6 v7 M10 q18 z8 z9 hR11
    have h := hI15 v6 v7 M10 n12 q18 z8 z9 hR11
    refine zr_iload_n C 2 rfl (zdec_at dm_X9_greatestBreadth 7 rfl) rfl ?_
    refine zr_aload_n C 0 rfl (zdec_at dm_X9_greatestBreadth 8 rfl) rfl ?_
    refine zr_getr (q := 5) C fk_RX9_15 fi_48_0 (zdec_at dm_X9_greatestBreadth 9 rfl) ?_
    refine zr_getr (q := 1) C fk_RX9_23 fi_5_0 (zdec_at dm_X9_greatestBreadth 10 rfl) ?_
    refine zr_geti C fk_RX9_29 fi_1_1 (zdec_at dm_X9_greatestBreadth 11 rfl) ?_
    refine zr_icmp_ge C z9 (hR11 _ _) (zdec_at dm_X9_greatestBreadth 12 rfl) rfl (fun g19 => ?_) (fun g19 => ?_)
    · have h := h.1 g19
      refine zr_iload_n C 1 rfl (zdec_at dm_X9_greatestBreadth 32 rfl) rfl ?_
      exact zr_ireturn C rfl (zdec_at dm_X9_greatestBreadth 33 rfl) rfl ⟨z8, h⟩
    · have h := h.2 g19
      refine zr_iconst C (zdec_at dm_X9_greatestBreadth 13 rfl) ?_
      refine zr_istore (L1 := [(4, zI 0), (0, zRf (zad Γ) 48), (2, zI v6), (3, zI v7)]) C (zdec_at dm_X9_greatestBreadth 14 rfl) (Nat.le_of_ble_eq_true rfl) rfl ?_
      obtain ⟨I26, ⟨n30, q31⟩, hI29⟩ := h
      have lp28 : ∀ (n26 : Nat) (v20 : Int) (v21 : Int) (M24 : zM), I26 v20 v21 M24 n26 → zin v20 → zin v21 → zRng M24 → zV Γ mu_X9_greatestBreadth (145, 0, 0) 26 [(0, zRf (zad Γ) 48), (2, zI v20), (3, zI v7), (4, zI v21)] [] M24 := by
        intro n26
        induction n26 using Nat.strongRecOn with
        | _ n26 ih27 =>
        intro v20 v21 M24 q32 z22 z23 hR25
        have h := hI29 v20 v21 M24 n26 q32 z22 z23 hR25
        refine zr_iload C 3 rfl (zdec_at dm_X9_greatestBreadth 15 rfl) ?_
        refine zr_aload_n C 0 rfl (zdec_at dm_X9_greatestBreadth 16 rfl) rfl ?_
        refine zr_getr (q := 5) C fk_RX9_15 fi_48_0 (zdec_at dm_X9_greatestBreadth 17 rfl) ?_
        refine zr_getr (q := 1) C fk_RX9_23 fi_5_0 (zdec_at dm_X9_greatestBreadth 18 rfl) ?_
        refine zr_geti C fk_RX9_34 fi_1_0 (zdec_at dm_X9_greatestBreadth 19 rfl) ?_
        refine zr_icmp_ge C z23 (hR25 _ _) (zdec_at dm_X9_greatestBreadth 20 rfl) rfl (fun g33 => ?_) (fun g33 => ?_)
        · have h := h.1 g33
          refine zr_iinc (L1 := [(3, zI (v7 + 1)), (0, zRf (zad Γ) 48), (2, zI v20), (4, zI v21)]) C 2 rfl (zdec_at dm_X9_greatestBreadth 30 rfl) (Nat.le_of_ble_eq_true rfl) rfl ?_
          refine zr_goto C (zdec_at dm_X9_greatestBreadth 31 rfl) rfl ?_
          obtain ⟨o34, h⟩ := h
          obtain ⟨n35, q36, q37⟩ := h
          exact zr_sub [1, 2, 0] rfl (ih13 n35 q36 _ _ _ q37 z22 o34 hR25)
        · have h := h.2 g33
          refine zr_iload_n C 1 rfl (zdec_at dm_X9_greatestBreadth 21 rfl) rfl ?_
          refine zr_aload_n C 0 rfl (zdec_at dm_X9_greatestBreadth 22 rfl) rfl ?_
          refine zr_iload C 3 rfl (zdec_at dm_X9_greatestBreadth 23 rfl) ?_
          refine zr_iload_n C 2 rfl (zdec_at dm_X9_greatestBreadth 24 rfl) rfl ?_
          obtain ⟨g43, h⟩ := h
          refine zr_callV C [v21, v7] hS_X9_squareAt ck_RX9_37 iv_X9_squareAt vc_X9 oc_48 rfl rfl (zdec_at dm_X9_greatestBreadth 25 rfl) ⟨rfl, rfl, rfl, rfl⟩ ⟨by decide, by decide⟩ (Nat.le_of_ble_eq_true rfl) (zall_0 z23 (zall_0 z9 zall_n)) ?_
          refine ⟨_, _, rfl, g43, fun r38 M39 p42 z41 hR40 => ?_⟩
          have h := h r38 M39 p42 z41 hR40
          show zV Γ mu_X9_greatestBreadth (145, 0, 0) 49 [(0, zRf (zad Γ) 48), (2, zI v20), (3, zI v7), (4, zI v21)] [zI r38, zI v20] M39
          refine zr_mmax C z22 z41 mk_RX9_53 kw_mmax_s kw_mini kw_mmax_c (by decide) ⟨rfl, rfl⟩ (Nat.le_of_ble_eq_true rfl) (zdec_at dm_X9_greatestBreadth 26 rfl) (fun z44 => ?_)
          refine zr_istore_n (L1 := [(2, zI (max v20 r38)), (0, zRf (zad Γ) 48), (3, zI v7), (4, zI v21)]) C (zdec_at dm_X9_greatestBreadth 27 rfl) rfl (Nat.le_of_ble_eq_true rfl) rfl ?_
          refine zr_iinc (L1 := [(4, zI (v21 + 1)), (2, zI (max v20 r38)), (0, zRf (zad Γ) 48), (3, zI v7)]) C 3 rfl (zdec_at dm_X9_greatestBreadth 28 rfl) (Nat.le_of_ble_eq_true rfl) rfl ?_
          refine zr_goto C (zdec_at dm_X9_greatestBreadth 29 rfl) rfl ?_
          obtain ⟨o45, h⟩ := h
          obtain ⟨n46, q47, q48⟩ := h
          exact zr_sub [2, 1, 3, 0] rfl (ih27 n46 q47 _ _ _ q48 z44 o45 hR40)
      exact zr_sub [1, 2, 3, 0] rfl (lp28 n30 _ _ _ q31 z8 (by decide) hR11)
  exact zr_sub [2, 1, 0] rfl (lp14 n16 _ _ _ q17 (by decide) (by decide) hR2)

set_option maxHeartbeats 400000 in
set_option maxRecDepth 100000 in
theorem sn_X9_breadthAt {pr_X9_squareAt : Int → Int → zM → Prop} {po_X9_squareAt : Int → Int → zM → Int → zM → Prop} (hS_X9_squareAt : zSnd zS 145 0 0 yX9_squareAt cX9_squareAt 3 (some .int) 0 [2, 0, 0] (F_X9_squareAt pr_X9_squareAt po_X9_squareAt)) : zSnd zS 145 0 0 yX9_breadthAt cX9_breadthAt 7 (some .int) 1 [2, 0, 0] (fun xs P M => ∃ a1 a2 : Int, xs = [48, a1, a2] ∧ vc_X9_breadthAt pr_X9_squareAt po_X9_squareAt a1 a2 P M) := by
  refine zSnd.of rfl (fun ad xs hz => Nat.le_trans (Nat.le_of_eq (zlen ad _ xs hz)) (by decide)) ?_
  intro Γ C _ _ xs M hz hF
  obtain ⟨a1, a2, rfl, h⟩ := hF
  have zz_a1 := zall_h (zall_t hz) (by decide)
  have zz_a2 := zall_h (zall_t (zall_t hz)) (by decide)
  refine zr_rng (fun hR => ?_)
  have C : zC Γ mu_X9_breadthAt := C
  change zV Γ mu_X9_breadthAt (145, 0, 0) 0 [(0, zRf (zad Γ) 48), (1, zI a1), (2, zI a2)] [] M
  change vc_X9_breadthAt pr_X9_squareAt po_X9_squareAt a1 a2 _ M at h
  unfold vc_X9_breadthAt at h
  refine zr_iconst C (zdec_at dm_X9_breadthAt 0 rfl) ?_
  refine zr_istore_n (L1 := [(3, zI 0), (0, zRf (zad Γ) 48), (1, zI a1), (2, zI a2)]) C (zdec_at dm_X9_breadthAt 1 rfl) rfl (Nat.le_of_ble_eq_true rfl) rfl ?_
  refine zr_iconst C (zdec_at dm_X9_breadthAt 2 rfl) ?_
  refine zr_istore (L1 := [(4, zI 0), (3, zI 0), (0, zRf (zad Γ) 48), (1, zI a1), (2, zI a2)]) C (zdec_at dm_X9_breadthAt 3 rfl) (Nat.le_of_ble_eq_true rfl) rfl ?_
  obtain ⟨I5, ⟨n11, q12⟩, hI10⟩ := h
  have lp9 : ∀ (n7 : Nat) (v1 : Int) (v2 : Int) (M5 : zM), I5 v1 v2 M5 n7 → zin v1 → zin v2 → zRng M5 → zV Γ mu_X9_breadthAt (145, 0, 0) 5 [(0, zRf (zad Γ) 48), (1, zI a1), (2, zI a2), (3, zI v1), (4, zI v2)] [] M5 := by
    intro n7
    induction n7 using Nat.strongRecOn with
    | _ n7 ih8 =>
    intro v1 v2 M5 q13 z3 z4 hR6
    have h := hI10 v1 v2 M5 n7 q13 z3 z4 hR6
    refine zr_iload C 4 rfl (zdec_at dm_X9_breadthAt 4 rfl) ?_
    refine zr_bipush C (zdec_at dm_X9_breadthAt 5 rfl) (by decide) ?_
    refine zr_icmp_ge C z4 (by decide) (zdec_at dm_X9_breadthAt 6 rfl) rfl (fun g14 => ?_) (fun g14 => ?_)
    · have h := h.1 g14
      refine zr_iload_n C 3 rfl (zdec_at dm_X9_breadthAt 35 rfl) rfl ?_
      exact zr_ireturn C rfl (zdec_at dm_X9_breadthAt 36 rfl) rfl ⟨z3, h⟩
    · have h := h.2 g14
      refine zr_iconst C (zdec_at dm_X9_breadthAt 7 rfl) ?_
      refine zr_istore (L1 := [(5, zI 0), (0, zRf (zad Γ) 48), (1, zI a1), (2, zI a2), (3, zI v1), (4, zI v2)]) C (zdec_at dm_X9_breadthAt 8 rfl) (Nat.le_of_ble_eq_true rfl) rfl ?_
      obtain ⟨I15, ⟨n25, q26⟩, hI24⟩ := h
      have lp23 : ∀ (n21 : Nat) (v15 : Int) (v16 : Int) (M19 : zM), I15 v15 v16 M19 n21 → zin v15 → zin v16 → zRng M19 → zV Γ mu_X9_breadthAt (145, 0, 0) 15 [(0, zRf (zad Γ) 48), (1, zI a1), (2, zI a2), (3, zI v15), (4, zI v2), (5, zI v16)] [] M19 := by
        intro n21
        induction n21 using Nat.strongRecOn with
        | _ n21 ih22 =>
        intro v15 v16 M19 q27 z17 z18 hR20
        have h := hI24 v15 v16 M19 n21 q27 z17 z18 hR20
        refine zr_iload C 5 rfl (zdec_at dm_X9_breadthAt 9 rfl) ?_
        refine zr_bipush C (zdec_at dm_X9_breadthAt 10 rfl) (by decide) ?_
        refine zr_icmp_ge C z18 (by decide) (zdec_at dm_X9_breadthAt 11 rfl) rfl (fun g28 => ?_) (fun g28 => ?_)
        · have h := h.1 g28
          refine zr_iinc (L1 := [(4, zI (v2 + 1)), (0, zRf (zad Γ) 48), (1, zI a1), (2, zI a2), (3, zI v15), (5, zI v16)]) C 4 rfl (zdec_at dm_X9_breadthAt 33 rfl) (Nat.le_of_ble_eq_true rfl) rfl ?_
          refine zr_goto C (zdec_at dm_X9_breadthAt 34 rfl) rfl ?_
          obtain ⟨o29, h⟩ := h
          obtain ⟨n30, q31, q32⟩ := h
          exact zr_sub [1, 2, 3, 4, 0] rfl (ih8 n30 q31 _ _ _ q32 z17 o29 hR20)
        · have h := h.2 g28
          refine zr_aload_n C 0 rfl (zdec_at dm_X9_breadthAt 12 rfl) rfl ?_
          refine zr_iload_n C 1 rfl (zdec_at dm_X9_breadthAt 13 rfl) rfl ?_
          refine zr_iload C 5 rfl (zdec_at dm_X9_breadthAt 14 rfl) ?_
          refine zr_iadd C (zdec_at dm_X9_breadthAt 15 rfl) ?_
          refine zr_iload_n C 2 rfl (zdec_at dm_X9_breadthAt 16 rfl) rfl ?_
          refine zr_iload C 4 rfl (zdec_at dm_X9_breadthAt 17 rfl) ?_
          refine zr_iadd C (zdec_at dm_X9_breadthAt 18 rfl) ?_
          obtain ⟨o33, h⟩ := h
          obtain ⟨o34, h⟩ := h
          obtain ⟨g40, h⟩ := h
          refine zr_callV C [(a1 + v16), (a2 + v2)] hS_X9_squareAt ck_RX9_37 iv_X9_squareAt vc_X9 oc_48 rfl rfl (zdec_at dm_X9_breadthAt 19 rfl) ⟨rfl, rfl, rfl, rfl⟩ ⟨by decide, by decide⟩ (Nat.le_of_ble_eq_true rfl) (zall_0 o34 (zall_0 o33 zall_n)) ?_
          refine ⟨_, _, rfl, g40, fun r35 M36 p39 z38 hR37 => ?_⟩
          have h := h r35 M36 p39 z38 hR37
          show zV Γ mu_X9_breadthAt (145, 0, 0) 34 [(0, zRf (zad Γ) 48), (1, zI a1), (2, zI a2), (3, zI v15), (4, zI v2), (5, zI v16)] [zI r35] M36
          refine zr_istore (L1 := [(6, zI r35), (0, zRf (zad Γ) 48), (1, zI a1), (2, zI a2), (3, zI v15), (4, zI v2), (5, zI v16)]) C (zdec_at dm_X9_breadthAt 20 rfl) (Nat.le_of_ble_eq_true rfl) rfl ?_
          refine zr_iload C 0 rfl (zdec_at dm_X9_breadthAt 21 rfl) ?_
          refine zr_iload C 6 rfl (zdec_at dm_X9_breadthAt 22 rfl) ?_
          refine zr_icmp_le C z38 z18 (zdec_at dm_X9_breadthAt 23 rfl) rfl (fun g41 => ?_) (fun g41 => ?_)
          · have h := h.1 g41
            refine zr_iinc (L1 := [(5, zI (v16 + 1)), (6, zI r35), (0, zRf (zad Γ) 48), (1, zI a1), (2, zI a2), (3, zI v15), (4, zI v2)]) C 6 rfl (zdec_at dm_X9_breadthAt 31 rfl) (Nat.le_of_ble_eq_true rfl) rfl ?_
            refine zr_goto C (zdec_at dm_X9_breadthAt 32 rfl) rfl ?_
            obtain ⟨o42, h⟩ := h
            obtain ⟨n43, q44, q45⟩ := h
            exact zr_sub [2, 3, 4, 5, 6, 0] rfl (ih22 n43 q44 _ _ _ q45 z17 o42 hR37)
          · have h := h.2 g41
            refine zr_iload C 0 rfl (zdec_at dm_X9_breadthAt 24 rfl) ?_
            refine zr_iload C 5 rfl (zdec_at dm_X9_breadthAt 25 rfl) ?_
            refine zr_icmp_le C z38 z4 (zdec_at dm_X9_breadthAt 26 rfl) rfl (fun g46 => ?_) (fun g46 => ?_)
            · have h := h.1 g46
              refine zr_iinc (L1 := [(5, zI (v16 + 1)), (6, zI r35), (0, zRf (zad Γ) 48), (1, zI a1), (2, zI a2), (3, zI v15), (4, zI v2)]) C 6 rfl (zdec_at dm_X9_breadthAt 31 rfl) (Nat.le_of_ble_eq_true rfl) rfl ?_
              refine zr_goto C (zdec_at dm_X9_breadthAt 32 rfl) rfl ?_
              obtain ⟨o47, h⟩ := h
              obtain ⟨n48, q49, q50⟩ := h
              exact zr_sub [2, 3, 4, 5, 6, 0] rfl (ih22 n48 q49 _ _ _ q50 z17 o47 hR37)
            · have h := h.2 g46
              refine zr_iload_n C 4 rfl (zdec_at dm_X9_breadthAt 27 rfl) rfl ?_
              refine zr_iload C 0 rfl (zdec_at dm_X9_breadthAt 28 rfl) ?_
              refine zr_mmax C z17 z38 mk_RX9_53 kw_mmax_s kw_mini kw_mmax_c (by decide) ⟨rfl, rfl⟩ (Nat.le_of_ble_eq_true rfl) (zdec_at dm_X9_breadthAt 29 rfl) (fun z51 => ?_)
              refine zr_istore_n (L1 := [(3, zI (max v15 r35)), (6, zI r35), (0, zRf (zad Γ) 48), (1, zI a1), (2, zI a2), (4, zI v2), (5, zI v16)]) C (zdec_at dm_X9_breadthAt 30 rfl) rfl (Nat.le_of_ble_eq_true rfl) rfl ?_
              refine zr_iinc (L1 := [(5, zI (v16 + 1)), (3, zI (max v15 r35)), (6, zI r35), (0, zRf (zad Γ) 48), (1, zI a1), (2, zI a2), (4, zI v2)]) C 6 rfl (zdec_at dm_X9_breadthAt 31 rfl) (Nat.le_of_ble_eq_true rfl) rfl ?_
              refine zr_goto C (zdec_at dm_X9_breadthAt 32 rfl) rfl ?_
              obtain ⟨o52, h⟩ := h
              obtain ⟨n53, q54, q55⟩ := h
              exact zr_sub [3, 4, 5, 1, 6, 0] rfl (ih22 n53 q54 _ _ _ q55 z51 o52 hR37)
      exact zr_sub [1, 2, 3, 4, 5, 0] rfl (lp23 n25 _ _ _ q26 z3 (by decide) hR6)
  exact zr_sub [2, 3, 4, 1, 0] rfl (lp9 n11 _ _ _ q12 (by decide) (by decide) hR)

set_option maxHeartbeats 400000 in
set_option maxRecDepth 100000 in
theorem sn_X9_isMiddle {pr_X9_roomAround : Int → Int → zM → Prop} {po_X9_roomAround : Int → Int → zM → Int → zM → Prop} {pr_X2_faceAt : Int → Int → zM → Prop} {po_X2_faceAt : Int → Int → zM → Int → zM → Prop} (hS_X9_roomAround : zSnd zS 145 0 0 yX9_roomAround cX9_roomAround 5 (some .int) 1 [2, 0, 0] (F_X9_roomAround pr_X9_roomAround po_X9_roomAround)) (hS_X2_faceAt : zSnd zS 145 0 0 yX2_faceAt cX2_faceAt 3 (some .int) 0 [2, 0, 0] (F_X2_faceAt pr_X2_faceAt po_X2_faceAt)) : zSnd zS 145 0 0 yX9_isMiddle cX9_isMiddle 7 (some .boolean) 2 [2, 0, 0] (fun xs P M => ∃ a1 a2 : Int, xs = [48, a1, a2] ∧ vc_X9_isMiddle pr_X9_roomAround po_X9_roomAround pr_X2_faceAt po_X2_faceAt a1 a2 P M) := by
  refine zSnd.of rfl (fun ad xs hz => Nat.le_trans (Nat.le_of_eq (zlen ad _ xs hz)) (by decide)) ?_
  intro Γ C _ _ xs M hz hF
  obtain ⟨a1, a2, rfl, h⟩ := hF
  have zz_a1 := zall_h (zall_t hz) (by decide)
  have zz_a2 := zall_h (zall_t (zall_t hz)) (by decide)
  refine zr_rng (fun hR => ?_)
  have C : zC Γ mu_X9_isMiddle := C
  change zV Γ mu_X9_isMiddle (145, 0, 0) 0 [(0, zRf (zad Γ) 48), (1, zI a1), (2, zI a2)] [] M
  change vc_X9_isMiddle pr_X9_roomAround po_X9_roomAround pr_X2_faceAt po_X2_faceAt a1 a2 _ M at h
  unfold vc_X9_isMiddle at h
  refine zr_aload_n C 0 rfl (zdec_at dm_X9_isMiddle 0 rfl) rfl ?_
  refine zr_iload_n C 1 rfl (zdec_at dm_X9_isMiddle 1 rfl) rfl ?_
  refine zr_iload_n C 2 rfl (zdec_at dm_X9_isMiddle 2 rfl) rfl ?_
  obtain ⟨g6, h⟩ := h
  refine zr_callV C [a1, a2] hS_X9_roomAround ck_RX9_56 iv_X9_roomAround vc_X9 oc_48 rfl rfl (zdec_at dm_X9_isMiddle 3 rfl) ⟨rfl, rfl, rfl, rfl⟩ ⟨by decide, by decide⟩ (Nat.le_of_ble_eq_true rfl) (zall_0 zz_a1 (zall_0 zz_a2 zall_n)) ?_
  refine ⟨_, _, rfl, g6, fun r1 M2 p5 z4 hR3 => ?_⟩
  have h := h r1 M2 p5 z4 hR3
  show zV Γ mu_X9_isMiddle (145, 0, 0) 6 [(0, zRf (zad Γ) 48), (1, zI a1), (2, zI a2)] [zI r1] M2
  refine zr_istore_n (L1 := [(3, zI r1), (0, zRf (zad Γ) 48), (1, zI a1), (2, zI a2)]) C (zdec_at dm_X9_isMiddle 4 rfl) rfl (Nat.le_of_ble_eq_true rfl) rfl ?_
  refine zr_iconst C (zdec_at dm_X9_isMiddle 5 rfl) ?_
  refine zr_istore (L1 := [(4, zI 0), (3, zI r1), (0, zRf (zad Γ) 48), (1, zI a1), (2, zI a2)]) C (zdec_at dm_X9_isMiddle 6 rfl) (Nat.le_of_ble_eq_true rfl) rfl ?_
  obtain ⟨I10, ⟨n15, q16⟩, hI14⟩ := h
  have lp13 : ∀ (n11 : Nat) (v7 : Int) (M9 : zM), I10 v7 M9 n11 → zin v7 → zRng M9 → zV Γ mu_X9_isMiddle (145, 0, 0) 10 [(0, zRf (zad Γ) 48), (1, zI a1), (2, zI a2), (3, zI r1), (4, zI v7)] [] M9 := by
    intro n11
    induction n11 using Nat.strongRecOn with
    | _ n11 ih12 =>
    intro v7 M9 q17 z8 hR10
    have h := hI14 v7 M9 n11 q17 z8 hR10
    refine zr_iload C 4 rfl (zdec_at dm_X9_isMiddle 7 rfl) ?_
    refine zr_iconst C (zdec_at dm_X9_isMiddle 8 rfl) ?_
    refine zr_icmp_ge C z8 (by decide) (zdec_at dm_X9_isMiddle 9 rfl) rfl (fun g18 => ?_) (fun g18 => ?_)
    · have h := h.1 g18
      refine zr_iconst C (zdec_at dm_X9_isMiddle 40 rfl) ?_
      exact zr_zreturn C rfl (by decide) (zdec_at dm_X9_isMiddle 41 rfl) rfl ⟨(by decide), h⟩
    · have h := h.2 g18
      refine zr_iload_n C 1 rfl (zdec_at dm_X9_isMiddle 10 rfl) rfl ?_
      refine zr_gets1 C sk_RX9_59 (zdec_at dm_X9_isMiddle 11 rfl) ?_
      refine zr_iload C 4 rfl (zdec_at dm_X9_isMiddle 12 rfl) ?_
      obtain ⟨o19, h⟩ := h
      refine zr_sald1 C o19 (zdec_at dm_X9_isMiddle 13 rfl) ?_
      refine zr_iadd C (zdec_at dm_X9_isMiddle 14 rfl) ?_
      refine zr_istore (L1 := [(5, zI (a1 + (zac (Int.toNat v7)))), (0, zRf (zad Γ) 48), (1, zI a1), (2, zI a2), (3, zI r1), (4, zI v7)]) C (zdec_at dm_X9_isMiddle 15 rfl) (Nat.le_of_ble_eq_true rfl) rfl ?_
      refine zr_iload_n C 3 rfl (zdec_at dm_X9_isMiddle 16 rfl) rfl ?_
      refine zr_gets2 C sk_RX9_62 (zdec_at dm_X9_isMiddle 17 rfl) ?_
      refine zr_iload C 5 rfl (zdec_at dm_X9_isMiddle 18 rfl) ?_
      refine zr_sald2 C o19 (zdec_at dm_X9_isMiddle 19 rfl) ?_
      refine zr_iadd C (zdec_at dm_X9_isMiddle 20 rfl) ?_
      refine zr_istore (L1 := [(6, zI (a2 + (zdn (Int.toNat v7)))), (5, zI (a1 + (zac (Int.toNat v7)))), (0, zRf (zad Γ) 48), (1, zI a1), (2, zI a2), (3, zI r1), (4, zI v7)]) C (zdec_at dm_X9_isMiddle 21 rfl) (Nat.le_of_ble_eq_true rfl) rfl ?_
      refine zr_aload_n C 2 rfl (zdec_at dm_X9_isMiddle 22 rfl) rfl ?_
      refine zr_getr (q := 5) C fk_RX9_15 fi_48_0 (zdec_at dm_X9_isMiddle 23 rfl) ?_
      refine zr_iload C 1 rfl (zdec_at dm_X9_isMiddle 24 rfl) ?_
      refine zr_iload C 0 rfl (zdec_at dm_X9_isMiddle 25 rfl) ?_
      obtain ⟨o20, h⟩ := h
      obtain ⟨o21, h⟩ := h
      obtain ⟨g27, h⟩ := h
      refine zr_callV C [(a1 + (zac (Int.toNat v7))), (a2 + (zdn (Int.toNat v7)))] hS_X2_faceAt ck_RX9_46 iv_X2_faceAt vc_X2 oc_5 rfl rfl (zdec_at dm_X9_isMiddle 26 rfl) ⟨rfl, rfl, rfl, rfl⟩ ⟨by decide, by decide⟩ (Nat.le_of_ble_eq_true rfl) (zall_0 o21 (zall_0 o20 zall_n)) ?_
      refine ⟨_, _, rfl, g27, fun r22 M23 p26 z25 hR24 => ?_⟩
      have h := h r22 M23 p26 z25 hR24
      show zV Γ mu_X9_isMiddle (145, 0, 0) 47 [(6, zI (a2 + (zdn (Int.toNat v7)))), (5, zI (a1 + (zac (Int.toNat v7)))), (0, zRf (zad Γ) 48), (1, zI a1), (2, zI a2), (3, zI r1), (4, zI v7)] [zI r22] M23
      refine zr_aload_n C 2 rfl (zdec_at dm_X9_isMiddle 27 rfl) rfl ?_
      refine zr_geti C fk_RX9_19 fi_48_2 (zdec_at dm_X9_isMiddle 28 rfl) ?_
      refine zr_icmp_ne C z25 (hR24 _ _) (zdec_at dm_X9_isMiddle 29 rfl) rfl (fun g28 => ?_) (fun g28 => ?_)
      · have h := h.1 g28
        refine zr_iinc (L1 := [(4, zI (v7 + 1)), (6, zI (a2 + (zdn (Int.toNat v7)))), (5, zI (a1 + (zac (Int.toNat v7)))), (0, zRf (zad Γ) 48), (1, zI a1), (2, zI a2), (3, zI r1)]) C 6 rfl (zdec_at dm_X9_isMiddle 38 rfl) (Nat.le_of_ble_eq_true rfl) rfl ?_
        refine zr_goto C (zdec_at dm_X9_isMiddle 39 rfl) rfl ?_
        obtain ⟨o29, h⟩ := h
        obtain ⟨n30, q31, q32⟩ := h
        exact zr_sub [3, 4, 5, 6, 0] rfl (ih12 n30 q31 _ _ q32 o29 hR24)
      · have h := h.2 g28
        refine zr_aload_n C 2 rfl (zdec_at dm_X9_isMiddle 30 rfl) rfl ?_
        refine zr_iload C 1 rfl (zdec_at dm_X9_isMiddle 31 rfl) ?_
        refine zr_iload C 0 rfl (zdec_at dm_X9_isMiddle 32 rfl) ?_
        obtain ⟨g38, h⟩ := h
        refine zr_callV C [(a1 + (zac (Int.toNat v7))), (a2 + (zdn (Int.toNat v7)))] hS_X9_roomAround ck_RX9_56 iv_X9_roomAround vc_X9 oc_48 rfl rfl (zdec_at dm_X9_isMiddle 33 rfl) ⟨rfl, rfl, rfl, rfl⟩ ⟨by decide, by decide⟩ (Nat.le_of_ble_eq_true rfl) (zall_0 o21 (zall_0 o20 zall_n)) ?_
        refine ⟨_, _, rfl, g38, fun r33 M34 p37 z36 hR35 => ?_⟩
        have h := h r33 M34 p37 z36 hR35
        show zV Γ mu_X9_isMiddle (145, 0, 0) 62 [(6, zI (a2 + (zdn (Int.toNat v7)))), (5, zI (a1 + (zac (Int.toNat v7)))), (0, zRf (zad Γ) 48), (1, zI a1), (2, zI a2), (3, zI r1), (4, zI v7)] [zI r33] M34
        refine zr_iload_n C 5 rfl (zdec_at dm_X9_isMiddle 34 rfl) rfl ?_
        refine zr_icmp_le C z36 z4 (zdec_at dm_X9_isMiddle 35 rfl) rfl (fun g39 => ?_) (fun g39 => ?_)
        · have h := h.1 g39
          refine zr_iinc (L1 := [(4, zI (v7 + 1)), (6, zI (a2 + (zdn (Int.toNat v7)))), (5, zI (a1 + (zac (Int.toNat v7)))), (0, zRf (zad Γ) 48), (1, zI a1), (2, zI a2), (3, zI r1)]) C 6 rfl (zdec_at dm_X9_isMiddle 38 rfl) (Nat.le_of_ble_eq_true rfl) rfl ?_
          refine zr_goto C (zdec_at dm_X9_isMiddle 39 rfl) rfl ?_
          obtain ⟨o40, h⟩ := h
          obtain ⟨n41, q42, q43⟩ := h
          exact zr_sub [3, 4, 5, 6, 0] rfl (ih12 n41 q42 _ _ q43 o40 hR35)
        · have h := h.2 g39
          refine zr_iconst C (zdec_at dm_X9_isMiddle 36 rfl) ?_
          exact zr_zreturn C rfl (by decide) (zdec_at dm_X9_isMiddle 37 rfl) rfl ⟨(by decide), h⟩
  exact zr_sub [2, 3, 4, 1, 0] rfl (lp13 n15 _ _ q16 (by decide) hR3)

set_option maxHeartbeats 400000 in
set_option maxRecDepth 100000 in
theorem sn_X9_roomAround {pr_X9_squareAt : Int → Int → zM → Prop} {po_X9_squareAt : Int → Int → zM → Int → zM → Prop} (hS_X9_squareAt : zSnd zS 145 0 0 yX9_squareAt cX9_squareAt 3 (some .int) 0 [2, 0, 0] (F_X9_squareAt pr_X9_squareAt po_X9_squareAt)) : zSnd zS 145 0 0 yX9_roomAround cX9_roomAround 5 (some .int) 1 [2, 0, 0] (fun xs P M => ∃ a1 a2 : Int, xs = [48, a1, a2] ∧ vc_X9_roomAround pr_X9_squareAt po_X9_squareAt a1 a2 P M) := by
  refine zSnd.of rfl (fun ad xs hz => Nat.le_trans (Nat.le_of_eq (zlen ad _ xs hz)) (by decide)) ?_
  intro Γ C _ _ xs M hz hF
  obtain ⟨a1, a2, rfl, h⟩ := hF
  have zz_a1 := zall_h (zall_t hz) (by decide)
  have zz_a2 := zall_h (zall_t (zall_t hz)) (by decide)
  refine zr_rng (fun hR => ?_)
  have C : zC Γ mu_X9_roomAround := C
  change zV Γ mu_X9_roomAround (145, 0, 0) 0 [(0, zRf (zad Γ) 48), (1, zI a1), (2, zI a2)] [] M
  change vc_X9_roomAround pr_X9_squareAt po_X9_squareAt a1 a2 _ M at h
  unfold vc_X9_roomAround at h
  refine zr_iconst C (zdec_at dm_X9_roomAround 0 rfl) ?_
  refine zr_istore_n (L1 := [(3, zI 0), (0, zRf (zad Γ) 48), (1, zI a1), (2, zI a2)]) C (zdec_at dm_X9_roomAround 1 rfl) rfl (Nat.le_of_ble_eq_true rfl) rfl ?_
  refine zr_iconst C (zdec_at dm_X9_roomAround 2 rfl) ?_
  refine zr_istore (L1 := [(4, zI 1), (3, zI 0), (0, zRf (zad Γ) 48), (1, zI a1), (2, zI a2)]) C (zdec_at dm_X9_roomAround 3 rfl) (Nat.le_of_ble_eq_true rfl) rfl ?_
  obtain ⟨I5, ⟨n11, q12⟩, hI10⟩ := h
  have lp9 : ∀ (n7 : Nat) (v1 : Int) (v2 : Int) (M5 : zM), I5 v1 v2 M5 n7 → zin v1 → zin v2 → zRng M5 → zV Γ mu_X9_roomAround (145, 0, 0) 5 [(0, zRf (zad Γ) 48), (1, zI a1), (2, zI a2), (3, zI v1), (4, zI v2)] [] M5 := by
    intro n7
    induction n7 using Nat.strongRecOn with
    | _ n7 ih8 =>
    intro v1 v2 M5 q13 z3 z4 hR6
    have h := hI10 v1 v2 M5 n7 q13 z3 z4 hR6
    refine zr_iload C 4 rfl (zdec_at dm_X9_roomAround 4 rfl) ?_
    refine zr_bipush C (zdec_at dm_X9_roomAround 5 rfl) (by decide) ?_
    refine zr_icmp_ge C z4 (by decide) (zdec_at dm_X9_roomAround 6 rfl) rfl (fun g14 => ?_) (fun g14 => ?_)
    · have h := h.1 g14
      refine zr_iload_n C 3 rfl (zdec_at dm_X9_roomAround 26 rfl) rfl ?_
      exact zr_ireturn C rfl (zdec_at dm_X9_roomAround 27 rfl) rfl ⟨z3, h⟩
    · have h := h.2 g14
      refine zr_aload_n C 0 rfl (zdec_at dm_X9_roomAround 7 rfl) rfl ?_
      refine zr_iload_n C 1 rfl (zdec_at dm_X9_roomAround 8 rfl) rfl ?_
      refine zr_iload C 4 rfl (zdec_at dm_X9_roomAround 9 rfl) ?_
      refine zr_iadd C (zdec_at dm_X9_roomAround 10 rfl) ?_
      refine zr_iload_n C 2 rfl (zdec_at dm_X9_roomAround 11 rfl) rfl ?_
      refine zr_iload C 4 rfl (zdec_at dm_X9_roomAround 12 rfl) ?_
      refine zr_iadd C (zdec_at dm_X9_roomAround 13 rfl) ?_
      obtain ⟨o15, h⟩ := h
      obtain ⟨o16, h⟩ := h
      obtain ⟨g22, h⟩ := h
      refine zr_callV C [(a1 + v2), (a2 + v2)] hS_X9_squareAt ck_RX9_37 iv_X9_squareAt vc_X9 oc_48 rfl rfl (zdec_at dm_X9_roomAround 14 rfl) ⟨rfl, rfl, rfl, rfl⟩ ⟨by decide, by decide⟩ (Nat.le_of_ble_eq_true rfl) (zall_0 o16 (zall_0 o15 zall_n)) ?_
      refine ⟨_, _, rfl, g22, fun r17 M18 p21 z20 hR19 => ?_⟩
      have h := h r17 M18 p21 z20 hR19
      show zV Γ mu_X9_roomAround (145, 0, 0) 24 [(0, zRf (zad Γ) 48), (1, zI a1), (2, zI a2), (3, zI v1), (4, zI v2)] [zI r17] M18
      refine zr_iconst C (zdec_at dm_X9_roomAround 15 rfl) ?_
      refine zr_iload C 4 rfl (zdec_at dm_X9_roomAround 16 rfl) ?_
      refine zr_imul C (zdec_at dm_X9_roomAround 17 rfl) ?_
      refine zr_iconst C (zdec_at dm_X9_roomAround 18 rfl) ?_
      refine zr_iadd C (zdec_at dm_X9_roomAround 19 rfl) ?_
      obtain ⟨o23, h⟩ := h
      refine zr_icmp_ge C z20 o23 (zdec_at dm_X9_roomAround 20 rfl) rfl (fun g24 => ?_) (fun g24 => ?_)
      · have h := h.1 g24
        refine zr_iload C 4 rfl (zdec_at dm_X9_roomAround 22 rfl) ?_
        refine zr_istore_n (L1 := [(3, zI v2), (0, zRf (zad Γ) 48), (1, zI a1), (2, zI a2), (4, zI v2)]) C (zdec_at dm_X9_roomAround 23 rfl) rfl (Nat.le_of_ble_eq_true rfl) rfl ?_
        refine zr_iinc (L1 := [(4, zI (v2 + 1)), (3, zI v2), (0, zRf (zad Γ) 48), (1, zI a1), (2, zI a2)]) C 4 rfl (zdec_at dm_X9_roomAround 24 rfl) (Nat.le_of_ble_eq_true rfl) rfl ?_
        refine zr_goto C (zdec_at dm_X9_roomAround 25 rfl) rfl ?_
        obtain ⟨o25, h⟩ := h
        obtain ⟨n26, q27, q28⟩ := h
        exact zr_sub [2, 3, 4, 1, 0] rfl (ih8 n26 q27 _ _ _ q28 z4 o25 hR19)
      · have h := h.2 g24
        refine zr_goto C (zdec_at dm_X9_roomAround 21 rfl) rfl ?_
        refine zr_iload_n C 3 rfl (zdec_at dm_X9_roomAround 26 rfl) rfl ?_
        exact zr_ireturn C rfl (zdec_at dm_X9_roomAround 27 rfl) rfl ⟨z3, h⟩
  exact zr_sub [2, 3, 4, 1, 0] rfl (lp9 n11 _ _ _ q12 (by decide) (by decide) hR)

set_option maxHeartbeats 400000 in
set_option maxRecDepth 100000 in
theorem sn_X9_areLike {pr_X9_liesOn : Int → Int → Int → zM → Prop} {po_X9_liesOn : Int → Int → Int → zM → Int → zM → Prop} (hS_X9_liesOn : zSnd zS 145 0 0 yX9_liesOn cX9_liesOn 13 (some .boolean) 2 [2, 0, 0, 0] (F_X9_liesOn pr_X9_liesOn po_X9_liesOn)) : zSnd zS 145 0 0 yX9_areLike cX9_areLike 4 (some .boolean) 3 [2, 0, 0] (fun xs P M => ∃ a1 a2 : Int, xs = [48, a1, a2] ∧ vc_X9_areLike pr_X9_liesOn po_X9_liesOn a1 a2 P M) := by
  refine zSnd.of rfl (fun ad xs hz => Nat.le_trans (Nat.le_of_eq (zlen ad _ xs hz)) (by decide)) ?_
  intro Γ C _ _ xs M hz hF
  obtain ⟨a1, a2, rfl, h⟩ := hF
  have zz_a1 := zall_h (zall_t hz) (by decide)
  have zz_a2 := zall_h (zall_t (zall_t hz)) (by decide)
  refine zr_rng (fun hR => ?_)
  have C : zC Γ mu_X9_areLike := C
  change zV Γ mu_X9_areLike (145, 0, 0) 0 [(0, zRf (zad Γ) 48), (1, zI a1), (2, zI a2)] [] M
  change vc_X9_areLike pr_X9_liesOn po_X9_liesOn a1 a2 _ M at h
  unfold vc_X9_areLike at h
  refine zr_aload_n C 0 rfl (zdec_at dm_X9_areLike 0 rfl) rfl ?_
  refine zr_getr (q := 5) C fk_RX9_15 fi_48_0 (zdec_at dm_X9_areLike 1 rfl) ?_
  refine zr_getr (q := 6) C fk_RX9_65 fi_5_3 (zdec_at dm_X9_areLike 2 rfl) ?_
  refine zr_iload_n C 1 rfl (zdec_at dm_X9_areLike 3 rfl) rfl ?_
  obtain ⟨o1, h⟩ := h
  refine zr_iald C ai_6 o1 (zdec_at dm_X9_areLike 4 rfl) ?_
  refine zr_aload_n C 0 rfl (zdec_at dm_X9_areLike 5 rfl) rfl ?_
  refine zr_getr (q := 5) C fk_RX9_15 fi_48_0 (zdec_at dm_X9_areLike 6 rfl) ?_
  refine zr_getr (q := 6) C fk_RX9_65 fi_5_3 (zdec_at dm_X9_areLike 7 rfl) ?_
  refine zr_iload_n C 2 rfl (zdec_at dm_X9_areLike 8 rfl) rfl ?_
  obtain ⟨o2, h⟩ := h
  refine zr_iald C ai_6 o2 (zdec_at dm_X9_areLike 9 rfl) ?_
  refine zr_icmp_eq C (hR _ _) (hR _ _) (zdec_at dm_X9_areLike 10 rfl) rfl (fun g3 => ?_) (fun g3 => ?_)
  · have h := h.1 g3
    refine zr_iconst C (zdec_at dm_X9_areLike 13 rfl) ?_
    refine zr_istore_n (L1 := [(3, zI 0), (0, zRf (zad Γ) 48), (1, zI a1), (2, zI a2)]) C (zdec_at dm_X9_areLike 14 rfl) rfl (Nat.le_of_ble_eq_true rfl) rfl ?_
    obtain ⟨I25, ⟨n12, q13⟩, hI11⟩ := h
    have lp10 : ∀ (n8 : Nat) (v4 : Int) (M6 : zM), I25 v4 M6 n8 → zin v4 → zRng M6 → zV Γ mu_X9_areLike (145, 0, 0) 25 [(0, zRf (zad Γ) 48), (1, zI a1), (2, zI a2), (3, zI v4)] [] M6 := by
      intro n8
      induction n8 using Nat.strongRecOn with
      | _ n8 ih9 =>
      intro v4 M6 q14 z5 hR7
      have h := hI11 v4 M6 n8 q14 z5 hR7
      refine zr_iload_n C 3 rfl (zdec_at dm_X9_areLike 15 rfl) rfl ?_
      refine zr_bipush C (zdec_at dm_X9_areLike 16 rfl) (by decide) ?_
      refine zr_icmp_ge C z5 (by decide) (zdec_at dm_X9_areLike 17 rfl) rfl (fun g15 => ?_) (fun g15 => ?_)
      · have h := h.1 g15
        refine zr_iconst C (zdec_at dm_X9_areLike 28 rfl) ?_
        exact zr_zreturn C rfl (by decide) (zdec_at dm_X9_areLike 29 rfl) rfl ⟨(by decide), h⟩
      · have h := h.2 g15
        refine zr_aload_n C 0 rfl (zdec_at dm_X9_areLike 18 rfl) rfl ?_
        refine zr_iload_n C 1 rfl (zdec_at dm_X9_areLike 19 rfl) rfl ?_
        refine zr_iload_n C 2 rfl (zdec_at dm_X9_areLike 20 rfl) rfl ?_
        refine zr_iload_n C 3 rfl (zdec_at dm_X9_areLike 21 rfl) rfl ?_
        obtain ⟨g21, h⟩ := h
        refine zr_callV C [a1, a2, v4] hS_X9_liesOn ck_RX9_68 iv_X9_liesOn vc_X9 oc_48 rfl rfl (zdec_at dm_X9_areLike 22 rfl) ⟨rfl, rfl, rfl, rfl⟩ ⟨by decide, by decide⟩ (Nat.le_of_ble_eq_true rfl) (zall_0 zz_a1 (zall_0 zz_a2 (zall_0 z5 zall_n))) ?_
        refine ⟨_, _, _, rfl, g21, fun r16 M17 p20 z19 hR18 => ?_⟩
        have h := h r16 M17 p20 z19 hR18
        show zV Γ mu_X9_areLike (145, 0, 0) 38 [(0, zRf (zad Γ) 48), (1, zI a1), (2, zI a2), (3, zI v4)] [zI r16] M17
        refine zr_if_eq C z19 (zdec_at dm_X9_areLike 23 rfl) rfl (fun g22 => ?_) (fun g22 => ?_)
        · have h := h.1 g22
          refine zr_iinc (L1 := [(3, zI (v4 + 1)), (0, zRf (zad Γ) 48), (1, zI a1), (2, zI a2)]) C 3 rfl (zdec_at dm_X9_areLike 26 rfl) (Nat.le_of_ble_eq_true rfl) rfl ?_
          refine zr_goto C (zdec_at dm_X9_areLike 27 rfl) rfl ?_
          obtain ⟨o23, h⟩ := h
          obtain ⟨n24, q25, q26⟩ := h
          exact zr_sub [1, 2, 3, 0] rfl (ih9 n24 q25 _ _ q26 o23 hR18)
        · have h := h.2 g22
          refine zr_iconst C (zdec_at dm_X9_areLike 24 rfl) ?_
          exact zr_zreturn C rfl (by decide) (zdec_at dm_X9_areLike 25 rfl) rfl ⟨(by decide), h⟩
    exact zr_sub [1, 2, 3, 0] rfl (lp10 n12 _ _ q13 (by decide) hR)
  · have h := h.2 g3
    refine zr_iconst C (zdec_at dm_X9_areLike 11 rfl) ?_
    exact zr_zreturn C rfl (by decide) (zdec_at dm_X9_areLike 12 rfl) rfl ⟨(by decide), h⟩

set_option maxHeartbeats 400000 in
set_option maxRecDepth 100000 in
theorem sn_X9_liesOn {pr_X2_width : Int → zM → Prop} {po_X2_width : Int → zM → Int → zM → Prop} {pr_X2_height : Int → zM → Prop} {po_X2_height : Int → zM → Int → zM → Prop} {pr_X9_isIn : Int → Int → Int → zM → Prop} {po_X9_isIn : Int → Int → Int → zM → Int → zM → Prop} (hS_X2_width : zSnd zS 145 0 0 yX2_width cX2_width 2 (some .int) 0 [2, 0] (F_X2_width pr_X2_width po_X2_width)) (hS_X2_height : zSnd zS 145 0 0 yX2_height cX2_height 2 (some .int) 0 [2, 0] (F_X2_height pr_X2_height po_X2_height)) (hS_X9_isIn : zSnd zS 145 0 0 yX9_isIn cX9_isIn 4 (some .boolean) 1 [2, 0, 0, 0] (F_X9_isIn pr_X9_isIn po_X9_isIn)) : zSnd zS 145 0 0 yX9_liesOn cX9_liesOn 13 (some .boolean) 2 [2, 0, 0, 0] (fun xs P M => ∃ a1 a2 a3 : Int, xs = [48, a1, a2, a3] ∧ vc_X9_liesOn pr_X2_width po_X2_width pr_X2_height po_X2_height pr_X9_isIn po_X9_isIn a1 a2 a3 P M) := by
  refine zSnd.of rfl (fun ad xs hz => Nat.le_trans (Nat.le_of_eq (zlen ad _ xs hz)) (by decide)) ?_
  intro Γ C _ _ xs M hz hF
  obtain ⟨a1, a2, a3, rfl, h⟩ := hF
  have zz_a1 := zall_h (zall_t hz) (by decide)
  have zz_a2 := zall_h (zall_t (zall_t hz)) (by decide)
  have zz_a3 := zall_h (zall_t (zall_t (zall_t hz))) (by decide)
  refine zr_rng (fun hR => ?_)
  have C : zC Γ mu_X9_liesOn := C
  change zV Γ mu_X9_liesOn (145, 0, 0) 0 [(0, zRf (zad Γ) 48), (1, zI a1), (2, zI a2), (3, zI a3)] [] M
  change vc_X9_liesOn pr_X2_width po_X2_width pr_X2_height po_X2_height pr_X9_isIn po_X9_isIn a1 a2 a3 _ M at h
  unfold vc_X9_liesOn at h
  refine zr_iload_n C 3 rfl (zdec_at dm_X9_liesOn 0 rfl) rfl ?_
  refine zr_iconst C (zdec_at dm_X9_liesOn 1 rfl) ?_
  refine zr_iand C (zdec_at dm_X9_liesOn 2 rfl) ?_
  have h := h (fun v1 => zin v1 → zV Γ mu_X9_liesOn (145, 0, 0) 11 [(0, zRf (zad Γ) 48), (1, zI a1), (2, zI a2), (3, zI a3)] [zI v1] M) (fun v1 h z2 => by
    have h := h z2
    refine zr_istore (L1 := [(4, zI v1), (0, zRf (zad Γ) 48), (1, zI a1), (2, zI a2), (3, zI a3)]) C (zdec_at dm_X9_liesOn 7 rfl) (Nat.le_of_ble_eq_true rfl) rfl ?_
    refine zr_aload_n C 1 rfl (zdec_at dm_X9_liesOn 8 rfl) rfl ?_
    refine zr_getr (q := 5) C fk_RX9_15 fi_48_0 (zdec_at dm_X9_liesOn 9 rfl) ?_
    refine zr_iload_n C 3 rfl (zdec_at dm_X9_liesOn 10 rfl) rfl ?_
    obtain ⟨g8, h⟩ := h
    refine zr_callV C [a2] hS_X2_width ck_RX9_72 iv_X2_width vc_X2 oc_5 rfl rfl (zdec_at dm_X9_liesOn 11 rfl) ⟨rfl, rfl, rfl, rfl⟩ ⟨by decide, by decide⟩ (Nat.le_of_ble_eq_true rfl) (zall_0 zz_a2 zall_n) ?_
    refine ⟨_, rfl, g8, fun r3 M4 p7 z6 hR5 => ?_⟩
    have h := h r3 M4 p7 z6 hR5
    show zV Γ mu_X9_liesOn (145, 0, 0) 21 [(4, zI v1), (0, zRf (zad Γ) 48), (1, zI a1), (2, zI a2), (3, zI a3)] [zI r3] M4
    refine zr_istore (L1 := [(5, zI r3), (4, zI v1), (0, zRf (zad Γ) 48), (1, zI a1), (2, zI a2), (3, zI a3)]) C (zdec_at dm_X9_liesOn 12 rfl) (Nat.le_of_ble_eq_true rfl) rfl ?_
    refine zr_aload_n C 2 rfl (zdec_at dm_X9_liesOn 13 rfl) rfl ?_
    refine zr_getr (q := 5) C fk_RX9_15 fi_48_0 (zdec_at dm_X9_liesOn 14 rfl) ?_
    refine zr_iload_n C 4 rfl (zdec_at dm_X9_liesOn 15 rfl) rfl ?_
    obtain ⟨g14, h⟩ := h
    refine zr_callV C [a2] hS_X2_height ck_RX9_76 iv_X2_height vc_X2 oc_5 rfl rfl (zdec_at dm_X9_liesOn 16 rfl) ⟨rfl, rfl, rfl, rfl⟩ ⟨by decide, by decide⟩ (Nat.le_of_ble_eq_true rfl) (zall_0 zz_a2 zall_n) ?_
    refine ⟨_, rfl, g14, fun r9 M10 p13 z12 hR11 => ?_⟩
    have h := h r9 M10 p13 z12 hR11
    show zV Γ mu_X9_liesOn (145, 0, 0) 31 [(5, zI r3), (4, zI v1), (0, zRf (zad Γ) 48), (1, zI a1), (2, zI a2), (3, zI a3)] [zI r9] M10
    refine zr_istore (L1 := [(6, zI r9), (5, zI r3), (4, zI v1), (0, zRf (zad Γ) 48), (1, zI a1), (2, zI a2), (3, zI a3)]) C (zdec_at dm_X9_liesOn 17 rfl) (Nat.le_of_ble_eq_true rfl) rfl ?_
    refine zr_aload_n C 3 rfl (zdec_at dm_X9_liesOn 18 rfl) rfl ?_
    refine zr_getr (q := 5) C fk_RX9_15 fi_48_0 (zdec_at dm_X9_liesOn 19 rfl) ?_
    refine zr_iload_n C 4 rfl (zdec_at dm_X9_liesOn 20 rfl) rfl ?_
    obtain ⟨g20, h⟩ := h
    refine zr_callV C [a1] hS_X2_width ck_RX9_72 iv_X2_width vc_X2 oc_5 rfl rfl (zdec_at dm_X9_liesOn 21 rfl) ⟨rfl, rfl, rfl, rfl⟩ ⟨by decide, by decide⟩ (Nat.le_of_ble_eq_true rfl) (zall_0 zz_a1 zall_n) ?_
    refine ⟨_, rfl, g20, fun r15 M16 p19 z18 hR17 => ?_⟩
    have h := h r15 M16 p19 z18 hR17
    show zV Γ mu_X9_liesOn (145, 0, 0) 41 [(6, zI r9), (5, zI r3), (4, zI v1), (0, zRf (zad Γ) 48), (1, zI a1), (2, zI a2), (3, zI a3)] [zI r15] M16
    refine zr_iload C 2 rfl (zdec_at dm_X9_liesOn 22 rfl) ?_
    have h := h (fun v21 => zin v21 → zV Γ mu_X9_liesOn (145, 0, 0) 53 [(0, zRf (zad Γ) 48), (1, zI a1), (2, zI a2), (3, zI a3), (4, zI v1), (5, zI r3), (6, zI r9)] [zI v21, zI r15] M16) (fun v21 h z22 => by
      have h := h z22
      refine zr_icmp_ne C z18 z22 (zdec_at dm_X9_liesOn 27 rfl) rfl (fun g23 => ?_) (fun g23 => ?_)
      · have h := h.1 g23
        refine zr_iconst C (zdec_at dm_X9_liesOn 38 rfl) ?_
        exact zr_zreturn C rfl (by decide) (zdec_at dm_X9_liesOn 39 rfl) rfl ⟨(by decide), h⟩
      · have h := h.2 g23
        refine zr_aload_n C 0 rfl (zdec_at dm_X9_liesOn 28 rfl) rfl ?_
        refine zr_getr (q := 5) C fk_RX9_15 fi_48_0 (zdec_at dm_X9_liesOn 29 rfl) ?_
        refine zr_iload_n C 1 rfl (zdec_at dm_X9_liesOn 30 rfl) rfl ?_
        obtain ⟨g29, h⟩ := h
        refine zr_callV C [a1] hS_X2_height ck_RX9_76 iv_X2_height vc_X2 oc_5 rfl rfl (zdec_at dm_X9_liesOn 31 rfl) ⟨rfl, rfl, rfl, rfl⟩ ⟨by decide, by decide⟩ (Nat.le_of_ble_eq_true rfl) (zall_0 zz_a1 zall_n) ?_
        refine ⟨_, rfl, g29, fun r24 M25 p28 z27 hR26 => ?_⟩
        have h := h r24 M25 p28 z27 hR26
        show zV Γ mu_X9_liesOn (145, 0, 0) 64 [(0, zRf (zad Γ) 48), (1, zI a1), (2, zI a2), (3, zI a3), (4, zI v1), (5, zI r3), (6, zI r9)] [zI r24] M25
        refine zr_iload C 4 rfl (zdec_at dm_X9_liesOn 32 rfl) ?_
        have h := h (fun v30 => zin v30 → zV Γ mu_X9_liesOn (145, 0, 0) 76 [(0, zRf (zad Γ) 48), (1, zI a1), (2, zI a2), (3, zI a3), (4, zI v1), (5, zI r3), (6, zI r9)] [zI v30, zI r24] M25) (fun v30 h z31 => by
          have h := h z31
          refine zr_icmp_eq C z27 z31 (zdec_at dm_X9_liesOn 37 rfl) rfl (fun g32 => ?_) (fun g32 => ?_)
          · have h := h.1 g32
            refine zr_iconst C (zdec_at dm_X9_liesOn 40 rfl) ?_
            refine zr_istore (L1 := [(7, zI 0), (0, zRf (zad Γ) 48), (1, zI a1), (2, zI a2), (3, zI a3), (4, zI v1), (5, zI r3), (6, zI r9)]) C (zdec_at dm_X9_liesOn 41 rfl) (Nat.le_of_ble_eq_true rfl) rfl ?_
            obtain ⟨I84, ⟨n41, q42⟩, hI40⟩ := h
            have lp39 : ∀ (n37 : Nat) (v33 : Int) (M35 : zM), I84 v33 M35 n37 → zin v33 → zRng M35 → zV Γ mu_X9_liesOn (145, 0, 0) 84 [(0, zRf (zad Γ) 48), (1, zI a1), (2, zI a2), (3, zI a3), (4, zI v1), (5, zI r3), (6, zI r9), (7, zI v33)] [] M35 := by
              intro n37
              induction n37 using Nat.strongRecOn with
              | _ n37 ih38 =>
              intro v33 M35 q43 z34 hR36
              have h := hI40 v33 M35 n37 q43 z34 hR36
              refine zr_iload C 7 rfl (zdec_at dm_X9_liesOn 42 rfl) ?_
              refine zr_aload_n C 0 rfl (zdec_at dm_X9_liesOn 43 rfl) rfl ?_
              refine zr_getr (q := 5) C fk_RX9_15 fi_48_0 (zdec_at dm_X9_liesOn 44 rfl) ?_
              refine zr_iload_n C 1 rfl (zdec_at dm_X9_liesOn 45 rfl) rfl ?_
              obtain ⟨g49, h⟩ := h
              refine zr_callV C [a1] hS_X2_height ck_RX9_76 iv_X2_height vc_X2 oc_5 rfl rfl (zdec_at dm_X9_liesOn 46 rfl) ⟨rfl, rfl, rfl, rfl⟩ ⟨by decide, by decide⟩ (Nat.le_of_ble_eq_true rfl) (zall_0 zz_a1 zall_n) ?_
              refine ⟨_, rfl, g49, fun r44 M45 p48 z47 hR46 => ?_⟩
              have h := h r44 M45 p48 z47 hR46
              show zV Γ mu_X9_liesOn (145, 0, 0) 94 [(0, zRf (zad Γ) 48), (1, zI a1), (2, zI a2), (3, zI a3), (4, zI v1), (5, zI r3), (6, zI r9), (7, zI v33)] [zI r44, zI v33] M45
              refine zr_icmp_ge C z34 z47 (zdec_at dm_X9_liesOn 47 rfl) rfl (fun g50 => ?_) (fun g50 => ?_)
              · have h := h.1 g50
                refine zr_iconst C (zdec_at dm_X9_liesOn 110 rfl) ?_
                exact zr_zreturn C rfl (by decide) (zdec_at dm_X9_liesOn 111 rfl) rfl ⟨(by decide), h⟩
              · have h := h.2 g50
                refine zr_iconst C (zdec_at dm_X9_liesOn 48 rfl) ?_
                refine zr_istore (L1 := [(8, zI 0), (0, zRf (zad Γ) 48), (1, zI a1), (2, zI a2), (3, zI a3), (4, zI v1), (5, zI r3), (6, zI r9), (7, zI v33)]) C (zdec_at dm_X9_liesOn 49 rfl) (Nat.le_of_ble_eq_true rfl) rfl ?_
                obtain ⟨I100, ⟨n59, q60⟩, hI58⟩ := h
                have lp57 : ∀ (n55 : Nat) (v51 : Int) (M53 : zM), I100 v51 M53 n55 → zin v51 → zRng M53 → zV Γ mu_X9_liesOn (145, 0, 0) 100 [(0, zRf (zad Γ) 48), (1, zI a1), (2, zI a2), (3, zI a3), (4, zI v1), (5, zI r3), (6, zI r9), (7, zI v33), (8, zI v51)] [] M53 := by
                  intro n55
                  induction n55 using Nat.strongRecOn with
                  | _ n55 ih56 =>
                  intro v51 M53 q61 z52 hR54
                  have h := hI58 v51 M53 n55 q61 z52 hR54
                  refine zr_iload C 8 rfl (zdec_at dm_X9_liesOn 50 rfl) ?_
                  refine zr_aload_n C 0 rfl (zdec_at dm_X9_liesOn 51 rfl) rfl ?_
                  refine zr_getr (q := 5) C fk_RX9_15 fi_48_0 (zdec_at dm_X9_liesOn 52 rfl) ?_
                  refine zr_iload_n C 1 rfl (zdec_at dm_X9_liesOn 53 rfl) rfl ?_
                  obtain ⟨g67, h⟩ := h
                  refine zr_callV C [a1] hS_X2_width ck_RX9_72 iv_X2_width vc_X2 oc_5 rfl rfl (zdec_at dm_X9_liesOn 54 rfl) ⟨rfl, rfl, rfl, rfl⟩ ⟨by decide, by decide⟩ (Nat.le_of_ble_eq_true rfl) (zall_0 zz_a1 zall_n) ?_
                  refine ⟨_, rfl, g67, fun r62 M63 p66 z65 hR64 => ?_⟩
                  have h := h r62 M63 p66 z65 hR64
                  show zV Γ mu_X9_liesOn (145, 0, 0) 110 [(0, zRf (zad Γ) 48), (1, zI a1), (2, zI a2), (3, zI a3), (4, zI v1), (5, zI r3), (6, zI r9), (7, zI v33), (8, zI v51)] [zI r62, zI v51] M63
                  refine zr_icmp_ge C z52 z65 (zdec_at dm_X9_liesOn 55 rfl) rfl (fun g68 => ?_) (fun g68 => ?_)
                  · have h := h.1 g68
                    refine zr_iinc (L1 := [(7, zI (v33 + 1)), (0, zRf (zad Γ) 48), (1, zI a1), (2, zI a2), (3, zI a3), (4, zI v1), (5, zI r3), (6, zI r9), (8, zI v51)]) C 7 rfl (zdec_at dm_X9_liesOn 108 rfl) (Nat.le_of_ble_eq_true rfl) rfl ?_
                    refine zr_goto C (zdec_at dm_X9_liesOn 109 rfl) rfl ?_
                    obtain ⟨o69, h⟩ := h
                    obtain ⟨n70, q71, q72⟩ := h
                    exact zr_sub [1, 2, 3, 4, 5, 6, 7, 0] rfl (ih38 n70 q71 _ _ q72 o69 hR64)
                  · have h := h.2 g68
                    refine zr_iload C 4 rfl (zdec_at dm_X9_liesOn 56 rfl) ?_
                    have h := h (fun v73 => zin v73 → zV Γ mu_X9_liesOn (145, 0, 0) 125 [(0, zRf (zad Γ) 48), (1, zI a1), (2, zI a2), (3, zI a3), (4, zI v1), (5, zI r3), (6, zI r9), (7, zI v33), (8, zI v51)] [zI v73] M63) (fun v73 h z74 => by
                      have h := h z74
                      refine zr_istore (L1 := [(9, zI v73), (0, zRf (zad Γ) 48), (1, zI a1), (2, zI a2), (3, zI a3), (4, zI v1), (5, zI r3), (6, zI r9), (7, zI v33), (8, zI v51)]) C (zdec_at dm_X9_liesOn 61 rfl) (Nat.le_of_ble_eq_true rfl) rfl ?_
                      refine zr_iload C 5 rfl (zdec_at dm_X9_liesOn 62 rfl) ?_
                      have h := h (fun v75 => zin v75 → zV Γ mu_X9_liesOn (145, 0, 0) 139 [(0, zRf (zad Γ) 48), (1, zI a1), (2, zI a2), (3, zI a3), (4, zI v1), (5, zI r3), (6, zI r9), (7, zI v33), (8, zI v51), (9, zI v73)] [zI v75] M63) (fun v75 h z76 => by
                        have h := h z76
                        refine zr_istore (L1 := [(10, zI v75), (0, zRf (zad Γ) 48), (1, zI a1), (2, zI a2), (3, zI a3), (4, zI v1), (5, zI r3), (6, zI r9), (7, zI v33), (8, zI v51), (9, zI v73)]) C (zdec_at dm_X9_liesOn 67 rfl) (Nat.le_of_ble_eq_true rfl) rfl ?_
                        refine zr_iload_n C 4 rfl (zdec_at dm_X9_liesOn 68 rfl) rfl ?_
                        refine zr_iconst C (zdec_at dm_X9_liesOn 69 rfl) ?_
                        refine zr_iand C (zdec_at dm_X9_liesOn 70 rfl) ?_
                        have h := h (fun v77 => zin v77 → zV Γ mu_X9_liesOn (145, 0, 0) 159 [(0, zRf (zad Γ) 48), (1, zI a1), (2, zI a2), (3, zI a3), (4, zI v1), (5, zI r3), (6, zI r9), (7, zI v33), (8, zI v51), (10, zI v75)] [zI v77] M63) (fun v77 h z78 => by
                          have h := h z78
                          refine zr_istore (L1 := [(11, zI v77), (0, zRf (zad Γ) 48), (1, zI a1), (2, zI a2), (3, zI a3), (4, zI v1), (5, zI r3), (6, zI r9), (7, zI v33), (8, zI v51), (10, zI v75)]) C (zdec_at dm_X9_liesOn 79 rfl) (Nat.le_of_ble_eq_true rfl) rfl ?_
                          refine zr_iload_n C 4 rfl (zdec_at dm_X9_liesOn 80 rfl) rfl ?_
                          refine zr_iconst C (zdec_at dm_X9_liesOn 81 rfl) ?_
                          refine zr_iand C (zdec_at dm_X9_liesOn 82 rfl) ?_
                          have h := h (fun v79 => zin v79 → zV Γ mu_X9_liesOn (145, 0, 0) 179 [(0, zRf (zad Γ) 48), (1, zI a1), (2, zI a2), (3, zI a3), (4, zI v1), (5, zI r3), (6, zI r9), (7, zI v33), (8, zI v51), (11, zI v77)] [zI v79] M63) (fun v79 h z80 => by
                            have h := h z80
                            refine zr_istore (L1 := [(12, zI v79), (0, zRf (zad Γ) 48), (1, zI a1), (2, zI a2), (3, zI a3), (4, zI v1), (5, zI r3), (6, zI r9), (7, zI v33), (8, zI v51), (11, zI v77)]) C (zdec_at dm_X9_liesOn 91 rfl) (Nat.le_of_ble_eq_true rfl) rfl ?_
                            refine zr_aload_n C 1 rfl (zdec_at dm_X9_liesOn 92 rfl) rfl ?_
                            refine zr_iload_n C 2 rfl (zdec_at dm_X9_liesOn 93 rfl) rfl ?_
                            refine zr_iload C 9 rfl (zdec_at dm_X9_liesOn 94 rfl) ?_
                            refine zr_iload C 8 rfl (zdec_at dm_X9_liesOn 95 rfl) ?_
                            obtain ⟨g86, h⟩ := h
                            refine zr_callV C [a1, v51, v33] hS_X9_isIn ck_RX9_79 iv_X9_isIn vc_X9 oc_48 rfl rfl (zdec_at dm_X9_liesOn 96 rfl) ⟨rfl, rfl, rfl, rfl⟩ ⟨by decide, by decide⟩ (Nat.le_of_ble_eq_true rfl) (zall_0 zz_a1 (zall_0 z52 (zall_0 z34 zall_n))) ?_
                            refine ⟨_, _, _, rfl, g86, fun r81 M82 p85 z84 hR83 => ?_⟩
                            have h := h r81 M82 p85 z84 hR83
                            show zV Γ mu_X9_liesOn (145, 0, 0) 190 [(12, zI v79), (0, zRf (zad Γ) 48), (1, zI a1), (2, zI a2), (3, zI a3), (4, zI v1), (5, zI r3), (6, zI r9), (7, zI v33), (8, zI v51), (11, zI v77)] [zI r81] M82
                            refine zr_if_eq C z84 (zdec_at dm_X9_liesOn 97 rfl) rfl (fun g87 => ?_) (fun g87 => ?_)
                            · have h := h.1 g87
                              refine zr_iinc (L1 := [(8, zI (v51 + 1)), (12, zI v79), (0, zRf (zad Γ) 48), (1, zI a1), (2, zI a2), (3, zI a3), (4, zI v1), (5, zI r3), (6, zI r9), (7, zI v33), (11, zI v77)]) C 9 rfl (zdec_at dm_X9_liesOn 106 rfl) (Nat.le_of_ble_eq_true rfl) rfl ?_
                              refine zr_goto C (zdec_at dm_X9_liesOn 107 rfl) rfl ?_
                              obtain ⟨o88, h⟩ := h
                              obtain ⟨n89, q90, q91⟩ := h
                              exact zr_sub [2, 3, 4, 5, 6, 7, 8, 9, 0] rfl (ih56 n89 q90 _ _ q91 o88 hR83)
                            · have h := h.2 g87
                              refine zr_aload_n C 1 rfl (zdec_at dm_X9_liesOn 98 rfl) rfl ?_
                              refine zr_iload_n C 3 rfl (zdec_at dm_X9_liesOn 99 rfl) rfl ?_
                              refine zr_iload C 10 rfl (zdec_at dm_X9_liesOn 100 rfl) ?_
                              refine zr_iload C 0 rfl (zdec_at dm_X9_liesOn 101 rfl) ?_
                              obtain ⟨g97, h⟩ := h
                              refine zr_callV C [a2, v77, v79] hS_X9_isIn ck_RX9_79 iv_X9_isIn vc_X9 oc_48 rfl rfl (zdec_at dm_X9_liesOn 102 rfl) ⟨rfl, rfl, rfl, rfl⟩ ⟨by decide, by decide⟩ (Nat.le_of_ble_eq_true rfl) (zall_0 zz_a2 (zall_0 z78 (zall_0 z80 zall_n))) ?_
                              refine ⟨_, _, _, rfl, g97, fun r92 M93 p96 z95 hR94 => ?_⟩
                              have h := h r92 M93 p96 z95 hR94
                              show zV Γ mu_X9_liesOn (145, 0, 0) 202 [(12, zI v79), (0, zRf (zad Γ) 48), (1, zI a1), (2, zI a2), (3, zI a3), (4, zI v1), (5, zI r3), (6, zI r9), (7, zI v33), (8, zI v51), (11, zI v77)] [zI r92] M93
                              refine zr_if_ne C z95 (zdec_at dm_X9_liesOn 103 rfl) rfl (fun g98 => ?_) (fun g98 => ?_)
                              · have h := h.1 g98
                                refine zr_iinc (L1 := [(8, zI (v51 + 1)), (12, zI v79), (0, zRf (zad Γ) 48), (1, zI a1), (2, zI a2), (3, zI a3), (4, zI v1), (5, zI r3), (6, zI r9), (7, zI v33), (11, zI v77)]) C 9 rfl (zdec_at dm_X9_liesOn 106 rfl) (Nat.le_of_ble_eq_true rfl) rfl ?_
                                refine zr_goto C (zdec_at dm_X9_liesOn 107 rfl) rfl ?_
                                obtain ⟨o99, h⟩ := h
                                obtain ⟨n100, q101, q102⟩ := h
                                exact zr_sub [2, 3, 4, 5, 6, 7, 8, 9, 0] rfl (ih56 n100 q101 _ _ q102 o99 hR94)
                              · have h := h.2 g98
                                refine zr_iconst C (zdec_at dm_X9_liesOn 104 rfl) ?_
                                exact zr_zreturn C rfl (by decide) (zdec_at dm_X9_liesOn 105 rfl) rfl ⟨(by decide), h⟩)
                          refine zr_if_eq C (zland_z _ _) (zdec_at dm_X9_liesOn 83 rfl) rfl (fun g103 => ?_) (fun g103 => ?_)
                          · have h := h.1 g103
                            refine zr_iload C 10 rfl (zdec_at dm_X9_liesOn 90 rfl) ?_
                            exact zr_sub [1, 2, 3, 4, 5, 6, 7, 8, 9, 0] rfl (h z76)
                          · have h := h.2 g103
                            refine zr_iload C 7 rfl (zdec_at dm_X9_liesOn 84 rfl) ?_
                            refine zr_iconst C (zdec_at dm_X9_liesOn 85 rfl) ?_
                            refine zr_isub C (zdec_at dm_X9_liesOn 86 rfl) ?_
                            refine zr_iload C 10 rfl (zdec_at dm_X9_liesOn 87 rfl) ?_
                            refine zr_isub C (zdec_at dm_X9_liesOn 88 rfl) ?_
                            refine zr_goto C (zdec_at dm_X9_liesOn 89 rfl) rfl ?_
                            obtain ⟨o104, h⟩ := h
                            exact zr_sub [1, 2, 3, 4, 5, 6, 7, 8, 9, 0] rfl (h o104))
                        refine zr_if_eq C (zland_z _ _) (zdec_at dm_X9_liesOn 71 rfl) rfl (fun g105 => ?_) (fun g105 => ?_)
                        · have h := h.1 g105
                          refine zr_iload C 10 rfl (zdec_at dm_X9_liesOn 78 rfl) ?_
                          exact zr_sub [1, 2, 3, 4, 5, 6, 7, 8, 9, 0] rfl (h z74)
                        · have h := h.2 g105
                          refine zr_iload C 6 rfl (zdec_at dm_X9_liesOn 72 rfl) ?_
                          refine zr_iconst C (zdec_at dm_X9_liesOn 73 rfl) ?_
                          refine zr_isub C (zdec_at dm_X9_liesOn 74 rfl) ?_
                          refine zr_iload C 10 rfl (zdec_at dm_X9_liesOn 75 rfl) ?_
                          refine zr_isub C (zdec_at dm_X9_liesOn 76 rfl) ?_
                          refine zr_goto C (zdec_at dm_X9_liesOn 77 rfl) rfl ?_
                          obtain ⟨o106, h⟩ := h
                          exact zr_sub [1, 2, 3, 4, 5, 6, 7, 8, 9, 0] rfl (h o106))
                      refine zr_if_eq C z2 (zdec_at dm_X9_liesOn 63 rfl) rfl (fun g107 => ?_) (fun g107 => ?_)
                      · have h := h.1 g107
                        refine zr_iload C 8 rfl (zdec_at dm_X9_liesOn 66 rfl) ?_
                        exact zr_sub [1, 2, 3, 4, 5, 6, 7, 8, 9, 0] rfl (h z34)
                      · have h := h.2 g107
                        refine zr_iload C 9 rfl (zdec_at dm_X9_liesOn 64 rfl) ?_
                        refine zr_goto C (zdec_at dm_X9_liesOn 65 rfl) rfl ?_
                        exact zr_sub [1, 2, 3, 4, 5, 6, 7, 8, 9, 0] rfl (h z52))
                    refine zr_if_eq C z2 (zdec_at dm_X9_liesOn 57 rfl) rfl (fun g108 => ?_) (fun g108 => ?_)
                    · have h := h.1 g108
                      refine zr_iload C 8 rfl (zdec_at dm_X9_liesOn 60 rfl) ?_
                      exact zr_sub [0, 1, 2, 3, 4, 5, 6, 7, 8] rfl (h z52)
                    · have h := h.2 g108
                      refine zr_iload C 7 rfl (zdec_at dm_X9_liesOn 58 rfl) ?_
                      refine zr_goto C (zdec_at dm_X9_liesOn 59 rfl) rfl ?_
                      exact zr_sub [0, 1, 2, 3, 4, 5, 6, 7, 8] rfl (h z34)
                exact zr_sub [1, 2, 3, 4, 5, 6, 7, 8, 0] rfl (lp57 n59 _ _ q60 (by decide) hR46)
            exact zr_sub [1, 2, 3, 4, 5, 6, 7, 0] rfl (lp39 n41 _ _ q42 (by decide) hR26)
          · have h := h.2 g32
            refine zr_iconst C (zdec_at dm_X9_liesOn 38 rfl) ?_
            exact zr_zreturn C rfl (by decide) (zdec_at dm_X9_liesOn 39 rfl) rfl ⟨(by decide), h⟩)
        refine zr_if_eq C z2 (zdec_at dm_X9_liesOn 33 rfl) rfl (fun g109 => ?_) (fun g109 => ?_)
        · have h := h.1 g109
          refine zr_iload C 6 rfl (zdec_at dm_X9_liesOn 36 rfl) ?_
          exact zr_sub [0, 1, 2, 3, 4, 5, 6] rfl (h z12)
        · have h := h.2 g109
          refine zr_iload C 5 rfl (zdec_at dm_X9_liesOn 34 rfl) ?_
          refine zr_goto C (zdec_at dm_X9_liesOn 35 rfl) rfl ?_
          exact zr_sub [0, 1, 2, 3, 4, 5, 6] rfl (h z6))
    refine zr_if_eq C z2 (zdec_at dm_X9_liesOn 23 rfl) rfl (fun g110 => ?_) (fun g110 => ?_)
    · have h := h.1 g110
      refine zr_iload C 1 rfl (zdec_at dm_X9_liesOn 26 rfl) ?_
      exact zr_sub [3, 4, 5, 6, 2, 1, 0] rfl (h z6)
    · have h := h.2 g110
      refine zr_iload C 0 rfl (zdec_at dm_X9_liesOn 24 rfl) ?_
      refine zr_goto C (zdec_at dm_X9_liesOn 25 rfl) rfl ?_
      exact zr_sub [3, 4, 5, 6, 2, 1, 0] rfl (h z12))
  refine zr_if_eq C (zland_z _ _) (zdec_at dm_X9_liesOn 3 rfl) rfl (fun g111 => ?_) (fun g111 => ?_)
  · have h := h.1 g111
    refine zr_iconst C (zdec_at dm_X9_liesOn 6 rfl) ?_
    exact zr_sub [0, 1, 2, 3] rfl (h (by decide))
  · have h := h.2 g111
    refine zr_iconst C (zdec_at dm_X9_liesOn 4 rfl) ?_
    refine zr_goto C (zdec_at dm_X9_liesOn 5 rfl) rfl ?_
    exact zr_sub [0, 1, 2, 3] rfl (h (by decide))

set_option maxHeartbeats 400000 in
set_option maxRecDepth 100000 in
theorem sn_X9_isIn {pr_X2_faceAt : Int → Int → zM → Prop} {po_X2_faceAt : Int → Int → zM → Int → zM → Prop} (hS_X2_faceAt : zSnd zS 145 0 0 yX2_faceAt cX2_faceAt 3 (some .int) 0 [2, 0, 0] (F_X2_faceAt pr_X2_faceAt po_X2_faceAt)) : zSnd zS 145 0 0 yX9_isIn cX9_isIn 4 (some .boolean) 1 [2, 0, 0, 0] (fun xs P M => ∃ a1 a2 a3 : Int, xs = [48, a1, a2, a3] ∧ vc_X9_isIn pr_X2_faceAt po_X2_faceAt a1 a2 a3 P M) := by
  refine zSnd.of rfl (fun ad xs hz => Nat.le_trans (Nat.le_of_eq (zlen ad _ xs hz)) (by decide)) ?_
  intro Γ C _ _ xs M hz hF
  obtain ⟨a1, a2, a3, rfl, h⟩ := hF
  have zz_a1 := zall_h (zall_t hz) (by decide)
  have zz_a2 := zall_h (zall_t (zall_t hz)) (by decide)
  have zz_a3 := zall_h (zall_t (zall_t (zall_t hz))) (by decide)
  refine zr_rng (fun hR => ?_)
  have C : zC Γ mu_X9_isIn := C
  change zV Γ mu_X9_isIn (145, 0, 0) 0 [(0, zRf (zad Γ) 48), (1, zI a1), (2, zI a2), (3, zI a3)] [] M
  change vc_X9_isIn pr_X2_faceAt po_X2_faceAt a1 a2 a3 _ M at h
  unfold vc_X9_isIn at h
  refine zr_aload_n C 0 rfl (zdec_at dm_X9_isIn 0 rfl) rfl ?_
  refine zr_getr (q := 5) C fk_RX9_15 fi_48_0 (zdec_at dm_X9_isIn 1 rfl) ?_
  refine zr_aload_n C 0 rfl (zdec_at dm_X9_isIn 2 rfl) rfl ?_
  refine zr_getr (q := 5) C fk_RX9_15 fi_48_0 (zdec_at dm_X9_isIn 3 rfl) ?_
  refine zr_getr (q := 8) C fk_RX9_82 fi_5_5 (zdec_at dm_X9_isIn 4 rfl) ?_
  refine zr_iload_n C 1 rfl (zdec_at dm_X9_isIn 5 rfl) rfl ?_
  obtain ⟨o1, h⟩ := h
  refine zr_iald C ai_8 o1 (zdec_at dm_X9_isIn 6 rfl) ?_
  refine zr_iload_n C 2 rfl (zdec_at dm_X9_isIn 7 rfl) rfl ?_
  refine zr_iadd C (zdec_at dm_X9_isIn 8 rfl) ?_
  refine zr_aload_n C 0 rfl (zdec_at dm_X9_isIn 9 rfl) rfl ?_
  refine zr_getr (q := 5) C fk_RX9_15 fi_48_0 (zdec_at dm_X9_isIn 10 rfl) ?_
  refine zr_getr (q := 9) C fk_RX9_85 fi_5_6 (zdec_at dm_X9_isIn 11 rfl) ?_
  refine zr_iload_n C 1 rfl (zdec_at dm_X9_isIn 12 rfl) rfl ?_
  refine zr_iald C ai_9 o1 (zdec_at dm_X9_isIn 13 rfl) ?_
  refine zr_iload_n C 3 rfl (zdec_at dm_X9_isIn 14 rfl) rfl ?_
  refine zr_iadd C (zdec_at dm_X9_isIn 15 rfl) ?_
  obtain ⟨o2, h⟩ := h
  obtain ⟨o3, h⟩ := h
  obtain ⟨g9, h⟩ := h
  refine zr_callV C [((M 8 a1) + a2), ((M 9 a1) + a3)] hS_X2_faceAt ck_RX9_46 iv_X2_faceAt vc_X2 oc_5 rfl rfl (zdec_at dm_X9_isIn 16 rfl) ⟨rfl, rfl, rfl, rfl⟩ ⟨by decide, by decide⟩ (Nat.le_of_ble_eq_true rfl) (zall_0 o3 (zall_0 o2 zall_n)) ?_
  refine ⟨_, _, rfl, g9, fun r4 M5 p8 z7 hR6 => ?_⟩
  have h := h r4 M5 p8 z7 hR6
  show zV Γ mu_X9_isIn (145, 0, 0) 29 [(0, zRf (zad Γ) 48), (1, zI a1), (2, zI a2), (3, zI a3)] [zI r4] M5
  refine zr_iload_n C 1 rfl (zdec_at dm_X9_isIn 17 rfl) rfl ?_
  refine zr_icmp_ne C z7 zz_a1 (zdec_at dm_X9_isIn 18 rfl) rfl (fun g10 => ?_) (fun g10 => ?_)
  · have h := h.1 g10
    refine zr_iconst C (zdec_at dm_X9_isIn 21 rfl) ?_
    exact zr_zreturn C rfl (by decide) (zdec_at dm_X9_isIn 22 rfl) rfl ⟨(by decide), h⟩
  · have h := h.2 g10
    refine zr_iconst C (zdec_at dm_X9_isIn 19 rfl) ?_
    refine zr_goto C (zdec_at dm_X9_isIn 20 rfl) rfl ?_
    exact zr_zreturn C rfl (by decide) (zdec_at dm_X9_isIn 22 rfl) rfl ⟨(by decide), h⟩

set_option maxHeartbeats 400000 in
set_option maxRecDepth 100000 in
theorem sn_X9_difference {pr_X2_width : Int → zM → Prop} {po_X2_width : Int → zM → Int → zM → Prop} {pr_X2_height : Int → zM → Prop} {po_X2_height : Int → zM → Int → zM → Prop} {pr_X9_isIn : Int → Int → Int → zM → Prop} {po_X9_isIn : Int → Int → Int → zM → Int → zM → Prop} (hS_X2_width : zSnd zS 145 0 0 yX2_width cX2_width 2 (some .int) 0 [2, 0] (F_X2_width pr_X2_width po_X2_width)) (hS_X2_height : zSnd zS 145 0 0 yX2_height cX2_height 2 (some .int) 0 [2, 0] (F_X2_height pr_X2_height po_X2_height)) (hS_X9_isIn : zSnd zS 145 0 0 yX9_isIn cX9_isIn 4 (some .boolean) 1 [2, 0, 0, 0] (F_X9_isIn pr_X9_isIn po_X9_isIn)) : zSnd zS 145 0 0 yX9_difference cX9_difference 6 (some .int) 2 [2, 0, 0] (fun xs P M => ∃ a1 a2 : Int, xs = [48, a1, a2] ∧ vc_X9_difference pr_X2_width po_X2_width pr_X2_height po_X2_height pr_X9_isIn po_X9_isIn a1 a2 P M) := by
  refine zSnd.of rfl (fun ad xs hz => Nat.le_trans (Nat.le_of_eq (zlen ad _ xs hz)) (by decide)) ?_
  intro Γ C _ _ xs M hz hF
  obtain ⟨a1, a2, rfl, h⟩ := hF
  have zz_a1 := zall_h (zall_t hz) (by decide)
  have zz_a2 := zall_h (zall_t (zall_t hz)) (by decide)
  refine zr_rng (fun hR => ?_)
  have C : zC Γ mu_X9_difference := C
  change zV Γ mu_X9_difference (145, 0, 0) 0 [(0, zRf (zad Γ) 48), (1, zI a1), (2, zI a2)] [] M
  change vc_X9_difference pr_X2_width po_X2_width pr_X2_height po_X2_height pr_X9_isIn po_X9_isIn a1 a2 _ M at h
  unfold vc_X9_difference at h
  refine zr_aload_n C 0 rfl (zdec_at dm_X9_difference 0 rfl) rfl ?_
  refine zr_getr (q := 5) C fk_RX9_15 fi_48_0 (zdec_at dm_X9_difference 1 rfl) ?_
  refine zr_iload_n C 1 rfl (zdec_at dm_X9_difference 2 rfl) rfl ?_
  obtain ⟨g6, h⟩ := h
  refine zr_callV C [a1] hS_X2_width ck_RX9_72 iv_X2_width vc_X2 oc_5 rfl rfl (zdec_at dm_X9_difference 3 rfl) ⟨rfl, rfl, rfl, rfl⟩ ⟨by decide, by decide⟩ (Nat.le_of_ble_eq_true rfl) (zall_0 zz_a1 zall_n) ?_
  refine ⟨_, rfl, g6, fun r1 M2 p5 z4 hR3 => ?_⟩
  have h := h r1 M2 p5 z4 hR3
  show zV Γ mu_X9_difference (145, 0, 0) 8 [(0, zRf (zad Γ) 48), (1, zI a1), (2, zI a2)] [zI r1] M2
  refine zr_aload_n C 0 rfl (zdec_at dm_X9_difference 4 rfl) rfl ?_
  refine zr_getr (q := 5) C fk_RX9_15 fi_48_0 (zdec_at dm_X9_difference 5 rfl) ?_
  refine zr_iload_n C 2 rfl (zdec_at dm_X9_difference 6 rfl) rfl ?_
  obtain ⟨g12, h⟩ := h
  refine zr_callV C [a2] hS_X2_width ck_RX9_72 iv_X2_width vc_X2 oc_5 rfl rfl (zdec_at dm_X9_difference 7 rfl) ⟨rfl, rfl, rfl, rfl⟩ ⟨by decide, by decide⟩ (Nat.le_of_ble_eq_true rfl) (zall_0 zz_a2 zall_n) ?_
  refine ⟨_, rfl, g12, fun r7 M8 p11 z10 hR9 => ?_⟩
  have h := h r7 M8 p11 z10 hR9
  show zV Γ mu_X9_difference (145, 0, 0) 16 [(0, zRf (zad Γ) 48), (1, zI a1), (2, zI a2)] [zI r7, zI r1] M8
  refine zr_icmp_ne C z4 z10 (zdec_at dm_X9_difference 8 rfl) rfl (fun g13 => ?_) (fun g13 => ?_)
  · have h := h.1 g13
    refine zr_bipush C (zdec_at dm_X9_difference 18 rfl) (by decide) ?_
    exact zr_ireturn C rfl (zdec_at dm_X9_difference 19 rfl) rfl ⟨(by decide), h⟩
  · have h := h.2 g13
    refine zr_aload_n C 0 rfl (zdec_at dm_X9_difference 9 rfl) rfl ?_
    refine zr_getr (q := 5) C fk_RX9_15 fi_48_0 (zdec_at dm_X9_difference 10 rfl) ?_
    refine zr_iload_n C 1 rfl (zdec_at dm_X9_difference 11 rfl) rfl ?_
    obtain ⟨g19, h⟩ := h
    refine zr_callV C [a1] hS_X2_height ck_RX9_76 iv_X2_height vc_X2 oc_5 rfl rfl (zdec_at dm_X9_difference 12 rfl) ⟨rfl, rfl, rfl, rfl⟩ ⟨by decide, by decide⟩ (Nat.le_of_ble_eq_true rfl) (zall_0 zz_a1 zall_n) ?_
    refine ⟨_, rfl, g19, fun r14 M15 p18 z17 hR16 => ?_⟩
    have h := h r14 M15 p18 z17 hR16
    show zV Γ mu_X9_difference (145, 0, 0) 27 [(0, zRf (zad Γ) 48), (1, zI a1), (2, zI a2)] [zI r14] M15
    refine zr_aload_n C 0 rfl (zdec_at dm_X9_difference 13 rfl) rfl ?_
    refine zr_getr (q := 5) C fk_RX9_15 fi_48_0 (zdec_at dm_X9_difference 14 rfl) ?_
    refine zr_iload_n C 2 rfl (zdec_at dm_X9_difference 15 rfl) rfl ?_
    obtain ⟨g25, h⟩ := h
    refine zr_callV C [a2] hS_X2_height ck_RX9_76 iv_X2_height vc_X2 oc_5 rfl rfl (zdec_at dm_X9_difference 16 rfl) ⟨rfl, rfl, rfl, rfl⟩ ⟨by decide, by decide⟩ (Nat.le_of_ble_eq_true rfl) (zall_0 zz_a2 zall_n) ?_
    refine ⟨_, rfl, g25, fun r20 M21 p24 z23 hR22 => ?_⟩
    have h := h r20 M21 p24 z23 hR22
    show zV Γ mu_X9_difference (145, 0, 0) 35 [(0, zRf (zad Γ) 48), (1, zI a1), (2, zI a2)] [zI r20, zI r14] M21
    refine zr_icmp_eq C z17 z23 (zdec_at dm_X9_difference 17 rfl) rfl (fun g26 => ?_) (fun g26 => ?_)
    · have h := h.1 g26
      refine zr_iconst C (zdec_at dm_X9_difference 20 rfl) ?_
      refine zr_istore_n (L1 := [(3, zI 0), (0, zRf (zad Γ) 48), (1, zI a1), (2, zI a2)]) C (zdec_at dm_X9_difference 21 rfl) rfl (Nat.le_of_ble_eq_true rfl) rfl ?_
      refine zr_iconst C (zdec_at dm_X9_difference 22 rfl) ?_
      refine zr_istore (L1 := [(4, zI 0), (3, zI 0), (0, zRf (zad Γ) 48), (1, zI a1), (2, zI a2)]) C (zdec_at dm_X9_difference 23 rfl) (Nat.le_of_ble_eq_true rfl) rfl ?_
      obtain ⟨I46, ⟨n37, q38⟩, hI36⟩ := h
      have lp35 : ∀ (n33 : Nat) (v27 : Int) (v28 : Int) (M31 : zM), I46 v27 v28 M31 n33 → zin v27 → zin v28 → zRng M31 → zV Γ mu_X9_difference (145, 0, 0) 46 [(0, zRf (zad Γ) 48), (1, zI a1), (2, zI a2), (3, zI v27), (4, zI v28)] [] M31 := by
        intro n33
        induction n33 using Nat.strongRecOn with
        | _ n33 ih34 =>
        intro v27 v28 M31 q39 z29 z30 hR32
        have h := hI36 v27 v28 M31 n33 q39 z29 z30 hR32
        refine zr_iload C 4 rfl (zdec_at dm_X9_difference 24 rfl) ?_
        refine zr_aload_n C 0 rfl (zdec_at dm_X9_difference 25 rfl) rfl ?_
        refine zr_getr (q := 5) C fk_RX9_15 fi_48_0 (zdec_at dm_X9_difference 26 rfl) ?_
        refine zr_iload_n C 1 rfl (zdec_at dm_X9_difference 27 rfl) rfl ?_
        obtain ⟨g45, h⟩ := h
        refine zr_callV C [a1] hS_X2_height ck_RX9_76 iv_X2_height vc_X2 oc_5 rfl rfl (zdec_at dm_X9_difference 28 rfl) ⟨rfl, rfl, rfl, rfl⟩ ⟨by decide, by decide⟩ (Nat.le_of_ble_eq_true rfl) (zall_0 zz_a1 zall_n) ?_
        refine ⟨_, rfl, g45, fun r40 M41 p44 z43 hR42 => ?_⟩
        have h := h r40 M41 p44 z43 hR42
        show zV Γ mu_X9_difference (145, 0, 0) 56 [(0, zRf (zad Γ) 48), (1, zI a1), (2, zI a2), (3, zI v27), (4, zI v28)] [zI r40, zI v28] M41
        refine zr_icmp_ge C z30 z43 (zdec_at dm_X9_difference 29 rfl) rfl (fun g46 => ?_) (fun g46 => ?_)
        · have h := h.1 g46
          refine zr_iload_n C 3 rfl (zdec_at dm_X9_difference 54 rfl) rfl ?_
          exact zr_ireturn C rfl (zdec_at dm_X9_difference 55 rfl) rfl ⟨z29, h⟩
        · have h := h.2 g46
          refine zr_iconst C (zdec_at dm_X9_difference 30 rfl) ?_
          refine zr_istore (L1 := [(5, zI 0), (0, zRf (zad Γ) 48), (1, zI a1), (2, zI a2), (3, zI v27), (4, zI v28)]) C (zdec_at dm_X9_difference 31 rfl) (Nat.le_of_ble_eq_true rfl) rfl ?_
          obtain ⟨I62, ⟨n57, q58⟩, hI56⟩ := h
          have lp55 : ∀ (n53 : Nat) (v47 : Int) (v48 : Int) (M51 : zM), I62 v47 v48 M51 n53 → zin v47 → zin v48 → zRng M51 → zV Γ mu_X9_difference (145, 0, 0) 62 [(0, zRf (zad Γ) 48), (1, zI a1), (2, zI a2), (3, zI v47), (4, zI v28), (5, zI v48)] [] M51 := by
            intro n53
            induction n53 using Nat.strongRecOn with
            | _ n53 ih54 =>
            intro v47 v48 M51 q59 z49 z50 hR52
            have h := hI56 v47 v48 M51 n53 q59 z49 z50 hR52
            refine zr_iload C 5 rfl (zdec_at dm_X9_difference 32 rfl) ?_
            refine zr_aload_n C 0 rfl (zdec_at dm_X9_difference 33 rfl) rfl ?_
            refine zr_getr (q := 5) C fk_RX9_15 fi_48_0 (zdec_at dm_X9_difference 34 rfl) ?_
            refine zr_iload_n C 1 rfl (zdec_at dm_X9_difference 35 rfl) rfl ?_
            obtain ⟨g65, h⟩ := h
            refine zr_callV C [a1] hS_X2_width ck_RX9_72 iv_X2_width vc_X2 oc_5 rfl rfl (zdec_at dm_X9_difference 36 rfl) ⟨rfl, rfl, rfl, rfl⟩ ⟨by decide, by decide⟩ (Nat.le_of_ble_eq_true rfl) (zall_0 zz_a1 zall_n) ?_
            refine ⟨_, rfl, g65, fun r60 M61 p64 z63 hR62 => ?_⟩
            have h := h r60 M61 p64 z63 hR62
            show zV Γ mu_X9_difference (145, 0, 0) 72 [(0, zRf (zad Γ) 48), (1, zI a1), (2, zI a2), (3, zI v47), (4, zI v28), (5, zI v48)] [zI r60, zI v48] M61
            refine zr_icmp_ge C z50 z63 (zdec_at dm_X9_difference 37 rfl) rfl (fun g66 => ?_) (fun g66 => ?_)
            · have h := h.1 g66
              refine zr_iinc (L1 := [(4, zI (v28 + 1)), (0, zRf (zad Γ) 48), (1, zI a1), (2, zI a2), (3, zI v47), (5, zI v48)]) C 4 rfl (zdec_at dm_X9_difference 52 rfl) (Nat.le_of_ble_eq_true rfl) rfl ?_
              refine zr_goto C (zdec_at dm_X9_difference 53 rfl) rfl ?_
              obtain ⟨o67, h⟩ := h
              obtain ⟨n68, q69, q70⟩ := h
              exact zr_sub [1, 2, 3, 4, 0] rfl (ih34 n68 q69 _ _ _ q70 z49 o67 hR62)
            · have h := h.2 g66
              refine zr_aload_n C 0 rfl (zdec_at dm_X9_difference 38 rfl) rfl ?_
              refine zr_iload_n C 1 rfl (zdec_at dm_X9_difference 39 rfl) rfl ?_
              refine zr_iload C 5 rfl (zdec_at dm_X9_difference 40 rfl) ?_
              refine zr_iload C 4 rfl (zdec_at dm_X9_difference 41 rfl) ?_
              obtain ⟨g76, h⟩ := h
              refine zr_callV C [a1, v48, v28] hS_X9_isIn ck_RX9_79 iv_X9_isIn vc_X9 oc_48 rfl rfl (zdec_at dm_X9_difference 42 rfl) ⟨rfl, rfl, rfl, rfl⟩ ⟨by decide, by decide⟩ (Nat.le_of_ble_eq_true rfl) (zall_0 zz_a1 (zall_0 z50 (zall_0 z30 zall_n))) ?_
              refine ⟨_, _, _, rfl, g76, fun r71 M72 p75 z74 hR73 => ?_⟩
              have h := h r71 M72 p75 z74 hR73
              show zV Γ mu_X9_difference (145, 0, 0) 84 [(0, zRf (zad Γ) 48), (1, zI a1), (2, zI a2), (3, zI v47), (4, zI v28), (5, zI v48)] [zI r71] M72
              refine zr_aload_n C 0 rfl (zdec_at dm_X9_difference 43 rfl) rfl ?_
              refine zr_iload_n C 2 rfl (zdec_at dm_X9_difference 44 rfl) rfl ?_
              refine zr_iload C 5 rfl (zdec_at dm_X9_difference 45 rfl) ?_
              refine zr_iload C 4 rfl (zdec_at dm_X9_difference 46 rfl) ?_
              obtain ⟨g82, h⟩ := h
              refine zr_callV C [a2, v48, v28] hS_X9_isIn ck_RX9_79 iv_X9_isIn vc_X9 oc_48 rfl rfl (zdec_at dm_X9_difference 47 rfl) ⟨rfl, rfl, rfl, rfl⟩ ⟨by decide, by decide⟩ (Nat.le_of_ble_eq_true rfl) (zall_0 zz_a2 (zall_0 z50 (zall_0 z30 zall_n))) ?_
              refine ⟨_, _, _, rfl, g82, fun r77 M78 p81 z80 hR79 => ?_⟩
              have h := h r77 M78 p81 z80 hR79
              show zV Γ mu_X9_difference (145, 0, 0) 93 [(0, zRf (zad Γ) 48), (1, zI a1), (2, zI a2), (3, zI v47), (4, zI v28), (5, zI v48)] [zI r77, zI r71] M78
              refine zr_icmp_eq C z74 z80 (zdec_at dm_X9_difference 48 rfl) rfl (fun g83 => ?_) (fun g83 => ?_)
              · have h := h.1 g83
                refine zr_iinc (L1 := [(5, zI (v48 + 1)), (0, zRf (zad Γ) 48), (1, zI a1), (2, zI a2), (3, zI v47), (4, zI v28)]) C 5 rfl (zdec_at dm_X9_difference 50 rfl) (Nat.le_of_ble_eq_true rfl) rfl ?_
                refine zr_goto C (zdec_at dm_X9_difference 51 rfl) rfl ?_
                obtain ⟨o84, h⟩ := h
                obtain ⟨n85, q86, q87⟩ := h
                exact zr_sub [1, 2, 3, 4, 5, 0] rfl (ih54 n85 q86 _ _ _ q87 z49 o84 hR79)
              · have h := h.2 g83
                refine zr_iinc (L1 := [(3, zI (v47 + 1)), (0, zRf (zad Γ) 48), (1, zI a1), (2, zI a2), (4, zI v28), (5, zI v48)]) C 3 rfl (zdec_at dm_X9_difference 49 rfl) (Nat.le_of_ble_eq_true rfl) rfl ?_
                refine zr_iinc (L1 := [(5, zI (v48 + 1)), (3, zI (v47 + 1)), (0, zRf (zad Γ) 48), (1, zI a1), (2, zI a2), (4, zI v28)]) C 5 rfl (zdec_at dm_X9_difference 50 rfl) (Nat.le_of_ble_eq_true rfl) rfl ?_
                refine zr_goto C (zdec_at dm_X9_difference 51 rfl) rfl ?_
                obtain ⟨o88, h⟩ := h
                obtain ⟨o89, h⟩ := h
                obtain ⟨n90, q91, q92⟩ := h
                exact zr_sub [2, 3, 4, 1, 5, 0] rfl (ih54 n90 q91 _ _ _ q92 o88 o89 hR79)
          exact zr_sub [1, 2, 3, 4, 5, 0] rfl (lp55 n57 _ _ _ q58 z29 (by decide) hR42)
      exact zr_sub [2, 3, 4, 1, 0] rfl (lp35 n37 _ _ _ q38 (by decide) (by decide) hR22)
    · have h := h.2 g26
      refine zr_bipush C (zdec_at dm_X9_difference 18 rfl) (by decide) ?_
      exact zr_ireturn C rfl (zdec_at dm_X9_difference 19 rfl) rfl ⟨(by decide), h⟩

set_option maxHeartbeats 400000 in
set_option maxRecDepth 100000 in
theorem sn_X9_firstLike {pr_X9_areLike : Int → Int → zM → Prop} {po_X9_areLike : Int → Int → zM → Int → zM → Prop} (hS_X9_areLike : zSnd zS 145 0 0 yX9_areLike cX9_areLike 4 (some .boolean) 3 [2, 0, 0] (F_X9_areLike pr_X9_areLike po_X9_areLike)) : zSnd zS 145 0 0 yX9_firstLike cX9_firstLike 3 (some .int) 4 [2, 0] (fun xs P M => ∃ a1 : Int, xs = [48, a1] ∧ vc_X9_firstLike pr_X9_areLike po_X9_areLike a1 P M) := by
  refine zSnd.of rfl (fun ad xs hz => Nat.le_trans (Nat.le_of_eq (zlen ad _ xs hz)) (by decide)) ?_
  intro Γ C _ _ xs M hz hF
  obtain ⟨a1, rfl, h⟩ := hF
  have zz_a1 := zall_h (zall_t hz) (by decide)
  refine zr_rng (fun hR => ?_)
  have C : zC Γ mu_X9_firstLike := C
  change zV Γ mu_X9_firstLike (145, 0, 0) 0 [(0, zRf (zad Γ) 48), (1, zI a1)] [] M
  change vc_X9_firstLike pr_X9_areLike po_X9_areLike a1 _ M at h
  unfold vc_X9_firstLike at h
  refine zr_iconst C (zdec_at dm_X9_firstLike 0 rfl) ?_
  refine zr_istore_n (L1 := [(2, zI 0), (0, zRf (zad Γ) 48), (1, zI a1)]) C (zdec_at dm_X9_firstLike 1 rfl) rfl (Nat.le_of_ble_eq_true rfl) rfl ?_
  obtain ⟨I2, ⟨n9, q10⟩, hI8⟩ := h
  have lp7 : ∀ (n5 : Nat) (v1 : Int) (M3 : zM), I2 v1 M3 n5 → zin v1 → zRng M3 → zV Γ mu_X9_firstLike (145, 0, 0) 2 [(0, zRf (zad Γ) 48), (1, zI a1), (2, zI v1)] [] M3 := by
    intro n5
    induction n5 using Nat.strongRecOn with
    | _ n5 ih6 =>
    intro v1 M3 q11 z2 hR4
    have h := hI8 v1 M3 n5 q11 z2 hR4
    refine zr_iload_n C 2 rfl (zdec_at dm_X9_firstLike 2 rfl) rfl ?_
    refine zr_iload_n C 1 rfl (zdec_at dm_X9_firstLike 3 rfl) rfl ?_
    refine zr_icmp_ge C z2 zz_a1 (zdec_at dm_X9_firstLike 4 rfl) rfl (fun g12 => ?_) (fun g12 => ?_)
    · have h := h.1 g12
      refine zr_iload_n C 1 rfl (zdec_at dm_X9_firstLike 14 rfl) rfl ?_
      exact zr_ireturn C rfl (zdec_at dm_X9_firstLike 15 rfl) rfl ⟨zz_a1, h⟩
    · have h := h.2 g12
      refine zr_aload_n C 0 rfl (zdec_at dm_X9_firstLike 5 rfl) rfl ?_
      refine zr_iload_n C 2 rfl (zdec_at dm_X9_firstLike 6 rfl) rfl ?_
      refine zr_iload_n C 1 rfl (zdec_at dm_X9_firstLike 7 rfl) rfl ?_
      obtain ⟨g18, h⟩ := h
      refine zr_callV C [v1, a1] hS_X9_areLike ck_RX9_88 iv_X9_areLike vc_X9 oc_48 rfl rfl (zdec_at dm_X9_firstLike 8 rfl) ⟨rfl, rfl, rfl, rfl⟩ ⟨by decide, by decide⟩ (Nat.le_of_ble_eq_true rfl) (zall_0 z2 (zall_0 zz_a1 zall_n)) ?_
      refine ⟨_, _, rfl, g18, fun r13 M14 p17 z16 hR15 => ?_⟩
      have h := h r13 M14 p17 z16 hR15
      show zV Γ mu_X9_firstLike (145, 0, 0) 13 [(0, zRf (zad Γ) 48), (1, zI a1), (2, zI v1)] [zI r13] M14
      refine zr_if_eq C z16 (zdec_at dm_X9_firstLike 9 rfl) rfl (fun g19 => ?_) (fun g19 => ?_)
      · have h := h.1 g19
        refine zr_iinc (L1 := [(2, zI (v1 + 1)), (0, zRf (zad Γ) 48), (1, zI a1)]) C 2 rfl (zdec_at dm_X9_firstLike 12 rfl) (Nat.le_of_ble_eq_true rfl) rfl ?_
        refine zr_goto C (zdec_at dm_X9_firstLike 13 rfl) rfl ?_
        obtain ⟨o20, h⟩ := h
        obtain ⟨n21, q22, q23⟩ := h
        exact zr_sub [1, 2, 0] rfl (ih6 n21 q22 _ _ q23 o20 hR15)
      · have h := h.2 g19
        refine zr_iload_n C 2 rfl (zdec_at dm_X9_firstLike 10 rfl) rfl ?_
        exact zr_ireturn C rfl (zdec_at dm_X9_firstLike 11 rfl) rfl ⟨z2, h⟩
  exact zr_sub [1, 2, 0] rfl (lp7 n9 _ _ q10 (by decide) hR)

set_option maxHeartbeats 400000 in
set_option maxRecDepth 100000 in
theorem sn_X9_countLike {pr_X9_areLike : Int → Int → zM → Prop} {po_X9_areLike : Int → Int → zM → Int → zM → Prop} (hS_X9_areLike : zSnd zS 145 0 0 yX9_areLike cX9_areLike 4 (some .boolean) 3 [2, 0, 0] (F_X9_areLike pr_X9_areLike po_X9_areLike)) : zSnd zS 145 0 0 yX9_countLike cX9_countLike 4 (some .int) 4 [2, 0] (fun xs P M => ∃ a1 : Int, xs = [48, a1] ∧ vc_X9_countLike pr_X9_areLike po_X9_areLike a1 P M) := by
  refine zSnd.of rfl (fun ad xs hz => Nat.le_trans (Nat.le_of_eq (zlen ad _ xs hz)) (by decide)) ?_
  intro Γ C _ _ xs M hz hF
  obtain ⟨a1, rfl, h⟩ := hF
  have zz_a1 := zall_h (zall_t hz) (by decide)
  refine zr_rng (fun hR => ?_)
  have C : zC Γ mu_X9_countLike := C
  change zV Γ mu_X9_countLike (145, 0, 0) 0 [(0, zRf (zad Γ) 48), (1, zI a1)] [] M
  change vc_X9_countLike pr_X9_areLike po_X9_areLike a1 _ M at h
  unfold vc_X9_countLike at h
  refine zr_iconst C (zdec_at dm_X9_countLike 0 rfl) ?_
  refine zr_istore_n (L1 := [(2, zI 0), (0, zRf (zad Γ) 48), (1, zI a1)]) C (zdec_at dm_X9_countLike 1 rfl) rfl (Nat.le_of_ble_eq_true rfl) rfl ?_
  refine zr_iconst C (zdec_at dm_X9_countLike 2 rfl) ?_
  refine zr_istore_n (L1 := [(3, zI 0), (2, zI 0), (0, zRf (zad Γ) 48), (1, zI a1)]) C (zdec_at dm_X9_countLike 3 rfl) rfl (Nat.le_of_ble_eq_true rfl) rfl ?_
  obtain ⟨I4, ⟨n11, q12⟩, hI10⟩ := h
  have lp9 : ∀ (n7 : Nat) (v1 : Int) (v2 : Int) (M5 : zM), I4 v1 v2 M5 n7 → zin v1 → zin v2 → zRng M5 → zV Γ mu_X9_countLike (145, 0, 0) 4 [(0, zRf (zad Γ) 48), (1, zI a1), (2, zI v1), (3, zI v2)] [] M5 := by
    intro n7
    induction n7 using Nat.strongRecOn with
    | _ n7 ih8 =>
    intro v1 v2 M5 q13 z3 z4 hR6
    have h := hI10 v1 v2 M5 n7 q13 z3 z4 hR6
    refine zr_iload_n C 3 rfl (zdec_at dm_X9_countLike 4 rfl) rfl ?_
    refine zr_aload_n C 0 rfl (zdec_at dm_X9_countLike 5 rfl) rfl ?_
    refine zr_getr (q := 5) C fk_RX9_15 fi_48_0 (zdec_at dm_X9_countLike 6 rfl) ?_
    refine zr_geti C fk_RX9_92 fi_5_2 (zdec_at dm_X9_countLike 7 rfl) ?_
    refine zr_icmp_ge C z4 (hR6 _ _) (zdec_at dm_X9_countLike 8 rfl) rfl (fun g14 => ?_) (fun g14 => ?_)
    · have h := h.1 g14
      refine zr_iload_n C 2 rfl (zdec_at dm_X9_countLike 17 rfl) rfl ?_
      exact zr_ireturn C rfl (zdec_at dm_X9_countLike 18 rfl) rfl ⟨z3, h⟩
    · have h := h.2 g14
      refine zr_aload_n C 0 rfl (zdec_at dm_X9_countLike 9 rfl) rfl ?_
      refine zr_iload_n C 3 rfl (zdec_at dm_X9_countLike 10 rfl) rfl ?_
      refine zr_iload_n C 1 rfl (zdec_at dm_X9_countLike 11 rfl) rfl ?_
      obtain ⟨g20, h⟩ := h
      refine zr_callV C [v2, a1] hS_X9_areLike ck_RX9_88 iv_X9_areLike vc_X9 oc_48 rfl rfl (zdec_at dm_X9_countLike 12 rfl) ⟨rfl, rfl, rfl, rfl⟩ ⟨by decide, by decide⟩ (Nat.le_of_ble_eq_true rfl) (zall_0 z4 (zall_0 zz_a1 zall_n)) ?_
      refine ⟨_, _, rfl, g20, fun r15 M16 p19 z18 hR17 => ?_⟩
      have h := h r15 M16 p19 z18 hR17
      show zV Γ mu_X9_countLike (145, 0, 0) 21 [(0, zRf (zad Γ) 48), (1, zI a1), (2, zI v1), (3, zI v2)] [zI r15] M16
      refine zr_if_eq C z18 (zdec_at dm_X9_countLike 13 rfl) rfl (fun g21 => ?_) (fun g21 => ?_)
      · have h := h.1 g21
        refine zr_iinc (L1 := [(3, zI (v2 + 1)), (0, zRf (zad Γ) 48), (1, zI a1), (2, zI v1)]) C 3 rfl (zdec_at dm_X9_countLike 15 rfl) (Nat.le_of_ble_eq_true rfl) rfl ?_
        refine zr_goto C (zdec_at dm_X9_countLike 16 rfl) rfl ?_
        obtain ⟨o22, h⟩ := h
        obtain ⟨n23, q24, q25⟩ := h
        exact zr_sub [1, 2, 3, 0] rfl (ih8 n23 q24 _ _ _ q25 z3 o22 hR17)
      · have h := h.2 g21
        refine zr_iinc (L1 := [(2, zI (v1 + 1)), (0, zRf (zad Γ) 48), (1, zI a1), (3, zI v2)]) C 2 rfl (zdec_at dm_X9_countLike 14 rfl) (Nat.le_of_ble_eq_true rfl) rfl ?_
        refine zr_iinc (L1 := [(3, zI (v2 + 1)), (2, zI (v1 + 1)), (0, zRf (zad Γ) 48), (1, zI a1)]) C 3 rfl (zdec_at dm_X9_countLike 15 rfl) (Nat.le_of_ble_eq_true rfl) rfl ?_
        refine zr_goto C (zdec_at dm_X9_countLike 16 rfl) rfl ?_
        obtain ⟨o26, h⟩ := h
        obtain ⟨o27, h⟩ := h
        obtain ⟨n28, q29, q30⟩ := h
        exact zr_sub [2, 3, 1, 0] rfl (ih8 n28 q29 _ _ _ q30 o26 o27 hR17)
  exact zr_sub [2, 3, 1, 0] rfl (lp9 n11 _ _ _ q12 (by decide) (by decide) hR)

set_option maxHeartbeats 400000 in
set_option maxRecDepth 100000 in
theorem sn_X9_countLeaders {pr_X9_firstLike : Int → zM → Prop} {po_X9_firstLike : Int → zM → Int → zM → Prop} (hS_X9_firstLike : zSnd zS 145 0 0 yX9_firstLike cX9_firstLike 3 (some .int) 4 [2, 0] (F_X9_firstLike pr_X9_firstLike po_X9_firstLike)) : zSnd zS 145 0 0 yX9_countLeaders cX9_countLeaders 3 (some .int) 5 [2] (fun xs P M => xs = [48] ∧ vc_X9_countLeaders pr_X9_firstLike po_X9_firstLike P M) := by
  refine zSnd.of rfl (fun ad xs hz => Nat.le_trans (Nat.le_of_eq (zlen ad _ xs hz)) (by decide)) ?_
  intro Γ C _ _ xs M hz hF
  obtain ⟨rfl, h⟩ := hF
  refine zr_rng (fun hR => ?_)
  have C : zC Γ mu_X9_countLeaders := C
  change zV Γ mu_X9_countLeaders (145, 0, 0) 0 [(0, zRf (zad Γ) 48)] [] M
  change vc_X9_countLeaders pr_X9_firstLike po_X9_firstLike _ M at h
  unfold vc_X9_countLeaders at h
  refine zr_iconst C (zdec_at dm_X9_countLeaders 0 rfl) ?_
  refine zr_istore_n (L1 := [(1, zI 0), (0, zRf (zad Γ) 48)]) C (zdec_at dm_X9_countLeaders 1 rfl) rfl (Nat.le_of_ble_eq_true rfl) rfl ?_
  refine zr_iconst C (zdec_at dm_X9_countLeaders 2 rfl) ?_
  refine zr_istore_n (L1 := [(2, zI 0), (1, zI 0), (0, zRf (zad Γ) 48)]) C (zdec_at dm_X9_countLeaders 3 rfl) rfl (Nat.le_of_ble_eq_true rfl) rfl ?_
  obtain ⟨I4, ⟨n11, q12⟩, hI10⟩ := h
  have lp9 : ∀ (n7 : Nat) (v1 : Int) (v2 : Int) (M5 : zM), I4 v1 v2 M5 n7 → zin v1 → zin v2 → zRng M5 → zV Γ mu_X9_countLeaders (145, 0, 0) 4 [(0, zRf (zad Γ) 48), (1, zI v1), (2, zI v2)] [] M5 := by
    intro n7
    induction n7 using Nat.strongRecOn with
    | _ n7 ih8 =>
    intro v1 v2 M5 q13 z3 z4 hR6
    have h := hI10 v1 v2 M5 n7 q13 z3 z4 hR6
    refine zr_iload_n C 2 rfl (zdec_at dm_X9_countLeaders 4 rfl) rfl ?_
    refine zr_aload_n C 0 rfl (zdec_at dm_X9_countLeaders 5 rfl) rfl ?_
    refine zr_getr (q := 5) C fk_RX9_15 fi_48_0 (zdec_at dm_X9_countLeaders 6 rfl) ?_
    refine zr_geti C fk_RX9_92 fi_5_2 (zdec_at dm_X9_countLeaders 7 rfl) ?_
    refine zr_icmp_ge C z4 (hR6 _ _) (zdec_at dm_X9_countLeaders 8 rfl) rfl (fun g14 => ?_) (fun g14 => ?_)
    · have h := h.1 g14
      refine zr_iload_n C 1 rfl (zdec_at dm_X9_countLeaders 17 rfl) rfl ?_
      exact zr_ireturn C rfl (zdec_at dm_X9_countLeaders 18 rfl) rfl ⟨z3, h⟩
    · have h := h.2 g14
      refine zr_aload_n C 0 rfl (zdec_at dm_X9_countLeaders 9 rfl) rfl ?_
      refine zr_iload_n C 2 rfl (zdec_at dm_X9_countLeaders 10 rfl) rfl ?_
      obtain ⟨g20, h⟩ := h
      refine zr_callV C [v2] hS_X9_firstLike ck_RX9_95 iv_X9_firstLike vc_X9 oc_48 rfl rfl (zdec_at dm_X9_countLeaders 11 rfl) ⟨rfl, rfl, rfl, rfl⟩ ⟨by decide, by decide⟩ (Nat.le_of_ble_eq_true rfl) (zall_0 z4 zall_n) ?_
      refine ⟨_, rfl, g20, fun r15 M16 p19 z18 hR17 => ?_⟩
      have h := h r15 M16 p19 z18 hR17
      show zV Γ mu_X9_countLeaders (145, 0, 0) 20 [(0, zRf (zad Γ) 48), (1, zI v1), (2, zI v2)] [zI r15] M16
      refine zr_iload_n C 2 rfl (zdec_at dm_X9_countLeaders 12 rfl) rfl ?_
      refine zr_icmp_ne C z18 z4 (zdec_at dm_X9_countLeaders 13 rfl) rfl (fun g21 => ?_) (fun g21 => ?_)
      · have h := h.1 g21
        refine zr_iinc (L1 := [(2, zI (v2 + 1)), (0, zRf (zad Γ) 48), (1, zI v1)]) C 2 rfl (zdec_at dm_X9_countLeaders 15 rfl) (Nat.le_of_ble_eq_true rfl) rfl ?_
        refine zr_goto C (zdec_at dm_X9_countLeaders 16 rfl) rfl ?_
        obtain ⟨o22, h⟩ := h
        obtain ⟨n23, q24, q25⟩ := h
        exact zr_sub [1, 2, 0] rfl (ih8 n23 q24 _ _ _ q25 z3 o22 hR17)
      · have h := h.2 g21
        refine zr_iinc (L1 := [(1, zI (v1 + 1)), (0, zRf (zad Γ) 48), (2, zI v2)]) C 1 rfl (zdec_at dm_X9_countLeaders 14 rfl) (Nat.le_of_ble_eq_true rfl) rfl ?_
        refine zr_iinc (L1 := [(2, zI (v2 + 1)), (1, zI (v1 + 1)), (0, zRf (zad Γ) 48)]) C 2 rfl (zdec_at dm_X9_countLeaders 15 rfl) (Nat.le_of_ble_eq_true rfl) rfl ?_
        refine zr_goto C (zdec_at dm_X9_countLeaders 16 rfl) rfl ?_
        obtain ⟨o26, h⟩ := h
        obtain ⟨o27, h⟩ := h
        obtain ⟨n28, q29, q30⟩ := h
        exact zr_sub [2, 1, 0] rfl (ih8 n28 q29 _ _ _ q30 o26 o27 hR17)
  exact zr_sub [2, 1, 0] rfl (lp9 n11 _ _ _ q12 (by decide) (by decide) hR)

set_option maxHeartbeats 400000 in
set_option maxRecDepth 100000 in
theorem sn_X4_countColours {pr_J7_fill_53178 : Int → Int → zM → Prop} {po_J7_fill_53178 : Int → Int → zM → zM → Prop} {pr_X0_colourAt : Int → Int → zM → Prop} {po_X0_colourAt : Int → Int → zM → Int → zM → Prop} {pr_X11_isColour : Int → zM → Prop} {po_X11_isColour : Int → zM → Int → zM → Prop} (hS_J7_fill_53178 : zSnd zS 145 0 0 yJ7_fill_53178 cJ7_fill_53178 4 none 0 [2, 0] (F_J7_fill_53178 pr_J7_fill_53178 po_J7_fill_53178)) (hS_X0_colourAt : zSnd zS 145 0 0 yX0_colourAt cX0_colourAt 3 (some .int) 0 [2, 0, 0] (F_X0_colourAt pr_X0_colourAt po_X0_colourAt)) (hS_X11_isColour : zSnd zS 145 0 0 yX11_isColour cX11_isColour 1 (some .boolean) 0 [0] (F_X11_isColour pr_X11_isColour po_X11_isColour)) : zSnd zS 145 0 0 yX4_countColours cX4_countColours 4 (some .int) 1 [2] (fun xs P M => xs = [50] ∧ vc_X4_countColours pr_J7_fill_53178 po_J7_fill_53178 pr_X0_colourAt po_X0_colourAt pr_X11_isColour po_X11_isColour P M) := by
  refine zSnd.of rfl (fun ad xs hz => Nat.le_trans (Nat.le_of_eq (zlen ad _ xs hz)) (by decide)) ?_
  intro Γ C _ _ xs M hz hF
  obtain ⟨rfl, h⟩ := hF
  refine zr_rng (fun hR => ?_)
  have C : zC Γ mu_X4_countColours := C
  change zV Γ mu_X4_countColours (145, 0, 0) 0 [(0, zRf (zad Γ) 50)] [] M
  change vc_X4_countColours pr_J7_fill_53178 po_J7_fill_53178 pr_X0_colourAt po_X0_colourAt pr_X11_isColour po_X11_isColour _ M at h
  unfold vc_X4_countColours at h
  refine zr_aload_n C 0 rfl (zdec_at dm_X4_countColours 0 rfl) rfl ?_
  refine zr_getr (q := 51) C fk_RX4_9 fi_50_3 (zdec_at dm_X4_countColours 1 rfl) ?_
  refine zr_iconst C (zdec_at dm_X4_countColours 2 rfl) ?_
  obtain ⟨g5, h⟩ := h
  refine zr_callS C [51, 0] hS_J7_fill_53178 ck_RX4_22 sv_J7_fill_53178 rfl rfl (zdec_at dm_X4_countColours 3 rfl) ⟨rfl, rfl, rfl, rfl⟩ ⟨by decide, by decide⟩ (Nat.le_of_ble_eq_true rfl) (zall_2 (zall_0 (by decide) zall_n)) ?_
  refine ⟨_, _, rfl, g5, fun M1 p4 _ hR2 => ?_⟩
  have h := h M1 p4 hR2
  show zV Γ mu_X4_countColours (145, 0, 0) 8 [(0, zRf (zad Γ) 50)] [] M1
  refine zr_iconst C (zdec_at dm_X4_countColours 4 rfl) ?_
  refine zr_istore_n (L1 := [(1, zI 0), (0, zRf (zad Γ) 50)]) C (zdec_at dm_X4_countColours 5 rfl) rfl (Nat.le_of_ble_eq_true rfl) rfl ?_
  obtain ⟨I10, ⟨n14, q15⟩, hI13⟩ := h
  have lp12 : ∀ (n10 : Nat) (v6 : Int) (M8 : zM), I10 v6 M8 n10 → zin v6 → zRng M8 → zV Γ mu_X4_countColours (145, 0, 0) 10 [(0, zRf (zad Γ) 50), (1, zI v6)] [] M8 := by
    intro n10
    induction n10 using Nat.strongRecOn with
    | _ n10 ih11 =>
    intro v6 M8 q16 z7 hR9
    have h := hI13 v6 M8 n10 q16 z7 hR9
    refine zr_iload_n C 1 rfl (zdec_at dm_X4_countColours 6 rfl) rfl ?_
    refine zr_aload_n C 0 rfl (zdec_at dm_X4_countColours 7 rfl) rfl ?_
    refine zr_getr (q := 1) C fk_RX4_18 fi_50_0 (zdec_at dm_X4_countColours 8 rfl) ?_
    refine zr_geti C fk_RX4_28 fi_1_1 (zdec_at dm_X4_countColours 9 rfl) ?_
    refine zr_icmp_ge C z7 (hR9 _ _) (zdec_at dm_X4_countColours 10 rfl) rfl (fun g17 => ?_) (fun g17 => ?_)
    · have h := h.1 g17
      refine zr_iconst C (zdec_at dm_X4_countColours 39 rfl) ?_
      refine zr_istore_n (L1 := [(1, zI 0), (0, zRf (zad Γ) 50)]) C (zdec_at dm_X4_countColours 40 rfl) rfl (Nat.le_of_ble_eq_true rfl) rfl ?_
      refine zr_iconst C (zdec_at dm_X4_countColours 41 rfl) ?_
      refine zr_istore_n (L1 := [(2, zI 0), (1, zI 0), (0, zRf (zad Γ) 50)]) C (zdec_at dm_X4_countColours 42 rfl) rfl (Nat.le_of_ble_eq_true rfl) rfl ?_
      obtain ⟨I77, ⟨n28, q29⟩, hI27⟩ := h
      have lp26 : ∀ (n24 : Nat) (v18 : Int) (v19 : Int) (M22 : zM), I77 v18 v19 M22 n24 → zin v18 → zin v19 → zRng M22 → zV Γ mu_X4_countColours (145, 0, 0) 77 [(0, zRf (zad Γ) 50), (1, zI v18), (2, zI v19)] [] M22 := by
        intro n24
        induction n24 using Nat.strongRecOn with
        | _ n24 ih25 =>
        intro v18 v19 M22 q30 z20 z21 hR23
        have h := hI27 v18 v19 M22 n24 q30 z20 z21 hR23
        refine zr_iload_n C 2 rfl (zdec_at dm_X4_countColours 43 rfl) rfl ?_
        refine zr_bipush C (zdec_at dm_X4_countColours 44 rfl) (by decide) ?_
        refine zr_icmp_ge C z21 (by decide) (zdec_at dm_X4_countColours 45 rfl) rfl (fun g31 => ?_) (fun g31 => ?_)
        · have h := h.1 g31
          refine zr_iload_n C 1 rfl (zdec_at dm_X4_countColours 59 rfl) rfl ?_
          exact zr_ireturn C rfl (zdec_at dm_X4_countColours 60 rfl) rfl ⟨z20, h⟩
        · have h := h.2 g31
          refine zr_aload_n C 0 rfl (zdec_at dm_X4_countColours 46 rfl) rfl ?_
          refine zr_getr (q := 51) C fk_RX4_9 fi_50_3 (zdec_at dm_X4_countColours 47 rfl) ?_
          refine zr_iload_n C 2 rfl (zdec_at dm_X4_countColours 48 rfl) rfl ?_
          obtain ⟨o32, h⟩ := h
          refine zr_iald C ai_51 o32 (zdec_at dm_X4_countColours 49 rfl) ?_
          refine zr_if_le C (hR23 _ _) (zdec_at dm_X4_countColours 50 rfl) rfl (fun g33 => ?_) (fun g33 => ?_)
          · have h := h.1 g33
            refine zr_iinc (L1 := [(2, zI (v19 + 1)), (0, zRf (zad Γ) 50), (1, zI v18)]) C 2 rfl (zdec_at dm_X4_countColours 57 rfl) (Nat.le_of_ble_eq_true rfl) rfl ?_
            refine zr_goto C (zdec_at dm_X4_countColours 58 rfl) rfl ?_
            obtain ⟨o34, h⟩ := h
            obtain ⟨n35, q36, q37⟩ := h
            exact zr_sub [1, 2, 0] rfl (ih25 n35 q36 _ _ _ q37 z20 o34 hR23)
          · have h := h.2 g33
            refine zr_aload_n C 0 rfl (zdec_at dm_X4_countColours 51 rfl) rfl ?_
            refine zr_getr (q := 52) C fk_RX4_15 fi_50_4 (zdec_at dm_X4_countColours 52 rfl) ?_
            refine zr_iload_n C 1 rfl (zdec_at dm_X4_countColours 53 rfl) rfl ?_
            refine zr_iload_n C 2 rfl (zdec_at dm_X4_countColours 54 rfl) rfl ?_
            obtain ⟨o38, h⟩ := h
            refine zr_iast C ai_52 o38 z21 (zdec_at dm_X4_countColours 55 rfl) (fun M39 e40 => ?_)
            have h := h M39 e40
            have hR41 : zRng M39 := by rw [e40]; exact hR23.set z21 _ _
            refine zr_iinc (L1 := [(1, zI (v18 + 1)), (0, zRf (zad Γ) 50), (2, zI v19)]) C 1 rfl (zdec_at dm_X4_countColours 56 rfl) (Nat.le_of_ble_eq_true rfl) rfl ?_
            refine zr_iinc (L1 := [(2, zI (v19 + 1)), (1, zI (v18 + 1)), (0, zRf (zad Γ) 50)]) C 2 rfl (zdec_at dm_X4_countColours 57 rfl) (Nat.le_of_ble_eq_true rfl) rfl ?_
            refine zr_goto C (zdec_at dm_X4_countColours 58 rfl) rfl ?_
            obtain ⟨o42, h⟩ := h
            obtain ⟨o43, h⟩ := h
            obtain ⟨n44, q45, q46⟩ := h
            exact zr_sub [2, 1, 0] rfl (ih25 n44 q45 _ _ _ q46 o42 o43 hR41)
      exact zr_sub [2, 1, 0] rfl (lp26 n28 _ _ _ q29 (by decide) (by decide) hR9)
    · have h := h.2 g17
      refine zr_iconst C (zdec_at dm_X4_countColours 11 rfl) ?_
      refine zr_istore_n (L1 := [(2, zI 0), (0, zRf (zad Γ) 50), (1, zI v6)]) C (zdec_at dm_X4_countColours 12 rfl) rfl (Nat.le_of_ble_eq_true rfl) rfl ?_
      obtain ⟨I23, ⟨n55, q56⟩, hI54⟩ := h
      have lp53 : ∀ (n51 : Nat) (v47 : Int) (M49 : zM), I23 v47 M49 n51 → zin v47 → zRng M49 → zV Γ mu_X4_countColours (145, 0, 0) 23 [(0, zRf (zad Γ) 50), (1, zI v6), (2, zI v47)] [] M49 := by
        intro n51
        induction n51 using Nat.strongRecOn with
        | _ n51 ih52 =>
        intro v47 M49 q57 z48 hR50
        have h := hI54 v47 M49 n51 q57 z48 hR50
        refine zr_iload_n C 2 rfl (zdec_at dm_X4_countColours 13 rfl) rfl ?_
        refine zr_aload_n C 0 rfl (zdec_at dm_X4_countColours 14 rfl) rfl ?_
        refine zr_getr (q := 1) C fk_RX4_18 fi_50_0 (zdec_at dm_X4_countColours 15 rfl) ?_
        refine zr_geti C fk_RX4_34 fi_1_0 (zdec_at dm_X4_countColours 16 rfl) ?_
        refine zr_icmp_ge C z48 (hR50 _ _) (zdec_at dm_X4_countColours 17 rfl) rfl (fun g58 => ?_) (fun g58 => ?_)
        · have h := h.1 g58
          refine zr_iinc (L1 := [(1, zI (v6 + 1)), (0, zRf (zad Γ) 50), (2, zI v47)]) C 1 rfl (zdec_at dm_X4_countColours 37 rfl) (Nat.le_of_ble_eq_true rfl) rfl ?_
          refine zr_goto C (zdec_at dm_X4_countColours 38 rfl) rfl ?_
          obtain ⟨o59, h⟩ := h
          obtain ⟨n60, q61, q62⟩ := h
          exact zr_sub [1, 0] rfl (ih11 n60 q61 _ _ q62 o59 hR50)
        · have h := h.2 g58
          refine zr_aload_n C 0 rfl (zdec_at dm_X4_countColours 18 rfl) rfl ?_
          refine zr_getr (q := 1) C fk_RX4_18 fi_50_0 (zdec_at dm_X4_countColours 19 rfl) ?_
          refine zr_iload_n C 2 rfl (zdec_at dm_X4_countColours 20 rfl) rfl ?_
          refine zr_iload_n C 1 rfl (zdec_at dm_X4_countColours 21 rfl) rfl ?_
          obtain ⟨g68, h⟩ := h
          refine zr_callV C [v47, v6] hS_X0_colourAt ck_RX4_37 iv_X0_colourAt vc_X0 oc_1 rfl rfl (zdec_at dm_X4_countColours 22 rfl) ⟨rfl, rfl, rfl, rfl⟩ ⟨by decide, by decide⟩ (Nat.le_of_ble_eq_true rfl) (zall_0 z48 (zall_0 z7 zall_n)) ?_
          refine ⟨_, _, rfl, g68, fun r63 M64 p67 z66 hR65 => ?_⟩
          have h := h r63 M64 p67 z66 hR65
          show zV Γ mu_X4_countColours (145, 0, 0) 43 [(0, zRf (zad Γ) 50), (1, zI v6), (2, zI v47)] [zI r63] M64
          refine zr_istore_n (L1 := [(3, zI r63), (0, zRf (zad Γ) 50), (1, zI v6), (2, zI v47)]) C (zdec_at dm_X4_countColours 23 rfl) rfl (Nat.le_of_ble_eq_true rfl) rfl ?_
          refine zr_iload_n C 0 rfl (zdec_at dm_X4_countColours 24 rfl) rfl ?_
          obtain ⟨g74, h⟩ := h
          refine zr_callS C [r63] hS_X11_isColour ck_RX4_41 sv_X11_isColour rfl rfl (zdec_at dm_X4_countColours 25 rfl) ⟨rfl, rfl, rfl, rfl⟩ ⟨by decide, by decide⟩ (Nat.le_of_ble_eq_true rfl) (zall_0 z66 zall_n) ?_
          refine ⟨_, rfl, g74, fun r69 M70 p73 z72 hR71 => ?_⟩
          have h := h r69 M70 p73 z72 hR71
          show zV Γ mu_X4_countColours (145, 0, 0) 48 [(3, zI r63), (0, zRf (zad Γ) 50), (1, zI v6), (2, zI v47)] [zI r69] M70
          refine zr_if_eq C z72 (zdec_at dm_X4_countColours 26 rfl) rfl (fun g75 => ?_) (fun g75 => ?_)
          · have h := h.1 g75
            refine zr_iinc (L1 := [(2, zI (v47 + 1)), (3, zI r63), (0, zRf (zad Γ) 50), (1, zI v6)]) C 3 rfl (zdec_at dm_X4_countColours 35 rfl) (Nat.le_of_ble_eq_true rfl) rfl ?_
            refine zr_goto C (zdec_at dm_X4_countColours 36 rfl) rfl ?_
            obtain ⟨o76, h⟩ := h
            obtain ⟨n77, q78, q79⟩ := h
            exact zr_sub [2, 3, 0] rfl (ih52 n77 q78 _ _ q79 o76 hR71)
          · have h := h.2 g75
            refine zr_aload_n C 1 rfl (zdec_at dm_X4_countColours 27 rfl) rfl ?_
            refine zr_getr (q := 51) C fk_RX4_9 fi_50_3 (zdec_at dm_X4_countColours 28 rfl) ?_
            refine zr_iload_n C 0 rfl (zdec_at dm_X4_countColours 29 rfl) rfl ?_
            refine zr_dup2 C rfl rfl (zdec_at dm_X4_countColours 30 rfl) ?_
            obtain ⟨o80, h⟩ := h
            refine zr_iald C ai_51 o80 (zdec_at dm_X4_countColours 31 rfl) ?_
            refine zr_iconst C (zdec_at dm_X4_countColours 32 rfl) ?_
            refine zr_iadd C (zdec_at dm_X4_countColours 33 rfl) ?_
            obtain ⟨o81, h⟩ := h
            refine zr_iast C ai_51 o80 o81 (zdec_at dm_X4_countColours 34 rfl) (fun M82 e83 => ?_)
            have h := h M82 e83
            have hR84 : zRng M82 := by rw [e83]; exact hR71.set o81 _ _
            refine zr_iinc (L1 := [(2, zI (v47 + 1)), (3, zI r63), (0, zRf (zad Γ) 50), (1, zI v6)]) C 3 rfl (zdec_at dm_X4_countColours 35 rfl) (Nat.le_of_ble_eq_true rfl) rfl ?_
            refine zr_goto C (zdec_at dm_X4_countColours 36 rfl) rfl ?_
            obtain ⟨o85, h⟩ := h
            obtain ⟨n86, q87, q88⟩ := h
            exact zr_sub [2, 3, 0] rfl (ih52 n86 q87 _ _ q88 o85 hR84)
      exact zr_sub [1, 2, 0] rfl (lp53 n55 _ _ q56 (by decide) hR9)
  exact zr_sub [1, 0] rfl (lp12 n14 _ _ q15 (by decide) hR2)

set_option maxHeartbeats 400000 in
set_option maxRecDepth 100000 in
theorem sn_X4_choose {pr_X4_countColours : zM → Prop} {po_X4_countColours : zM → Int → zM → Prop} {pr_J6_bitCount_0f7a4 : Int → zM → Prop} {po_J6_bitCount_0f7a4 : Int → zM → Int → zM → Prop} {pr_X4_asSet : Int → Int → zM → Prop} {po_X4_asSet : Int → Int → zM → Int → zM → Prop} {pr_X4_sumWith : Int → zM → Prop} {po_X4_sumWith : Int → zM → Int → zM → Prop} (hS_X4_countColours : zSnd zS 145 0 0 yX4_countColours cX4_countColours 4 (some .int) 1 [2] (F_X4_countColours pr_X4_countColours po_X4_countColours)) (hS_J6_bitCount_0f7a4 : zSnd zS 145 0 0 yJ6_bitCount_0f7a4 cJ6_bitCount_0f7a4 1 (some .int) 0 [0] (F_J6_bitCount_0f7a4 pr_J6_bitCount_0f7a4 po_J6_bitCount_0f7a4)) (hS_X4_asSet : zSnd zS 145 0 0 yX4_asSet cX4_asSet 5 (some .int) 0 [2, 0, 0] (F_X4_asSet pr_X4_asSet po_X4_asSet)) (hS_X4_sumWith : zSnd zS 145 0 0 yX4_sumWith cX4_sumWith 5 (some .int) 3 [2, 0] (F_X4_sumWith pr_X4_sumWith po_X4_sumWith)) : zSnd zS 145 0 0 yX4_choose cX4_choose 6 (some .boolean) 4 [2, 0] (fun xs P M => ∃ a1 : Int, xs = [50, a1] ∧ vc_X4_choose pr_X4_countColours po_X4_countColours pr_J6_bitCount_0f7a4 po_J6_bitCount_0f7a4 pr_X4_asSet po_X4_asSet pr_X4_sumWith po_X4_sumWith a1 P M) := by
  refine zSnd.of rfl (fun ad xs hz => Nat.le_trans (Nat.le_of_eq (zlen ad _ xs hz)) (by decide)) ?_
  intro Γ C _ _ xs M hz hF
  obtain ⟨a1, rfl, h⟩ := hF
  have zz_a1 := zall_h (zall_t hz) (by decide)
  refine zr_rng (fun hR => ?_)
  have C : zC Γ mu_X4_choose := C
  change zV Γ mu_X4_choose (145, 0, 0) 0 [(0, zRf (zad Γ) 50), (1, zI a1)] [] M
  change vc_X4_choose pr_X4_countColours po_X4_countColours pr_J6_bitCount_0f7a4 po_J6_bitCount_0f7a4 pr_X4_asSet po_X4_asSet pr_X4_sumWith po_X4_sumWith a1 _ M at h
  unfold vc_X4_choose at h
  refine zr_aload_n C 0 rfl (zdec_at dm_X4_choose 0 rfl) rfl ?_
  obtain ⟨g6, h⟩ := h
  refine zr_callV C [] hS_X4_countColours ck_RX4_45 iv_X4_countColours vc_X4 oc_50 rfl rfl (zdec_at dm_X4_choose 1 rfl) ⟨rfl, rfl, rfl, rfl⟩ ⟨by decide, by decide⟩ (Nat.le_of_ble_eq_true rfl) zall_n ?_
  refine ⟨rfl, g6, fun r1 M2 p5 z4 hR3 => ?_⟩
  have h := h r1 M2 p5 z4 hR3
  show zV Γ mu_X4_choose (145, 0, 0) 4 [(0, zRf (zad Γ) 50), (1, zI a1)] [zI r1] M2
  refine zr_istore_n (L1 := [(2, zI r1), (0, zRf (zad Γ) 50), (1, zI a1)]) C (zdec_at dm_X4_choose 2 rfl) rfl (Nat.le_of_ble_eq_true rfl) rfl ?_
  refine zr_iload_n C 0 rfl (zdec_at dm_X4_choose 3 rfl) rfl ?_
  refine zr_bipush C (zdec_at dm_X4_choose 4 rfl) (by decide) ?_
  refine zr_icmp_le C z4 (by decide) (zdec_at dm_X4_choose 5 rfl) rfl (fun g7 => ?_) (fun g7 => ?_)
  · have h := h.1 g7
    refine zr_aload_n C 1 rfl (zdec_at dm_X4_choose 8 rfl) rfl ?_
    refine zr_iconst C (zdec_at dm_X4_choose 9 rfl) ?_
    refine zr_puti C fk_RX4_49 fi_50_1 (by decide) (zdec_at dm_X4_choose 10 rfl) (fun M8 e9 => ?_)
    have h := h M8 e9
    have hR10 : zRng M8 := by rw [e9]; exact hR3.set (by decide) _ _
    refine zr_aload_n C 1 rfl (zdec_at dm_X4_choose 11 rfl) rfl ?_
    refine zr_iconst C (zdec_at dm_X4_choose 12 rfl) ?_
    refine zr_puti C fk_RX4_52 fi_50_2 (by decide) (zdec_at dm_X4_choose 13 rfl) (fun M11 e12 => ?_)
    have h := h M11 e12
    have hR13 : zRng M11 := by rw [e12]; exact hR10.set (by decide) _ _
    refine zr_iconst C (zdec_at dm_X4_choose 14 rfl) ?_
    refine zr_istore_n (L1 := [(3, zI 1), (2, zI r1), (0, zRf (zad Γ) 50), (1, zI a1)]) C (zdec_at dm_X4_choose 15 rfl) rfl (Nat.le_of_ble_eq_true rfl) rfl ?_
    obtain ⟨I25, ⟨n22, q23⟩, hI21⟩ := h
    have lp20 : ∀ (n18 : Nat) (v14 : Int) (M16 : zM), I25 v14 M16 n18 → zin v14 → zRng M16 → zV Γ mu_X4_choose (145, 0, 0) 25 [(0, zRf (zad Γ) 50), (1, zI a1), (2, zI r1), (3, zI v14)] [] M16 := by
      intro n18
      induction n18 using Nat.strongRecOn with
      | _ n18 ih19 =>
      intro v14 M16 q24 z15 hR17
      have h := hI21 v14 M16 n18 q24 z15 hR17
      refine zr_iload_n C 3 rfl (zdec_at dm_X4_choose 16 rfl) rfl ?_
      refine zr_iconst C (zdec_at dm_X4_choose 17 rfl) ?_
      refine zr_iload_n C 2 rfl (zdec_at dm_X4_choose 18 rfl) rfl ?_
      refine zr_ishl C (zdec_at dm_X4_choose 19 rfl) ?_
      refine zr_icmp_ge C z15 (zshl_z _ _) (zdec_at dm_X4_choose 20 rfl) rfl (fun g25 => ?_) (fun g25 => ?_)
      · have h := h.1 g25
        refine zr_iconst C (zdec_at dm_X4_choose 49 rfl) ?_
        exact zr_zreturn C rfl (by decide) (zdec_at dm_X4_choose 50 rfl) rfl ⟨(by decide), h⟩
      · have h := h.2 g25
        refine zr_iload_n C 3 rfl (zdec_at dm_X4_choose 21 rfl) rfl ?_
        obtain ⟨g31, h⟩ := h
        refine zr_callS C [v14] hS_J6_bitCount_0f7a4 ck_RX4_55 sv_J6_bitCount_0f7a4 rfl rfl (zdec_at dm_X4_choose 22 rfl) ⟨rfl, rfl, rfl, rfl⟩ ⟨by decide, by decide⟩ (Nat.le_of_ble_eq_true rfl) (zall_0 z15 zall_n) ?_
        refine ⟨_, rfl, g31, fun r26 M27 p30 z29 hR28 => ?_⟩
        have h := h r26 M27 p30 z29 hR28
        show zV Γ mu_X4_choose (145, 0, 0) 36 [(0, zRf (zad Γ) 50), (1, zI a1), (2, zI r1), (3, zI v14)] [zI r26] M27
        refine zr_iload_n C 1 rfl (zdec_at dm_X4_choose 23 rfl) rfl ?_
        refine zr_icmp_gt C z29 zz_a1 (zdec_at dm_X4_choose 24 rfl) rfl (fun g32 => ?_) (fun g32 => ?_)
        · have h := h.1 g32
          refine zr_iinc (L1 := [(3, zI (v14 + 1)), (0, zRf (zad Γ) 50), (1, zI a1), (2, zI r1)]) C 3 rfl (zdec_at dm_X4_choose 47 rfl) (Nat.le_of_ble_eq_true rfl) rfl ?_
          refine zr_goto C (zdec_at dm_X4_choose 48 rfl) rfl ?_
          obtain ⟨o33, h⟩ := h
          obtain ⟨n34, q35, q36⟩ := h
          exact zr_sub [1, 2, 3, 0] rfl (ih19 n34 q35 _ _ q36 o33 hR28)
        · have h := h.2 g32
          refine zr_aload_n C 0 rfl (zdec_at dm_X4_choose 25 rfl) rfl ?_
          refine zr_iload_n C 3 rfl (zdec_at dm_X4_choose 26 rfl) rfl ?_
          refine zr_iload_n C 2 rfl (zdec_at dm_X4_choose 27 rfl) rfl ?_
          obtain ⟨g42, h⟩ := h
          refine zr_callV C [v14, r1] hS_X4_asSet ck_RX4_61 iv_X4_asSet vc_X4 oc_50 rfl rfl (zdec_at dm_X4_choose 28 rfl) ⟨rfl, rfl, rfl, rfl⟩ ⟨by decide, by decide⟩ (Nat.le_of_ble_eq_true rfl) (zall_0 z15 (zall_0 z4 zall_n)) ?_
          refine ⟨_, _, rfl, g42, fun r37 M38 p41 z40 hR39 => ?_⟩
          have h := h r37 M38 p41 z40 hR39
          show zV Γ mu_X4_choose (145, 0, 0) 46 [(0, zRf (zad Γ) 50), (1, zI a1), (2, zI r1), (3, zI v14)] [zI r37] M38
          refine zr_istore (L1 := [(4, zI r37), (0, zRf (zad Γ) 50), (1, zI a1), (2, zI r1), (3, zI v14)]) C (zdec_at dm_X4_choose 29 rfl) (Nat.le_of_ble_eq_true rfl) rfl ?_
          refine zr_aload_n C 1 rfl (zdec_at dm_X4_choose 30 rfl) rfl ?_
          refine zr_iload C 0 rfl (zdec_at dm_X4_choose 31 rfl) ?_
          obtain ⟨g48, h⟩ := h
          refine zr_callV C [r37] hS_X4_sumWith ck_RX4_64 iv_X4_sumWith vc_X4 oc_50 rfl rfl (zdec_at dm_X4_choose 32 rfl) ⟨rfl, rfl, rfl, rfl⟩ ⟨by decide, by decide⟩ (Nat.le_of_ble_eq_true rfl) (zall_0 z40 zall_n) ?_
          refine ⟨_, rfl, g48, fun r43 M44 p47 z46 hR45 => ?_⟩
          have h := h r43 M44 p47 z46 hR45
          show zV Γ mu_X4_choose (145, 0, 0) 54 [(4, zI r37), (0, zRf (zad Γ) 50), (1, zI a1), (2, zI r1), (3, zI v14)] [zI r43] M44
          refine zr_istore (L1 := [(5, zI r43), (4, zI r37), (0, zRf (zad Γ) 50), (1, zI a1), (2, zI r1), (3, zI v14)]) C (zdec_at dm_X4_choose 33 rfl) (Nat.le_of_ble_eq_true rfl) rfl ?_
          refine zr_aload_n C 2 rfl (zdec_at dm_X4_choose 34 rfl) rfl ?_
          refine zr_geti C fk_RX4_52 fi_50_2 (zdec_at dm_X4_choose 35 rfl) ?_
          refine zr_if_eq C (hR45 _ _) (zdec_at dm_X4_choose 36 rfl) rfl (fun g49 => ?_) (fun g49 => ?_)
          · have h := h.1 g49
            refine zr_aload_n C 2 rfl (zdec_at dm_X4_choose 41 rfl) rfl ?_
            refine zr_iload C 0 rfl (zdec_at dm_X4_choose 42 rfl) ?_
            refine zr_puti C fk_RX4_49 fi_50_1 z46 (zdec_at dm_X4_choose 43 rfl) (fun M50 e51 => ?_)
            have h := h M50 e51
            have hR52 : zRng M50 := by rw [e51]; exact hR45.set z46 _ _
            refine zr_aload_n C 2 rfl (zdec_at dm_X4_choose 44 rfl) rfl ?_
            refine zr_iload C 1 rfl (zdec_at dm_X4_choose 45 rfl) ?_
            refine zr_puti C fk_RX4_52 fi_50_2 z40 (zdec_at dm_X4_choose 46 rfl) (fun M53 e54 => ?_)
            have h := h M53 e54
            have hR55 : zRng M53 := by rw [e54]; exact hR52.set z40 _ _
            refine zr_iinc (L1 := [(3, zI (v14 + 1)), (5, zI r43), (4, zI r37), (0, zRf (zad Γ) 50), (1, zI a1), (2, zI r1)]) C 5 rfl (zdec_at dm_X4_choose 47 rfl) (Nat.le_of_ble_eq_true rfl) rfl ?_
            refine zr_goto C (zdec_at dm_X4_choose 48 rfl) rfl ?_
            obtain ⟨o56, h⟩ := h
            obtain ⟨n57, q58, q59⟩ := h
            exact zr_sub [3, 4, 5, 0] rfl (ih19 n57 q58 _ _ q59 o56 hR55)
          · have h := h.2 g49
            refine zr_iload C 0 rfl (zdec_at dm_X4_choose 37 rfl) ?_
            refine zr_aload_n C 2 rfl (zdec_at dm_X4_choose 38 rfl) rfl ?_
            refine zr_geti C fk_RX4_49 fi_50_1 (zdec_at dm_X4_choose 39 rfl) ?_
            refine zr_icmp_ge C z46 (hR45 _ _) (zdec_at dm_X4_choose 40 rfl) rfl (fun g60 => ?_) (fun g60 => ?_)
            · have h := h.1 g60
              refine zr_iinc (L1 := [(3, zI (v14 + 1)), (5, zI r43), (4, zI r37), (0, zRf (zad Γ) 50), (1, zI a1), (2, zI r1)]) C 5 rfl (zdec_at dm_X4_choose 47 rfl) (Nat.le_of_ble_eq_true rfl) rfl ?_
              refine zr_goto C (zdec_at dm_X4_choose 48 rfl) rfl ?_
              obtain ⟨o61, h⟩ := h
              obtain ⟨n62, q63, q64⟩ := h
              exact zr_sub [3, 4, 5, 0] rfl (ih19 n62 q63 _ _ q64 o61 hR45)
            · have h := h.2 g60
              refine zr_aload_n C 2 rfl (zdec_at dm_X4_choose 41 rfl) rfl ?_
              refine zr_iload C 0 rfl (zdec_at dm_X4_choose 42 rfl) ?_
              refine zr_puti C fk_RX4_49 fi_50_1 z46 (zdec_at dm_X4_choose 43 rfl) (fun M65 e66 => ?_)
              have h := h M65 e66
              have hR67 : zRng M65 := by rw [e66]; exact hR45.set z46 _ _
              refine zr_aload_n C 2 rfl (zdec_at dm_X4_choose 44 rfl) rfl ?_
              refine zr_iload C 1 rfl (zdec_at dm_X4_choose 45 rfl) ?_
              refine zr_puti C fk_RX4_52 fi_50_2 z40 (zdec_at dm_X4_choose 46 rfl) (fun M68 e69 => ?_)
              have h := h M68 e69
              have hR70 : zRng M68 := by rw [e69]; exact hR67.set z40 _ _
              refine zr_iinc (L1 := [(3, zI (v14 + 1)), (5, zI r43), (4, zI r37), (0, zRf (zad Γ) 50), (1, zI a1), (2, zI r1)]) C 5 rfl (zdec_at dm_X4_choose 47 rfl) (Nat.le_of_ble_eq_true rfl) rfl ?_
              refine zr_goto C (zdec_at dm_X4_choose 48 rfl) rfl ?_
              obtain ⟨o71, h⟩ := h
              obtain ⟨n72, q73, q74⟩ := h
              exact zr_sub [3, 4, 5, 0] rfl (ih19 n72 q73 _ _ q74 o71 hR70)
    exact zr_sub [2, 3, 1, 0] rfl (lp20 n22 _ _ q23 (by decide) hR13)
  · have h := h.2 g7
    refine zr_iconst C (zdec_at dm_X4_choose 6 rfl) ?_
    exact zr_zreturn C rfl (by decide) (zdec_at dm_X4_choose 7 rfl) rfl ⟨(by decide), h⟩

set_option maxHeartbeats 400000 in
set_option maxRecDepth 100000 in
theorem sn_X4_asSet : zSnd zS 145 0 0 yX4_asSet cX4_asSet 5 (some .int) 0 [2, 0, 0] (fun xs P M => ∃ a1 a2 : Int, xs = [50, a1, a2] ∧ vc_X4_asSet a1 a2 P M) := by
  refine zSnd.of rfl (fun ad xs hz => Nat.le_trans (Nat.le_of_eq (zlen ad _ xs hz)) (by decide)) ?_
  intro Γ C _ _ xs M hz hF
  obtain ⟨a1, a2, rfl, h⟩ := hF
  have zz_a1 := zall_h (zall_t hz) (by decide)
  have zz_a2 := zall_h (zall_t (zall_t hz)) (by decide)
  refine zr_rng (fun hR => ?_)
  have C : zC Γ mu_X4_asSet := C
  change zV Γ mu_X4_asSet (145, 0, 0) 0 [(0, zRf (zad Γ) 50), (1, zI a1), (2, zI a2)] [] M
  change vc_X4_asSet a1 a2 _ M at h
  unfold vc_X4_asSet at h
  refine zr_iconst C (zdec_at dm_X4_asSet 0 rfl) ?_
  refine zr_istore_n (L1 := [(3, zI 0), (0, zRf (zad Γ) 50), (1, zI a1), (2, zI a2)]) C (zdec_at dm_X4_asSet 1 rfl) rfl (Nat.le_of_ble_eq_true rfl) rfl ?_
  refine zr_iconst C (zdec_at dm_X4_asSet 2 rfl) ?_
  refine zr_istore (L1 := [(4, zI 0), (3, zI 0), (0, zRf (zad Γ) 50), (1, zI a1), (2, zI a2)]) C (zdec_at dm_X4_asSet 3 rfl) (Nat.le_of_ble_eq_true rfl) rfl ?_
  obtain ⟨I5, ⟨n9, q10⟩, hI8⟩ := h
  have lp7 : ∀ (n5 : Nat) (v1 : Int) (v2 : Int), I5 v1 v2 n5 → zin v1 → zin v2 → zV Γ mu_X4_asSet (145, 0, 0) 5 [(0, zRf (zad Γ) 50), (1, zI a1), (2, zI a2), (3, zI v1), (4, zI v2)] [] M := by
    intro n5
    induction n5 using Nat.strongRecOn with
    | _ n5 ih6 =>
    intro v1 v2 q11 z3 z4
    have h := hI8 v1 v2 n5 q11 z3 z4
    refine zr_iload C 4 rfl (zdec_at dm_X4_asSet 4 rfl) ?_
    refine zr_iload_n C 2 rfl (zdec_at dm_X4_asSet 5 rfl) rfl ?_
    refine zr_icmp_ge C z4 zz_a2 (zdec_at dm_X4_asSet 6 rfl) rfl (fun g12 => ?_) (fun g12 => ?_)
    · have h := h.1 g12
      refine zr_iload_n C 3 rfl (zdec_at dm_X4_asSet 27 rfl) rfl ?_
      exact zr_ireturn C rfl (zdec_at dm_X4_asSet 28 rfl) rfl ⟨z3, h⟩
    · have h := h.2 g12
      refine zr_iload C 4 rfl (zdec_at dm_X4_asSet 7 rfl) ?_
      refine zr_bipush C (zdec_at dm_X4_asSet 8 rfl) (by decide) ?_
      refine zr_icmp_ge C z4 (by decide) (zdec_at dm_X4_asSet 9 rfl) rfl (fun g13 => ?_) (fun g13 => ?_)
      · have h := h.1 g13
        refine zr_iload_n C 3 rfl (zdec_at dm_X4_asSet 27 rfl) rfl ?_
        exact zr_ireturn C rfl (zdec_at dm_X4_asSet 28 rfl) rfl ⟨z3, h⟩
      · have h := h.2 g13
        refine zr_iload_n C 1 rfl (zdec_at dm_X4_asSet 10 rfl) rfl ?_
        refine zr_iload C 4 rfl (zdec_at dm_X4_asSet 11 rfl) ?_
        refine zr_ishr C (zdec_at dm_X4_asSet 12 rfl) ?_
        refine zr_iconst C (zdec_at dm_X4_asSet 13 rfl) ?_
        refine zr_iand C (zdec_at dm_X4_asSet 14 rfl) ?_
        refine zr_if_eq C (zland_z _ _) (zdec_at dm_X4_asSet 15 rfl) rfl (fun g14 => ?_) (fun g14 => ?_)
        · have h := h.1 g14
          refine zr_iinc (L1 := [(4, zI (v2 + 1)), (0, zRf (zad Γ) 50), (1, zI a1), (2, zI a2), (3, zI v1)]) C 4 rfl (zdec_at dm_X4_asSet 25 rfl) (Nat.le_of_ble_eq_true rfl) rfl ?_
          refine zr_goto C (zdec_at dm_X4_asSet 26 rfl) rfl ?_
          obtain ⟨o15, h⟩ := h
          obtain ⟨n16, q17, q18⟩ := h
          exact zr_sub [1, 2, 3, 4, 0] rfl (ih6 n16 q17 _ _ q18 z3 o15)
        · have h := h.2 g14
          refine zr_iload_n C 3 rfl (zdec_at dm_X4_asSet 16 rfl) rfl ?_
          refine zr_iconst C (zdec_at dm_X4_asSet 17 rfl) ?_
          refine zr_aload_n C 0 rfl (zdec_at dm_X4_asSet 18 rfl) rfl ?_
          refine zr_getr (q := 52) C fk_RX4_15 fi_50_4 (zdec_at dm_X4_asSet 19 rfl) ?_
          refine zr_iload C 4 rfl (zdec_at dm_X4_asSet 20 rfl) ?_
          obtain ⟨o19, h⟩ := h
          refine zr_iald C ai_52 o19 (zdec_at dm_X4_asSet 21 rfl) ?_
          refine zr_ishl C (zdec_at dm_X4_asSet 22 rfl) ?_
          refine zr_ior C (zdec_at dm_X4_asSet 23 rfl) ?_
          refine zr_istore_n (L1 := [(3, zI (zlor v1 (zshl 1 (M 52 v2)))), (0, zRf (zad Γ) 50), (1, zI a1), (2, zI a2), (4, zI v2)]) C (zdec_at dm_X4_asSet 24 rfl) rfl (Nat.le_of_ble_eq_true rfl) rfl ?_
          refine zr_iinc (L1 := [(4, zI (v2 + 1)), (3, zI (zlor v1 (zshl 1 (M 52 v2)))), (0, zRf (zad Γ) 50), (1, zI a1), (2, zI a2)]) C 4 rfl (zdec_at dm_X4_asSet 25 rfl) (Nat.le_of_ble_eq_true rfl) rfl ?_
          refine zr_goto C (zdec_at dm_X4_asSet 26 rfl) rfl ?_
          obtain ⟨o20, h⟩ := h
          obtain ⟨n21, q22, q23⟩ := h
          exact zr_sub [2, 3, 4, 1, 0] rfl (ih6 n21 q22 _ _ q23 (zlor_z _ _) o20)
  exact zr_sub [2, 3, 4, 1, 0] rfl (lp7 n9 _ _ q10 (by decide) (by decide))

set_option maxHeartbeats 400000 in
set_option maxRecDepth 100000 in
theorem sn_X4_sumWith {pr_X4_nearest : Int → Int → zM → Prop} {po_X4_nearest : Int → Int → zM → Int → zM → Prop} {pr_X4_distance : Int → Int → zM → Prop} {po_X4_distance : Int → Int → zM → Int → zM → Prop} (hS_X4_nearest : zSnd zS 145 0 0 yX4_nearest cX4_nearest 6 (some .int) 2 [2, 0, 0] (F_X4_nearest pr_X4_nearest po_X4_nearest)) (hS_X4_distance : zSnd zS 145 0 0 yX4_distance cX4_distance 3 (some .int) 1 [2, 0, 0] (F_X4_distance pr_X4_distance po_X4_distance)) : zSnd zS 145 0 0 yX4_sumWith cX4_sumWith 5 (some .int) 3 [2, 0] (fun xs P M => ∃ a1 : Int, xs = [50, a1] ∧ vc_X4_sumWith pr_X4_nearest po_X4_nearest pr_X4_distance po_X4_distance a1 P M) := by
  refine zSnd.of rfl (fun ad xs hz => Nat.le_trans (Nat.le_of_eq (zlen ad _ xs hz)) (by decide)) ?_
  intro Γ C _ _ xs M hz hF
  obtain ⟨a1, rfl, h⟩ := hF
  have zz_a1 := zall_h (zall_t hz) (by decide)
  refine zr_rng (fun hR => ?_)
  have C : zC Γ mu_X4_sumWith := C
  change zV Γ mu_X4_sumWith (145, 0, 0) 0 [(0, zRf (zad Γ) 50), (1, zI a1)] [] M
  change vc_X4_sumWith pr_X4_nearest po_X4_nearest pr_X4_distance po_X4_distance a1 _ M at h
  unfold vc_X4_sumWith at h
  refine zr_iconst C (zdec_at dm_X4_sumWith 0 rfl) ?_
  refine zr_istore_n (L1 := [(2, zI 0), (0, zRf (zad Γ) 50), (1, zI a1)]) C (zdec_at dm_X4_sumWith 1 rfl) rfl (Nat.le_of_ble_eq_true rfl) rfl ?_
  refine zr_iconst C (zdec_at dm_X4_sumWith 2 rfl) ?_
  refine zr_istore_n (L1 := [(3, zI 0), (2, zI 0), (0, zRf (zad Γ) 50), (1, zI a1)]) C (zdec_at dm_X4_sumWith 3 rfl) rfl (Nat.le_of_ble_eq_true rfl) rfl ?_
  obtain ⟨I4, ⟨n11, q12⟩, hI10⟩ := h
  have lp9 : ∀ (n7 : Nat) (v1 : Int) (v2 : Int) (M5 : zM), I4 v1 v2 M5 n7 → zin v1 → zin v2 → zRng M5 → zV Γ mu_X4_sumWith (145, 0, 0) 4 [(0, zRf (zad Γ) 50), (1, zI a1), (2, zI v1), (3, zI v2)] [] M5 := by
    intro n7
    induction n7 using Nat.strongRecOn with
    | _ n7 ih8 =>
    intro v1 v2 M5 q13 z3 z4 hR6
    have h := hI10 v1 v2 M5 n7 q13 z3 z4 hR6
    refine zr_iload_n C 3 rfl (zdec_at dm_X4_sumWith 4 rfl) rfl ?_
    refine zr_bipush C (zdec_at dm_X4_sumWith 5 rfl) (by decide) ?_
    refine zr_icmp_ge C z4 (by decide) (zdec_at dm_X4_sumWith 6 rfl) rfl (fun g14 => ?_) (fun g14 => ?_)
    · have h := h.1 g14
      refine zr_iload_n C 2 rfl (zdec_at dm_X4_sumWith 33 rfl) rfl ?_
      exact zr_ireturn C rfl (zdec_at dm_X4_sumWith 34 rfl) rfl ⟨z3, h⟩
    · have h := h.2 g14
      refine zr_aload_n C 0 rfl (zdec_at dm_X4_sumWith 7 rfl) rfl ?_
      refine zr_getr (q := 51) C fk_RX4_9 fi_50_3 (zdec_at dm_X4_sumWith 8 rfl) ?_
      refine zr_iload_n C 3 rfl (zdec_at dm_X4_sumWith 9 rfl) rfl ?_
      obtain ⟨o15, h⟩ := h
      refine zr_iald C ai_51 o15 (zdec_at dm_X4_sumWith 10 rfl) ?_
      refine zr_if_le C (hR6 _ _) (zdec_at dm_X4_sumWith 11 rfl) rfl (fun g16 => ?_) (fun g16 => ?_)
      · have h := h.1 g16
        refine zr_iinc (L1 := [(3, zI (v2 + 1)), (0, zRf (zad Γ) 50), (1, zI a1), (2, zI v1)]) C 3 rfl (zdec_at dm_X4_sumWith 31 rfl) (Nat.le_of_ble_eq_true rfl) rfl ?_
        refine zr_goto C (zdec_at dm_X4_sumWith 32 rfl) rfl ?_
        obtain ⟨o17, h⟩ := h
        obtain ⟨n18, q19, q20⟩ := h
        exact zr_sub [1, 2, 3, 0] rfl (ih8 n18 q19 _ _ _ q20 z3 o17 hR6)
      · have h := h.2 g16
        refine zr_aload_n C 0 rfl (zdec_at dm_X4_sumWith 12 rfl) rfl ?_
        refine zr_iload_n C 3 rfl (zdec_at dm_X4_sumWith 13 rfl) rfl ?_
        refine zr_aload_n C 0 rfl (zdec_at dm_X4_sumWith 14 rfl) rfl ?_
        refine zr_iload_n C 3 rfl (zdec_at dm_X4_sumWith 15 rfl) rfl ?_
        refine zr_iload_n C 1 rfl (zdec_at dm_X4_sumWith 16 rfl) rfl ?_
        obtain ⟨g26, h⟩ := h
        refine zr_callV C [v2, a1] hS_X4_nearest ck_RX4_67 iv_X4_nearest vc_X4 oc_50 rfl rfl (zdec_at dm_X4_sumWith 17 rfl) ⟨rfl, rfl, rfl, rfl⟩ ⟨by decide, by decide⟩ (Nat.le_of_ble_eq_true rfl) (zall_0 z4 (zall_0 zz_a1 zall_n)) ?_
        refine ⟨_, _, rfl, g26, fun r21 M22 p25 z24 hR23 => ?_⟩
        have h := h r21 M22 p25 z24 hR23
        show zV Γ mu_X4_sumWith (145, 0, 0) 27 [(0, zRf (zad Γ) 50), (1, zI a1), (2, zI v1), (3, zI v2)] [zI r21, zI v2, zRf (zad Γ) 50] M22
        obtain ⟨g32, h⟩ := h
        refine zr_callV C [v2, r21] hS_X4_distance ck_RX4_70 iv_X4_distance vc_X4 oc_50 rfl rfl (zdec_at dm_X4_sumWith 18 rfl) ⟨rfl, rfl, rfl, rfl⟩ ⟨by decide, by decide⟩ (Nat.le_of_ble_eq_true rfl) (zall_0 z4 (zall_0 z24 zall_n)) ?_
        refine ⟨_, _, rfl, g32, fun r27 M28 p31 z30 hR29 => ?_⟩
        have h := h r27 M28 p31 z30 hR29
        show zV Γ mu_X4_sumWith (145, 0, 0) 30 [(0, zRf (zad Γ) 50), (1, zI a1), (2, zI v1), (3, zI v2)] [zI r27] M28
        refine zr_istore (L1 := [(4, zI r27), (0, zRf (zad Γ) 50), (1, zI a1), (2, zI v1), (3, zI v2)]) C (zdec_at dm_X4_sumWith 19 rfl) (Nat.le_of_ble_eq_true rfl) rfl ?_
        refine zr_iload_n C 3 rfl (zdec_at dm_X4_sumWith 20 rfl) rfl ?_
        refine zr_aload_n C 1 rfl (zdec_at dm_X4_sumWith 21 rfl) rfl ?_
        refine zr_getr (q := 51) C fk_RX4_9 fi_50_3 (zdec_at dm_X4_sumWith 22 rfl) ?_
        refine zr_iload_n C 4 rfl (zdec_at dm_X4_sumWith 23 rfl) rfl ?_
        refine zr_iald C ai_51 o15 (zdec_at dm_X4_sumWith 24 rfl) ?_
        refine zr_iload C 0 rfl (zdec_at dm_X4_sumWith 25 rfl) ?_
        refine zr_imul C (zdec_at dm_X4_sumWith 26 rfl) ?_
        refine zr_iload C 0 rfl (zdec_at dm_X4_sumWith 27 rfl) ?_
        refine zr_imul C (zdec_at dm_X4_sumWith 28 rfl) ?_
        refine zr_iadd C (zdec_at dm_X4_sumWith 29 rfl) ?_
        refine zr_istore_n (L1 := [(2, zI (v1 + (((M28 51 v2) * r27) * r27))), (4, zI r27), (0, zRf (zad Γ) 50), (1, zI a1), (3, zI v2)]) C (zdec_at dm_X4_sumWith 30 rfl) rfl (Nat.le_of_ble_eq_true rfl) rfl ?_
        refine zr_iinc (L1 := [(3, zI (v2 + 1)), (2, zI (v1 + (((M28 51 v2) * r27) * r27))), (4, zI r27), (0, zRf (zad Γ) 50), (1, zI a1)]) C 4 rfl (zdec_at dm_X4_sumWith 31 rfl) (Nat.le_of_ble_eq_true rfl) rfl ?_
        refine zr_goto C (zdec_at dm_X4_sumWith 32 rfl) rfl ?_
        obtain ⟨o33, h⟩ := h
        obtain ⟨o34, h⟩ := h
        obtain ⟨n35, q36, q37⟩ := h
        exact zr_sub [3, 4, 1, 0] rfl (ih8 n35 q36 _ _ _ q37 o33 o34 hR29)
  exact zr_sub [2, 3, 1, 0] rfl (lp9 n11 _ _ _ q12 (by decide) (by decide) hR)

set_option maxHeartbeats 400000 in
set_option maxRecDepth 100000 in
theorem sn_X4_nearest {pr_X4_distance : Int → Int → zM → Prop} {po_X4_distance : Int → Int → zM → Int → zM → Prop} (hS_X4_distance : zSnd zS 145 0 0 yX4_distance cX4_distance 3 (some .int) 1 [2, 0, 0] (F_X4_distance pr_X4_distance po_X4_distance)) : zSnd zS 145 0 0 yX4_nearest cX4_nearest 6 (some .int) 2 [2, 0, 0] (fun xs P M => ∃ a1 a2 : Int, xs = [50, a1, a2] ∧ vc_X4_nearest pr_X4_distance po_X4_distance a1 a2 P M) := by
  refine zSnd.of rfl (fun ad xs hz => Nat.le_trans (Nat.le_of_eq (zlen ad _ xs hz)) (by decide)) ?_
  intro Γ C _ _ xs M hz hF
  obtain ⟨a1, a2, rfl, h⟩ := hF
  have zz_a1 := zall_h (zall_t hz) (by decide)
  have zz_a2 := zall_h (zall_t (zall_t hz)) (by decide)
  refine zr_rng (fun hR => ?_)
  have C : zC Γ mu_X4_nearest := C
  change zV Γ mu_X4_nearest (145, 0, 0) 0 [(0, zRf (zad Γ) 50), (1, zI a1), (2, zI a2)] [] M
  change vc_X4_nearest pr_X4_distance po_X4_distance a1 a2 _ M at h
  unfold vc_X4_nearest at h
  refine zr_iload_n C 1 rfl (zdec_at dm_X4_nearest 0 rfl) rfl ?_
  refine zr_istore_n (L1 := [(3, zI a1), (0, zRf (zad Γ) 50), (1, zI a1), (2, zI a2)]) C (zdec_at dm_X4_nearest 1 rfl) rfl (Nat.le_of_ble_eq_true rfl) rfl ?_
  refine zr_ldc C (zdec_at dm_X4_nearest 2 rfl) kc_RX4_73 ?_
  refine zr_istore (L1 := [(4, zI 1000000), (3, zI a1), (0, zRf (zad Γ) 50), (1, zI a1), (2, zI a2)]) C (zdec_at dm_X4_nearest 3 rfl) (Nat.le_of_ble_eq_true rfl) rfl ?_
  refine zr_iconst C (zdec_at dm_X4_nearest 4 rfl) ?_
  refine zr_istore (L1 := [(5, zI 0), (4, zI 1000000), (3, zI a1), (0, zRf (zad Γ) 50), (1, zI a1), (2, zI a2)]) C (zdec_at dm_X4_nearest 5 rfl) (Nat.le_of_ble_eq_true rfl) rfl ?_
  obtain ⟨I9, ⟨n13, q14⟩, hI12⟩ := h
  have lp11 : ∀ (n9 : Nat) (v1 : Int) (v2 : Int) (v3 : Int) (M7 : zM), I9 v1 v2 v3 M7 n9 → zin v1 → zin v2 → zin v3 → zRng M7 → zV Γ mu_X4_nearest (145, 0, 0) 9 [(0, zRf (zad Γ) 50), (1, zI a1), (2, zI a2), (3, zI v1), (4, zI v2), (5, zI v3)] [] M7 := by
    intro n9
    induction n9 using Nat.strongRecOn with
    | _ n9 ih10 =>
    intro v1 v2 v3 M7 q15 z4 z5 z6 hR8
    have h := hI12 v1 v2 v3 M7 n9 q15 z4 z5 z6 hR8
    refine zr_iload C 5 rfl (zdec_at dm_X4_nearest 6 rfl) ?_
    refine zr_bipush C (zdec_at dm_X4_nearest 7 rfl) (by decide) ?_
    refine zr_icmp_ge C z6 (by decide) (zdec_at dm_X4_nearest 8 rfl) rfl (fun g16 => ?_) (fun g16 => ?_)
    · have h := h.1 g16
      refine zr_iload_n C 3 rfl (zdec_at dm_X4_nearest 30 rfl) rfl ?_
      exact zr_ireturn C rfl (zdec_at dm_X4_nearest 31 rfl) rfl ⟨z4, h⟩
    · have h := h.2 g16
      refine zr_iload_n C 2 rfl (zdec_at dm_X4_nearest 9 rfl) rfl ?_
      refine zr_iload C 5 rfl (zdec_at dm_X4_nearest 10 rfl) ?_
      refine zr_ishr C (zdec_at dm_X4_nearest 11 rfl) ?_
      refine zr_iconst C (zdec_at dm_X4_nearest 12 rfl) ?_
      refine zr_iand C (zdec_at dm_X4_nearest 13 rfl) ?_
      refine zr_if_eq C (zland_z _ _) (zdec_at dm_X4_nearest 14 rfl) rfl (fun g17 => ?_) (fun g17 => ?_)
      · have h := h.1 g17
        refine zr_iinc (L1 := [(5, zI (v3 + 1)), (0, zRf (zad Γ) 50), (1, zI a1), (2, zI a2), (3, zI v1), (4, zI v2)]) C 5 rfl (zdec_at dm_X4_nearest 28 rfl) (Nat.le_of_ble_eq_true rfl) rfl ?_
        refine zr_goto C (zdec_at dm_X4_nearest 29 rfl) rfl ?_
        obtain ⟨o18, h⟩ := h
        obtain ⟨n19, q20, q21⟩ := h
        exact zr_sub [1, 2, 3, 4, 5, 0] rfl (ih10 n19 q20 _ _ _ _ q21 z4 z5 o18 hR8)
      · have h := h.2 g17
        refine zr_aload_n C 0 rfl (zdec_at dm_X4_nearest 15 rfl) rfl ?_
        refine zr_iload_n C 1 rfl (zdec_at dm_X4_nearest 16 rfl) rfl ?_
        refine zr_iload C 5 rfl (zdec_at dm_X4_nearest 17 rfl) ?_
        obtain ⟨g27, h⟩ := h
        refine zr_callV C [a1, v3] hS_X4_distance ck_RX4_70 iv_X4_distance vc_X4 oc_50 rfl rfl (zdec_at dm_X4_nearest 18 rfl) ⟨rfl, rfl, rfl, rfl⟩ ⟨by decide, by decide⟩ (Nat.le_of_ble_eq_true rfl) (zall_0 zz_a1 (zall_0 z6 zall_n)) ?_
        refine ⟨_, _, rfl, g27, fun r22 M23 p26 z25 hR24 => ?_⟩
        have h := h r22 M23 p26 z25 hR24
        show zV Γ mu_X4_nearest (145, 0, 0) 32 [(0, zRf (zad Γ) 50), (1, zI a1), (2, zI a2), (3, zI v1), (4, zI v2), (5, zI v3)] [zI r22] M23
        refine zr_iload C 4 rfl (zdec_at dm_X4_nearest 19 rfl) ?_
        refine zr_icmp_ge C z25 z5 (zdec_at dm_X4_nearest 20 rfl) rfl (fun g28 => ?_) (fun g28 => ?_)
        · have h := h.1 g28
          refine zr_iinc (L1 := [(5, zI (v3 + 1)), (0, zRf (zad Γ) 50), (1, zI a1), (2, zI a2), (3, zI v1), (4, zI v2)]) C 5 rfl (zdec_at dm_X4_nearest 28 rfl) (Nat.le_of_ble_eq_true rfl) rfl ?_
          refine zr_goto C (zdec_at dm_X4_nearest 29 rfl) rfl ?_
          obtain ⟨o29, h⟩ := h
          obtain ⟨n30, q31, q32⟩ := h
          exact zr_sub [1, 2, 3, 4, 5, 0] rfl (ih10 n30 q31 _ _ _ _ q32 z4 z5 o29 hR24)
        · have h := h.2 g28
          refine zr_iload C 5 rfl (zdec_at dm_X4_nearest 21 rfl) ?_
          refine zr_istore_n (L1 := [(3, zI v3), (0, zRf (zad Γ) 50), (1, zI a1), (2, zI a2), (4, zI v2), (5, zI v3)]) C (zdec_at dm_X4_nearest 22 rfl) rfl (Nat.le_of_ble_eq_true rfl) rfl ?_
          refine zr_aload_n C 1 rfl (zdec_at dm_X4_nearest 23 rfl) rfl ?_
          refine zr_iload_n C 2 rfl (zdec_at dm_X4_nearest 24 rfl) rfl ?_
          refine zr_iload C 5 rfl (zdec_at dm_X4_nearest 25 rfl) ?_
          obtain ⟨g38, h⟩ := h
          refine zr_callV C [a1, v3] hS_X4_distance ck_RX4_70 iv_X4_distance vc_X4 oc_50 rfl rfl (zdec_at dm_X4_nearest 26 rfl) ⟨rfl, rfl, rfl, rfl⟩ ⟨by decide, by decide⟩ (Nat.le_of_ble_eq_true rfl) (zall_0 zz_a1 (zall_0 z6 zall_n)) ?_
          refine ⟨_, _, rfl, g38, fun r33 M34 p37 z36 hR35 => ?_⟩
          have h := h r33 M34 p37 z36 hR35
          show zV Γ mu_X4_nearest (145, 0, 0) 47 [(3, zI v3), (0, zRf (zad Γ) 50), (1, zI a1), (2, zI a2), (4, zI v2), (5, zI v3)] [zI r33] M34
          refine zr_istore (L1 := [(4, zI r33), (3, zI v3), (0, zRf (zad Γ) 50), (1, zI a1), (2, zI a2), (5, zI v3)]) C (zdec_at dm_X4_nearest 27 rfl) (Nat.le_of_ble_eq_true rfl) rfl ?_
          refine zr_iinc (L1 := [(5, zI (v3 + 1)), (4, zI r33), (3, zI v3), (0, zRf (zad Γ) 50), (1, zI a1), (2, zI a2)]) C 5 rfl (zdec_at dm_X4_nearest 28 rfl) (Nat.le_of_ble_eq_true rfl) rfl ?_
          refine zr_goto C (zdec_at dm_X4_nearest 29 rfl) rfl ?_
          obtain ⟨o39, h⟩ := h
          obtain ⟨n40, q41, q42⟩ := h
          exact zr_sub [3, 4, 5, 2, 1, 0] rfl (ih10 n40 q41 _ _ _ _ q42 z6 z36 o39 hR35)
  exact zr_sub [3, 4, 5, 2, 1, 0] rfl (lp11 n13 _ _ _ _ q14 zz_a1 (by decide) (by decide) hR)

set_option maxHeartbeats 400000 in
set_option maxRecDepth 100000 in
theorem sn_X4_distance : zSnd zS 145 0 0 yX4_distance cX4_distance 3 (some .int) 1 [2, 0, 0] (fun xs P M => ∃ a1 a2 : Int, xs = [50, a1, a2] ∧ vc_X4_distance a1 a2 P M) := by
  refine zSnd.of rfl (fun ad xs hz => Nat.le_trans (Nat.le_of_eq (zlen ad _ xs hz)) (by decide)) ?_
  intro Γ C _ _ xs M hz hF
  obtain ⟨a1, a2, rfl, h⟩ := hF
  have zz_a1 := zall_h (zall_t hz) (by decide)
  have zz_a2 := zall_h (zall_t (zall_t hz)) (by decide)
  refine zr_rng (fun hR => ?_)
  have C : zC Γ mu_X4_distance := C
  change zV Γ mu_X4_distance (145, 0, 0) 0 [(0, zRf (zad Γ) 50), (1, zI a1), (2, zI a2)] [] M
  change vc_X4_distance a1 a2 _ M at h
  unfold vc_X4_distance at h
  refine zr_aload_n C 0 rfl (zdec_at dm_X4_distance 0 rfl) rfl ?_
  refine zr_getr (q := 1) C fk_RX4_18 fi_50_0 (zdec_at dm_X4_distance 1 rfl) ?_
  refine zr_getr (q := 3) C fk_RX4_74 fi_1_5 (zdec_at dm_X4_distance 2 rfl) ?_
  refine zr_iload_n C 1 rfl (zdec_at dm_X4_distance 3 rfl) rfl ?_
  obtain ⟨o1, h⟩ := h
  refine zr_iald C ai_3 o1 (zdec_at dm_X4_distance 4 rfl) ?_
  refine zr_aload_n C 0 rfl (zdec_at dm_X4_distance 5 rfl) rfl ?_
  refine zr_getr (q := 1) C fk_RX4_18 fi_50_0 (zdec_at dm_X4_distance 6 rfl) ?_
  refine zr_getr (q := 3) C fk_RX4_74 fi_1_5 (zdec_at dm_X4_distance 7 rfl) ?_
  refine zr_iload_n C 2 rfl (zdec_at dm_X4_distance 8 rfl) rfl ?_
  obtain ⟨o2, h⟩ := h
  refine zr_iald C ai_3 o2 (zdec_at dm_X4_distance 9 rfl) ?_
  refine zr_isub C (zdec_at dm_X4_distance 10 rfl) ?_
  obtain ⟨o3, h⟩ := h
  refine zr_mabs C o3 mk_RX4_77 kw_mabs_s kw_mini kw_mabs_c (by decide) ⟨rfl, rfl⟩ (Nat.le_of_ble_eq_true rfl) (zdec_at dm_X4_distance 11 rfl) ?_
  obtain ⟨o4, h⟩ := h
  exact zr_ireturn C rfl (zdec_at dm_X4_distance 12 rfl) rfl ⟨o4, h⟩

set_option maxHeartbeats 400000 in
set_option maxRecDepth 100000 in
theorem sn_X4_paintDraft {pr_X0_isDot : Int → zM → Prop} {po_X0_isDot : Int → zM → Int → zM → Prop} {pr_X4_nearest : Int → Int → zM → Prop} {po_X4_nearest : Int → Int → zM → Int → zM → Prop} (hS_X0_isDot : zSnd zS 145 0 0 yX0_isDot cX0_isDot 2 (some .boolean) 0 [2, 0] (F_X0_isDot pr_X0_isDot po_X0_isDot)) (hS_X4_nearest : zSnd zS 145 0 0 yX4_nearest cX4_nearest 6 (some .int) 2 [2, 0, 0] (F_X4_nearest pr_X4_nearest po_X4_nearest)) : zSnd zS 145 0 0 yX4_paintDraft cX4_paintDraft 2 none 3 [2] (fun xs P M => xs = [50] ∧ vc_X4_paintDraft pr_X0_isDot po_X0_isDot pr_X4_nearest po_X4_nearest P M) := by
  refine zSnd.of rfl (fun ad xs hz => Nat.le_trans (Nat.le_of_eq (zlen ad _ xs hz)) (by decide)) ?_
  intro Γ C _ _ xs M hz hF
  obtain ⟨rfl, h⟩ := hF
  refine zr_rng (fun hR => ?_)
  have C : zC Γ mu_X4_paintDraft := C
  change zV Γ mu_X4_paintDraft (145, 0, 0) 0 [(0, zRf (zad Γ) 50)] [] M
  change vc_X4_paintDraft pr_X0_isDot po_X0_isDot pr_X4_nearest po_X4_nearest _ M at h
  unfold vc_X4_paintDraft at h
  refine zr_iconst C (zdec_at dm_X4_paintDraft 0 rfl) ?_
  refine zr_istore_n (L1 := [(1, zI 0), (0, zRf (zad Γ) 50)]) C (zdec_at dm_X4_paintDraft 1 rfl) rfl (Nat.le_of_ble_eq_true rfl) rfl ?_
  obtain ⟨I2, ⟨n9, q10⟩, hI8⟩ := h
  have lp7 : ∀ (n5 : Nat) (v1 : Int) (M3 : zM), I2 v1 M3 n5 → zin v1 → zRng M3 → zV Γ mu_X4_paintDraft (145, 0, 0) 2 [(0, zRf (zad Γ) 50), (1, zI v1)] [] M3 := by
    intro n5
    induction n5 using Nat.strongRecOn with
    | _ n5 ih6 =>
    intro v1 M3 q11 z2 hR4
    have h := hI8 v1 M3 n5 q11 z2 hR4
    refine zr_iload_n C 1 rfl (zdec_at dm_X4_paintDraft 2 rfl) rfl ?_
    refine zr_sipush C (zdec_at dm_X4_paintDraft 3 rfl) (by decide) ?_
    refine zr_icmp_ge C z2 (by decide) (zdec_at dm_X4_paintDraft 4 rfl) rfl (fun g12 => ?_) (fun g12 => ?_)
    · have h := h.1 g12
      exact zr_return C rfl rfl (zdec_at dm_X4_paintDraft 27 rfl) rfl ⟨by decide, h⟩
    · have h := h.2 g12
      refine zr_aload_n C 0 rfl (zdec_at dm_X4_paintDraft 5 rfl) rfl ?_
      refine zr_getr (q := 1) C fk_RX4_18 fi_50_0 (zdec_at dm_X4_paintDraft 6 rfl) ?_
      refine zr_iload_n C 1 rfl (zdec_at dm_X4_paintDraft 7 rfl) rfl ?_
      obtain ⟨g18, h⟩ := h
      refine zr_callV C [v1] hS_X0_isDot ck_RX4_82 iv_X0_isDot vc_X0 oc_1 rfl rfl (zdec_at dm_X4_paintDraft 8 rfl) ⟨rfl, rfl, rfl, rfl⟩ ⟨by decide, by decide⟩ (Nat.le_of_ble_eq_true rfl) (zall_0 z2 zall_n) ?_
      refine ⟨_, rfl, g18, fun r13 M14 p17 z16 hR15 => ?_⟩
      have h := h r13 M14 p17 z16 hR15
      show zV Γ mu_X4_paintDraft (145, 0, 0) 17 [(0, zRf (zad Γ) 50), (1, zI v1)] [zI r13] M14
      refine zr_if_eq C z16 (zdec_at dm_X4_paintDraft 9 rfl) rfl (fun g19 => ?_) (fun g19 => ?_)
      · have h := h.1 g19
        refine zr_iinc (L1 := [(1, zI (v1 + 1)), (0, zRf (zad Γ) 50)]) C 1 rfl (zdec_at dm_X4_paintDraft 25 rfl) (Nat.le_of_ble_eq_true rfl) rfl ?_
        refine zr_goto C (zdec_at dm_X4_paintDraft 26 rfl) rfl ?_
        obtain ⟨o20, h⟩ := h
        obtain ⟨n21, q22, q23⟩ := h
        exact zr_sub [1, 0] rfl (ih6 n21 q22 _ _ q23 o20 hR15)
      · have h := h.2 g19
        refine zr_aload_n C 0 rfl (zdec_at dm_X4_paintDraft 10 rfl) rfl ?_
        refine zr_getr (q := 1) C fk_RX4_18 fi_50_0 (zdec_at dm_X4_paintDraft 11 rfl) ?_
        refine zr_getr (q := 4) C fk_RX4_85 fi_1_6 (zdec_at dm_X4_paintDraft 12 rfl) ?_
        refine zr_iload_n C 1 rfl (zdec_at dm_X4_paintDraft 13 rfl) rfl ?_
        refine zr_aload_n C 0 rfl (zdec_at dm_X4_paintDraft 14 rfl) rfl ?_
        refine zr_aload_n C 0 rfl (zdec_at dm_X4_paintDraft 15 rfl) rfl ?_
        refine zr_getr (q := 1) C fk_RX4_18 fi_50_0 (zdec_at dm_X4_paintDraft 16 rfl) ?_
        refine zr_getr (q := 2) C fk_RX4_89 fi_1_4 (zdec_at dm_X4_paintDraft 17 rfl) ?_
        refine zr_iload_n C 1 rfl (zdec_at dm_X4_paintDraft 18 rfl) rfl ?_
        obtain ⟨o24, h⟩ := h
        refine zr_bald C ai_2 o24 (zdec_at dm_X4_paintDraft 19 rfl) ?_
        refine zr_aload_n C 0 rfl (zdec_at dm_X4_paintDraft 20 rfl) rfl ?_
        refine zr_geti C fk_RX4_52 fi_50_2 (zdec_at dm_X4_paintDraft 21 rfl) ?_
        obtain ⟨g30, h⟩ := h
        refine zr_callV C [(M14 2 v1), (M14 50 2)] hS_X4_nearest ck_RX4_67 iv_X4_nearest vc_X4 oc_50 rfl rfl (zdec_at dm_X4_paintDraft 22 rfl) ⟨rfl, rfl, rfl, rfl⟩ ⟨by decide, by decide⟩ (Nat.le_of_ble_eq_true rfl) (zall_0 (hR15 _ _) (zall_0 (hR15 _ _) zall_n)) ?_
        refine ⟨_, _, rfl, g30, fun r25 M26 p29 z28 hR27 => ?_⟩
        have h := h r25 M26 p29 z28 hR27
        show zV Γ mu_X4_paintDraft (145, 0, 0) 45 [(0, zRf (zad Γ) 50), (1, zI v1)] [zI r25, zI v1, zRf (zad Γ) 4] M26
        refine zr_i2b C (zdec_at dm_X4_paintDraft 23 rfl) ?_
        refine zr_bast C ai_4 o24 (z_bm _ (by decide) (by decide)) Int.bmod_bmod rfl (zdec_at dm_X4_paintDraft 24 rfl) (fun M31 e32 => ?_)
        have h := h M31 e32
        have hR33 : zRng M31 := by rw [e32]; exact hR27.set (z_bm _ (by decide) (by decide)) _ _
        refine zr_iinc (L1 := [(1, zI (v1 + 1)), (0, zRf (zad Γ) 50)]) C 1 rfl (zdec_at dm_X4_paintDraft 25 rfl) (Nat.le_of_ble_eq_true rfl) rfl ?_
        refine zr_goto C (zdec_at dm_X4_paintDraft 26 rfl) rfl ?_
        obtain ⟨o34, h⟩ := h
        obtain ⟨n35, q36, q37⟩ := h
        exact zr_sub [1, 0] rfl (ih6 n35 q36 _ _ q37 o34 hR33)
  exact zr_sub [1, 0] rfl (lp7 n9 _ _ q10 (by decide) hR)

set_option maxHeartbeats 400000 in
set_option maxRecDepth 100000 in
theorem sn_X5_collect {pr_X2_colour : Int → zM → Prop} {po_X2_colour : Int → zM → Int → zM → Prop} (hS_X2_colour : zSnd zS 145 0 0 yX2_colour cX2_colour 2 (some .int) 1 [2, 0] (F_X2_colour pr_X2_colour po_X2_colour)) : zSnd zS 145 0 0 yX5_collect cX5_collect 3 (some .boolean) 2 [2, 0] (fun xs P M => ∃ a1 : Int, xs = [53, a1] ∧ vc_X5_collect pr_X2_colour po_X2_colour a1 P M) := by
  refine zSnd.of rfl (fun ad xs hz => Nat.le_trans (Nat.le_of_eq (zlen ad _ xs hz)) (by decide)) ?_
  intro Γ C _ _ xs M hz hF
  obtain ⟨a1, rfl, h⟩ := hF
  have zz_a1 := zall_h (zall_t hz) (by decide)
  refine zr_rng (fun hR => ?_)
  have C : zC Γ mu_X5_collect := C
  change zV Γ mu_X5_collect (145, 0, 0) 0 [(0, zRf (zad Γ) 53), (1, zI a1)] [] M
  change vc_X5_collect pr_X2_colour po_X2_colour a1 _ M at h
  unfold vc_X5_collect at h
  refine zr_aload_n C 0 rfl (zdec_at dm_X5_collect 0 rfl) rfl ?_
  refine zr_iconst C (zdec_at dm_X5_collect 1 rfl) ?_
  refine zr_puti C fk_RX5_25 fi_53_1 (by decide) (zdec_at dm_X5_collect 2 rfl) (fun M1 e2 => ?_)
  have h := h M1 e2
  have hR3 : zRng M1 := by rw [e2]; exact hR.set (by decide) _ _
  refine zr_iconst C (zdec_at dm_X5_collect 3 rfl) ?_
  refine zr_istore_n (L1 := [(2, zI 0), (0, zRf (zad Γ) 53), (1, zI a1)]) C (zdec_at dm_X5_collect 4 rfl) rfl (Nat.le_of_ble_eq_true rfl) rfl ?_
  obtain ⟨I7, ⟨n12, q13⟩, hI11⟩ := h
  have lp10 : ∀ (n8 : Nat) (v4 : Int) (M6 : zM), I7 v4 M6 n8 → zin v4 → zRng M6 → zV Γ mu_X5_collect (145, 0, 0) 7 [(0, zRf (zad Γ) 53), (1, zI a1), (2, zI v4)] [] M6 := by
    intro n8
    induction n8 using Nat.strongRecOn with
    | _ n8 ih9 =>
    intro v4 M6 q14 z5 hR7
    have h := hI11 v4 M6 n8 q14 z5 hR7
    refine zr_iload_n C 2 rfl (zdec_at dm_X5_collect 5 rfl) rfl ?_
    refine zr_aload_n C 0 rfl (zdec_at dm_X5_collect 6 rfl) rfl ?_
    refine zr_getr (q := 5) C fk_RX5_21 fi_53_0 (zdec_at dm_X5_collect 7 rfl) ?_
    refine zr_geti C fk_RX5_29 fi_5_2 (zdec_at dm_X5_collect 8 rfl) ?_
    refine zr_icmp_ge C z5 (hR7 _ _) (zdec_at dm_X5_collect 9 rfl) rfl (fun g15 => ?_) (fun g15 => ?_)
    · have h := h.1 g15
      refine zr_iconst C (zdec_at dm_X5_collect 36 rfl) ?_
      exact zr_zreturn C rfl (by decide) (zdec_at dm_X5_collect 37 rfl) rfl ⟨(by decide), h⟩
    · have h := h.2 g15
      refine zr_aload_n C 0 rfl (zdec_at dm_X5_collect 10 rfl) rfl ?_
      refine zr_getr (q := 5) C fk_RX5_21 fi_53_0 (zdec_at dm_X5_collect 11 rfl) ?_
      refine zr_iload_n C 2 rfl (zdec_at dm_X5_collect 12 rfl) rfl ?_
      obtain ⟨g21, h⟩ := h
      refine zr_callV C [v4] hS_X2_colour ck_RX5_34 iv_X2_colour vc_X2 oc_5 rfl rfl (zdec_at dm_X5_collect 13 rfl) ⟨rfl, rfl, rfl, rfl⟩ ⟨by decide, by decide⟩ (Nat.le_of_ble_eq_true rfl) (zall_0 z5 zall_n) ?_
      refine ⟨_, rfl, g21, fun r16 M17 p20 z19 hR18 => ?_⟩
      have h := h r16 M17 p20 z19 hR18
      show zV Γ mu_X5_collect (145, 0, 0) 26 [(0, zRf (zad Γ) 53), (1, zI a1), (2, zI v4)] [zI r16] M17
      refine zr_iload_n C 1 rfl (zdec_at dm_X5_collect 14 rfl) rfl ?_
      refine zr_icmp_ne C z19 zz_a1 (zdec_at dm_X5_collect 15 rfl) rfl (fun g22 => ?_) (fun g22 => ?_)
      · have h := h.1 g22
        refine zr_iinc (L1 := [(2, zI (v4 + 1)), (0, zRf (zad Γ) 53), (1, zI a1)]) C 2 rfl (zdec_at dm_X5_collect 34 rfl) (Nat.le_of_ble_eq_true rfl) rfl ?_
        refine zr_goto C (zdec_at dm_X5_collect 35 rfl) rfl ?_
        obtain ⟨o23, h⟩ := h
        obtain ⟨n24, q25, q26⟩ := h
        exact zr_sub [1, 2, 0] rfl (ih9 n24 q25 _ _ q26 o23 hR18)
      · have h := h.2 g22
        refine zr_aload_n C 0 rfl (zdec_at dm_X5_collect 16 rfl) rfl ?_
        refine zr_geti C fk_RX5_25 fi_53_1 (zdec_at dm_X5_collect 17 rfl) ?_
        refine zr_bipush C (zdec_at dm_X5_collect 18 rfl) (by decide) ?_
        refine zr_icmp_lt C (hR18 _ _) (by decide) (zdec_at dm_X5_collect 19 rfl) rfl (fun g27 => ?_) (fun g27 => ?_)
        · have h := h.1 g27
          refine zr_aload_n C 0 rfl (zdec_at dm_X5_collect 22 rfl) rfl ?_
          refine zr_getr (q := 55) C fk_RX5_15 fi_53_4 (zdec_at dm_X5_collect 23 rfl) ?_
          refine zr_aload_n C 0 rfl (zdec_at dm_X5_collect 24 rfl) rfl ?_
          refine zr_geti C fk_RX5_25 fi_53_1 (zdec_at dm_X5_collect 25 rfl) ?_
          refine zr_iload_n C 2 rfl (zdec_at dm_X5_collect 26 rfl) rfl ?_
          obtain ⟨o28, h⟩ := h
          refine zr_iast C ai_55 o28 z5 (zdec_at dm_X5_collect 27 rfl) (fun M29 e30 => ?_)
          have h := h M29 e30
          have hR31 : zRng M29 := by rw [e30]; exact hR18.set z5 _ _
          refine zr_aload_n C 0 rfl (zdec_at dm_X5_collect 28 rfl) rfl ?_
          refine zr_dup C rfl (zdec_at dm_X5_collect 29 rfl) ?_
          refine zr_geti C fk_RX5_25 fi_53_1 (zdec_at dm_X5_collect 30 rfl) ?_
          refine zr_iconst C (zdec_at dm_X5_collect 31 rfl) ?_
          refine zr_iadd C (zdec_at dm_X5_collect 32 rfl) ?_
          obtain ⟨o32, h⟩ := h
          refine zr_puti C fk_RX5_25 fi_53_1 o32 (zdec_at dm_X5_collect 33 rfl) (fun M33 e34 => ?_)
          have h := h M33 e34
          have hR35 : zRng M33 := by rw [e34]; exact hR31.set o32 _ _
          refine zr_iinc (L1 := [(2, zI (v4 + 1)), (0, zRf (zad Γ) 53), (1, zI a1)]) C 2 rfl (zdec_at dm_X5_collect 34 rfl) (Nat.le_of_ble_eq_true rfl) rfl ?_
          refine zr_goto C (zdec_at dm_X5_collect 35 rfl) rfl ?_
          obtain ⟨o36, h⟩ := h
          obtain ⟨n37, q38, q39⟩ := h
          exact zr_sub [1, 2, 0] rfl (ih9 n37 q38 _ _ q39 o36 hR35)
        · have h := h.2 g27
          refine zr_iconst C (zdec_at dm_X5_collect 20 rfl) ?_
          exact zr_zreturn C rfl (by decide) (zdec_at dm_X5_collect 21 rfl) rfl ⟨(by decide), h⟩
  exact zr_sub [1, 2, 0] rfl (lp10 n12 _ _ q13 (by decide) hR3)

set_option maxHeartbeats 400000 in
set_option maxRecDepth 100000 in
theorem sn_X5_plan {pr_X5_leastFrom : Int → Int → zM → Prop} {po_X5_leastFrom : Int → Int → zM → Int → zM → Prop} {pr_X5_firstBest : Int → Int → zM → Prop} {po_X5_firstBest : Int → Int → zM → Int → zM → Prop} (hS_X5_leastFrom : zSnd zS 145 0 0 yX5_leastFrom cX5_leastFrom 5 (some .int) 3 [2, 0, 0] (F_X5_leastFrom pr_X5_leastFrom po_X5_leastFrom)) (hS_X5_firstBest : zSnd zS 145 0 0 yX5_firstBest cX5_firstBest 5 (some .int) 4 [2, 0, 0] (F_X5_firstBest pr_X5_firstBest po_X5_firstBest)) : zSnd zS 145 0 0 yX5_plan cX5_plan 5 none 5 [2] (fun xs P M => xs = [53] ∧ vc_X5_plan pr_X5_leastFrom po_X5_leastFrom pr_X5_firstBest po_X5_firstBest P M) := by
  refine zSnd.of rfl (fun ad xs hz => Nat.le_trans (Nat.le_of_eq (zlen ad _ xs hz)) (by decide)) ?_
  intro Γ C _ _ xs M hz hF
  obtain ⟨rfl, h⟩ := hF
  refine zr_rng (fun hR => ?_)
  have C : zC Γ mu_X5_plan := C
  change zV Γ mu_X5_plan (145, 0, 0) 0 [(0, zRf (zad Γ) 53)] [] M
  change vc_X5_plan pr_X5_leastFrom po_X5_leastFrom pr_X5_firstBest po_X5_firstBest _ M at h
  unfold vc_X5_plan at h
  refine zr_iconst C (zdec_at dm_X5_plan 0 rfl) ?_
  refine zr_aload_n C 0 rfl (zdec_at dm_X5_plan 1 rfl) rfl ?_
  refine zr_geti C fk_RX5_25 fi_53_1 (zdec_at dm_X5_plan 2 rfl) ?_
  refine zr_ishl C (zdec_at dm_X5_plan 3 rfl) ?_
  refine zr_iconst C (zdec_at dm_X5_plan 4 rfl) ?_
  refine zr_isub C (zdec_at dm_X5_plan 5 rfl) ?_
  refine zr_istore_n (L1 := [(1, zI ((zshl 1 (M 53 1)) - 1)), (0, zRf (zad Γ) 53)]) C (zdec_at dm_X5_plan 6 rfl) rfl (Nat.le_of_ble_eq_true rfl) rfl ?_
  refine zr_iload_n C 0 rfl (zdec_at dm_X5_plan 7 rfl) rfl ?_
  refine zr_istore_n (L1 := [(2, zI ((zshl 1 (M 53 1)) - 1)), (1, zI ((zshl 1 (M 53 1)) - 1)), (0, zRf (zad Γ) 53)]) C (zdec_at dm_X5_plan 8 rfl) rfl (Nat.le_of_ble_eq_true rfl) rfl ?_
  obtain ⟨o2, h⟩ := h
  obtain ⟨I11, ⟨n10, q11⟩, hI9⟩ := h
  have lp8 : ∀ (n6 : Nat) (v1 : Int) (M4 : zM), I11 v1 M4 n6 → zin v1 → zRng M4 → zV Γ mu_X5_plan (145, 0, 0) 11 [(0, zRf (zad Γ) 53), (1, zI ((zshl 1 (M 53 1)) - 1)), (2, zI v1)] [] M4 := by
    intro n6
    induction n6 using Nat.strongRecOn with
    | _ n6 ih7 =>
    intro v1 M4 q12 z3 hR5
    have h := hI9 v1 M4 n6 q12 z3 hR5
    refine zr_iload_n C 2 rfl (zdec_at dm_X5_plan 9 rfl) rfl ?_
    refine zr_if_le C z3 (zdec_at dm_X5_plan 10 rfl) rfl (fun g13 => ?_) (fun g13 => ?_)
    · have h := h.1 g13
      refine zr_aload_n C 0 rfl (zdec_at dm_X5_plan 38 rfl) rfl ?_
      refine zr_aload_n C 0 rfl (zdec_at dm_X5_plan 39 rfl) rfl ?_
      refine zr_iconst C (zdec_at dm_X5_plan 40 rfl) ?_
      refine zr_iconst C (zdec_at dm_X5_plan 41 rfl) ?_
      obtain ⟨g19, h⟩ := h
      refine zr_callV C [0, (-1)] hS_X5_leastFrom ck_RX5_38 iv_X5_leastFrom vc_X5 oc_53 rfl rfl (zdec_at dm_X5_plan 42 rfl) ⟨rfl, rfl, rfl, rfl⟩ ⟨by decide, by decide⟩ (Nat.le_of_ble_eq_true rfl) (zall_0 (by decide) (zall_0 (by decide) zall_n)) ?_
      refine ⟨_, _, rfl, g19, fun r14 M15 p18 z17 hR16 => ?_⟩
      have h := h r14 M15 p18 z17 hR16
      show zV Γ mu_X5_plan (145, 0, 0) 70 [(0, zRf (zad Γ) 53), (1, zI ((zshl 1 (M 53 1)) - 1)), (2, zI v1)] [zI r14, zRf (zad Γ) 53] M15
      refine zr_puti C fk_RX5_42 fi_53_2 z17 (zdec_at dm_X5_plan 43 rfl) (fun M20 e21 => ?_)
      have h := h M20 e21
      have hR22 : zRng M20 := by rw [e21]; exact hR16.set z17 _ _
      refine zr_iconst C (zdec_at dm_X5_plan 44 rfl) ?_
      refine zr_istore_n (L1 := [(2, zI 0), (0, zRf (zad Γ) 53), (1, zI ((zshl 1 (M 53 1)) - 1))]) C (zdec_at dm_X5_plan 45 rfl) rfl (Nat.le_of_ble_eq_true rfl) rfl ?_
      refine zr_iconst C (zdec_at dm_X5_plan 46 rfl) ?_
      refine zr_istore_n (L1 := [(3, zI (-1)), (2, zI 0), (0, zRf (zad Γ) 53), (1, zI ((zshl 1 (M 53 1)) - 1))]) C (zdec_at dm_X5_plan 47 rfl) rfl (Nat.le_of_ble_eq_true rfl) rfl ?_
      refine zr_iconst C (zdec_at dm_X5_plan 48 rfl) ?_
      refine zr_istore (L1 := [(4, zI 0), (3, zI (-1)), (2, zI 0), (0, zRf (zad Γ) 53), (1, zI ((zshl 1 (M 53 1)) - 1))]) C (zdec_at dm_X5_plan 49 rfl) (Nat.le_of_ble_eq_true rfl) rfl ?_
      obtain ⟨I80, ⟨n35, q36⟩, hI34⟩ := h
      have lp33 : ∀ (n31 : Nat) (v23 : Int) (v24 : Int) (v25 : Int) (M29 : zM), I80 v23 v24 v25 M29 n31 → zin v23 → zin v24 → zin v25 → zRng M29 → zV Γ mu_X5_plan (145, 0, 0) 80 [(0, zRf (zad Γ) 53), (2, zI v23), (3, zI v24), (4, zI v25)] [] M29 := by
        intro n31
        induction n31 using Nat.strongRecOn with
        | _ n31 ih32 =>
        intro v23 v24 v25 M29 q37 z26 z27 z28 hR30
        have h := hI34 v23 v24 v25 M29 n31 q37 z26 z27 z28 hR30
        refine zr_iload C 3 rfl (zdec_at dm_X5_plan 50 rfl) ?_
        refine zr_aload_n C 0 rfl (zdec_at dm_X5_plan 51 rfl) rfl ?_
        refine zr_geti C fk_RX5_25 fi_53_1 (zdec_at dm_X5_plan 52 rfl) ?_
        refine zr_icmp_ge C z28 (hR30 _ _) (zdec_at dm_X5_plan 53 rfl) rfl (fun g38 => ?_) (fun g38 => ?_)
        · have h := h.1 g38
          exact zr_return C rfl rfl (zdec_at dm_X5_plan 75 rfl) rfl ⟨by decide, h⟩
        · have h := h.2 g38
          refine zr_aload_n C 0 rfl (zdec_at dm_X5_plan 54 rfl) rfl ?_
          refine zr_iload_n C 1 rfl (zdec_at dm_X5_plan 55 rfl) rfl ?_
          refine zr_iload_n C 2 rfl (zdec_at dm_X5_plan 56 rfl) rfl ?_
          obtain ⟨g44, h⟩ := h
          refine zr_callV C [v23, v24] hS_X5_firstBest ck_RX5_45 iv_X5_firstBest vc_X5 oc_53 rfl rfl (zdec_at dm_X5_plan 57 rfl) ⟨rfl, rfl, rfl, rfl⟩ ⟨by decide, by decide⟩ (Nat.le_of_ble_eq_true rfl) (zall_0 z26 (zall_0 z27 zall_n)) ?_
          refine ⟨_, _, rfl, g44, fun r39 M40 p43 z42 hR41 => ?_⟩
          have h := h r39 M40 p43 z42 hR41
          show zV Γ mu_X5_plan (145, 0, 0) 95 [(0, zRf (zad Γ) 53), (2, zI v23), (3, zI v24), (4, zI v25)] [zI r39] M40
          refine zr_istore_n (L1 := [(3, zI r39), (0, zRf (zad Γ) 53), (2, zI v23), (4, zI v25)]) C (zdec_at dm_X5_plan 58 rfl) rfl (Nat.le_of_ble_eq_true rfl) rfl ?_
          refine zr_iload_n C 2 rfl (zdec_at dm_X5_plan 59 rfl) rfl ?_
          refine zr_iconst C (zdec_at dm_X5_plan 60 rfl) ?_
          refine zr_iload_n C 0 rfl (zdec_at dm_X5_plan 61 rfl) rfl ?_
          refine zr_ishl C (zdec_at dm_X5_plan 62 rfl) ?_
          refine zr_ior C (zdec_at dm_X5_plan 63 rfl) ?_
          refine zr_istore_n (L1 := [(2, zI (zlor v23 (zshl 1 r39))), (3, zI r39), (0, zRf (zad Γ) 53), (4, zI v25)]) C (zdec_at dm_X5_plan 64 rfl) rfl (Nat.le_of_ble_eq_true rfl) rfl ?_
          refine zr_aload_n C 2 rfl (zdec_at dm_X5_plan 65 rfl) rfl ?_
          refine zr_getr (q := 54) C fk_RX5_11 fi_53_3 (zdec_at dm_X5_plan 66 rfl) ?_
          refine zr_iload C 3 rfl (zdec_at dm_X5_plan 67 rfl) ?_
          refine zr_aload_n C 2 rfl (zdec_at dm_X5_plan 68 rfl) rfl ?_
          refine zr_getr (q := 55) C fk_RX5_15 fi_53_4 (zdec_at dm_X5_plan 69 rfl) ?_
          refine zr_iload_n C 1 rfl (zdec_at dm_X5_plan 70 rfl) rfl ?_
          obtain ⟨o45, h⟩ := h
          refine zr_iald C ai_55 o45 (zdec_at dm_X5_plan 71 rfl) ?_
          obtain ⟨o46, h⟩ := h
          refine zr_iast C ai_54 o46 (hR41 _ _) (zdec_at dm_X5_plan 72 rfl) (fun M47 e48 => ?_)
          have h := h M47 e48
          have hR49 : zRng M47 := by rw [e48]; exact hR41.set (hR41 _ _) _ _
          refine zr_iinc (L1 := [(4, zI (v25 + 1)), (2, zI (zlor v23 (zshl 1 r39))), (3, zI r39), (0, zRf (zad Γ) 53)]) C 3 rfl (zdec_at dm_X5_plan 73 rfl) (Nat.le_of_ble_eq_true rfl) rfl ?_
          refine zr_goto C (zdec_at dm_X5_plan 74 rfl) rfl ?_
          obtain ⟨o50, h⟩ := h
          obtain ⟨n51, q52, q53⟩ := h
          exact zr_sub [3, 1, 2, 0] rfl (ih32 n51 q52 _ _ _ _ q53 (zlor_z _ _) z42 o50 hR49)
      exact zr_sub [3, 2, 1, 0] rfl (lp33 n35 _ _ _ _ q36 (by decide) (by decide) (by decide) hR22)
    · have h := h.2 g13
      refine zr_iconst C (zdec_at dm_X5_plan 11 rfl) ?_
      refine zr_istore_n (L1 := [(3, zI 0), (0, zRf (zad Γ) 53), (1, zI ((zshl 1 (M 53 1)) - 1)), (2, zI v1)]) C (zdec_at dm_X5_plan 12 rfl) rfl (Nat.le_of_ble_eq_true rfl) rfl ?_
      obtain ⟨I17, ⟨n62, q63⟩, hI61⟩ := h
      have lp60 : ∀ (n58 : Nat) (v54 : Int) (M56 : zM), I17 v54 M56 n58 → zin v54 → zRng M56 → zV Γ mu_X5_plan (145, 0, 0) 17 [(0, zRf (zad Γ) 53), (1, zI ((zshl 1 (M 53 1)) - 1)), (2, zI v1), (3, zI v54)] [] M56 := by
        intro n58
        induction n58 using Nat.strongRecOn with
        | _ n58 ih59 =>
        intro v54 M56 q64 z55 hR57
        have h := hI61 v54 M56 n58 q64 z55 hR57
        refine zr_iload_n C 3 rfl (zdec_at dm_X5_plan 13 rfl) rfl ?_
        refine zr_aload_n C 0 rfl (zdec_at dm_X5_plan 14 rfl) rfl ?_
        refine zr_geti C fk_RX5_25 fi_53_1 (zdec_at dm_X5_plan 15 rfl) ?_
        refine zr_icmp_ge C z55 (hR57 _ _) (zdec_at dm_X5_plan 16 rfl) rfl (fun g65 => ?_) (fun g65 => ?_)
        · have h := h.1 g65
          refine zr_iinc (L1 := [(2, zI (v1 + (-1))), (0, zRf (zad Γ) 53), (1, zI ((zshl 1 (M 53 1)) - 1)), (3, zI v54)]) C 2 rfl (zdec_at dm_X5_plan 36 rfl) (Nat.le_of_ble_eq_true rfl) rfl ?_
          refine zr_goto C (zdec_at dm_X5_plan 37 rfl) rfl ?_
          obtain ⟨o66, h⟩ := h
          obtain ⟨n67, q68, q69⟩ := h
          exact zr_sub [1, 2, 0] rfl (ih7 n67 q68 _ _ q69 o66 hR57)
        · have h := h.2 g65
          refine zr_aload_n C 0 rfl (zdec_at dm_X5_plan 17 rfl) rfl ?_
          refine zr_getr (q := 56) C fk_RX5_18 fi_53_5 (zdec_at dm_X5_plan 18 rfl) ?_
          refine zr_bipush C (zdec_at dm_X5_plan 19 rfl) (by decide) ?_
          refine zr_iload_n C 2 rfl (zdec_at dm_X5_plan 20 rfl) rfl ?_
          refine zr_imul C (zdec_at dm_X5_plan 21 rfl) ?_
          refine zr_iload_n C 3 rfl (zdec_at dm_X5_plan 22 rfl) rfl ?_
          refine zr_iadd C (zdec_at dm_X5_plan 23 rfl) ?_
          refine zr_iload_n C 2 rfl (zdec_at dm_X5_plan 24 rfl) rfl ?_
          refine zr_iload_n C 1 rfl (zdec_at dm_X5_plan 25 rfl) rfl ?_
          refine zr_icmp_ne C z3 o2 (zdec_at dm_X5_plan 26 rfl) rfl (fun g70 => ?_) (fun g70 => ?_)
          · have h := h.1 g70
            refine zr_aload_n C 0 rfl (zdec_at dm_X5_plan 29 rfl) rfl ?_
            refine zr_iload_n C 2 rfl (zdec_at dm_X5_plan 30 rfl) rfl ?_
            refine zr_iload_n C 3 rfl (zdec_at dm_X5_plan 31 rfl) rfl ?_
            obtain ⟨g76, h⟩ := h
            refine zr_callV C [v1, v54] hS_X5_leastFrom ck_RX5_38 iv_X5_leastFrom vc_X5 oc_53 rfl rfl (zdec_at dm_X5_plan 32 rfl) ⟨rfl, rfl, rfl, rfl⟩ ⟨by decide, by decide⟩ (Nat.le_of_ble_eq_true rfl) (zall_0 z3 (zall_0 z55 zall_n)) ?_
            refine ⟨_, _, rfl, g76, fun r71 M72 p75 z74 hR73 => ?_⟩
            have h := h r71 M72 p75 z74 hR73
            show zV Γ mu_X5_plan (145, 0, 0) 50 [(0, zRf (zad Γ) 53), (1, zI ((zshl 1 (M 53 1)) - 1)), (2, zI v1), (3, zI v54)] [zI r71, zI ((7 * v1) + v54), zRf (zad Γ) 56] M72
            obtain ⟨o77, h⟩ := h
            refine zr_iast C ai_56 o77 z74 (zdec_at dm_X5_plan 33 rfl) (fun M78 e79 => ?_)
            have h := h M78 e79
            have hR80 : zRng M78 := by rw [e79]; exact hR73.set z74 _ _
            refine zr_iinc (L1 := [(3, zI (v54 + 1)), (0, zRf (zad Γ) 53), (1, zI ((zshl 1 (M 53 1)) - 1)), (2, zI v1)]) C 3 rfl (zdec_at dm_X5_plan 34 rfl) (Nat.le_of_ble_eq_true rfl) rfl ?_
            refine zr_goto C (zdec_at dm_X5_plan 35 rfl) rfl ?_
            obtain ⟨o81, h⟩ := h
            obtain ⟨n82, q83, q84⟩ := h
            exact zr_sub [1, 2, 3, 0] rfl (ih59 n82 q83 _ _ q84 o81 hR80)
          · have h := h.2 g70
            refine zr_iconst C (zdec_at dm_X5_plan 27 rfl) ?_
            refine zr_goto C (zdec_at dm_X5_plan 28 rfl) rfl ?_
            obtain ⟨o85, h⟩ := h
            refine zr_iast C ai_56 o85 (by decide) (zdec_at dm_X5_plan 33 rfl) (fun M86 e87 => ?_)
            have h := h M86 e87
            have hR88 : zRng M86 := by rw [e87]; exact hR57.set (by decide) _ _
            refine zr_iinc (L1 := [(3, zI (v54 + 1)), (0, zRf (zad Γ) 53), (1, zI ((zshl 1 (M 53 1)) - 1)), (2, zI v1)]) C 3 rfl (zdec_at dm_X5_plan 34 rfl) (Nat.le_of_ble_eq_true rfl) rfl ?_
            refine zr_goto C (zdec_at dm_X5_plan 35 rfl) rfl ?_
            obtain ⟨o89, h⟩ := h
            obtain ⟨n90, q91, q92⟩ := h
            exact zr_sub [1, 2, 3, 0] rfl (ih59 n90 q91 _ _ q92 o89 hR88)
      exact zr_sub [1, 2, 3, 0] rfl (lp60 n62 _ _ q63 (by decide) hR5)
  exact zr_sub [2, 1, 0] rfl (lp8 n10 _ _ q11 o2 hR)

set_option maxHeartbeats 400000 in
set_option maxRecDepth 100000 in
theorem sn_X5_leastFrom {pr_X5_wayOver : Int → Int → Int → zM → Prop} {po_X5_wayOver : Int → Int → Int → zM → Int → zM → Prop} (hS_X5_wayOver : zSnd zS 145 0 0 yX5_wayOver cX5_wayOver 5 (some .int) 2 [2, 0, 0, 0] (F_X5_wayOver pr_X5_wayOver po_X5_wayOver)) : zSnd zS 145 0 0 yX5_leastFrom cX5_leastFrom 5 (some .int) 3 [2, 0, 0] (fun xs P M => ∃ a1 a2 : Int, xs = [53, a1, a2] ∧ vc_X5_leastFrom pr_X5_wayOver po_X5_wayOver a1 a2 P M) := by
  refine zSnd.of rfl (fun ad xs hz => Nat.le_trans (Nat.le_of_eq (zlen ad _ xs hz)) (by decide)) ?_
  intro Γ C _ _ xs M hz hF
  obtain ⟨a1, a2, rfl, h⟩ := hF
  have zz_a1 := zall_h (zall_t hz) (by decide)
  have zz_a2 := zall_h (zall_t (zall_t hz)) (by decide)
  refine zr_rng (fun hR => ?_)
  have C : zC Γ mu_X5_leastFrom := C
  change zV Γ mu_X5_leastFrom (145, 0, 0) 0 [(0, zRf (zad Γ) 53), (1, zI a1), (2, zI a2)] [] M
  change vc_X5_leastFrom pr_X5_wayOver po_X5_wayOver a1 a2 _ M at h
  unfold vc_X5_leastFrom at h
  refine zr_ldc C (zdec_at dm_X5_leastFrom 0 rfl) kc_RX5_48 ?_
  refine zr_istore_n (L1 := [(3, zI 1000000), (0, zRf (zad Γ) 53), (1, zI a1), (2, zI a2)]) C (zdec_at dm_X5_leastFrom 1 rfl) rfl (Nat.le_of_ble_eq_true rfl) rfl ?_
  refine zr_iconst C (zdec_at dm_X5_leastFrom 2 rfl) ?_
  refine zr_istore (L1 := [(4, zI 0), (3, zI 1000000), (0, zRf (zad Γ) 53), (1, zI a1), (2, zI a2)]) C (zdec_at dm_X5_leastFrom 3 rfl) (Nat.le_of_ble_eq_true rfl) rfl ?_
  obtain ⟨I6, ⟨n11, q12⟩, hI10⟩ := h
  have lp9 : ∀ (n7 : Nat) (v1 : Int) (v2 : Int) (M5 : zM), I6 v1 v2 M5 n7 → zin v1 → zin v2 → zRng M5 → zV Γ mu_X5_leastFrom (145, 0, 0) 6 [(0, zRf (zad Γ) 53), (1, zI a1), (2, zI a2), (3, zI v1), (4, zI v2)] [] M5 := by
    intro n7
    induction n7 using Nat.strongRecOn with
    | _ n7 ih8 =>
    intro v1 v2 M5 q13 z3 z4 hR6
    have h := hI10 v1 v2 M5 n7 q13 z3 z4 hR6
    refine zr_iload C 4 rfl (zdec_at dm_X5_leastFrom 4 rfl) ?_
    refine zr_aload_n C 0 rfl (zdec_at dm_X5_leastFrom 5 rfl) rfl ?_
    refine zr_geti C fk_RX5_25 fi_53_1 (zdec_at dm_X5_leastFrom 6 rfl) ?_
    refine zr_icmp_ge C z4 (hR6 _ _) (zdec_at dm_X5_leastFrom 7 rfl) rfl (fun g14 => ?_) (fun g14 => ?_)
    · have h := h.1 g14
      refine zr_iload_n C 3 rfl (zdec_at dm_X5_leastFrom 18 rfl) rfl ?_
      exact zr_ireturn C rfl (zdec_at dm_X5_leastFrom 19 rfl) rfl ⟨z3, h⟩
    · have h := h.2 g14
      refine zr_iload_n C 3 rfl (zdec_at dm_X5_leastFrom 8 rfl) rfl ?_
      refine zr_aload_n C 0 rfl (zdec_at dm_X5_leastFrom 9 rfl) rfl ?_
      refine zr_iload_n C 1 rfl (zdec_at dm_X5_leastFrom 10 rfl) rfl ?_
      refine zr_iload_n C 2 rfl (zdec_at dm_X5_leastFrom 11 rfl) rfl ?_
      refine zr_iload C 4 rfl (zdec_at dm_X5_leastFrom 12 rfl) ?_
      obtain ⟨g20, h⟩ := h
      refine zr_callV C [a1, a2, v2] hS_X5_wayOver ck_RX5_49 iv_X5_wayOver vc_X5 oc_53 rfl rfl (zdec_at dm_X5_leastFrom 13 rfl) ⟨rfl, rfl, rfl, rfl⟩ ⟨by decide, by decide⟩ (Nat.le_of_ble_eq_true rfl) (zall_0 zz_a1 (zall_0 zz_a2 (zall_0 z4 zall_n))) ?_
      refine ⟨_, _, _, rfl, g20, fun r15 M16 p19 z18 hR17 => ?_⟩
      have h := h r15 M16 p19 z18 hR17
      show zV Γ mu_X5_leastFrom (145, 0, 0) 24 [(0, zRf (zad Γ) 53), (1, zI a1), (2, zI a2), (3, zI v1), (4, zI v2)] [zI r15, zI v1] M16
      refine zr_mmin C z3 z18 mk_RX5_53 kw_mmin_s kw_mini kw_mmin_c (by decide) ⟨rfl, rfl⟩ (Nat.le_of_ble_eq_true rfl) (zdec_at dm_X5_leastFrom 14 rfl) (fun z21 => ?_)
      refine zr_istore_n (L1 := [(3, zI (min v1 r15)), (0, zRf (zad Γ) 53), (1, zI a1), (2, zI a2), (4, zI v2)]) C (zdec_at dm_X5_leastFrom 15 rfl) rfl (Nat.le_of_ble_eq_true rfl) rfl ?_
      refine zr_iinc (L1 := [(4, zI (v2 + 1)), (3, zI (min v1 r15)), (0, zRf (zad Γ) 53), (1, zI a1), (2, zI a2)]) C 4 rfl (zdec_at dm_X5_leastFrom 16 rfl) (Nat.le_of_ble_eq_true rfl) rfl ?_
      refine zr_goto C (zdec_at dm_X5_leastFrom 17 rfl) rfl ?_
      obtain ⟨o22, h⟩ := h
      obtain ⟨n23, q24, q25⟩ := h
      exact zr_sub [2, 3, 4, 1, 0] rfl (ih8 n23 q24 _ _ _ q25 z21 o22 hR17)
  exact zr_sub [2, 3, 4, 1, 0] rfl (lp9 n11 _ _ _ q12 (by decide) (by decide) hR)

set_option maxHeartbeats 400000 in
set_option maxRecDepth 100000 in
theorem sn_X5_firstBest {pr_X5_leastFrom : Int → Int → zM → Prop} {po_X5_leastFrom : Int → Int → zM → Int → zM → Prop} {pr_X5_wayOver : Int → Int → Int → zM → Prop} {po_X5_wayOver : Int → Int → Int → zM → Int → zM → Prop} (hS_X5_leastFrom : zSnd zS 145 0 0 yX5_leastFrom cX5_leastFrom 5 (some .int) 3 [2, 0, 0] (F_X5_leastFrom pr_X5_leastFrom po_X5_leastFrom)) (hS_X5_wayOver : zSnd zS 145 0 0 yX5_wayOver cX5_wayOver 5 (some .int) 2 [2, 0, 0, 0] (F_X5_wayOver pr_X5_wayOver po_X5_wayOver)) : zSnd zS 145 0 0 yX5_firstBest cX5_firstBest 5 (some .int) 4 [2, 0, 0] (fun xs P M => ∃ a1 a2 : Int, xs = [53, a1, a2] ∧ vc_X5_firstBest pr_X5_leastFrom po_X5_leastFrom pr_X5_wayOver po_X5_wayOver a1 a2 P M) := by
  refine zSnd.of rfl (fun ad xs hz => Nat.le_trans (Nat.le_of_eq (zlen ad _ xs hz)) (by decide)) ?_
  intro Γ C _ _ xs M hz hF
  obtain ⟨a1, a2, rfl, h⟩ := hF
  have zz_a1 := zall_h (zall_t hz) (by decide)
  have zz_a2 := zall_h (zall_t (zall_t hz)) (by decide)
  refine zr_rng (fun hR => ?_)
  have C : zC Γ mu_X5_firstBest := C
  change zV Γ mu_X5_firstBest (145, 0, 0) 0 [(0, zRf (zad Γ) 53), (1, zI a1), (2, zI a2)] [] M
  change vc_X5_firstBest pr_X5_leastFrom po_X5_leastFrom pr_X5_wayOver po_X5_wayOver a1 a2 _ M at h
  unfold vc_X5_firstBest at h
  refine zr_aload_n C 0 rfl (zdec_at dm_X5_firstBest 0 rfl) rfl ?_
  refine zr_iload_n C 1 rfl (zdec_at dm_X5_firstBest 1 rfl) rfl ?_
  refine zr_iload_n C 2 rfl (zdec_at dm_X5_firstBest 2 rfl) rfl ?_
  obtain ⟨g6, h⟩ := h
  refine zr_callV C [a1, a2] hS_X5_leastFrom ck_RX5_38 iv_X5_leastFrom vc_X5 oc_53 rfl rfl (zdec_at dm_X5_firstBest 3 rfl) ⟨rfl, rfl, rfl, rfl⟩ ⟨by decide, by decide⟩ (Nat.le_of_ble_eq_true rfl) (zall_0 zz_a1 (zall_0 zz_a2 zall_n)) ?_
  refine ⟨_, _, rfl, g6, fun r1 M2 p5 z4 hR3 => ?_⟩
  have h := h r1 M2 p5 z4 hR3
  show zV Γ mu_X5_firstBest (145, 0, 0) 6 [(0, zRf (zad Γ) 53), (1, zI a1), (2, zI a2)] [zI r1] M2
  refine zr_istore_n (L1 := [(3, zI r1), (0, zRf (zad Γ) 53), (1, zI a1), (2, zI a2)]) C (zdec_at dm_X5_firstBest 4 rfl) rfl (Nat.le_of_ble_eq_true rfl) rfl ?_
  refine zr_iconst C (zdec_at dm_X5_firstBest 5 rfl) ?_
  refine zr_istore (L1 := [(4, zI 0), (3, zI r1), (0, zRf (zad Γ) 53), (1, zI a1), (2, zI a2)]) C (zdec_at dm_X5_firstBest 6 rfl) (Nat.le_of_ble_eq_true rfl) rfl ?_
  obtain ⟨I10, ⟨n15, q16⟩, hI14⟩ := h
  have lp13 : ∀ (n11 : Nat) (v7 : Int) (M9 : zM), I10 v7 M9 n11 → zin v7 → zRng M9 → zV Γ mu_X5_firstBest (145, 0, 0) 10 [(0, zRf (zad Γ) 53), (1, zI a1), (2, zI a2), (3, zI r1), (4, zI v7)] [] M9 := by
    intro n11
    induction n11 using Nat.strongRecOn with
    | _ n11 ih12 =>
    intro v7 M9 q17 z8 hR10
    have h := hI14 v7 M9 n11 q17 z8 hR10
    refine zr_iload C 4 rfl (zdec_at dm_X5_firstBest 7 rfl) ?_
    refine zr_aload_n C 0 rfl (zdec_at dm_X5_firstBest 8 rfl) rfl ?_
    refine zr_geti C fk_RX5_25 fi_53_1 (zdec_at dm_X5_firstBest 9 rfl) ?_
    refine zr_icmp_ge C z8 (hR10 _ _) (zdec_at dm_X5_firstBest 10 rfl) rfl (fun g18 => ?_) (fun g18 => ?_)
    · have h := h.1 g18
      refine zr_iconst C (zdec_at dm_X5_firstBest 22 rfl) ?_
      exact zr_ireturn C rfl (zdec_at dm_X5_firstBest 23 rfl) rfl ⟨(by decide), h⟩
    · have h := h.2 g18
      refine zr_aload_n C 0 rfl (zdec_at dm_X5_firstBest 11 rfl) rfl ?_
      refine zr_iload_n C 1 rfl (zdec_at dm_X5_firstBest 12 rfl) rfl ?_
      refine zr_iload_n C 2 rfl (zdec_at dm_X5_firstBest 13 rfl) rfl ?_
      refine zr_iload C 4 rfl (zdec_at dm_X5_firstBest 14 rfl) ?_
      obtain ⟨g24, h⟩ := h
      refine zr_callV C [a1, a2, v7] hS_X5_wayOver ck_RX5_49 iv_X5_wayOver vc_X5 oc_53 rfl rfl (zdec_at dm_X5_firstBest 15 rfl) ⟨rfl, rfl, rfl, rfl⟩ ⟨by decide, by decide⟩ (Nat.le_of_ble_eq_true rfl) (zall_0 zz_a1 (zall_0 zz_a2 (zall_0 z8 zall_n))) ?_
      refine ⟨_, _, _, rfl, g24, fun r19 M20 p23 z22 hR21 => ?_⟩
      have h := h r19 M20 p23 z22 hR21
      show zV Γ mu_X5_firstBest (145, 0, 0) 27 [(0, zRf (zad Γ) 53), (1, zI a1), (2, zI a2), (3, zI r1), (4, zI v7)] [zI r19] M20
      refine zr_iload_n C 3 rfl (zdec_at dm_X5_firstBest 16 rfl) rfl ?_
      refine zr_icmp_ne C z22 z4 (zdec_at dm_X5_firstBest 17 rfl) rfl (fun g25 => ?_) (fun g25 => ?_)
      · have h := h.1 g25
        refine zr_iinc (L1 := [(4, zI (v7 + 1)), (0, zRf (zad Γ) 53), (1, zI a1), (2, zI a2), (3, zI r1)]) C 4 rfl (zdec_at dm_X5_firstBest 20 rfl) (Nat.le_of_ble_eq_true rfl) rfl ?_
        refine zr_goto C (zdec_at dm_X5_firstBest 21 rfl) rfl ?_
        obtain ⟨o26, h⟩ := h
        obtain ⟨n27, q28, q29⟩ := h
        exact zr_sub [1, 2, 3, 4, 0] rfl (ih12 n27 q28 _ _ q29 o26 hR21)
      · have h := h.2 g25
        refine zr_iload C 4 rfl (zdec_at dm_X5_firstBest 18 rfl) ?_
        exact zr_ireturn C rfl (zdec_at dm_X5_firstBest 19 rfl) rfl ⟨z8, h⟩
  exact zr_sub [2, 3, 4, 1, 0] rfl (lp13 n15 _ _ q16 (by decide) hR3)

set_option maxHeartbeats 400000 in
set_option maxRecDepth 100000 in
theorem sn_X5_wayOver {pr_X5_distance : Int → Int → zM → Prop} {po_X5_distance : Int → Int → zM → Int → zM → Prop} (hS_X5_distance : zSnd zS 145 0 0 yX5_distance cX5_distance 5 (some .int) 1 [2, 0, 0] (F_X5_distance pr_X5_distance po_X5_distance)) : zSnd zS 145 0 0 yX5_wayOver cX5_wayOver 5 (some .int) 2 [2, 0, 0, 0] (fun xs P M => ∃ a1 a2 a3 : Int, xs = [53, a1, a2, a3] ∧ vc_X5_wayOver pr_X5_distance po_X5_distance a1 a2 a3 P M) := by
  refine zSnd.of rfl (fun ad xs hz => Nat.le_trans (Nat.le_of_eq (zlen ad _ xs hz)) (by decide)) ?_
  intro Γ C _ _ xs M hz hF
  obtain ⟨a1, a2, a3, rfl, h⟩ := hF
  have zz_a1 := zall_h (zall_t hz) (by decide)
  have zz_a2 := zall_h (zall_t (zall_t hz)) (by decide)
  have zz_a3 := zall_h (zall_t (zall_t (zall_t hz))) (by decide)
  refine zr_rng (fun hR => ?_)
  have C : zC Γ mu_X5_wayOver := C
  change zV Γ mu_X5_wayOver (145, 0, 0) 0 [(0, zRf (zad Γ) 53), (1, zI a1), (2, zI a2), (3, zI a3)] [] M
  change vc_X5_wayOver pr_X5_distance po_X5_distance a1 a2 a3 _ M at h
  unfold vc_X5_wayOver at h
  refine zr_iload_n C 1 rfl (zdec_at dm_X5_wayOver 0 rfl) rfl ?_
  refine zr_iload_n C 3 rfl (zdec_at dm_X5_wayOver 1 rfl) rfl ?_
  refine zr_ishr C (zdec_at dm_X5_wayOver 2 rfl) ?_
  refine zr_iconst C (zdec_at dm_X5_wayOver 3 rfl) ?_
  refine zr_iand C (zdec_at dm_X5_wayOver 4 rfl) ?_
  refine zr_if_eq C (zland_z _ _) (zdec_at dm_X5_wayOver 5 rfl) rfl (fun g1 => ?_) (fun g1 => ?_)
  · have h := h.1 g1
    refine zr_bipush C (zdec_at dm_X5_wayOver 8 rfl) (by decide) ?_
    refine zr_iload_n C 1 rfl (zdec_at dm_X5_wayOver 9 rfl) rfl ?_
    refine zr_iconst C (zdec_at dm_X5_wayOver 10 rfl) ?_
    refine zr_iload_n C 3 rfl (zdec_at dm_X5_wayOver 11 rfl) rfl ?_
    refine zr_ishl C (zdec_at dm_X5_wayOver 12 rfl) ?_
    refine zr_ior C (zdec_at dm_X5_wayOver 13 rfl) ?_
    refine zr_imul C (zdec_at dm_X5_wayOver 14 rfl) ?_
    refine zr_iload_n C 3 rfl (zdec_at dm_X5_wayOver 15 rfl) rfl ?_
    refine zr_iadd C (zdec_at dm_X5_wayOver 16 rfl) ?_
    refine zr_istore (L1 := [(4, zI ((7 * (zlor a1 (zshl 1 a3))) + a3)), (0, zRf (zad Γ) 53), (1, zI a1), (2, zI a2), (3, zI a3)]) C (zdec_at dm_X5_wayOver 17 rfl) (Nat.le_of_ble_eq_true rfl) rfl ?_
    refine zr_iload C 0 rfl (zdec_at dm_X5_wayOver 18 rfl) ?_
    refine zr_aload_n C 1 rfl (zdec_at dm_X5_wayOver 19 rfl) rfl ?_
    refine zr_getr (q := 56) C fk_RX5_18 fi_53_5 (zdec_at dm_X5_wayOver 20 rfl) ?_
    refine zr_alen (len := 896) C (by decide) ai_56 (zdec_at dm_X5_wayOver 21 rfl) ?_
    obtain ⟨o2, h⟩ := h
    refine zr_icmp_ge C o2 (by decide) (zdec_at dm_X5_wayOver 22 rfl) rfl (fun g3 => ?_) (fun g3 => ?_)
    · have h := h.1 g3
      refine zr_ldc C (zdec_at dm_X5_wayOver 33 rfl) kc_RX5_48 ?_
      exact zr_ireturn C rfl (zdec_at dm_X5_wayOver 34 rfl) rfl ⟨(by decide), h⟩
    · have h := h.2 g3
      refine zr_aload_n C 1 rfl (zdec_at dm_X5_wayOver 23 rfl) rfl ?_
      refine zr_iload_n C 3 rfl (zdec_at dm_X5_wayOver 24 rfl) rfl ?_
      refine zr_iload_n C 4 rfl (zdec_at dm_X5_wayOver 25 rfl) rfl ?_
      obtain ⟨g9, h⟩ := h
      refine zr_callV C [a2, a3] hS_X5_distance ck_RX5_58 iv_X5_distance vc_X5 oc_53 rfl rfl (zdec_at dm_X5_wayOver 26 rfl) ⟨rfl, rfl, rfl, rfl⟩ ⟨by decide, by decide⟩ (Nat.le_of_ble_eq_true rfl) (zall_0 zz_a2 (zall_0 zz_a3 zall_n)) ?_
      refine ⟨_, _, rfl, g9, fun r4 M5 p8 z7 hR6 => ?_⟩
      have h := h r4 M5 p8 z7 hR6
      show zV Γ mu_X5_wayOver (145, 0, 0) 39 [(4, zI ((7 * (zlor a1 (zshl 1 a3))) + a3)), (0, zRf (zad Γ) 53), (1, zI a1), (2, zI a2), (3, zI a3)] [zI r4] M5
      refine zr_aload_n C 1 rfl (zdec_at dm_X5_wayOver 27 rfl) rfl ?_
      refine zr_getr (q := 56) C fk_RX5_18 fi_53_5 (zdec_at dm_X5_wayOver 28 rfl) ?_
      refine zr_iload C 0 rfl (zdec_at dm_X5_wayOver 29 rfl) ?_
      obtain ⟨o10, h⟩ := h
      refine zr_iald C ai_56 o10 (zdec_at dm_X5_wayOver 30 rfl) ?_
      refine zr_iadd C (zdec_at dm_X5_wayOver 31 rfl) ?_
      refine zr_goto C (zdec_at dm_X5_wayOver 32 rfl) rfl ?_
      obtain ⟨o11, h⟩ := h
      exact zr_ireturn C rfl (zdec_at dm_X5_wayOver 34 rfl) rfl ⟨o11, h⟩
  · have h := h.2 g1
    refine zr_ldc C (zdec_at dm_X5_wayOver 6 rfl) kc_RX5_48 ?_
    exact zr_ireturn C rfl (zdec_at dm_X5_wayOver 7 rfl) rfl ⟨(by decide), h⟩

set_option maxHeartbeats 400000 in
set_option maxRecDepth 100000 in
theorem sn_X5_distance : zSnd zS 145 0 0 yX5_distance cX5_distance 5 (some .int) 1 [2, 0, 0] (fun xs P M => ∃ a1 a2 : Int, xs = [53, a1, a2] ∧ vc_X5_distance a1 a2 P M) := by
  refine zSnd.of rfl (fun ad xs hz => Nat.le_trans (Nat.le_of_eq (zlen ad _ xs hz)) (by decide)) ?_
  intro Γ C _ _ xs M hz hF
  obtain ⟨a1, a2, rfl, h⟩ := hF
  have zz_a1 := zall_h (zall_t hz) (by decide)
  have zz_a2 := zall_h (zall_t (zall_t hz)) (by decide)
  refine zr_rng (fun hR => ?_)
  have C : zC Γ mu_X5_distance := C
  change zV Γ mu_X5_distance (145, 0, 0) 0 [(0, zRf (zad Γ) 53), (1, zI a1), (2, zI a2)] [] M
  change vc_X5_distance a1 a2 _ M at h
  unfold vc_X5_distance at h
  refine zr_iload_n C 1 rfl (zdec_at dm_X5_distance 0 rfl) rfl ?_
  have h := h (fun v1 => zin v1 → zV Γ mu_X5_distance (145, 0, 0) 22 [(0, zRf (zad Γ) 53), (2, zI a2)] [zI v1] M) (fun v1 h z2 => by
    have h := h z2
    refine zr_istore_n (L1 := [(3, zI v1), (0, zRf (zad Γ) 53), (2, zI a2)]) C (zdec_at dm_X5_distance 12 rfl) rfl (Nat.le_of_ble_eq_true rfl) rfl ?_
    refine zr_aload_n C 1 rfl (zdec_at dm_X5_distance 13 rfl) rfl ?_
    refine zr_getr (q := 5) C fk_RX5_21 fi_53_0 (zdec_at dm_X5_distance 14 rfl) ?_
    refine zr_getr (q := 7) C fk_RX5_61 fi_5_4 (zdec_at dm_X5_distance 15 rfl) ?_
    refine zr_aload_n C 1 rfl (zdec_at dm_X5_distance 16 rfl) rfl ?_
    refine zr_getr (q := 55) C fk_RX5_15 fi_53_4 (zdec_at dm_X5_distance 17 rfl) ?_
    refine zr_iload_n C 2 rfl (zdec_at dm_X5_distance 18 rfl) rfl ?_
    obtain ⟨o3, h⟩ := h
    refine zr_iald C ai_55 o3 (zdec_at dm_X5_distance 19 rfl) ?_
    obtain ⟨o4, h⟩ := h
    refine zr_iald C ai_7 o4 (zdec_at dm_X5_distance 20 rfl) ?_
    refine zr_istore (L1 := [(4, zI (M 7 (M 55 a2))), (3, zI v1), (0, zRf (zad Γ) 53), (2, zI a2)]) C (zdec_at dm_X5_distance 21 rfl) (Nat.le_of_ble_eq_true rfl) rfl ?_
    refine zr_iload C 0 rfl (zdec_at dm_X5_distance 22 rfl) ?_
    refine zr_bipush C (zdec_at dm_X5_distance 23 rfl) (by decide) ?_
    obtain ⟨o5, h⟩ := h
    refine zr_irem C (hR _ _) (by decide) ⟨o5, by decide⟩ (zdec_at dm_X5_distance 24 rfl) ?_
    refine zr_iload_n C 1 rfl (zdec_at dm_X5_distance 25 rfl) rfl ?_
    refine zr_bipush C (zdec_at dm_X5_distance 26 rfl) (by decide) ?_
    obtain ⟨o6, h⟩ := h
    refine zr_irem C z2 (by decide) ⟨o6, by decide⟩ (zdec_at dm_X5_distance 27 rfl) ?_
    refine zr_isub C (zdec_at dm_X5_distance 28 rfl) ?_
    obtain ⟨o7, h⟩ := h
    refine zr_mabs C o7 mk_RX5_64 kw_mabs_s kw_mini kw_mabs_c (by decide) ⟨rfl, rfl⟩ (Nat.le_of_ble_eq_true rfl) (zdec_at dm_X5_distance 29 rfl) ?_
    refine zr_iload C 0 rfl (zdec_at dm_X5_distance 30 rfl) ?_
    refine zr_bipush C (zdec_at dm_X5_distance 31 rfl) (by decide) ?_
    refine zr_idiv C (hR _ _) (by decide) ⟨o5, by decide⟩ (zdec_at dm_X5_distance 32 rfl) ?_
    refine zr_iload_n C 1 rfl (zdec_at dm_X5_distance 33 rfl) rfl ?_
    refine zr_bipush C (zdec_at dm_X5_distance 34 rfl) (by decide) ?_
    refine zr_idiv C z2 (by decide) ⟨o6, by decide⟩ (zdec_at dm_X5_distance 35 rfl) ?_
    refine zr_isub C (zdec_at dm_X5_distance 36 rfl) ?_
    obtain ⟨o8, h⟩ := h
    refine zr_mabs C o8 mk_RX5_64 kw_mabs_s kw_mini kw_mabs_c (by decide) ⟨rfl, rfl⟩ (Nat.le_of_ble_eq_true rfl) (zdec_at dm_X5_distance 37 rfl) ?_
    refine zr_iadd C (zdec_at dm_X5_distance 38 rfl) ?_
    obtain ⟨o9, h⟩ := h
    exact zr_ireturn C rfl (zdec_at dm_X5_distance 39 rfl) rfl ⟨o9, h⟩)
  refine zr_if_ge C zz_a1 (zdec_at dm_X5_distance 1 rfl) rfl (fun g10 => ?_) (fun g10 => ?_)
  · have h := h.1 g10
    refine zr_aload_n C 0 rfl (zdec_at dm_X5_distance 4 rfl) rfl ?_
    refine zr_getr (q := 5) C fk_RX5_21 fi_53_0 (zdec_at dm_X5_distance 5 rfl) ?_
    refine zr_getr (q := 7) C fk_RX5_61 fi_5_4 (zdec_at dm_X5_distance 6 rfl) ?_
    refine zr_aload_n C 0 rfl (zdec_at dm_X5_distance 7 rfl) rfl ?_
    refine zr_getr (q := 55) C fk_RX5_15 fi_53_4 (zdec_at dm_X5_distance 8 rfl) ?_
    refine zr_iload_n C 1 rfl (zdec_at dm_X5_distance 9 rfl) rfl ?_
    obtain ⟨o11, h⟩ := h
    refine zr_iald C ai_55 o11 (zdec_at dm_X5_distance 10 rfl) ?_
    obtain ⟨o12, h⟩ := h
    refine zr_iald C ai_7 o12 (zdec_at dm_X5_distance 11 rfl) ?_
    exact zr_sub [0, 2] rfl (h (hR _ _))
  · have h := h.2 g10
    refine zr_iconst C (zdec_at dm_X5_distance 2 rfl) ?_
    refine zr_goto C (zdec_at dm_X5_distance 3 rfl) rfl ?_
    exact zr_sub [0, 2] rfl (h (by decide))

set_option maxHeartbeats 400000 in
set_option maxRecDepth 100000 in
theorem sn_X8_add : zSnd zS 145 0 0 yX8_add cX8_add 3 (some .int) 1 [2, 2, 0] (fun xs P M => ∃ a1 a2 : Int, xs = [57, a1, a2] ∧ vc_X8_add a1 a2 P M) := by
  refine zSnd.of rfl (fun ad xs hz => Nat.le_trans (Nat.le_of_eq (zlen ad _ xs hz)) (by decide)) ?_
  intro Γ C _ _ xs M hz hF
  obtain ⟨a1, a2, rfl, h⟩ := hF
  have zz_a2 := zall_h (zall_t (zall_t hz)) (by decide)
  refine zr_rng (fun hR => ?_)
  have C : zC Γ mu_X8_add := C
  change zV Γ mu_X8_add (145, 0, 0) 0 [(0, zRf (zad Γ) 57), (1, zRf (zad Γ) a1), (2, zI a2)] [] M
  change vc_X8_add a1 a2 _ M at h
  unfold vc_X8_add at h
  refine zr_aload_n C 0 rfl (zdec_at dm_X8_add 0 rfl) rfl ?_
  refine zr_geti C fk_RX8_27 fi_57_0 (zdec_at dm_X8_add 1 rfl) ?_
  refine zr_bipush C (zdec_at dm_X8_add 2 rfl) (by decide) ?_
  refine zr_icmp_ge C (hR _ _) (by decide) (zdec_at dm_X8_add 3 rfl) rfl (fun g1 => ?_) (fun g1 => ?_)
  · have h := h.1 g1
    refine zr_bipush C (zdec_at dm_X8_add 7 rfl) (by decide) ?_
    exact zr_ireturn C rfl (zdec_at dm_X8_add 8 rfl) rfl ⟨(by decide), h⟩
  · have h := h.2 g1
    refine zr_iload_n C 2 rfl (zdec_at dm_X8_add 4 rfl) rfl ?_
    refine zr_bipush C (zdec_at dm_X8_add 5 rfl) (by decide) ?_
    refine zr_icmp_le C zz_a2 (by decide) (zdec_at dm_X8_add 6 rfl) rfl (fun g2 => ?_) (fun g2 => ?_)
    · have h := h.1 g2
      refine zr_aload_n C 1 rfl (zdec_at dm_X8_add 9 rfl) rfl ?_
      refine zr_iconst C (zdec_at dm_X8_add 10 rfl) ?_
      refine zr_aload_n C 0 rfl (zdec_at dm_X8_add 11 rfl) rfl ?_
      refine zr_getr (q := 58) C fk_RX8_13 fi_57_1 (zdec_at dm_X8_add 12 rfl) ?_
      refine zr_aload_n C 0 rfl (zdec_at dm_X8_add 13 rfl) rfl ?_
      refine zr_geti C fk_RX8_27 fi_57_0 (zdec_at dm_X8_add 14 rfl) ?_
      obtain ⟨o3, h⟩ := h
      refine zr_aald (q := (59 + (M 57 0))) C (by decide) ai_58 o3 (zrow_tc o3) (zdec_at dm_X8_add 15 rfl) ?_
      refine zr_iconst C (zdec_at dm_X8_add 16 rfl) ?_
      refine zr_iload_n C 2 rfl (zdec_at dm_X8_add 17 rfl) rfl ?_
      obtain ⟨o4, h⟩ := h
      obtain ⟨o5, h⟩ := h
      refine zr_copy C (by decide) o4 (zrow_t o3) o5 (fun q => absurd q (by decide)) rfl (by decide) kw_copy_RX8_31 kw_cnat kw_cstat kw_cini (zdec_at dm_X8_add 18 rfl) (fun M6 e7 => ?_)
      have h := h M6 e7
      have hR8 : zRng M6 := by rw [e7]; exact hR.cpy _ _ _ _ _
      refine zr_aload_n C 0 rfl (zdec_at dm_X8_add 19 rfl) rfl ?_
      refine zr_getr (q := 71) C fk_RX8_16 fi_57_2 (zdec_at dm_X8_add 20 rfl) ?_
      refine zr_aload_n C 0 rfl (zdec_at dm_X8_add 21 rfl) rfl ?_
      refine zr_geti C fk_RX8_27 fi_57_0 (zdec_at dm_X8_add 22 rfl) ?_
      refine zr_iload_n C 2 rfl (zdec_at dm_X8_add 23 rfl) rfl ?_
      obtain ⟨o9, h⟩ := h
      refine zr_iast C ai_71 o9 zz_a2 (zdec_at dm_X8_add 24 rfl) (fun M10 e11 => ?_)
      have h := h M10 e11
      have hR12 : zRng M10 := by rw [e11]; exact hR8.set zz_a2 _ _
      refine zr_aload_n C 0 rfl (zdec_at dm_X8_add 25 rfl) rfl ?_
      refine zr_getr (q := 72) C fk_RX8_20 fi_57_3 (zdec_at dm_X8_add 26 rfl) ?_
      refine zr_aload_n C 0 rfl (zdec_at dm_X8_add 27 rfl) rfl ?_
      refine zr_geti C fk_RX8_27 fi_57_0 (zdec_at dm_X8_add 28 rfl) ?_
      refine zr_iconst C (zdec_at dm_X8_add 29 rfl) ?_
      obtain ⟨o13, h⟩ := h
      refine zr_zast C ai_72 o13 (by decide) (by decide) rfl (zdec_at dm_X8_add 30 rfl) (fun M14 e15 => ?_)
      have h := h M14 e15
      have hR16 : zRng M14 := by rw [e15]; exact hR12.set (by decide) _ _
      refine zr_aload_n C 0 rfl (zdec_at dm_X8_add 31 rfl) rfl ?_
      refine zr_dup C rfl (zdec_at dm_X8_add 32 rfl) ?_
      refine zr_geti C fk_RX8_27 fi_57_0 (zdec_at dm_X8_add 33 rfl) ?_
      refine zr_iconst C (zdec_at dm_X8_add 34 rfl) ?_
      refine zr_iadd C (zdec_at dm_X8_add 35 rfl) ?_
      obtain ⟨o17, h⟩ := h
      refine zr_puti C fk_RX8_27 fi_57_0 o17 (zdec_at dm_X8_add 36 rfl) (fun M18 e19 => ?_)
      have h := h M18 e19
      have hR20 : zRng M18 := by rw [e19]; exact hR16.set o17 _ _
      refine zr_aload_n C 0 rfl (zdec_at dm_X8_add 37 rfl) rfl ?_
      refine zr_geti C fk_RX8_27 fi_57_0 (zdec_at dm_X8_add 38 rfl) ?_
      refine zr_iconst C (zdec_at dm_X8_add 39 rfl) ?_
      refine zr_isub C (zdec_at dm_X8_add 40 rfl) ?_
      obtain ⟨o21, h⟩ := h
      exact zr_ireturn C rfl (zdec_at dm_X8_add 41 rfl) rfl ⟨o21, h⟩
    · have h := h.2 g2
      refine zr_bipush C (zdec_at dm_X8_add 7 rfl) (by decide) ?_
      exact zr_ireturn C rfl (zdec_at dm_X8_add 8 rfl) rfl ⟨(by decide), h⟩

set_option maxHeartbeats 400000 in
set_option maxRecDepth 100000 in
theorem sn_X8_countTold : zSnd zS 145 0 0 yX8_countTold cX8_countTold 3 (some .int) 0 [2] (fun xs P M => xs = [57] ∧ vc_X8_countTold P M) := by
  refine zSnd.of rfl (fun ad xs hz => Nat.le_trans (Nat.le_of_eq (zlen ad _ xs hz)) (by decide)) ?_
  intro Γ C _ _ xs M hz hF
  obtain ⟨rfl, h⟩ := hF
  refine zr_rng (fun hR => ?_)
  have C : zC Γ mu_X8_countTold := C
  change zV Γ mu_X8_countTold (145, 0, 0) 0 [(0, zRf (zad Γ) 57)] [] M
  change vc_X8_countTold _ M at h
  unfold vc_X8_countTold at h
  refine zr_iconst C (zdec_at dm_X8_countTold 0 rfl) ?_
  refine zr_istore_n (L1 := [(1, zI 0), (0, zRf (zad Γ) 57)]) C (zdec_at dm_X8_countTold 1 rfl) rfl (Nat.le_of_ble_eq_true rfl) rfl ?_
  refine zr_iconst C (zdec_at dm_X8_countTold 2 rfl) ?_
  refine zr_istore_n (L1 := [(2, zI 0), (1, zI 0), (0, zRf (zad Γ) 57)]) C (zdec_at dm_X8_countTold 3 rfl) rfl (Nat.le_of_ble_eq_true rfl) rfl ?_
  obtain ⟨I4, ⟨n9, q10⟩, hI8⟩ := h
  have lp7 : ∀ (n5 : Nat) (v1 : Int) (v2 : Int), I4 v1 v2 n5 → zin v1 → zin v2 → zV Γ mu_X8_countTold (145, 0, 0) 4 [(0, zRf (zad Γ) 57), (1, zI v1), (2, zI v2)] [] M := by
    intro n5
    induction n5 using Nat.strongRecOn with
    | _ n5 ih6 =>
    intro v1 v2 q11 z3 z4
    have h := hI8 v1 v2 n5 q11 z3 z4
    refine zr_iload_n C 2 rfl (zdec_at dm_X8_countTold 4 rfl) rfl ?_
    refine zr_aload_n C 0 rfl (zdec_at dm_X8_countTold 5 rfl) rfl ?_
    refine zr_geti C fk_RX8_27 fi_57_0 (zdec_at dm_X8_countTold 6 rfl) ?_
    refine zr_icmp_ge C z4 (hR _ _) (zdec_at dm_X8_countTold 7 rfl) rfl (fun g12 => ?_) (fun g12 => ?_)
    · have h := h.1 g12
      refine zr_iload_n C 1 rfl (zdec_at dm_X8_countTold 16 rfl) rfl ?_
      exact zr_ireturn C rfl (zdec_at dm_X8_countTold 17 rfl) rfl ⟨z3, h⟩
    · have h := h.2 g12
      refine zr_aload_n C 0 rfl (zdec_at dm_X8_countTold 8 rfl) rfl ?_
      refine zr_getr (q := 72) C fk_RX8_20 fi_57_3 (zdec_at dm_X8_countTold 9 rfl) ?_
      refine zr_iload_n C 2 rfl (zdec_at dm_X8_countTold 10 rfl) rfl ?_
      obtain ⟨o13, h⟩ := h
      refine zr_zald C ai_72 o13 (zdec_at dm_X8_countTold 11 rfl) ?_
      refine zr_if_eq C (hR _ _) (zdec_at dm_X8_countTold 12 rfl) rfl (fun g14 => ?_) (fun g14 => ?_)
      · have h := h.1 g14
        refine zr_iinc (L1 := [(2, zI (v2 + 1)), (0, zRf (zad Γ) 57), (1, zI v1)]) C 2 rfl (zdec_at dm_X8_countTold 14 rfl) (Nat.le_of_ble_eq_true rfl) rfl ?_
        refine zr_goto C (zdec_at dm_X8_countTold 15 rfl) rfl ?_
        obtain ⟨o15, h⟩ := h
        obtain ⟨n16, q17, q18⟩ := h
        exact zr_sub [1, 2, 0] rfl (ih6 n16 q17 _ _ q18 z3 o15)
      · have h := h.2 g14
        refine zr_iinc (L1 := [(1, zI (v1 + 1)), (0, zRf (zad Γ) 57), (2, zI v2)]) C 1 rfl (zdec_at dm_X8_countTold 13 rfl) (Nat.le_of_ble_eq_true rfl) rfl ?_
        refine zr_iinc (L1 := [(2, zI (v2 + 1)), (1, zI (v1 + 1)), (0, zRf (zad Γ) 57)]) C 2 rfl (zdec_at dm_X8_countTold 14 rfl) (Nat.le_of_ble_eq_true rfl) rfl ?_
        refine zr_goto C (zdec_at dm_X8_countTold 15 rfl) rfl ?_
        obtain ⟨o19, h⟩ := h
        obtain ⟨o20, h⟩ := h
        obtain ⟨n21, q22, q23⟩ := h
        exact zr_sub [2, 1, 0] rfl (ih6 n21 q22 _ _ q23 o19 o20)
  exact zr_sub [2, 1, 0] rfl (lp7 n9 _ _ q10 (by decide) (by decide))

set_option maxHeartbeats 400000 in
set_option maxRecDepth 100000 in
theorem sn_X8_takeImage : zSnd zS 145 0 0 yX8_takeImage cX8_takeImage 2 none 0 [2] (fun xs P M => xs = [57] ∧ vc_X8_takeImage P M) := by
  refine zSnd.of rfl (fun ad xs hz => Nat.le_trans (Nat.le_of_eq (zlen ad _ xs hz)) (by decide)) ?_
  intro Γ C _ _ xs M hz hF
  obtain ⟨rfl, h⟩ := hF
  refine zr_rng (fun hR => ?_)
  have C : zC Γ mu_X8_takeImage := C
  change zV Γ mu_X8_takeImage (145, 0, 0) 0 [(0, zRf (zad Γ) 57)] [] M
  change vc_X8_takeImage _ M at h
  unfold vc_X8_takeImage at h
  refine zr_aload_n C 0 rfl (zdec_at dm_X8_takeImage 0 rfl) rfl ?_
  refine zr_aload_n C 0 rfl (zdec_at dm_X8_takeImage 1 rfl) rfl ?_
  refine zr_geti C fk_RX8_27 fi_57_0 (zdec_at dm_X8_takeImage 2 rfl) ?_
  refine zr_puti C fk_RX8_37 fi_57_4 (hR _ _) (zdec_at dm_X8_takeImage 3 rfl) (fun M1 e2 => ?_)
  have h := h M1 e2
  have hR3 : zRng M1 := by rw [e2]; exact hR.set (hR _ _) _ _
  refine zr_iconst C (zdec_at dm_X8_takeImage 4 rfl) ?_
  refine zr_istore_n (L1 := [(1, zI 0), (0, zRf (zad Γ) 57)]) C (zdec_at dm_X8_takeImage 5 rfl) rfl (Nat.le_of_ble_eq_true rfl) rfl ?_
  obtain ⟨I10, ⟨n12, q13⟩, hI11⟩ := h
  have lp10 : ∀ (n8 : Nat) (v4 : Int) (M6 : zM), I10 v4 M6 n8 → zin v4 → zRng M6 → zV Γ mu_X8_takeImage (145, 0, 0) 10 [(0, zRf (zad Γ) 57), (1, zI v4)] [] M6 := by
    intro n8
    induction n8 using Nat.strongRecOn with
    | _ n8 ih9 =>
    intro v4 M6 q14 z5 hR7
    have h := hI11 v4 M6 n8 q14 z5 hR7
    refine zr_iload_n C 1 rfl (zdec_at dm_X8_takeImage 6 rfl) rfl ?_
    refine zr_bipush C (zdec_at dm_X8_takeImage 7 rfl) (by decide) ?_
    refine zr_icmp_ge C z5 (by decide) (zdec_at dm_X8_takeImage 8 rfl) rfl (fun g15 => ?_) (fun g15 => ?_)
    · have h := h.1 g15
      exact zr_return C rfl rfl (zdec_at dm_X8_takeImage 19 rfl) rfl ⟨by decide, h⟩
    · have h := h.2 g15
      refine zr_aload_n C 0 rfl (zdec_at dm_X8_takeImage 9 rfl) rfl ?_
      refine zr_getr (q := 73) C fk_RX8_24 fi_57_5 (zdec_at dm_X8_takeImage 10 rfl) ?_
      refine zr_iload_n C 1 rfl (zdec_at dm_X8_takeImage 11 rfl) rfl ?_
      refine zr_aload_n C 0 rfl (zdec_at dm_X8_takeImage 12 rfl) rfl ?_
      refine zr_getr (q := 72) C fk_RX8_20 fi_57_3 (zdec_at dm_X8_takeImage 13 rfl) ?_
      refine zr_iload_n C 1 rfl (zdec_at dm_X8_takeImage 14 rfl) rfl ?_
      obtain ⟨o16, h⟩ := h
      refine zr_zald C ai_72 o16 (zdec_at dm_X8_takeImage 15 rfl) ?_
      obtain ⟨o17, h⟩ := h
      refine zr_zast C ai_73 o16 (hR7 _ _) o17 rfl (zdec_at dm_X8_takeImage 16 rfl) (fun M18 e19 => ?_)
      have h := h M18 e19
      have hR20 : zRng M18 := by rw [e19]; exact hR7.set (hR7 _ _) _ _
      refine zr_iinc (L1 := [(1, zI (v4 + 1)), (0, zRf (zad Γ) 57)]) C 1 rfl (zdec_at dm_X8_takeImage 17 rfl) (Nat.le_of_ble_eq_true rfl) rfl ?_
      refine zr_goto C (zdec_at dm_X8_takeImage 18 rfl) rfl ?_
      obtain ⟨o21, h⟩ := h
      obtain ⟨n22, q23, q24⟩ := h
      exact zr_sub [1, 0] rfl (ih9 n22 q23 _ _ q24 o21 hR20)
  exact zr_sub [1, 0] rfl (lp10 n12 _ _ q13 (by decide) hR3)

set_option maxHeartbeats 400000 in
set_option maxRecDepth 100000 in
theorem sn_X8_bringBack : zSnd zS 145 0 0 yX8_bringBack cX8_bringBack 2 none 0 [2] (fun xs P M => xs = [57] ∧ vc_X8_bringBack P M) := by
  refine zSnd.of rfl (fun ad xs hz => Nat.le_trans (Nat.le_of_eq (zlen ad _ xs hz)) (by decide)) ?_
  intro Γ C _ _ xs M hz hF
  obtain ⟨rfl, h⟩ := hF
  refine zr_rng (fun hR => ?_)
  have C : zC Γ mu_X8_bringBack := C
  change zV Γ mu_X8_bringBack (145, 0, 0) 0 [(0, zRf (zad Γ) 57)] [] M
  change vc_X8_bringBack _ M at h
  unfold vc_X8_bringBack at h
  refine zr_aload_n C 0 rfl (zdec_at dm_X8_bringBack 0 rfl) rfl ?_
  refine zr_aload_n C 0 rfl (zdec_at dm_X8_bringBack 1 rfl) rfl ?_
  refine zr_geti C fk_RX8_37 fi_57_4 (zdec_at dm_X8_bringBack 2 rfl) ?_
  refine zr_puti C fk_RX8_27 fi_57_0 (hR _ _) (zdec_at dm_X8_bringBack 3 rfl) (fun M1 e2 => ?_)
  have h := h M1 e2
  have hR3 : zRng M1 := by rw [e2]; exact hR.set (hR _ _) _ _
  refine zr_iconst C (zdec_at dm_X8_bringBack 4 rfl) ?_
  refine zr_istore_n (L1 := [(1, zI 0), (0, zRf (zad Γ) 57)]) C (zdec_at dm_X8_bringBack 5 rfl) rfl (Nat.le_of_ble_eq_true rfl) rfl ?_
  obtain ⟨I10, ⟨n12, q13⟩, hI11⟩ := h
  have lp10 : ∀ (n8 : Nat) (v4 : Int) (M6 : zM), I10 v4 M6 n8 → zin v4 → zRng M6 → zV Γ mu_X8_bringBack (145, 0, 0) 10 [(0, zRf (zad Γ) 57), (1, zI v4)] [] M6 := by
    intro n8
    induction n8 using Nat.strongRecOn with
    | _ n8 ih9 =>
    intro v4 M6 q14 z5 hR7
    have h := hI11 v4 M6 n8 q14 z5 hR7
    refine zr_iload_n C 1 rfl (zdec_at dm_X8_bringBack 6 rfl) rfl ?_
    refine zr_bipush C (zdec_at dm_X8_bringBack 7 rfl) (by decide) ?_
    refine zr_icmp_ge C z5 (by decide) (zdec_at dm_X8_bringBack 8 rfl) rfl (fun g15 => ?_) (fun g15 => ?_)
    · have h := h.1 g15
      exact zr_return C rfl rfl (zdec_at dm_X8_bringBack 19 rfl) rfl ⟨by decide, h⟩
    · have h := h.2 g15
      refine zr_aload_n C 0 rfl (zdec_at dm_X8_bringBack 9 rfl) rfl ?_
      refine zr_getr (q := 72) C fk_RX8_20 fi_57_3 (zdec_at dm_X8_bringBack 10 rfl) ?_
      refine zr_iload_n C 1 rfl (zdec_at dm_X8_bringBack 11 rfl) rfl ?_
      refine zr_aload_n C 0 rfl (zdec_at dm_X8_bringBack 12 rfl) rfl ?_
      refine zr_getr (q := 73) C fk_RX8_24 fi_57_5 (zdec_at dm_X8_bringBack 13 rfl) ?_
      refine zr_iload_n C 1 rfl (zdec_at dm_X8_bringBack 14 rfl) rfl ?_
      obtain ⟨o16, h⟩ := h
      refine zr_zald C ai_73 o16 (zdec_at dm_X8_bringBack 15 rfl) ?_
      obtain ⟨o17, h⟩ := h
      refine zr_zast C ai_72 o16 (hR7 _ _) o17 rfl (zdec_at dm_X8_bringBack 16 rfl) (fun M18 e19 => ?_)
      have h := h M18 e19
      have hR20 : zRng M18 := by rw [e19]; exact hR7.set (hR7 _ _) _ _
      refine zr_iinc (L1 := [(1, zI (v4 + 1)), (0, zRf (zad Γ) 57)]) C 1 rfl (zdec_at dm_X8_bringBack 17 rfl) (Nat.le_of_ble_eq_true rfl) rfl ?_
      refine zr_goto C (zdec_at dm_X8_bringBack 18 rfl) rfl ?_
      obtain ⟨o21, h⟩ := h
      obtain ⟨n22, q23, q24⟩ := h
      exact zr_sub [1, 0] rfl (ih9 n22 q23 _ _ q24 o21 hR20)
  exact zr_sub [1, 0] rfl (lp10 n12 _ _ q13 (by decide) hR3)

set_option maxHeartbeats 400000 in
set_option maxRecDepth 100000 in
theorem sn_X7_read {pr_X7_byteAhead : zM → Prop} {po_X7_byteAhead : zM → Int → zM → Prop} {pr_X7_take : Int → zM → Prop} {po_X7_take : Int → zM → zM → Prop} {pr_X7_readOr : Int → zM → Prop} {po_X7_readOr : Int → zM → Int → zM → Prop} {pr_X7_stop : zM → Prop} {po_X7_stop : zM → zM → Prop} (hS_X7_byteAhead : zSnd zS 145 0 0 yX7_byteAhead cX7_byteAhead 1 (some .int) 0 [2] (F_X7_byteAhead pr_X7_byteAhead po_X7_byteAhead)) (hS_X7_take : zSnd zS 145 0 0 yX7_take cX7_take 2 none 1 [2, 0] (F_X7_take pr_X7_take po_X7_take)) (hS_X7_readOr : zSnd zS 145 0 0 yX7_readOr cX7_readOr 5 (some .boolean) 7 [2, 0] (F_X7_readOr pr_X7_readOr po_X7_readOr)) (hS_X7_stop : zSnd zS 145 0 0 yX7_stop cX7_stop 1 none 0 [2] (F_X7_stop pr_X7_stop po_X7_stop)) : zSnd zS 145 0 0 yX7_read cX7_read 4 (some .boolean) 8 [2, 2, 0] (fun xs P M => ∃ a1 a2 : Int, xs = [74, a1, a2] ∧ vc_X7_read pr_X7_byteAhead po_X7_byteAhead pr_X7_take po_X7_take pr_X7_readOr po_X7_readOr pr_X7_stop po_X7_stop a1 a2 P M) := by
  refine zSnd.of rfl (fun ad xs hz => Nat.le_trans (Nat.le_of_eq (zlen ad _ xs hz)) (by decide)) ?_
  intro Γ C _ _ xs M hz hF
  obtain ⟨a1, a2, rfl, h⟩ := hF
  have zz_a2 := zall_h (zall_t (zall_t hz)) (by decide)
  refine zr_rng (fun hR => ?_)
  have C : zC Γ mu_X7_read := C
  change zV Γ mu_X7_read (145, 0, 0) 0 [(0, zRf (zad Γ) 74), (1, zRf (zad Γ) a1), (2, zI a2)] [] M
  change vc_X7_read pr_X7_byteAhead po_X7_byteAhead pr_X7_take po_X7_take pr_X7_readOr po_X7_readOr pr_X7_stop po_X7_stop a1 a2 _ M at h
  unfold vc_X7_read at h
  refine zr_aload_n C 0 rfl (zdec_at dm_X7_read 0 rfl) rfl ?_
  refine zr_aload_n C 1 rfl (zdec_at dm_X7_read 1 rfl) rfl ?_
  obtain ⟨o1, h⟩ := h
  obtain ⟨o2, h⟩ := h
  refine zr_putm C fk_RX7_15 fi_74_2 o1 o2 (zdec_at dm_X7_read 2 rfl) (fun M3 e4 => ?_)
  have h := h M3 e4
  have hR5 : zRng M3 := by rw [e4]; exact hR.set o1 _ _
  refine zr_aload_n C 0 rfl (zdec_at dm_X7_read 3 rfl) rfl ?_
  refine zr_iload_n C 2 rfl (zdec_at dm_X7_read 4 rfl) rfl ?_
  refine zr_aload_n C 1 rfl (zdec_at dm_X7_read 5 rfl) rfl ?_
  obtain ⟨o6, h⟩ := h
  refine zr_alen C (by decide) o6 (zdec_at dm_X7_read 6 rfl) ?_
  rw [zln_i]
  refine zr_mmin C zz_a2 (zln_z o6) mk_RX7_22 kw_mmin_s kw_mini kw_mmin_c (by decide) ⟨rfl, rfl⟩ (Nat.le_of_ble_eq_true rfl) (zdec_at dm_X7_read 7 rfl) (fun z7 => ?_)
  refine zr_puti C fk_RX7_28 fi_74_3 z7 (zdec_at dm_X7_read 8 rfl) (fun M8 e9 => ?_)
  have h := h M8 e9
  have hR10 : zRng M8 := by rw [e9]; exact hR5.set z7 _ _
  refine zr_aload_n C 0 rfl (zdec_at dm_X7_read 9 rfl) rfl ?_
  refine zr_iconst C (zdec_at dm_X7_read 10 rfl) ?_
  refine zr_puti C fk_RX7_31 fi_74_4 (by decide) (zdec_at dm_X7_read 11 rfl) (fun M11 e12 => ?_)
  have h := h M11 e12
  have hR13 : zRng M11 := by rw [e12]; exact hR10.set (by decide) _ _
  refine zr_aload_n C 0 rfl (zdec_at dm_X7_read 12 rfl) rfl ?_
  refine zr_bipush C (zdec_at dm_X7_read 13 rfl) (by decide) ?_
  refine zr_puti C fk_RX7_18 fi_74_1 (by decide) (zdec_at dm_X7_read 14 rfl) (fun M14 e15 => ?_)
  have h := h M14 e15
  have hR16 : zRng M14 := by rw [e15]; exact hR13.set (by decide) _ _
  refine zr_aload_n C 0 rfl (zdec_at dm_X7_read 15 rfl) rfl ?_
  obtain ⟨g22, h⟩ := h
  refine zr_callV C [] hS_X7_byteAhead ck_RX7_34 iv_X7_byteAhead vc_X7 oc_74 rfl rfl (zdec_at dm_X7_read 16 rfl) ⟨rfl, rfl, rfl, rfl⟩ ⟨by decide, by decide⟩ (Nat.le_of_ble_eq_true rfl) zall_n ?_
  refine ⟨rfl, g22, fun r17 M18 p21 z20 hR19 => ?_⟩
  have h := h r17 M18 p21 z20 hR19
  show zV Γ mu_X7_read (145, 0, 0) 30 [(0, zRf (zad Γ) 74), (1, zRf (zad Γ) a1), (2, zI a2)] [zI r17] M18
  refine zr_bipush C (zdec_at dm_X7_read 17 rfl) (by decide) ?_
  have h := h (fun M23 => zRng M23 → zV Γ mu_X7_read (145, 0, 0) 61 [(0, zRf (zad Γ) 74)] [] M23) (fun M23 h hR24 => by
    have h := h hR24
    refine zr_aload_n C 0 rfl (zdec_at dm_X7_read 32 rfl) rfl ?_
    refine zr_bipush C (zdec_at dm_X7_read 33 rfl) (by decide) ?_
    obtain ⟨g29, h⟩ := h
    refine zr_callV C [58] hS_X7_take ck_RX7_41 iv_X7_take vc_X7 oc_74 rfl rfl (zdec_at dm_X7_read 34 rfl) ⟨rfl, rfl, rfl, rfl⟩ ⟨by decide, by decide⟩ (Nat.le_of_ble_eq_true rfl) (zall_0 (by decide) zall_n) ?_
    refine ⟨_, rfl, g29, fun M25 p28 _ hR26 => ?_⟩
    have h := h M25 p28 hR26
    show zV Γ mu_X7_read (145, 0, 0) 67 [(0, zRf (zad Γ) 74)] [] M25
    refine zr_aload_n C 0 rfl (zdec_at dm_X7_read 35 rfl) rfl ?_
    refine zr_iconst C (zdec_at dm_X7_read 36 rfl) ?_
    obtain ⟨g35, h⟩ := h
    refine zr_callV C [0] hS_X7_readOr ck_RX7_45 iv_X7_readOr vc_X7 oc_74 rfl rfl (zdec_at dm_X7_read 37 rfl) ⟨rfl, rfl, rfl, rfl⟩ ⟨by decide, by decide⟩ (Nat.le_of_ble_eq_true rfl) (zall_0 (by decide) zall_n) ?_
    refine ⟨_, rfl, g35, fun r30 M31 p34 z33 hR32 => ?_⟩
    have h := h r30 M31 p34 z33 hR32
    show zV Γ mu_X7_read (145, 0, 0) 72 [(0, zRf (zad Γ) 74)] [zI r30] M31
    refine zr_istore_n (L1 := [(3, zI r30), (0, zRf (zad Γ) 74)]) C (zdec_at dm_X7_read 38 rfl) rfl (Nat.le_of_ble_eq_true rfl) rfl ?_
    refine zr_aload_n C 1 rfl (zdec_at dm_X7_read 39 rfl) rfl ?_
    refine zr_geti C fk_RX7_31 fi_74_4 (zdec_at dm_X7_read 40 rfl) ?_
    refine zr_aload_n C 1 rfl (zdec_at dm_X7_read 41 rfl) rfl ?_
    refine zr_geti C fk_RX7_28 fi_74_3 (zdec_at dm_X7_read 42 rfl) ?_
    refine zr_icmp_ge C (hR32 _ _) (hR32 _ _) (zdec_at dm_X7_read 43 rfl) rfl (fun g36 => ?_) (fun g36 => ?_)
    · have h := h.1 g36
      refine zr_iload_n C 0 rfl (zdec_at dm_X7_read 46 rfl) rfl ?_
      obtain ⟨o37, h⟩ := h
      exact zr_zreturn C rfl o37 (zdec_at dm_X7_read 47 rfl) rfl ⟨z33, h⟩
    · have h := h.2 g36
      refine zr_aload_n C 1 rfl (zdec_at dm_X7_read 44 rfl) rfl ?_
      obtain ⟨g42, h⟩ := h
      refine zr_callV C [] hS_X7_stop ck_RX7_38 iv_X7_stop vc_X7 oc_74 rfl rfl (zdec_at dm_X7_read 45 rfl) ⟨rfl, rfl, rfl, rfl⟩ ⟨by decide, by decide⟩ (Nat.le_of_ble_eq_true rfl) zall_n ?_
      refine ⟨rfl, g42, fun M38 p41 _ hR39 => ?_⟩
      have h := h M38 p41 hR39
      show zV Γ mu_X7_read (145, 0, 0) 88 [(3, zI r30), (0, zRf (zad Γ) 74)] [] M38
      refine zr_iload_n C 0 rfl (zdec_at dm_X7_read 46 rfl) rfl ?_
      obtain ⟨o43, h⟩ := h
      exact zr_zreturn C rfl o43 (zdec_at dm_X7_read 47 rfl) rfl ⟨z33, h⟩)
  have h := h (fun M44 => zRng M44 → zV Γ mu_X7_read (145, 0, 0) 57 [(0, zRf (zad Γ) 74)] [] M44) (fun M44 h hR45 => by
    have h := h hR45
    refine zr_aload_n C 0 rfl (zdec_at dm_X7_read 30 rfl) rfl ?_
    obtain ⟨g50, h⟩ := h
    refine zr_callV C [] hS_X7_stop ck_RX7_38 iv_X7_stop vc_X7 oc_74 rfl rfl (zdec_at dm_X7_read 31 rfl) ⟨rfl, rfl, rfl, rfl⟩ ⟨by decide, by decide⟩ (Nat.le_of_ble_eq_true rfl) zall_n ?_
    refine ⟨rfl, g50, fun M46 p49 _ hR47 => ?_⟩
    have h := h M46 p49 hR47
    show zV Γ mu_X7_read (145, 0, 0) 61 [(0, zRf (zad Γ) 74)] [] M46
    exact zr_sub [0] rfl (h hR47))
  refine zr_icmp_lt C z20 (by decide) (zdec_at dm_X7_read 18 rfl) rfl (fun g51 => ?_) (fun g51 => ?_)
  · have h := h.1 g51
    exact zr_sub [0] rfl (h hR19)
  · have h := h.2 g51
    refine zr_aload_n C 0 rfl (zdec_at dm_X7_read 19 rfl) rfl ?_
    obtain ⟨g57, h⟩ := h
    refine zr_callV C [] hS_X7_byteAhead ck_RX7_34 iv_X7_byteAhead vc_X7 oc_74 rfl rfl (zdec_at dm_X7_read 20 rfl) ⟨rfl, rfl, rfl, rfl⟩ ⟨by decide, by decide⟩ (Nat.le_of_ble_eq_true rfl) zall_n ?_
    refine ⟨rfl, g57, fun r52 M53 p56 z55 hR54 => ?_⟩
    have h := h r52 M53 p56 z55 hR54
    show zV Γ mu_X7_read (145, 0, 0) 39 [(0, zRf (zad Γ) 74), (1, zRf (zad Γ) a1), (2, zI a2)] [zI r52] M53
    refine zr_bipush C (zdec_at dm_X7_read 21 rfl) (by decide) ?_
    refine zr_icmp_gt C z55 (by decide) (zdec_at dm_X7_read 22 rfl) rfl (fun g58 => ?_) (fun g58 => ?_)
    · have h := h.1 g58
      exact zr_sub [0] rfl (h hR54)
    · have h := h.2 g58
      refine zr_aload_n C 0 rfl (zdec_at dm_X7_read 23 rfl) rfl ?_
      refine zr_dup C rfl (zdec_at dm_X7_read 24 rfl) ?_
      refine zr_geti C fk_RX7_31 fi_74_4 (zdec_at dm_X7_read 25 rfl) ?_
      refine zr_iconst C (zdec_at dm_X7_read 26 rfl) ?_
      refine zr_iadd C (zdec_at dm_X7_read 27 rfl) ?_
      obtain ⟨o59, h⟩ := h
      refine zr_puti C fk_RX7_31 fi_74_4 o59 (zdec_at dm_X7_read 28 rfl) (fun M60 e61 => ?_)
      have h := h M60 e61
      have hR62 : zRng M60 := by rw [e61]; exact hR54.set o59 _ _
      refine zr_goto C (zdec_at dm_X7_read 29 rfl) rfl ?_
      exact zr_sub [0] rfl (h hR62)

set_option maxHeartbeats 400000 in
set_option maxRecDepth 100000 in
theorem sn_X7_byteAhead : zSnd zS 145 0 0 yX7_byteAhead cX7_byteAhead 1 (some .int) 0 [2] (fun xs P M => xs = [74] ∧ vc_X7_byteAhead P M) := by
  refine zSnd.of rfl (fun ad xs hz => Nat.le_trans (Nat.le_of_eq (zlen ad _ xs hz)) (by decide)) ?_
  intro Γ C _ _ xs M hz hF
  obtain ⟨rfl, h⟩ := hF
  refine zr_rng (fun hR => ?_)
  have C : zC Γ mu_X7_byteAhead := C
  change zV Γ mu_X7_byteAhead (145, 0, 0) 0 [(0, zRf (zad Γ) 74)] [] M
  change vc_X7_byteAhead _ M at h
  unfold vc_X7_byteAhead at h
  refine zr_aload_n C 0 rfl (zdec_at dm_X7_byteAhead 0 rfl) rfl ?_
  refine zr_geti C fk_RX7_18 fi_74_1 (zdec_at dm_X7_byteAhead 1 rfl) ?_
  refine zr_bipush C (zdec_at dm_X7_byteAhead 2 rfl) (by decide) ?_
  refine zr_icmp_ne C (hR _ _) (by decide) (zdec_at dm_X7_byteAhead 3 rfl) rfl (fun g1 => ?_) (fun g1 => ?_)
  · have h := h.1 g1
    refine zr_iconst C (zdec_at dm_X7_byteAhead 18 rfl) ?_
    exact zr_ireturn C rfl (zdec_at dm_X7_byteAhead 19 rfl) rfl ⟨(by decide), h⟩
  · have h := h.2 g1
    refine zr_aload_n C 0 rfl (zdec_at dm_X7_byteAhead 4 rfl) rfl ?_
    refine zr_geti C fk_RX7_31 fi_74_4 (zdec_at dm_X7_byteAhead 5 rfl) ?_
    refine zr_if_lt C (hR _ _) (zdec_at dm_X7_byteAhead 6 rfl) rfl (fun g2 => ?_) (fun g2 => ?_)
    · have h := h.1 g2
      refine zr_iconst C (zdec_at dm_X7_byteAhead 18 rfl) ?_
      exact zr_ireturn C rfl (zdec_at dm_X7_byteAhead 19 rfl) rfl ⟨(by decide), h⟩
    · have h := h.2 g2
      refine zr_aload_n C 0 rfl (zdec_at dm_X7_byteAhead 7 rfl) rfl ?_
      refine zr_geti C fk_RX7_31 fi_74_4 (zdec_at dm_X7_byteAhead 8 rfl) ?_
      refine zr_aload_n C 0 rfl (zdec_at dm_X7_byteAhead 9 rfl) rfl ?_
      refine zr_geti C fk_RX7_28 fi_74_3 (zdec_at dm_X7_byteAhead 10 rfl) ?_
      refine zr_icmp_ge C (hR _ _) (hR _ _) (zdec_at dm_X7_byteAhead 11 rfl) rfl (fun g3 => ?_) (fun g3 => ?_)
      · have h := h.1 g3
        refine zr_iconst C (zdec_at dm_X7_byteAhead 18 rfl) ?_
        exact zr_ireturn C rfl (zdec_at dm_X7_byteAhead 19 rfl) rfl ⟨(by decide), h⟩
      · have h := h.2 g3
        refine zr_aload_n C 0 rfl (zdec_at dm_X7_byteAhead 12 rfl) rfl ?_
        refine zr_getm C fk_RX7_15 fi_74_2 (zdec_at dm_X7_byteAhead 13 rfl) ?_
        obtain ⟨o4, h⟩ := h
        rw [zA_pos (zia_n o4)]
        refine zr_aload_n C 0 rfl (zdec_at dm_X7_byteAhead 14 rfl) rfl ?_
        refine zr_geti C fk_RX7_31 fi_74_4 (zdec_at dm_X7_byteAhead 15 rfl) ?_
        obtain ⟨o5, h⟩ := h
        refine zr_iald C o4 o5 (zdec_at dm_X7_byteAhead 16 rfl) ?_
        refine zr_goto C (zdec_at dm_X7_byteAhead 17 rfl) rfl ?_
        exact zr_ireturn C rfl (zdec_at dm_X7_byteAhead 19 rfl) rfl ⟨(hR _ _), h⟩

set_option maxHeartbeats 400000 in
set_option maxRecDepth 100000 in
theorem sn_X7_stop : zSnd zS 145 0 0 yX7_stop cX7_stop 1 none 0 [2] (fun xs P M => xs = [74] ∧ vc_X7_stop P M) := by
  refine zSnd.of rfl (fun ad xs hz => Nat.le_trans (Nat.le_of_eq (zlen ad _ xs hz)) (by decide)) ?_
  intro Γ C _ _ xs M hz hF
  obtain ⟨rfl, h⟩ := hF
  refine zr_rng (fun hR => ?_)
  have C : zC Γ mu_X7_stop := C
  change zV Γ mu_X7_stop (145, 0, 0) 0 [(0, zRf (zad Γ) 74)] [] M
  change vc_X7_stop _ M at h
  unfold vc_X7_stop at h
  refine zr_aload_n C 0 rfl (zdec_at dm_X7_stop 0 rfl) rfl ?_
  refine zr_geti C fk_RX7_18 fi_74_1 (zdec_at dm_X7_stop 1 rfl) ?_
  refine zr_bipush C (zdec_at dm_X7_stop 2 rfl) (by decide) ?_
  refine zr_icmp_ne C (hR _ _) (by decide) (zdec_at dm_X7_stop 3 rfl) rfl (fun g1 => ?_) (fun g1 => ?_)
  · have h := h.1 g1
    exact zr_return C rfl rfl (zdec_at dm_X7_stop 8 rfl) rfl ⟨by decide, h⟩
  · have h := h.2 g1
    refine zr_aload_n C 0 rfl (zdec_at dm_X7_stop 4 rfl) rfl ?_
    refine zr_aload_n C 0 rfl (zdec_at dm_X7_stop 5 rfl) rfl ?_
    refine zr_geti C fk_RX7_31 fi_74_4 (zdec_at dm_X7_stop 6 rfl) ?_
    refine zr_puti C fk_RX7_18 fi_74_1 (hR _ _) (zdec_at dm_X7_stop 7 rfl) (fun M2 e3 => ?_)
    have h := h M2 e3
    have hR4 : zRng M2 := by rw [e3]; exact hR.set (hR _ _) _ _
    exact zr_return C rfl rfl (zdec_at dm_X7_stop 8 rfl) rfl ⟨by decide, h⟩

set_option maxHeartbeats 400000 in
set_option maxRecDepth 100000 in
theorem sn_X7_take {pr_X7_byteAhead : zM → Prop} {po_X7_byteAhead : zM → Int → zM → Prop} {pr_X7_stop : zM → Prop} {po_X7_stop : zM → zM → Prop} (hS_X7_byteAhead : zSnd zS 145 0 0 yX7_byteAhead cX7_byteAhead 1 (some .int) 0 [2] (F_X7_byteAhead pr_X7_byteAhead po_X7_byteAhead)) (hS_X7_stop : zSnd zS 145 0 0 yX7_stop cX7_stop 1 none 0 [2] (F_X7_stop pr_X7_stop po_X7_stop)) : zSnd zS 145 0 0 yX7_take cX7_take 2 none 1 [2, 0] (fun xs P M => ∃ a1 : Int, xs = [74, a1] ∧ vc_X7_take pr_X7_byteAhead po_X7_byteAhead pr_X7_stop po_X7_stop a1 P M) := by
  refine zSnd.of rfl (fun ad xs hz => Nat.le_trans (Nat.le_of_eq (zlen ad _ xs hz)) (by decide)) ?_
  intro Γ C _ _ xs M hz hF
  obtain ⟨a1, rfl, h⟩ := hF
  have zz_a1 := zall_h (zall_t hz) (by decide)
  refine zr_rng (fun hR => ?_)
  have C : zC Γ mu_X7_take := C
  change zV Γ mu_X7_take (145, 0, 0) 0 [(0, zRf (zad Γ) 74), (1, zI a1)] [] M
  change vc_X7_take pr_X7_byteAhead po_X7_byteAhead pr_X7_stop po_X7_stop a1 _ M at h
  unfold vc_X7_take at h
  refine zr_aload_n C 0 rfl (zdec_at dm_X7_take 0 rfl) rfl ?_
  obtain ⟨g6, h⟩ := h
  refine zr_callV C [] hS_X7_byteAhead ck_RX7_34 iv_X7_byteAhead vc_X7 oc_74 rfl rfl (zdec_at dm_X7_take 1 rfl) ⟨rfl, rfl, rfl, rfl⟩ ⟨by decide, by decide⟩ (Nat.le_of_ble_eq_true rfl) zall_n ?_
  refine ⟨rfl, g6, fun r1 M2 p5 z4 hR3 => ?_⟩
  have h := h r1 M2 p5 z4 hR3
  show zV Γ mu_X7_take (145, 0, 0) 4 [(0, zRf (zad Γ) 74), (1, zI a1)] [zI r1] M2
  refine zr_iload_n C 1 rfl (zdec_at dm_X7_take 2 rfl) rfl ?_
  refine zr_icmp_ne C z4 zz_a1 (zdec_at dm_X7_take 3 rfl) rfl (fun g7 => ?_) (fun g7 => ?_)
  · have h := h.1 g7
    refine zr_aload_n C 0 rfl (zdec_at dm_X7_take 11 rfl) rfl ?_
    obtain ⟨g12, h⟩ := h
    refine zr_callV C [] hS_X7_stop ck_RX7_38 iv_X7_stop vc_X7 oc_74 rfl rfl (zdec_at dm_X7_take 12 rfl) ⟨rfl, rfl, rfl, rfl⟩ ⟨by decide, by decide⟩ (Nat.le_of_ble_eq_true rfl) zall_n ?_
    refine ⟨rfl, g12, fun M8 p11 _ hR9 => ?_⟩
    have h := h M8 p11 hR9
    show zV Γ mu_X7_take (145, 0, 0) 25 [(0, zRf (zad Γ) 74), (1, zI a1)] [] M8
    exact zr_return C rfl rfl (zdec_at dm_X7_take 13 rfl) rfl ⟨by decide, h⟩
  · have h := h.2 g7
    refine zr_aload_n C 0 rfl (zdec_at dm_X7_take 4 rfl) rfl ?_
    refine zr_dup C rfl (zdec_at dm_X7_take 5 rfl) ?_
    refine zr_geti C fk_RX7_31 fi_74_4 (zdec_at dm_X7_take 6 rfl) ?_
    refine zr_iconst C (zdec_at dm_X7_take 7 rfl) ?_
    refine zr_iadd C (zdec_at dm_X7_take 8 rfl) ?_
    obtain ⟨o13, h⟩ := h
    refine zr_puti C fk_RX7_31 fi_74_4 o13 (zdec_at dm_X7_take 9 rfl) (fun M14 e15 => ?_)
    have h := h M14 e15
    have hR16 : zRng M14 := by rw [e15]; exact hR3.set o13 _ _
    refine zr_goto C (zdec_at dm_X7_take 10 rfl) rfl ?_
    exact zr_return C rfl rfl (zdec_at dm_X7_take 13 rfl) rfl ⟨by decide, h⟩

set_option maxHeartbeats 400000 in
set_option maxRecDepth 100000 in
theorem sn_X7_readOr {pr_X7_readAnd : Int → zM → Prop} {po_X7_readAnd : Int → zM → Int → zM → Prop} {pr_X7_byteAhead : zM → Prop} {po_X7_byteAhead : zM → Int → zM → Prop} {d0 : Nat} {d_X7_readAnd : Nat} (hd_X7_readAnd : d_X7_readAnd + 1 ≤ d0) (hd0 : 1 ≤ d0) (hS_X7_readAnd : zSnd zS 145 0 0 yX7_readAnd cX7_readAnd 5 (some .boolean) d_X7_readAnd [2, 0] (F_X7_readAnd pr_X7_readAnd po_X7_readAnd)) (hS_X7_byteAhead : zSnd zS 145 0 0 yX7_byteAhead cX7_byteAhead 1 (some .int) 0 [2] (F_X7_byteAhead pr_X7_byteAhead po_X7_byteAhead)) : zSnd zS 145 0 0 yX7_readOr cX7_readOr 5 (some .boolean) d0 [2, 0] (fun xs P M => ∃ a1 : Int, xs = [74, a1] ∧ vc_X7_readOr pr_X7_readAnd po_X7_readAnd pr_X7_byteAhead po_X7_byteAhead a1 P M) := by
  refine zSnd.of rfl (fun ad xs hz => Nat.le_trans (Nat.le_of_eq (zlen ad _ xs hz)) (by decide)) ?_
  intro Γ C _ _ xs M hz hF
  obtain ⟨a1, rfl, h⟩ := hF
  have zz_a1 := zall_h (zall_t hz) (by decide)
  refine zr_rng (fun hR => ?_)
  have C : zC Γ (mu_X7_readOr d0) := C
  change zV Γ (mu_X7_readOr d0) (145, 0, 0) 0 [(0, zRf (zad Γ) 74), (1, zI a1)] [] M
  change vc_X7_readOr pr_X7_readAnd po_X7_readAnd pr_X7_byteAhead po_X7_byteAhead a1 _ M at h
  unfold vc_X7_readOr at h
  refine zr_aload_n C 0 rfl (zdec_at dm_X7_readOr 0 rfl) rfl ?_
  refine zr_iload_n C 1 rfl (zdec_at dm_X7_readOr 1 rfl) rfl ?_
  obtain ⟨g6, h⟩ := h
  refine zr_callV C [a1] hS_X7_readAnd ck_RX7_49 iv_X7_readAnd vc_X7 oc_74 rfl rfl (zdec_at dm_X7_readOr 2 rfl) ⟨rfl, rfl, rfl, rfl⟩ ⟨hd_X7_readAnd, by decide⟩ (Nat.le_of_ble_eq_true rfl) (zall_0 zz_a1 zall_n) ?_
  refine ⟨_, rfl, g6, fun r1 M2 p5 z4 hR3 => ?_⟩
  have h := h r1 M2 p5 z4 hR3
  show zV Γ (mu_X7_readOr d0) (145, 0, 0) 5 [(0, zRf (zad Γ) 74), (1, zI a1)] [zI r1] M2
  refine zr_istore_n (L1 := [(2, zI r1), (0, zRf (zad Γ) 74), (1, zI a1)]) C (zdec_at dm_X7_readOr 3 rfl) rfl (Nat.le_of_ble_eq_true rfl) rfl ?_
  refine zr_iconst C (zdec_at dm_X7_readOr 4 rfl) ?_
  refine zr_istore_n (L1 := [(3, zI 0), (2, zI r1), (0, zRf (zad Γ) 74), (1, zI a1)]) C (zdec_at dm_X7_readOr 5 rfl) rfl (Nat.le_of_ble_eq_true rfl) rfl ?_
  obtain ⟨I8, ⟨n17, q18⟩, hI16⟩ := h
  have lp15 : ∀ (n13 : Nat) (v7 : Int) (v8 : Int) (M11 : zM), I8 v7 v8 M11 n13 → zin v7 → zin v8 → zRng M11 → zV Γ (mu_X7_readOr d0) (145, 0, 0) 8 [(0, zRf (zad Γ) 74), (1, zI a1), (2, zI v7), (3, zI v8)] [] M11 := by
    intro n13
    induction n13 using Nat.strongRecOn with
    | _ n13 ih14 =>
    intro v7 v8 M11 q19 z9 z10 hR12
    have h := hI16 v7 v8 M11 n13 q19 z9 z10 hR12
    refine zr_iload_n C 3 rfl (zdec_at dm_X7_readOr 6 rfl) rfl ?_
    refine zr_aload_n C 0 rfl (zdec_at dm_X7_readOr 7 rfl) rfl ?_
    refine zr_geti C fk_RX7_28 fi_74_3 (zdec_at dm_X7_readOr 8 rfl) ?_
    refine zr_icmp_ge C z10 (hR12 _ _) (zdec_at dm_X7_readOr 9 rfl) rfl (fun g20 => ?_) (fun g20 => ?_)
    · have h := h.1 g20
      refine zr_iload_n C 2 rfl (zdec_at dm_X7_readOr 34 rfl) rfl ?_
      obtain ⟨o21, h⟩ := h
      exact zr_zreturn C rfl o21 (zdec_at dm_X7_readOr 35 rfl) rfl ⟨z9, h⟩
    · have h := h.2 g20
      refine zr_aload_n C 0 rfl (zdec_at dm_X7_readOr 10 rfl) rfl ?_
      obtain ⟨g27, h⟩ := h
      refine zr_callV C [] hS_X7_byteAhead ck_RX7_34 iv_X7_byteAhead vc_X7 oc_74 rfl rfl (zdec_at dm_X7_readOr 11 rfl) ⟨rfl, rfl, rfl, rfl⟩ ⟨(show 0 + 1 ≤ d0 by omega), by decide⟩ (Nat.le_of_ble_eq_true rfl) zall_n ?_
      refine ⟨rfl, g27, fun r22 M23 p26 z25 hR24 => ?_⟩
      have h := h r22 M23 p26 z25 hR24
      show zV Γ (mu_X7_readOr d0) (145, 0, 0) 20 [(0, zRf (zad Γ) 74), (1, zI a1), (2, zI v7), (3, zI v8)] [zI r22] M23
      refine zr_bipush C (zdec_at dm_X7_readOr 12 rfl) (by decide) ?_
      refine zr_icmp_ne C z25 (by decide) (zdec_at dm_X7_readOr 13 rfl) rfl (fun g28 => ?_) (fun g28 => ?_)
      · have h := h.1 g28
        refine zr_iload_n C 2 rfl (zdec_at dm_X7_readOr 34 rfl) rfl ?_
        obtain ⟨o29, h⟩ := h
        exact zr_zreturn C rfl o29 (zdec_at dm_X7_readOr 35 rfl) rfl ⟨z9, h⟩
      · have h := h.2 g28
        refine zr_aload_n C 0 rfl (zdec_at dm_X7_readOr 14 rfl) rfl ?_
        refine zr_dup C rfl (zdec_at dm_X7_readOr 15 rfl) ?_
        refine zr_geti C fk_RX7_31 fi_74_4 (zdec_at dm_X7_readOr 16 rfl) ?_
        refine zr_iconst C (zdec_at dm_X7_readOr 17 rfl) ?_
        refine zr_iadd C (zdec_at dm_X7_readOr 18 rfl) ?_
        obtain ⟨o30, h⟩ := h
        refine zr_puti C fk_RX7_31 fi_74_4 o30 (zdec_at dm_X7_readOr 19 rfl) (fun M31 e32 => ?_)
        have h := h M31 e32
        have hR33 : zRng M31 := by rw [e32]; exact hR24.set o30 _ _
        refine zr_aload_n C 0 rfl (zdec_at dm_X7_readOr 20 rfl) rfl ?_
        refine zr_iload_n C 1 rfl (zdec_at dm_X7_readOr 21 rfl) rfl ?_
        obtain ⟨g39, h⟩ := h
        refine zr_callV C [a1] hS_X7_readAnd ck_RX7_49 iv_X7_readAnd vc_X7 oc_74 rfl rfl (zdec_at dm_X7_readOr 22 rfl) ⟨rfl, rfl, rfl, rfl⟩ ⟨hd_X7_readAnd, by decide⟩ (Nat.le_of_ble_eq_true rfl) (zall_0 zz_a1 zall_n) ?_
        refine ⟨_, rfl, g39, fun r34 M35 p38 z37 hR36 => ?_⟩
        have h := h r34 M35 p38 z37 hR36
        show zV Γ (mu_X7_readOr d0) (145, 0, 0) 40 [(0, zRf (zad Γ) 74), (1, zI a1), (2, zI v7), (3, zI v8)] [zI r34] M35
        refine zr_istore (L1 := [(4, zI r34), (0, zRf (zad Γ) 74), (1, zI a1), (2, zI v7), (3, zI v8)]) C (zdec_at dm_X7_readOr 23 rfl) (Nat.le_of_ble_eq_true rfl) rfl ?_
        refine zr_iload_n C 3 rfl (zdec_at dm_X7_readOr 24 rfl) rfl ?_
        refine zr_if_ne C z9 (zdec_at dm_X7_readOr 25 rfl) rfl (fun g40 => ?_) (fun g40 => ?_)
        · have h := h.1 g40
          refine zr_iconst C (zdec_at dm_X7_readOr 28 rfl) ?_
          refine zr_goto C (zdec_at dm_X7_readOr 29 rfl) rfl ?_
          refine zr_istore_n (L1 := [(2, zI 1), (4, zI r34), (0, zRf (zad Γ) 74), (1, zI a1), (3, zI v8)]) C (zdec_at dm_X7_readOr 31 rfl) rfl (Nat.le_of_ble_eq_true rfl) rfl ?_
          refine zr_iinc (L1 := [(3, zI (v8 + 1)), (2, zI 1), (4, zI r34), (0, zRf (zad Γ) 74), (1, zI a1)]) C 4 rfl (zdec_at dm_X7_readOr 32 rfl) (Nat.le_of_ble_eq_true rfl) rfl ?_
          refine zr_goto C (zdec_at dm_X7_readOr 33 rfl) rfl ?_
          obtain ⟨o41, h⟩ := h
          obtain ⟨n42, q43, q44⟩ := h
          exact zr_sub [3, 4, 1, 0] rfl (ih14 n42 q43 _ _ _ q44 (by decide) o41 hR36)
        · have h := h.2 g40
          refine zr_iload C 0 rfl (zdec_at dm_X7_readOr 26 rfl) ?_
          refine zr_if_eq C z37 (zdec_at dm_X7_readOr 27 rfl) rfl (fun g45 => ?_) (fun g45 => ?_)
          · have h := h.1 g45
            refine zr_iconst C (zdec_at dm_X7_readOr 30 rfl) ?_
            refine zr_istore_n (L1 := [(2, zI 0), (4, zI r34), (0, zRf (zad Γ) 74), (1, zI a1), (3, zI v8)]) C (zdec_at dm_X7_readOr 31 rfl) rfl (Nat.le_of_ble_eq_true rfl) rfl ?_
            refine zr_iinc (L1 := [(3, zI (v8 + 1)), (2, zI 0), (4, zI r34), (0, zRf (zad Γ) 74), (1, zI a1)]) C 4 rfl (zdec_at dm_X7_readOr 32 rfl) (Nat.le_of_ble_eq_true rfl) rfl ?_
            refine zr_goto C (zdec_at dm_X7_readOr 33 rfl) rfl ?_
            obtain ⟨o46, h⟩ := h
            obtain ⟨n47, q48, q49⟩ := h
            exact zr_sub [3, 4, 1, 0] rfl (ih14 n47 q48 _ _ _ q49 (by decide) o46 hR36)
          · have h := h.2 g45
            refine zr_iconst C (zdec_at dm_X7_readOr 28 rfl) ?_
            refine zr_goto C (zdec_at dm_X7_readOr 29 rfl) rfl ?_
            refine zr_istore_n (L1 := [(2, zI 1), (4, zI r34), (0, zRf (zad Γ) 74), (1, zI a1), (3, zI v8)]) C (zdec_at dm_X7_readOr 31 rfl) rfl (Nat.le_of_ble_eq_true rfl) rfl ?_
            refine zr_iinc (L1 := [(3, zI (v8 + 1)), (2, zI 1), (4, zI r34), (0, zRf (zad Γ) 74), (1, zI a1)]) C 4 rfl (zdec_at dm_X7_readOr 32 rfl) (Nat.le_of_ble_eq_true rfl) rfl ?_
            refine zr_goto C (zdec_at dm_X7_readOr 33 rfl) rfl ?_
            obtain ⟨o50, h⟩ := h
            obtain ⟨n51, q52, q53⟩ := h
            exact zr_sub [3, 4, 1, 0] rfl (ih14 n51 q52 _ _ _ q53 (by decide) o50 hR36)
  exact zr_sub [2, 3, 1, 0] rfl (lp15 n17 _ _ _ q18 z4 (by decide) hR3)

set_option maxHeartbeats 400000 in
set_option maxRecDepth 100000 in
theorem sn_X7_readAnd {pr_X7_readTest : Int → zM → Prop} {po_X7_readTest : Int → zM → Int → zM → Prop} {pr_X7_byteAhead : zM → Prop} {po_X7_byteAhead : zM → Int → zM → Prop} {d0 : Nat} {d_X7_readTest : Nat} (hd_X7_readTest : d_X7_readTest + 1 ≤ d0) (hd0 : 1 ≤ d0) (hS_X7_readTest : zSnd zS 145 0 0 yX7_readTest cX7_readTest 4 (some .boolean) d_X7_readTest [2, 0] (F_X7_readTest pr_X7_readTest po_X7_readTest)) (hS_X7_byteAhead : zSnd zS 145 0 0 yX7_byteAhead cX7_byteAhead 1 (some .int) 0 [2] (F_X7_byteAhead pr_X7_byteAhead po_X7_byteAhead)) : zSnd zS 145 0 0 yX7_readAnd cX7_readAnd 5 (some .boolean) d0 [2, 0] (fun xs P M => ∃ a1 : Int, xs = [74, a1] ∧ vc_X7_readAnd pr_X7_readTest po_X7_readTest pr_X7_byteAhead po_X7_byteAhead a1 P M) := by
  refine zSnd.of rfl (fun ad xs hz => Nat.le_trans (Nat.le_of_eq (zlen ad _ xs hz)) (by decide)) ?_
  intro Γ C _ _ xs M hz hF
  obtain ⟨a1, rfl, h⟩ := hF
  have zz_a1 := zall_h (zall_t hz) (by decide)
  refine zr_rng (fun hR => ?_)
  have C : zC Γ (mu_X7_readAnd d0) := C
  change zV Γ (mu_X7_readAnd d0) (145, 0, 0) 0 [(0, zRf (zad Γ) 74), (1, zI a1)] [] M
  change vc_X7_readAnd pr_X7_readTest po_X7_readTest pr_X7_byteAhead po_X7_byteAhead a1 _ M at h
  unfold vc_X7_readAnd at h
  refine zr_aload_n C 0 rfl (zdec_at dm_X7_readAnd 0 rfl) rfl ?_
  refine zr_iload_n C 1 rfl (zdec_at dm_X7_readAnd 1 rfl) rfl ?_
  obtain ⟨g6, h⟩ := h
  refine zr_callV C [a1] hS_X7_readTest ck_RX7_52 iv_X7_readTest vc_X7 oc_74 rfl rfl (zdec_at dm_X7_readAnd 2 rfl) ⟨rfl, rfl, rfl, rfl⟩ ⟨hd_X7_readTest, by decide⟩ (Nat.le_of_ble_eq_true rfl) (zall_0 zz_a1 zall_n) ?_
  refine ⟨_, rfl, g6, fun r1 M2 p5 z4 hR3 => ?_⟩
  have h := h r1 M2 p5 z4 hR3
  show zV Γ (mu_X7_readAnd d0) (145, 0, 0) 5 [(0, zRf (zad Γ) 74), (1, zI a1)] [zI r1] M2
  refine zr_istore_n (L1 := [(2, zI r1), (0, zRf (zad Γ) 74), (1, zI a1)]) C (zdec_at dm_X7_readAnd 3 rfl) rfl (Nat.le_of_ble_eq_true rfl) rfl ?_
  refine zr_iconst C (zdec_at dm_X7_readAnd 4 rfl) ?_
  refine zr_istore_n (L1 := [(3, zI 0), (2, zI r1), (0, zRf (zad Γ) 74), (1, zI a1)]) C (zdec_at dm_X7_readAnd 5 rfl) rfl (Nat.le_of_ble_eq_true rfl) rfl ?_
  obtain ⟨I8, ⟨n17, q18⟩, hI16⟩ := h
  have lp15 : ∀ (n13 : Nat) (v7 : Int) (v8 : Int) (M11 : zM), I8 v7 v8 M11 n13 → zin v7 → zin v8 → zRng M11 → zV Γ (mu_X7_readAnd d0) (145, 0, 0) 8 [(0, zRf (zad Γ) 74), (1, zI a1), (2, zI v7), (3, zI v8)] [] M11 := by
    intro n13
    induction n13 using Nat.strongRecOn with
    | _ n13 ih14 =>
    intro v7 v8 M11 q19 z9 z10 hR12
    have h := hI16 v7 v8 M11 n13 q19 z9 z10 hR12
    refine zr_iload_n C 3 rfl (zdec_at dm_X7_readAnd 6 rfl) rfl ?_
    refine zr_aload_n C 0 rfl (zdec_at dm_X7_readAnd 7 rfl) rfl ?_
    refine zr_geti C fk_RX7_28 fi_74_3 (zdec_at dm_X7_readAnd 8 rfl) ?_
    refine zr_icmp_ge C z10 (hR12 _ _) (zdec_at dm_X7_readAnd 9 rfl) rfl (fun g20 => ?_) (fun g20 => ?_)
    · have h := h.1 g20
      refine zr_iload_n C 2 rfl (zdec_at dm_X7_readAnd 34 rfl) rfl ?_
      obtain ⟨o21, h⟩ := h
      exact zr_zreturn C rfl o21 (zdec_at dm_X7_readAnd 35 rfl) rfl ⟨z9, h⟩
    · have h := h.2 g20
      refine zr_aload_n C 0 rfl (zdec_at dm_X7_readAnd 10 rfl) rfl ?_
      obtain ⟨g27, h⟩ := h
      refine zr_callV C [] hS_X7_byteAhead ck_RX7_34 iv_X7_byteAhead vc_X7 oc_74 rfl rfl (zdec_at dm_X7_readAnd 11 rfl) ⟨rfl, rfl, rfl, rfl⟩ ⟨(show 0 + 1 ≤ d0 by omega), by decide⟩ (Nat.le_of_ble_eq_true rfl) zall_n ?_
      refine ⟨rfl, g27, fun r22 M23 p26 z25 hR24 => ?_⟩
      have h := h r22 M23 p26 z25 hR24
      show zV Γ (mu_X7_readAnd d0) (145, 0, 0) 20 [(0, zRf (zad Γ) 74), (1, zI a1), (2, zI v7), (3, zI v8)] [zI r22] M23
      refine zr_bipush C (zdec_at dm_X7_readAnd 12 rfl) (by decide) ?_
      refine zr_icmp_ne C z25 (by decide) (zdec_at dm_X7_readAnd 13 rfl) rfl (fun g28 => ?_) (fun g28 => ?_)
      · have h := h.1 g28
        refine zr_iload_n C 2 rfl (zdec_at dm_X7_readAnd 34 rfl) rfl ?_
        obtain ⟨o29, h⟩ := h
        exact zr_zreturn C rfl o29 (zdec_at dm_X7_readAnd 35 rfl) rfl ⟨z9, h⟩
      · have h := h.2 g28
        refine zr_aload_n C 0 rfl (zdec_at dm_X7_readAnd 14 rfl) rfl ?_
        refine zr_dup C rfl (zdec_at dm_X7_readAnd 15 rfl) ?_
        refine zr_geti C fk_RX7_31 fi_74_4 (zdec_at dm_X7_readAnd 16 rfl) ?_
        refine zr_iconst C (zdec_at dm_X7_readAnd 17 rfl) ?_
        refine zr_iadd C (zdec_at dm_X7_readAnd 18 rfl) ?_
        obtain ⟨o30, h⟩ := h
        refine zr_puti C fk_RX7_31 fi_74_4 o30 (zdec_at dm_X7_readAnd 19 rfl) (fun M31 e32 => ?_)
        have h := h M31 e32
        have hR33 : zRng M31 := by rw [e32]; exact hR24.set o30 _ _
        refine zr_aload_n C 0 rfl (zdec_at dm_X7_readAnd 20 rfl) rfl ?_
        refine zr_iload_n C 1 rfl (zdec_at dm_X7_readAnd 21 rfl) rfl ?_
        obtain ⟨g39, h⟩ := h
        refine zr_callV C [a1] hS_X7_readTest ck_RX7_52 iv_X7_readTest vc_X7 oc_74 rfl rfl (zdec_at dm_X7_readAnd 22 rfl) ⟨rfl, rfl, rfl, rfl⟩ ⟨hd_X7_readTest, by decide⟩ (Nat.le_of_ble_eq_true rfl) (zall_0 zz_a1 zall_n) ?_
        refine ⟨_, rfl, g39, fun r34 M35 p38 z37 hR36 => ?_⟩
        have h := h r34 M35 p38 z37 hR36
        show zV Γ (mu_X7_readAnd d0) (145, 0, 0) 40 [(0, zRf (zad Γ) 74), (1, zI a1), (2, zI v7), (3, zI v8)] [zI r34] M35
        refine zr_istore (L1 := [(4, zI r34), (0, zRf (zad Γ) 74), (1, zI a1), (2, zI v7), (3, zI v8)]) C (zdec_at dm_X7_readAnd 23 rfl) (Nat.le_of_ble_eq_true rfl) rfl ?_
        refine zr_iload_n C 3 rfl (zdec_at dm_X7_readAnd 24 rfl) rfl ?_
        refine zr_if_eq C z9 (zdec_at dm_X7_readAnd 25 rfl) rfl (fun g40 => ?_) (fun g40 => ?_)
        · have h := h.1 g40
          refine zr_iconst C (zdec_at dm_X7_readAnd 30 rfl) ?_
          refine zr_istore_n (L1 := [(2, zI 0), (4, zI r34), (0, zRf (zad Γ) 74), (1, zI a1), (3, zI v8)]) C (zdec_at dm_X7_readAnd 31 rfl) rfl (Nat.le_of_ble_eq_true rfl) rfl ?_
          refine zr_iinc (L1 := [(3, zI (v8 + 1)), (2, zI 0), (4, zI r34), (0, zRf (zad Γ) 74), (1, zI a1)]) C 4 rfl (zdec_at dm_X7_readAnd 32 rfl) (Nat.le_of_ble_eq_true rfl) rfl ?_
          refine zr_goto C (zdec_at dm_X7_readAnd 33 rfl) rfl ?_
          obtain ⟨o41, h⟩ := h
          obtain ⟨n42, q43, q44⟩ := h
          exact zr_sub [3, 4, 1, 0] rfl (ih14 n42 q43 _ _ _ q44 (by decide) o41 hR36)
        · have h := h.2 g40
          refine zr_iload C 0 rfl (zdec_at dm_X7_readAnd 26 rfl) ?_
          refine zr_if_eq C z37 (zdec_at dm_X7_readAnd 27 rfl) rfl (fun g45 => ?_) (fun g45 => ?_)
          · have h := h.1 g45
            refine zr_iconst C (zdec_at dm_X7_readAnd 30 rfl) ?_
            refine zr_istore_n (L1 := [(2, zI 0), (4, zI r34), (0, zRf (zad Γ) 74), (1, zI a1), (3, zI v8)]) C (zdec_at dm_X7_readAnd 31 rfl) rfl (Nat.le_of_ble_eq_true rfl) rfl ?_
            refine zr_iinc (L1 := [(3, zI (v8 + 1)), (2, zI 0), (4, zI r34), (0, zRf (zad Γ) 74), (1, zI a1)]) C 4 rfl (zdec_at dm_X7_readAnd 32 rfl) (Nat.le_of_ble_eq_true rfl) rfl ?_
            refine zr_goto C (zdec_at dm_X7_readAnd 33 rfl) rfl ?_
            obtain ⟨o46, h⟩ := h
            obtain ⟨n47, q48, q49⟩ := h
            exact zr_sub [3, 4, 1, 0] rfl (ih14 n47 q48 _ _ _ q49 (by decide) o46 hR36)
          · have h := h.2 g45
            refine zr_iconst C (zdec_at dm_X7_readAnd 28 rfl) ?_
            refine zr_goto C (zdec_at dm_X7_readAnd 29 rfl) rfl ?_
            refine zr_istore_n (L1 := [(2, zI 1), (4, zI r34), (0, zRf (zad Γ) 74), (1, zI a1), (3, zI v8)]) C (zdec_at dm_X7_readAnd 31 rfl) rfl (Nat.le_of_ble_eq_true rfl) rfl ?_
            refine zr_iinc (L1 := [(3, zI (v8 + 1)), (2, zI 1), (4, zI r34), (0, zRf (zad Γ) 74), (1, zI a1)]) C 4 rfl (zdec_at dm_X7_readAnd 32 rfl) (Nat.le_of_ble_eq_true rfl) rfl ?_
            refine zr_goto C (zdec_at dm_X7_readAnd 33 rfl) rfl ?_
            obtain ⟨o50, h⟩ := h
            obtain ⟨n51, q52, q53⟩ := h
            exact zr_sub [3, 4, 1, 0] rfl (ih14 n51 q52 _ _ _ q53 (by decide) o50 hR36)
  exact zr_sub [2, 3, 1, 0] rfl (lp15 n17 _ _ _ q18 z4 (by decide) hR3)

set_option maxHeartbeats 400000 in
set_option maxRecDepth 100000 in
theorem sn_X7_readTest {pr_X7_byteAhead : zM → Prop} {po_X7_byteAhead : zM → Int → zM → Prop} {pr_X7_readComparison : zM → Prop} {po_X7_readComparison : zM → Int → zM → Prop} {pr_X7_readBracket : Int → zM → Prop} {po_X7_readBracket : Int → zM → Int → zM → Prop} {d0 : Nat} {d_X7_readBracket : Nat} (hd_X7_readBracket : d_X7_readBracket + 1 ≤ d0) (hd0 : 5 ≤ d0) (hS_X7_byteAhead : zSnd zS 145 0 0 yX7_byteAhead cX7_byteAhead 1 (some .int) 0 [2] (F_X7_byteAhead pr_X7_byteAhead po_X7_byteAhead)) (hS_X7_readComparison : zSnd zS 145 0 0 yX7_readComparison cX7_readComparison 4 (some .boolean) 4 [2] (F_X7_readComparison pr_X7_readComparison po_X7_readComparison)) (hS_X7_readBracket : zSnd zS 145 0 0 yX7_readBracket cX7_readBracket 3 (some .boolean) d_X7_readBracket [2, 0] (F_X7_readBracket pr_X7_readBracket po_X7_readBracket)) : zSnd zS 145 0 0 yX7_readTest cX7_readTest 4 (some .boolean) d0 [2, 0] (fun xs P M => ∃ a1 : Int, xs = [74, a1] ∧ vc_X7_readTest pr_X7_byteAhead po_X7_byteAhead pr_X7_readComparison po_X7_readComparison pr_X7_readBracket po_X7_readBracket a1 P M) := by
  refine zSnd.of rfl (fun ad xs hz => Nat.le_trans (Nat.le_of_eq (zlen ad _ xs hz)) (by decide)) ?_
  intro Γ C _ _ xs M hz hF
  obtain ⟨a1, rfl, h⟩ := hF
  have zz_a1 := zall_h (zall_t hz) (by decide)
  refine zr_rng (fun hR => ?_)
  have C : zC Γ (mu_X7_readTest d0) := C
  change zV Γ (mu_X7_readTest d0) (145, 0, 0) 0 [(0, zRf (zad Γ) 74), (1, zI a1)] [] M
  change vc_X7_readTest pr_X7_byteAhead po_X7_byteAhead pr_X7_readComparison po_X7_readComparison pr_X7_readBracket po_X7_readBracket a1 _ M at h
  unfold vc_X7_readTest at h
  refine zr_iconst C (zdec_at dm_X7_readTest 0 rfl) ?_
  refine zr_istore_n (L1 := [(2, zI 0), (0, zRf (zad Γ) 74), (1, zI a1)]) C (zdec_at dm_X7_readTest 1 rfl) rfl (Nat.le_of_ble_eq_true rfl) rfl ?_
  refine zr_iconst C (zdec_at dm_X7_readTest 2 rfl) ?_
  refine zr_istore_n (L1 := [(3, zI 0), (2, zI 0), (0, zRf (zad Γ) 74), (1, zI a1)]) C (zdec_at dm_X7_readTest 3 rfl) rfl (Nat.le_of_ble_eq_true rfl) rfl ?_
  obtain ⟨I4, ⟨n11, q12⟩, hI10⟩ := h
  have lp9 : ∀ (n7 : Nat) (v1 : Int) (v2 : Int) (M5 : zM), I4 v1 v2 M5 n7 → zin v1 → zin v2 → zRng M5 → zV Γ (mu_X7_readTest d0) (145, 0, 0) 4 [(0, zRf (zad Γ) 74), (1, zI a1), (2, zI v1), (3, zI v2)] [] M5 := by
    intro n7
    induction n7 using Nat.strongRecOn with
    | _ n7 ih8 =>
    intro v1 v2 M5 q13 z3 z4 hR6
    have h := hI10 v1 v2 M5 n7 q13 z3 z4 hR6
    refine zr_iload_n C 3 rfl (zdec_at dm_X7_readTest 4 rfl) rfl ?_
    refine zr_aload_n C 0 rfl (zdec_at dm_X7_readTest 5 rfl) rfl ?_
    refine zr_geti C fk_RX7_28 fi_74_3 (zdec_at dm_X7_readTest 6 rfl) ?_
    have h := h (fun M14 => zRng M14 → zV Γ (mu_X7_readTest d0) (145, 0, 0) 47 [(0, zRf (zad Γ) 74), (1, zI a1), (2, zI v1)] [] M14) (fun M14 h hR15 => by
      have h := h hR15
      refine zr_aload_n C 0 rfl (zdec_at dm_X7_readTest 26 rfl) rfl ?_
      obtain ⟨g21, h⟩ := h
      refine zr_callV C [] hS_X7_byteAhead ck_RX7_34 iv_X7_byteAhead vc_X7 oc_74 rfl rfl (zdec_at dm_X7_readTest 27 rfl) ⟨rfl, rfl, rfl, rfl⟩ ⟨(show 0 + 1 ≤ d0 by omega), by decide⟩ (Nat.le_of_ble_eq_true rfl) zall_n ?_
      refine ⟨rfl, g21, fun r16 M17 p20 z19 hR18 => ?_⟩
      have h := h r16 M17 p20 z19 hR18
      show zV Γ (mu_X7_readTest d0) (145, 0, 0) 51 [(0, zRf (zad Γ) 74), (1, zI a1), (2, zI v1)] [zI r16] M17
      refine zr_bipush C (zdec_at dm_X7_readTest 28 rfl) (by decide) ?_
      have h := h (fun v22 M24 => zin v22 → zRng M24 → zV Γ (mu_X7_readTest d0) (145, 0, 0) 68 [(2, zI v1)] [zI v22] M24) (fun v22 M24 h z23 hR25 => by
        have h := h z23 hR25
        refine zr_istore_n (L1 := [(3, zI v22), (2, zI v1)]) C (zdec_at dm_X7_readTest 36 rfl) rfl (Nat.le_of_ble_eq_true rfl) rfl ?_
        refine zr_iload_n C 0 rfl (zdec_at dm_X7_readTest 37 rfl) rfl ?_
        refine zr_iload_n C 1 rfl (zdec_at dm_X7_readTest 38 rfl) rfl ?_
        refine zr_icmp_eq C z23 z3 (zdec_at dm_X7_readTest 39 rfl) rfl (fun g26 => ?_) (fun g26 => ?_)
        · have h := h.1 g26
          refine zr_iconst C (zdec_at dm_X7_readTest 42 rfl) ?_
          exact zr_zreturn C rfl (by decide) (zdec_at dm_X7_readTest 43 rfl) rfl ⟨(by decide), h⟩
        · have h := h.2 g26
          refine zr_iconst C (zdec_at dm_X7_readTest 40 rfl) ?_
          refine zr_goto C (zdec_at dm_X7_readTest 41 rfl) rfl ?_
          exact zr_zreturn C rfl (by decide) (zdec_at dm_X7_readTest 43 rfl) rfl ⟨(by decide), h⟩)
      refine zr_icmp_ne C z19 (by decide) (zdec_at dm_X7_readTest 29 rfl) rfl (fun g27 => ?_) (fun g27 => ?_)
      · have h := h.1 g27
        refine zr_aload_n C 0 rfl (zdec_at dm_X7_readTest 34 rfl) rfl ?_
        obtain ⟨g33, h⟩ := h
        refine zr_callV C [] hS_X7_readComparison ck_RX7_58 iv_X7_readComparison vc_X7 oc_74 rfl rfl (zdec_at dm_X7_readTest 35 rfl) ⟨rfl, rfl, rfl, rfl⟩ ⟨(show 4 + 1 ≤ d0 by omega), by decide⟩ (Nat.le_of_ble_eq_true rfl) zall_n ?_
        refine ⟨rfl, g33, fun r28 M29 p32 z31 hR30 => ?_⟩
        have h := h r28 M29 p32 z31 hR30
        show zV Γ (mu_X7_readTest d0) (145, 0, 0) 68 [(0, zRf (zad Γ) 74), (1, zI a1), (2, zI v1)] [zI r28] M29
        exact zr_sub [2] rfl (h z31 hR30)
      · have h := h.2 g27
        refine zr_aload_n C 0 rfl (zdec_at dm_X7_readTest 30 rfl) rfl ?_
        refine zr_iload_n C 1 rfl (zdec_at dm_X7_readTest 31 rfl) rfl ?_
        obtain ⟨g39, h⟩ := h
        refine zr_callV C [a1] hS_X7_readBracket ck_RX7_55 iv_X7_readBracket vc_X7 oc_74 rfl rfl (zdec_at dm_X7_readTest 32 rfl) ⟨rfl, rfl, rfl, rfl⟩ ⟨hd_X7_readBracket, by decide⟩ (Nat.le_of_ble_eq_true rfl) (zall_0 zz_a1 zall_n) ?_
        refine ⟨_, rfl, g39, fun r34 M35 p38 z37 hR36 => ?_⟩
        have h := h r34 M35 p38 z37 hR36
        show zV Γ (mu_X7_readTest d0) (145, 0, 0) 61 [(0, zRf (zad Γ) 74), (1, zI a1), (2, zI v1)] [zI r34] M35
        refine zr_goto C (zdec_at dm_X7_readTest 33 rfl) rfl ?_
        exact zr_sub [2] rfl (h z37 hR36))
    refine zr_icmp_ge C z4 (hR6 _ _) (zdec_at dm_X7_readTest 7 rfl) rfl (fun g40 => ?_) (fun g40 => ?_)
    · have h := h.1 g40
      exact zr_sub [0, 1, 2] rfl (h hR6)
    · have h := h.2 g40
      refine zr_aload_n C 0 rfl (zdec_at dm_X7_readTest 8 rfl) rfl ?_
      obtain ⟨g46, h⟩ := h
      refine zr_callV C [] hS_X7_byteAhead ck_RX7_34 iv_X7_byteAhead vc_X7 oc_74 rfl rfl (zdec_at dm_X7_readTest 9 rfl) ⟨rfl, rfl, rfl, rfl⟩ ⟨(show 0 + 1 ≤ d0 by omega), by decide⟩ (Nat.le_of_ble_eq_true rfl) zall_n ?_
      refine ⟨rfl, g46, fun r41 M42 p45 z44 hR43 => ?_⟩
      have h := h r41 M42 p45 z44 hR43
      show zV Γ (mu_X7_readTest d0) (145, 0, 0) 16 [(0, zRf (zad Γ) 74), (1, zI a1), (2, zI v1), (3, zI v2)] [zI r41] M42
      refine zr_bipush C (zdec_at dm_X7_readTest 10 rfl) (by decide) ?_
      refine zr_icmp_ne C z44 (by decide) (zdec_at dm_X7_readTest 11 rfl) rfl (fun g47 => ?_) (fun g47 => ?_)
      · have h := h.1 g47
        exact zr_sub [0, 1, 2] rfl (h hR43)
      · have h := h.2 g47
        refine zr_aload_n C 0 rfl (zdec_at dm_X7_readTest 12 rfl) rfl ?_
        refine zr_dup C rfl (zdec_at dm_X7_readTest 13 rfl) ?_
        refine zr_geti C fk_RX7_31 fi_74_4 (zdec_at dm_X7_readTest 14 rfl) ?_
        refine zr_iconst C (zdec_at dm_X7_readTest 15 rfl) ?_
        refine zr_iadd C (zdec_at dm_X7_readTest 16 rfl) ?_
        obtain ⟨o48, h⟩ := h
        refine zr_puti C fk_RX7_31 fi_74_4 o48 (zdec_at dm_X7_readTest 17 rfl) (fun M49 e50 => ?_)
        have h := h M49 e50
        have hR51 : zRng M49 := by rw [e50]; exact hR43.set o48 _ _
        refine zr_iload_n C 2 rfl (zdec_at dm_X7_readTest 18 rfl) rfl ?_
        refine zr_if_ne C z3 (zdec_at dm_X7_readTest 19 rfl) rfl (fun g52 => ?_) (fun g52 => ?_)
        · have h := h.1 g52
          refine zr_iconst C (zdec_at dm_X7_readTest 22 rfl) ?_
          refine zr_istore_n (L1 := [(2, zI 0), (0, zRf (zad Γ) 74), (1, zI a1), (3, zI v2)]) C (zdec_at dm_X7_readTest 23 rfl) rfl (Nat.le_of_ble_eq_true rfl) rfl ?_
          refine zr_iinc (L1 := [(3, zI (v2 + 1)), (2, zI 0), (0, zRf (zad Γ) 74), (1, zI a1)]) C 3 rfl (zdec_at dm_X7_readTest 24 rfl) (Nat.le_of_ble_eq_true rfl) rfl ?_
          refine zr_goto C (zdec_at dm_X7_readTest 25 rfl) rfl ?_
          obtain ⟨o53, h⟩ := h
          obtain ⟨n54, q55, q56⟩ := h
          exact zr_sub [2, 3, 1, 0] rfl (ih8 n54 q55 _ _ _ q56 (by decide) o53 hR51)
        · have h := h.2 g52
          refine zr_iconst C (zdec_at dm_X7_readTest 20 rfl) ?_
          refine zr_goto C (zdec_at dm_X7_readTest 21 rfl) rfl ?_
          refine zr_istore_n (L1 := [(2, zI 1), (0, zRf (zad Γ) 74), (1, zI a1), (3, zI v2)]) C (zdec_at dm_X7_readTest 23 rfl) rfl (Nat.le_of_ble_eq_true rfl) rfl ?_
          refine zr_iinc (L1 := [(3, zI (v2 + 1)), (2, zI 1), (0, zRf (zad Γ) 74), (1, zI a1)]) C 3 rfl (zdec_at dm_X7_readTest 24 rfl) (Nat.le_of_ble_eq_true rfl) rfl ?_
          refine zr_goto C (zdec_at dm_X7_readTest 25 rfl) rfl ?_
          obtain ⟨o57, h⟩ := h
          obtain ⟨n58, q59, q60⟩ := h
          exact zr_sub [2, 3, 1, 0] rfl (ih8 n58 q59 _ _ _ q60 (by decide) o57 hR51)
  exact zr_sub [2, 3, 1, 0] rfl (lp9 n11 _ _ _ q12 (by decide) (by decide) hR)

set_option maxHeartbeats 400000 in
set_option maxRecDepth 100000 in
theorem sn_X7_readBracket {pr_X7_readOr : Int → zM → Prop} {po_X7_readOr : Int → zM → Int → zM → Prop} {pr_X7_take : Int → zM → Prop} {po_X7_take : Int → zM → zM → Prop} {pr_X7_stop : zM → Prop} {po_X7_stop : zM → zM → Prop} {d0 : Nat} {d_X7_readOr : Nat} (hd_X7_readOr : d_X7_readOr + 1 ≤ d0) (hd0 : 2 ≤ d0) (hS_X7_readOr : zSnd zS 145 0 0 yX7_readOr cX7_readOr 5 (some .boolean) d_X7_readOr [2, 0] (F_X7_readOr pr_X7_readOr po_X7_readOr)) (hS_X7_take : zSnd zS 145 0 0 yX7_take cX7_take 2 none 1 [2, 0] (F_X7_take pr_X7_take po_X7_take)) (hS_X7_stop : zSnd zS 145 0 0 yX7_stop cX7_stop 1 none 0 [2] (F_X7_stop pr_X7_stop po_X7_stop)) : zSnd zS 145 0 0 yX7_readBracket cX7_readBracket 3 (some .boolean) d0 [2, 0] (fun xs P M => ∃ a1 : Int, xs = [74, a1] ∧ vc_X7_readBracket pr_X7_readOr po_X7_readOr pr_X7_take po_X7_take pr_X7_stop po_X7_stop a1 P M) := by
  refine zSnd.of rfl (fun ad xs hz => Nat.le_trans (Nat.le_of_eq (zlen ad _ xs hz)) (by decide)) ?_
  intro Γ C _ _ xs M hz hF
  obtain ⟨a1, rfl, h⟩ := hF
  have zz_a1 := zall_h (zall_t hz) (by decide)
  refine zr_rng (fun hR => ?_)
  have C : zC Γ (mu_X7_readBracket d0) := C
  change zV Γ (mu_X7_readBracket d0) (145, 0, 0) 0 [(0, zRf (zad Γ) 74), (1, zI a1)] [] M
  change vc_X7_readBracket pr_X7_readOr po_X7_readOr pr_X7_take po_X7_take pr_X7_stop po_X7_stop a1 _ M at h
  unfold vc_X7_readBracket at h
  refine zr_iload_n C 1 rfl (zdec_at dm_X7_readBracket 0 rfl) rfl ?_
  refine zr_bipush C (zdec_at dm_X7_readBracket 1 rfl) (by decide) ?_
  refine zr_icmp_lt C zz_a1 (by decide) (zdec_at dm_X7_readBracket 2 rfl) rfl (fun g1 => ?_) (fun g1 => ?_)
  · have h := h.1 g1
    refine zr_aload_n C 0 rfl (zdec_at dm_X7_readBracket 7 rfl) rfl ?_
    refine zr_dup C rfl (zdec_at dm_X7_readBracket 8 rfl) ?_
    refine zr_geti C fk_RX7_31 fi_74_4 (zdec_at dm_X7_readBracket 9 rfl) ?_
    refine zr_iconst C (zdec_at dm_X7_readBracket 10 rfl) ?_
    refine zr_iadd C (zdec_at dm_X7_readBracket 11 rfl) ?_
    obtain ⟨o2, h⟩ := h
    refine zr_puti C fk_RX7_31 fi_74_4 o2 (zdec_at dm_X7_readBracket 12 rfl) (fun M3 e4 => ?_)
    have h := h M3 e4
    have hR5 : zRng M3 := by rw [e4]; exact hR.set o2 _ _
    refine zr_aload_n C 0 rfl (zdec_at dm_X7_readBracket 13 rfl) rfl ?_
    refine zr_iload_n C 1 rfl (zdec_at dm_X7_readBracket 14 rfl) rfl ?_
    refine zr_iconst C (zdec_at dm_X7_readBracket 15 rfl) ?_
    refine zr_iadd C (zdec_at dm_X7_readBracket 16 rfl) ?_
    obtain ⟨o6, h⟩ := h
    obtain ⟨g12, h⟩ := h
    refine zr_callV C [(a1 + 1)] hS_X7_readOr ck_RX7_45 iv_X7_readOr vc_X7 oc_74 rfl rfl (zdec_at dm_X7_readBracket 17 rfl) ⟨rfl, rfl, rfl, rfl⟩ ⟨hd_X7_readOr, by decide⟩ (Nat.le_of_ble_eq_true rfl) (zall_0 o6 zall_n) ?_
    refine ⟨_, rfl, g12, fun r7 M8 p11 z10 hR9 => ?_⟩
    have h := h r7 M8 p11 z10 hR9
    show zV Γ (mu_X7_readBracket d0) (145, 0, 0) 29 [(0, zRf (zad Γ) 74), (1, zI a1)] [zI r7] M8
    refine zr_istore_n (L1 := [(2, zI r7), (0, zRf (zad Γ) 74), (1, zI a1)]) C (zdec_at dm_X7_readBracket 18 rfl) rfl (Nat.le_of_ble_eq_true rfl) rfl ?_
    refine zr_aload_n C 1 rfl (zdec_at dm_X7_readBracket 19 rfl) rfl ?_
    refine zr_bipush C (zdec_at dm_X7_readBracket 20 rfl) (by decide) ?_
    obtain ⟨g17, h⟩ := h
    refine zr_callV C [41] hS_X7_take ck_RX7_41 iv_X7_take vc_X7 oc_74 rfl rfl (zdec_at dm_X7_readBracket 21 rfl) ⟨rfl, rfl, rfl, rfl⟩ ⟨(show 1 + 1 ≤ d0 by omega), by decide⟩ (Nat.le_of_ble_eq_true rfl) (zall_0 (by decide) zall_n) ?_
    refine ⟨_, rfl, g17, fun M13 p16 _ hR14 => ?_⟩
    have h := h M13 p16 hR14
    show zV Γ (mu_X7_readBracket d0) (145, 0, 0) 36 [(2, zI r7), (0, zRf (zad Γ) 74), (1, zI a1)] [] M13
    refine zr_iload_n C 0 rfl (zdec_at dm_X7_readBracket 22 rfl) rfl ?_
    obtain ⟨o18, h⟩ := h
    exact zr_zreturn C rfl o18 (zdec_at dm_X7_readBracket 23 rfl) rfl ⟨z10, h⟩
  · have h := h.2 g1
    refine zr_aload_n C 0 rfl (zdec_at dm_X7_readBracket 3 rfl) rfl ?_
    obtain ⟨g23, h⟩ := h
    refine zr_callV C [] hS_X7_stop ck_RX7_38 iv_X7_stop vc_X7 oc_74 rfl rfl (zdec_at dm_X7_readBracket 4 rfl) ⟨rfl, rfl, rfl, rfl⟩ ⟨(show 0 + 1 ≤ d0 by omega), by decide⟩ (Nat.le_of_ble_eq_true rfl) zall_n ?_
    refine ⟨rfl, g23, fun M19 p22 _ hR20 => ?_⟩
    have h := h M19 p22 hR20
    show zV Γ (mu_X7_readBracket d0) (145, 0, 0) 10 [(0, zRf (zad Γ) 74), (1, zI a1)] [] M19
    refine zr_iconst C (zdec_at dm_X7_readBracket 5 rfl) ?_
    exact zr_zreturn C rfl (by decide) (zdec_at dm_X7_readBracket 6 rfl) rfl ⟨(by decide), h⟩

