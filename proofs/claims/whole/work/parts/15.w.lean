set_option maxHeartbeats 400000 in
set_option maxRecDepth 100000 in
theorem sn_X12_isSquare {pr_X12_isOf : Int → Int → Int → zM → Prop} {po_X12_isOf : Int → Int → Int → zM → Int → zM → Prop} (hS_X12_isOf : zSnd zS 145 0 0 yX12_isOf cX12_isOf 4 (some .boolean) 0 [2, 0, 0, 0] (F_X12_isOf pr_X12_isOf po_X12_isOf)) : zSnd zS 145 0 0 yX12_isSquare cX12_isSquare 8 (some .boolean) 1 [2, 0, 0, 0, 0] (fun xs P M => ∃ a1 a2 a3 a4 : Int, xs = [103, a1, a2, a3, a4] ∧ vc_X12_isSquare pr_X12_isOf po_X12_isOf a1 a2 a3 a4 P M) := by
  refine zSnd.of rfl (fun ad xs hz => Nat.le_trans (Nat.le_of_eq (zlen ad _ xs hz)) (by decide)) ?_
  intro Γ C _ _ xs M hz hF
  obtain ⟨a1, a2, a3, a4, rfl, h⟩ := hF
  have zz_a1 := zall_h (zall_t hz) (by decide)
  have zz_a2 := zall_h (zall_t (zall_t hz)) (by decide)
  have zz_a3 := zall_h (zall_t (zall_t (zall_t hz))) (by decide)
  have zz_a4 := zall_h (zall_t (zall_t (zall_t (zall_t hz)))) (by decide)
  refine zr_rng (fun hR => ?_)
  have C : zC Γ mu_X12_isSquare := C
  change zV Γ mu_X12_isSquare (145, 0, 0) 0 [(0, zRf (zad Γ) 103), (1, zI a1), (2, zI a2), (3, zI a3), (4, zI a4)] [] M
  change vc_X12_isSquare pr_X12_isOf po_X12_isOf a1 a2 a3 a4 _ M at h
  unfold vc_X12_isSquare at h
  refine zr_iconst C (zdec_at dm_X12_isSquare 0 rfl) ?_
  refine zr_istore (L1 := [(5, zI 1), (0, zRf (zad Γ) 103), (1, zI a1), (2, zI a2), (3, zI a3), (4, zI a4)]) C (zdec_at dm_X12_isSquare 1 rfl) (Nat.le_of_ble_eq_true rfl) rfl ?_
  refine zr_iconst C (zdec_at dm_X12_isSquare 2 rfl) ?_
  refine zr_istore (L1 := [(6, zI 0), (5, zI 1), (0, zRf (zad Γ) 103), (1, zI a1), (2, zI a2), (3, zI a3), (4, zI a4)]) C (zdec_at dm_X12_isSquare 3 rfl) (Nat.le_of_ble_eq_true rfl) rfl ?_
  obtain ⟨I6, ⟨n11, q12⟩, hI10⟩ := h
  have lp9 : ∀ (n7 : Nat) (v1 : Int) (v2 : Int) (M5 : zM), I6 v1 v2 M5 n7 → zin v1 → zin v2 → zRng M5 → zV Γ mu_X12_isSquare (145, 0, 0) 6 [(0, zRf (zad Γ) 103), (1, zI a1), (2, zI a2), (3, zI a3), (4, zI a4), (5, zI v1), (6, zI v2)] [] M5 := by
    intro n7
    induction n7 using Nat.strongRecOn with
    | _ n7 ih8 =>
    intro v1 v2 M5 q13 z3 z4 hR6
    have h := hI10 v1 v2 M5 n7 q13 z3 z4 hR6
    refine zr_iload C 6 rfl (zdec_at dm_X12_isSquare 4 rfl) ?_
    refine zr_iload C 4 rfl (zdec_at dm_X12_isSquare 5 rfl) ?_
    refine zr_icmp_ge C z4 zz_a4 (zdec_at dm_X12_isSquare 6 rfl) rfl (fun g14 => ?_) (fun g14 => ?_)
    · have h := h.1 g14
      refine zr_iload C 5 rfl (zdec_at dm_X12_isSquare 30 rfl) ?_
      obtain ⟨o15, h⟩ := h
      exact zr_zreturn C rfl o15 (zdec_at dm_X12_isSquare 31 rfl) rfl ⟨z3, h⟩
    · have h := h.2 g14
      refine zr_iload C 5 rfl (zdec_at dm_X12_isSquare 7 rfl) ?_
      refine zr_if_eq C z3 (zdec_at dm_X12_isSquare 8 rfl) rfl (fun g16 => ?_) (fun g16 => ?_)
      · have h := h.1 g16
        refine zr_iload C 5 rfl (zdec_at dm_X12_isSquare 30 rfl) ?_
        obtain ⟨o17, h⟩ := h
        exact zr_zreturn C rfl o17 (zdec_at dm_X12_isSquare 31 rfl) rfl ⟨z3, h⟩
      · have h := h.2 g16
        refine zr_iconst C (zdec_at dm_X12_isSquare 9 rfl) ?_
        refine zr_istore (L1 := [(7, zI 0), (0, zRf (zad Γ) 103), (1, zI a1), (2, zI a2), (3, zI a3), (4, zI a4), (5, zI v1), (6, zI v2)]) C (zdec_at dm_X12_isSquare 10 rfl) (Nat.le_of_ble_eq_true rfl) rfl ?_
        obtain ⟨I21, ⟨n28, q29⟩, hI27⟩ := h
        have lp26 : ∀ (n24 : Nat) (v18 : Int) (v19 : Int) (M22 : zM), I21 v18 v19 M22 n24 → zin v18 → zin v19 → zRng M22 → zV Γ mu_X12_isSquare (145, 0, 0) 21 [(0, zRf (zad Γ) 103), (1, zI a1), (2, zI a2), (3, zI a3), (4, zI a4), (5, zI v18), (6, zI v2), (7, zI v19)] [] M22 := by
          intro n24
          induction n24 using Nat.strongRecOn with
          | _ n24 ih25 =>
          intro v18 v19 M22 q30 z20 z21 hR23
          have h := hI27 v18 v19 M22 n24 q30 z20 z21 hR23
          refine zr_iload C 7 rfl (zdec_at dm_X12_isSquare 11 rfl) ?_
          refine zr_iload C 4 rfl (zdec_at dm_X12_isSquare 12 rfl) ?_
          refine zr_icmp_ge C z21 zz_a4 (zdec_at dm_X12_isSquare 13 rfl) rfl (fun g31 => ?_) (fun g31 => ?_)
          · have h := h.1 g31
            refine zr_iinc (L1 := [(6, zI (v2 + 1)), (0, zRf (zad Γ) 103), (1, zI a1), (2, zI a2), (3, zI a3), (4, zI a4), (5, zI v18), (7, zI v19)]) C 6 rfl (zdec_at dm_X12_isSquare 28 rfl) (Nat.le_of_ble_eq_true rfl) rfl ?_
            refine zr_goto C (zdec_at dm_X12_isSquare 29 rfl) rfl ?_
            obtain ⟨o32, h⟩ := h
            obtain ⟨n33, q34, q35⟩ := h
            exact zr_sub [1, 2, 3, 4, 5, 6, 0] rfl (ih8 n33 q34 _ _ _ q35 z20 o32 hR23)
          · have h := h.2 g31
            refine zr_iload C 5 rfl (zdec_at dm_X12_isSquare 14 rfl) ?_
            refine zr_if_eq C z20 (zdec_at dm_X12_isSquare 15 rfl) rfl (fun g36 => ?_) (fun g36 => ?_)
            · have h := h.1 g36
              refine zr_iinc (L1 := [(6, zI (v2 + 1)), (0, zRf (zad Γ) 103), (1, zI a1), (2, zI a2), (3, zI a3), (4, zI a4), (5, zI v18), (7, zI v19)]) C 6 rfl (zdec_at dm_X12_isSquare 28 rfl) (Nat.le_of_ble_eq_true rfl) rfl ?_
              refine zr_goto C (zdec_at dm_X12_isSquare 29 rfl) rfl ?_
              obtain ⟨o37, h⟩ := h
              obtain ⟨n38, q39, q40⟩ := h
              exact zr_sub [1, 2, 3, 4, 5, 6, 0] rfl (ih8 n38 q39 _ _ _ q40 z20 o37 hR23)
            · have h := h.2 g36
              refine zr_aload_n C 0 rfl (zdec_at dm_X12_isSquare 16 rfl) rfl ?_
              refine zr_iload_n C 1 rfl (zdec_at dm_X12_isSquare 17 rfl) rfl ?_
              refine zr_iload_n C 2 rfl (zdec_at dm_X12_isSquare 18 rfl) rfl ?_
              refine zr_iload C 7 rfl (zdec_at dm_X12_isSquare 19 rfl) ?_
              refine zr_iadd C (zdec_at dm_X12_isSquare 20 rfl) ?_
              refine zr_iload_n C 3 rfl (zdec_at dm_X12_isSquare 21 rfl) rfl ?_
              refine zr_iload C 6 rfl (zdec_at dm_X12_isSquare 22 rfl) ?_
              refine zr_iadd C (zdec_at dm_X12_isSquare 23 rfl) ?_
              obtain ⟨o41, h⟩ := h
              obtain ⟨o42, h⟩ := h
              obtain ⟨g48, h⟩ := h
              refine zr_callV C [a1, (a2 + v19), (a3 + v2)] hS_X12_isOf ck_RX12_255 iv_X12_isOf vc_X12 oc_103 rfl rfl (zdec_at dm_X12_isSquare 24 rfl) ⟨rfl, rfl, rfl, rfl⟩ ⟨by decide, by decide⟩ (Nat.le_of_ble_eq_true rfl) (zall_0 zz_a1 (zall_0 o42 (zall_0 o41 zall_n))) ?_
              refine ⟨_, _, _, rfl, g48, fun r43 M44 p47 z46 hR45 => ?_⟩
              have h := h r43 M44 p47 z46 hR45
              show zV Γ mu_X12_isSquare (145, 0, 0) 46 [(0, zRf (zad Γ) 103), (1, zI a1), (2, zI a2), (3, zI a3), (4, zI a4), (5, zI v18), (6, zI v2), (7, zI v19)] [zI r43] M44
              refine zr_istore (L1 := [(5, zI r43), (0, zRf (zad Γ) 103), (1, zI a1), (2, zI a2), (3, zI a3), (4, zI a4), (6, zI v2), (7, zI v19)]) C (zdec_at dm_X12_isSquare 25 rfl) (Nat.le_of_ble_eq_true rfl) rfl ?_
              refine zr_iinc (L1 := [(7, zI (v19 + 1)), (5, zI r43), (0, zRf (zad Γ) 103), (1, zI a1), (2, zI a2), (3, zI a3), (4, zI a4), (6, zI v2)]) C 7 rfl (zdec_at dm_X12_isSquare 26 rfl) (Nat.le_of_ble_eq_true rfl) rfl ?_
              refine zr_goto C (zdec_at dm_X12_isSquare 27 rfl) rfl ?_
              obtain ⟨o49, h⟩ := h
              obtain ⟨n50, q51, q52⟩ := h
              exact zr_sub [2, 3, 4, 5, 6, 1, 7, 0] rfl (ih25 n50 q51 _ _ _ q52 z46 o49 hR45)
        exact zr_sub [1, 2, 3, 4, 5, 6, 7, 0] rfl (lp26 n28 _ _ _ q29 z3 (by decide) hR6)
  exact zr_sub [2, 3, 4, 5, 6, 1, 0] rfl (lp9 n11 _ _ _ q12 (by decide) (by decide) hR)

set_option maxHeartbeats 400000 in
set_option maxRecDepth 100000 in
theorem sn_X12_breadthOf {pr_X12_isSquare : Int → Int → Int → Int → zM → Prop} {po_X12_isSquare : Int → Int → Int → Int → zM → Int → zM → Prop} (hS_X12_isSquare : zSnd zS 145 0 0 yX12_isSquare cX12_isSquare 8 (some .boolean) 1 [2, 0, 0, 0, 0] (F_X12_isSquare pr_X12_isSquare po_X12_isSquare)) : zSnd zS 145 0 0 yX12_breadthOf cX12_breadthOf 9 (some .int) 2 [2, 0, 0, 0] (fun xs P M => ∃ a1 a2 a3 : Int, xs = [103, a1, a2, a3] ∧ vc_X12_breadthOf pr_X12_isSquare po_X12_isSquare a1 a2 a3 P M) := by
  refine zSnd.of rfl (fun ad xs hz => Nat.le_trans (Nat.le_of_eq (zlen ad _ xs hz)) (by decide)) ?_
  intro Γ C _ _ xs M hz hF
  obtain ⟨a1, a2, a3, rfl, h⟩ := hF
  have zz_a1 := zall_h (zall_t hz) (by decide)
  have zz_a2 := zall_h (zall_t (zall_t hz)) (by decide)
  have zz_a3 := zall_h (zall_t (zall_t (zall_t hz))) (by decide)
  refine zr_rng (fun hR => ?_)
  have C : zC Γ mu_X12_breadthOf := C
  change zV Γ mu_X12_breadthOf (145, 0, 0) 0 [(0, zRf (zad Γ) 103), (1, zI a1), (2, zI a2), (3, zI a3)] [] M
  change vc_X12_breadthOf pr_X12_isSquare po_X12_isSquare a1 a2 a3 _ M at h
  unfold vc_X12_breadthOf at h
  refine zr_iconst C (zdec_at dm_X12_breadthOf 0 rfl) ?_
  refine zr_istore (L1 := [(4, zI 1), (0, zRf (zad Γ) 103), (1, zI a1), (2, zI a2), (3, zI a3)]) C (zdec_at dm_X12_breadthOf 1 rfl) (Nat.le_of_ble_eq_true rfl) rfl ?_
  refine zr_iconst C (zdec_at dm_X12_breadthOf 2 rfl) ?_
  refine zr_istore (L1 := [(5, zI 2), (4, zI 1), (0, zRf (zad Γ) 103), (1, zI a1), (2, zI a2), (3, zI a3)]) C (zdec_at dm_X12_breadthOf 3 rfl) (Nat.le_of_ble_eq_true rfl) rfl ?_
  obtain ⟨I6, ⟨n11, q12⟩, hI10⟩ := h
  have lp9 : ∀ (n7 : Nat) (v1 : Int) (v2 : Int) (M5 : zM), I6 v1 v2 M5 n7 → zin v1 → zin v2 → zRng M5 → zV Γ mu_X12_breadthOf (145, 0, 0) 6 [(0, zRf (zad Γ) 103), (1, zI a1), (2, zI a2), (3, zI a3), (4, zI v1), (5, zI v2)] [] M5 := by
    intro n7
    induction n7 using Nat.strongRecOn with
    | _ n7 ih8 =>
    intro v1 v2 M5 q13 z3 z4 hR6
    have h := hI10 v1 v2 M5 n7 q13 z3 z4 hR6
    refine zr_iload C 5 rfl (zdec_at dm_X12_breadthOf 4 rfl) ?_
    refine zr_bipush C (zdec_at dm_X12_breadthOf 5 rfl) (by decide) ?_
    refine zr_icmp_gt C z4 (by decide) (zdec_at dm_X12_breadthOf 6 rfl) rfl (fun g14 => ?_) (fun g14 => ?_)
    · have h := h.1 g14
      refine zr_iload C 4 rfl (zdec_at dm_X12_breadthOf 50 rfl) ?_
      exact zr_ireturn C rfl (zdec_at dm_X12_breadthOf 51 rfl) rfl ⟨z3, h⟩
    · have h := h.2 g14
      refine zr_iconst C (zdec_at dm_X12_breadthOf 7 rfl) ?_
      refine zr_istore (L1 := [(6, zI 0), (0, zRf (zad Γ) 103), (1, zI a1), (2, zI a2), (3, zI a3), (4, zI v1), (5, zI v2)]) C (zdec_at dm_X12_breadthOf 8 rfl) (Nat.le_of_ble_eq_true rfl) rfl ?_
      refine zr_iload_n C 4 rfl (zdec_at dm_X12_breadthOf 9 rfl) rfl ?_
      refine zr_iload C 6 rfl (zdec_at dm_X12_breadthOf 10 rfl) ?_
      refine zr_isub C (zdec_at dm_X12_breadthOf 11 rfl) ?_
      refine zr_iconst C (zdec_at dm_X12_breadthOf 12 rfl) ?_
      refine zr_iadd C (zdec_at dm_X12_breadthOf 13 rfl) ?_
      refine zr_istore (L1 := [(7, zI ((a3 - v2) + 1)), (6, zI 0), (0, zRf (zad Γ) 103), (1, zI a1), (2, zI a2), (3, zI a3), (4, zI v1), (5, zI v2)]) C (zdec_at dm_X12_breadthOf 14 rfl) (Nat.le_of_ble_eq_true rfl) rfl ?_
      obtain ⟨o17, h⟩ := h
      obtain ⟨I24, ⟨n26, q27⟩, hI25⟩ := h
      have lp24 : ∀ (n22 : Nat) (v15 : Int) (v16 : Int) (M20 : zM), I24 v15 v16 M20 n22 → zin v15 → zin v16 → zRng M20 → zV Γ mu_X12_breadthOf (145, 0, 0) 24 [(0, zRf (zad Γ) 103), (1, zI a1), (2, zI a2), (3, zI a3), (4, zI v1), (5, zI v2), (6, zI v15), (7, zI v16)] [] M20 := by
        intro n22
        induction n22 using Nat.strongRecOn with
        | _ n22 ih23 =>
        intro v15 v16 M20 q28 z18 z19 hR21
        have h := hI25 v15 v16 M20 n22 q28 z18 z19 hR21
        refine zr_iload C 7 rfl (zdec_at dm_X12_breadthOf 15 rfl) ?_
        refine zr_iload_n C 3 rfl (zdec_at dm_X12_breadthOf 16 rfl) rfl ?_
        have h := h (zV Γ mu_X12_breadthOf (145, 0, 0) 79 [(0, zRf (zad Γ) 103), (1, zI a1), (2, zI a2), (3, zI a3), (4, zI v1), (5, zI v2), (6, zI v15)] [] M20) (fun h => by
          refine zr_iload C 6 rfl (zdec_at dm_X12_breadthOf 42 rfl) ?_
          refine zr_if_eq C z18 (zdec_at dm_X12_breadthOf 43 rfl) rfl (fun g29 => ?_) (fun g29 => ?_)
          · have h := h.1 g29
            refine zr_iload C 4 rfl (zdec_at dm_X12_breadthOf 46 rfl) ?_
            refine zr_istore (L1 := [(4, zI v1), (0, zRf (zad Γ) 103), (1, zI a1), (2, zI a2), (3, zI a3), (5, zI v2), (6, zI v15)]) C (zdec_at dm_X12_breadthOf 47 rfl) (Nat.le_of_ble_eq_true rfl) rfl ?_
            refine zr_iinc (L1 := [(5, zI (v2 + 1)), (4, zI v1), (0, zRf (zad Γ) 103), (1, zI a1), (2, zI a2), (3, zI a3), (6, zI v15)]) C 5 rfl (zdec_at dm_X12_breadthOf 48 rfl) (Nat.le_of_ble_eq_true rfl) rfl ?_
            refine zr_goto C (zdec_at dm_X12_breadthOf 49 rfl) rfl ?_
            obtain ⟨o30, h⟩ := h
            obtain ⟨n31, q32, q33⟩ := h
            exact zr_sub [2, 3, 4, 5, 1, 0] rfl (ih8 n31 q32 _ _ _ q33 z3 o30 hR21)
          · have h := h.2 g29
            refine zr_iload C 5 rfl (zdec_at dm_X12_breadthOf 44 rfl) ?_
            refine zr_goto C (zdec_at dm_X12_breadthOf 45 rfl) rfl ?_
            refine zr_istore (L1 := [(4, zI v2), (0, zRf (zad Γ) 103), (1, zI a1), (2, zI a2), (3, zI a3), (5, zI v2), (6, zI v15)]) C (zdec_at dm_X12_breadthOf 47 rfl) (Nat.le_of_ble_eq_true rfl) rfl ?_
            refine zr_iinc (L1 := [(5, zI (v2 + 1)), (4, zI v2), (0, zRf (zad Γ) 103), (1, zI a1), (2, zI a2), (3, zI a3), (6, zI v15)]) C 5 rfl (zdec_at dm_X12_breadthOf 48 rfl) (Nat.le_of_ble_eq_true rfl) rfl ?_
            refine zr_goto C (zdec_at dm_X12_breadthOf 49 rfl) rfl ?_
            obtain ⟨o34, h⟩ := h
            obtain ⟨n35, q36, q37⟩ := h
            exact zr_sub [2, 3, 4, 5, 1, 0] rfl (ih8 n35 q36 _ _ _ q37 z4 o34 hR21))
        refine zr_icmp_gt C z19 zz_a3 (zdec_at dm_X12_breadthOf 17 rfl) rfl (fun g38 => ?_) (fun g38 => ?_)
        · have h := h.1 g38
          exact zr_sub [0, 1, 2, 3, 4, 5, 6] rfl (h)
        · have h := h.2 g38
          refine zr_iload C 6 rfl (zdec_at dm_X12_breadthOf 18 rfl) ?_
          refine zr_if_ne C z18 (zdec_at dm_X12_breadthOf 19 rfl) rfl (fun g39 => ?_) (fun g39 => ?_)
          · have h := h.1 g39
            exact zr_sub [0, 1, 2, 3, 4, 5, 6] rfl (h)
          · have h := h.2 g39
            refine zr_iload_n C 2 rfl (zdec_at dm_X12_breadthOf 20 rfl) rfl ?_
            refine zr_iload C 5 rfl (zdec_at dm_X12_breadthOf 21 rfl) ?_
            refine zr_isub C (zdec_at dm_X12_breadthOf 22 rfl) ?_
            refine zr_iconst C (zdec_at dm_X12_breadthOf 23 rfl) ?_
            refine zr_iadd C (zdec_at dm_X12_breadthOf 24 rfl) ?_
            refine zr_istore (L1 := [(8, zI ((a2 - v2) + 1)), (0, zRf (zad Γ) 103), (1, zI a1), (2, zI a2), (3, zI a3), (4, zI v1), (5, zI v2), (6, zI v15), (7, zI v16)]) C (zdec_at dm_X12_breadthOf 25 rfl) (Nat.le_of_ble_eq_true rfl) rfl ?_
            obtain ⟨o42, h⟩ := h
            obtain ⟨I43, ⟨n51, q52⟩, hI50⟩ := h
            have lp49 : ∀ (n47 : Nat) (v40 : Int) (v41 : Int) (M45 : zM), I43 v40 v41 M45 n47 → zin v40 → zin v41 → zRng M45 → zV Γ mu_X12_breadthOf (145, 0, 0) 43 [(0, zRf (zad Γ) 103), (1, zI a1), (2, zI a2), (3, zI a3), (4, zI v1), (5, zI v2), (6, zI v40), (7, zI v16), (8, zI v41)] [] M45 := by
              intro n47
              induction n47 using Nat.strongRecOn with
              | _ n47 ih48 =>
              intro v40 v41 M45 q53 z43 z44 hR46
              have h := hI50 v40 v41 M45 n47 q53 z43 z44 hR46
              refine zr_iload C 8 rfl (zdec_at dm_X12_breadthOf 26 rfl) ?_
              refine zr_iload_n C 2 rfl (zdec_at dm_X12_breadthOf 27 rfl) rfl ?_
              refine zr_icmp_gt C z44 zz_a2 (zdec_at dm_X12_breadthOf 28 rfl) rfl (fun g54 => ?_) (fun g54 => ?_)
              · have h := h.1 g54
                refine zr_iinc (L1 := [(7, zI (v16 + 1)), (0, zRf (zad Γ) 103), (1, zI a1), (2, zI a2), (3, zI a3), (4, zI v1), (5, zI v2), (6, zI v40), (8, zI v41)]) C 7 rfl (zdec_at dm_X12_breadthOf 40 rfl) (Nat.le_of_ble_eq_true rfl) rfl ?_
                refine zr_goto C (zdec_at dm_X12_breadthOf 41 rfl) rfl ?_
                obtain ⟨o55, h⟩ := h
                obtain ⟨n56, q57, q58⟩ := h
                exact zr_sub [1, 2, 3, 4, 5, 6, 7, 0] rfl (ih23 n56 q57 _ _ _ q58 z43 o55 hR46)
              · have h := h.2 g54
                refine zr_iload C 6 rfl (zdec_at dm_X12_breadthOf 29 rfl) ?_
                refine zr_if_ne C z43 (zdec_at dm_X12_breadthOf 30 rfl) rfl (fun g59 => ?_) (fun g59 => ?_)
                · have h := h.1 g59
                  refine zr_iinc (L1 := [(7, zI (v16 + 1)), (0, zRf (zad Γ) 103), (1, zI a1), (2, zI a2), (3, zI a3), (4, zI v1), (5, zI v2), (6, zI v40), (8, zI v41)]) C 7 rfl (zdec_at dm_X12_breadthOf 40 rfl) (Nat.le_of_ble_eq_true rfl) rfl ?_
                  refine zr_goto C (zdec_at dm_X12_breadthOf 41 rfl) rfl ?_
                  obtain ⟨o60, h⟩ := h
                  obtain ⟨n61, q62, q63⟩ := h
                  exact zr_sub [1, 2, 3, 4, 5, 6, 7, 0] rfl (ih23 n61 q62 _ _ _ q63 z43 o60 hR46)
                · have h := h.2 g59
                  refine zr_aload_n C 0 rfl (zdec_at dm_X12_breadthOf 31 rfl) rfl ?_
                  refine zr_iload_n C 1 rfl (zdec_at dm_X12_breadthOf 32 rfl) rfl ?_
                  refine zr_iload C 8 rfl (zdec_at dm_X12_breadthOf 33 rfl) ?_
                  refine zr_iload C 7 rfl (zdec_at dm_X12_breadthOf 34 rfl) ?_
                  refine zr_iload C 5 rfl (zdec_at dm_X12_breadthOf 35 rfl) ?_
                  obtain ⟨g69, h⟩ := h
                  refine zr_callV C [a1, v41, v16, v2] hS_X12_isSquare ck_RX12_367 iv_X12_isSquare vc_X12 oc_103 rfl rfl (zdec_at dm_X12_breadthOf 36 rfl) ⟨rfl, rfl, rfl, rfl⟩ ⟨by decide, by decide⟩ (Nat.le_of_ble_eq_true rfl) (zall_0 zz_a1 (zall_0 z44 (zall_0 z19 (zall_0 z4 zall_n)))) ?_
                  refine ⟨_, _, _, _, rfl, g69, fun r64 M65 p68 z67 hR66 => ?_⟩
                  have h := h r64 M65 p68 z67 hR66
                  show zV Γ mu_X12_breadthOf (145, 0, 0) 65 [(0, zRf (zad Γ) 103), (1, zI a1), (2, zI a2), (3, zI a3), (4, zI v1), (5, zI v2), (6, zI v40), (7, zI v16), (8, zI v41)] [zI r64] M65
                  refine zr_istore (L1 := [(6, zI r64), (0, zRf (zad Γ) 103), (1, zI a1), (2, zI a2), (3, zI a3), (4, zI v1), (5, zI v2), (7, zI v16), (8, zI v41)]) C (zdec_at dm_X12_breadthOf 37 rfl) (Nat.le_of_ble_eq_true rfl) rfl ?_
                  refine zr_iinc (L1 := [(8, zI (v41 + 1)), (6, zI r64), (0, zRf (zad Γ) 103), (1, zI a1), (2, zI a2), (3, zI a3), (4, zI v1), (5, zI v2), (7, zI v16)]) C 8 rfl (zdec_at dm_X12_breadthOf 38 rfl) (Nat.le_of_ble_eq_true rfl) rfl ?_
                  refine zr_goto C (zdec_at dm_X12_breadthOf 39 rfl) rfl ?_
                  obtain ⟨o70, h⟩ := h
                  obtain ⟨n71, q72, q73⟩ := h
                  exact zr_sub [2, 3, 4, 5, 6, 7, 1, 8, 0] rfl (ih48 n71 q72 _ _ _ q73 z67 o70 hR66)
            exact zr_sub [1, 2, 3, 4, 5, 6, 7, 8, 0] rfl (lp49 n51 _ _ _ q52 z18 o42 hR21)
      exact zr_sub [2, 3, 4, 5, 6, 7, 1, 0] rfl (lp24 n26 _ _ _ q27 (by decide) o17 hR6)
  exact zr_sub [2, 3, 4, 5, 1, 0] rfl (lp9 n11 _ _ _ q12 (by decide) (by decide) hR)

set_option maxHeartbeats 400000 in
set_option maxRecDepth 100000 in
theorem sn_X12_greatestOf {pr_X12_isSquare : Int → Int → Int → Int → zM → Prop} {po_X12_isSquare : Int → Int → Int → Int → zM → Int → zM → Prop} (hS_X12_isSquare : zSnd zS 145 0 0 yX12_isSquare cX12_isSquare 8 (some .boolean) 1 [2, 0, 0, 0, 0] (F_X12_isSquare pr_X12_isSquare po_X12_isSquare)) : zSnd zS 145 0 0 yX12_greatestOf cX12_greatestOf 6 (some .int) 2 [2, 0] (fun xs P M => ∃ a1 : Int, xs = [103, a1] ∧ vc_X12_greatestOf pr_X12_isSquare po_X12_isSquare a1 P M) := by
  refine zSnd.of rfl (fun ad xs hz => Nat.le_trans (Nat.le_of_eq (zlen ad _ xs hz)) (by decide)) ?_
  intro Γ C _ _ xs M hz hF
  obtain ⟨a1, rfl, h⟩ := hF
  have zz_a1 := zall_h (zall_t hz) (by decide)
  refine zr_rng (fun hR => ?_)
  have C : zC Γ mu_X12_greatestOf := C
  change zV Γ mu_X12_greatestOf (145, 0, 0) 0 [(0, zRf (zad Γ) 103), (1, zI a1)] [] M
  change vc_X12_greatestOf pr_X12_isSquare po_X12_isSquare a1 _ M at h
  unfold vc_X12_greatestOf at h
  refine zr_iconst C (zdec_at dm_X12_greatestOf 0 rfl) ?_
  refine zr_istore_n (L1 := [(2, zI 0), (0, zRf (zad Γ) 103), (1, zI a1)]) C (zdec_at dm_X12_greatestOf 1 rfl) rfl (Nat.le_of_ble_eq_true rfl) rfl ?_
  refine zr_iconst C (zdec_at dm_X12_greatestOf 2 rfl) ?_
  refine zr_istore_n (L1 := [(3, zI 1), (2, zI 0), (0, zRf (zad Γ) 103), (1, zI a1)]) C (zdec_at dm_X12_greatestOf 3 rfl) rfl (Nat.le_of_ble_eq_true rfl) rfl ?_
  obtain ⟨I4, ⟨n11, q12⟩, hI10⟩ := h
  have lp9 : ∀ (n7 : Nat) (v1 : Int) (v2 : Int) (M5 : zM), I4 v1 v2 M5 n7 → zin v1 → zin v2 → zRng M5 → zV Γ mu_X12_greatestOf (145, 0, 0) 4 [(0, zRf (zad Γ) 103), (1, zI a1), (2, zI v1), (3, zI v2)] [] M5 := by
    intro n7
    induction n7 using Nat.strongRecOn with
    | _ n7 ih8 =>
    intro v1 v2 M5 q13 z3 z4 hR6
    have h := hI10 v1 v2 M5 n7 q13 z3 z4 hR6
    refine zr_iload_n C 3 rfl (zdec_at dm_X12_greatestOf 4 rfl) rfl ?_
    refine zr_bipush C (zdec_at dm_X12_greatestOf 5 rfl) (by decide) ?_
    refine zr_icmp_gt C z4 (by decide) (zdec_at dm_X12_greatestOf 6 rfl) rfl (fun g14 => ?_) (fun g14 => ?_)
    · have h := h.1 g14
      refine zr_iload_n C 2 rfl (zdec_at dm_X12_greatestOf 37 rfl) rfl ?_
      exact zr_ireturn C rfl (zdec_at dm_X12_greatestOf 38 rfl) rfl ⟨z3, h⟩
    · have h := h.2 g14
      refine zr_iconst C (zdec_at dm_X12_greatestOf 7 rfl) ?_
      refine zr_istore (L1 := [(4, zI 0), (0, zRf (zad Γ) 103), (1, zI a1), (2, zI v1), (3, zI v2)]) C (zdec_at dm_X12_greatestOf 8 rfl) (Nat.le_of_ble_eq_true rfl) rfl ?_
      refine zr_iconst C (zdec_at dm_X12_greatestOf 9 rfl) ?_
      refine zr_istore (L1 := [(5, zI 0), (4, zI 0), (0, zRf (zad Γ) 103), (1, zI a1), (2, zI v1), (3, zI v2)]) C (zdec_at dm_X12_greatestOf 10 rfl) (Nat.le_of_ble_eq_true rfl) rfl ?_
      obtain ⟨I16, ⟨n25, q26⟩, hI24⟩ := h
      have lp23 : ∀ (n21 : Nat) (v15 : Int) (v16 : Int) (M19 : zM), I16 v15 v16 M19 n21 → zin v15 → zin v16 → zRng M19 → zV Γ mu_X12_greatestOf (145, 0, 0) 16 [(0, zRf (zad Γ) 103), (1, zI a1), (2, zI v1), (3, zI v2), (4, zI v15), (5, zI v16)] [] M19 := by
        intro n21
        induction n21 using Nat.strongRecOn with
        | _ n21 ih22 =>
        intro v15 v16 M19 q27 z17 z18 hR20
        have h := hI24 v15 v16 M19 n21 q27 z17 z18 hR20
        refine zr_iload C 5 rfl (zdec_at dm_X12_greatestOf 11 rfl) ?_
        refine zr_sipush C (zdec_at dm_X12_greatestOf 12 rfl) (by decide) ?_
        have h := h (zV Γ mu_X12_greatestOf (145, 0, 0) 53 [(0, zRf (zad Γ) 103), (1, zI a1), (2, zI v1), (3, zI v2), (4, zI v15)] [] M19) (fun h => by
          refine zr_iload C 4 rfl (zdec_at dm_X12_greatestOf 29 rfl) ?_
          refine zr_if_eq C z17 (zdec_at dm_X12_greatestOf 30 rfl) rfl (fun g28 => ?_) (fun g28 => ?_)
          · have h := h.1 g28
            refine zr_iload_n C 2 rfl (zdec_at dm_X12_greatestOf 33 rfl) rfl ?_
            refine zr_istore_n (L1 := [(2, zI v1), (0, zRf (zad Γ) 103), (1, zI a1), (3, zI v2), (4, zI v15)]) C (zdec_at dm_X12_greatestOf 34 rfl) rfl (Nat.le_of_ble_eq_true rfl) rfl ?_
            refine zr_iinc (L1 := [(3, zI (v2 + 1)), (2, zI v1), (0, zRf (zad Γ) 103), (1, zI a1), (4, zI v15)]) C 3 rfl (zdec_at dm_X12_greatestOf 35 rfl) (Nat.le_of_ble_eq_true rfl) rfl ?_
            refine zr_goto C (zdec_at dm_X12_greatestOf 36 rfl) rfl ?_
            obtain ⟨o29, h⟩ := h
            obtain ⟨n30, q31, q32⟩ := h
            exact zr_sub [2, 3, 1, 0] rfl (ih8 n30 q31 _ _ _ q32 z3 o29 hR20)
          · have h := h.2 g28
            refine zr_iload_n C 3 rfl (zdec_at dm_X12_greatestOf 31 rfl) rfl ?_
            refine zr_goto C (zdec_at dm_X12_greatestOf 32 rfl) rfl ?_
            refine zr_istore_n (L1 := [(2, zI v2), (0, zRf (zad Γ) 103), (1, zI a1), (3, zI v2), (4, zI v15)]) C (zdec_at dm_X12_greatestOf 34 rfl) rfl (Nat.le_of_ble_eq_true rfl) rfl ?_
            refine zr_iinc (L1 := [(3, zI (v2 + 1)), (2, zI v2), (0, zRf (zad Γ) 103), (1, zI a1), (4, zI v15)]) C 3 rfl (zdec_at dm_X12_greatestOf 35 rfl) (Nat.le_of_ble_eq_true rfl) rfl ?_
            refine zr_goto C (zdec_at dm_X12_greatestOf 36 rfl) rfl ?_
            obtain ⟨o33, h⟩ := h
            obtain ⟨n34, q35, q36⟩ := h
            exact zr_sub [2, 3, 1, 0] rfl (ih8 n34 q35 _ _ _ q36 z4 o33 hR20))
        refine zr_icmp_ge C z18 (by decide) (zdec_at dm_X12_greatestOf 13 rfl) rfl (fun g37 => ?_) (fun g37 => ?_)
        · have h := h.1 g37
          exact zr_sub [0, 1, 2, 3, 4] rfl (h)
        · have h := h.2 g37
          refine zr_iload C 4 rfl (zdec_at dm_X12_greatestOf 14 rfl) ?_
          refine zr_if_ne C z17 (zdec_at dm_X12_greatestOf 15 rfl) rfl (fun g38 => ?_) (fun g38 => ?_)
          · have h := h.1 g38
            exact zr_sub [0, 1, 2, 3, 4] rfl (h)
          · have h := h.2 g38
            refine zr_aload_n C 0 rfl (zdec_at dm_X12_greatestOf 16 rfl) rfl ?_
            refine zr_iload_n C 1 rfl (zdec_at dm_X12_greatestOf 17 rfl) rfl ?_
            refine zr_iload C 5 rfl (zdec_at dm_X12_greatestOf 18 rfl) ?_
            refine zr_bipush C (zdec_at dm_X12_greatestOf 19 rfl) (by decide) ?_
            obtain ⟨o39, h⟩ := h
            refine zr_irem C z18 (by decide) ⟨o39, by decide⟩ (zdec_at dm_X12_greatestOf 20 rfl) ?_
            refine zr_iload C 5 rfl (zdec_at dm_X12_greatestOf 21 rfl) ?_
            refine zr_bipush C (zdec_at dm_X12_greatestOf 22 rfl) (by decide) ?_
            refine zr_idiv C z18 (by decide) ⟨o39, by decide⟩ (zdec_at dm_X12_greatestOf 23 rfl) ?_
            refine zr_iload_n C 3 rfl (zdec_at dm_X12_greatestOf 24 rfl) rfl ?_
            obtain ⟨g45, h⟩ := h
            refine zr_callV C [a1, (v16 % 16), (v16 / 16), v2] hS_X12_isSquare ck_RX12_367 iv_X12_isSquare vc_X12 oc_103 rfl rfl (zdec_at dm_X12_greatestOf 25 rfl) ⟨rfl, rfl, rfl, rfl⟩ ⟨by decide, by decide⟩ (Nat.le_of_ble_eq_true rfl) (zall_0 zz_a1 (zall_0 (z_rz (a := v16) (b := 16) ⟨o39, by decide⟩ (by decide)) (zall_0 (z_dz2 (a := v16) (b := 16) ⟨o39, by decide⟩ z18) (zall_0 z4 zall_n)))) ?_
            refine ⟨_, _, _, _, rfl, g45, fun r40 M41 p44 z43 hR42 => ?_⟩
            have h := h r40 M41 p44 z43 hR42
            show zV Γ mu_X12_greatestOf (145, 0, 0) 45 [(0, zRf (zad Γ) 103), (1, zI a1), (2, zI v1), (3, zI v2), (4, zI v15), (5, zI v16)] [zI r40] M41
            refine zr_istore (L1 := [(4, zI r40), (0, zRf (zad Γ) 103), (1, zI a1), (2, zI v1), (3, zI v2), (5, zI v16)]) C (zdec_at dm_X12_greatestOf 26 rfl) (Nat.le_of_ble_eq_true rfl) rfl ?_
            refine zr_iinc (L1 := [(5, zI (v16 + 1)), (4, zI r40), (0, zRf (zad Γ) 103), (1, zI a1), (2, zI v1), (3, zI v2)]) C 5 rfl (zdec_at dm_X12_greatestOf 27 rfl) (Nat.le_of_ble_eq_true rfl) rfl ?_
            refine zr_goto C (zdec_at dm_X12_greatestOf 28 rfl) rfl ?_
            obtain ⟨o46, h⟩ := h
            obtain ⟨n47, q48, q49⟩ := h
            exact zr_sub [2, 3, 4, 5, 1, 0] rfl (ih22 n47 q48 _ _ _ q49 z43 o46 hR42)
      exact zr_sub [2, 3, 4, 5, 1, 0] rfl (lp23 n25 _ _ _ q26 (by decide) (by decide) hR6)
  exact zr_sub [2, 3, 1, 0] rfl (lp9 n11 _ _ _ q12 (by decide) (by decide) hR)

set_option maxHeartbeats 400000 in
set_option maxRecDepth 100000 in
theorem sn_X12_radiusOf {pr_X12_isSquare : Int → Int → Int → Int → zM → Prop} {po_X12_isSquare : Int → Int → Int → Int → zM → Int → zM → Prop} (hS_X12_isSquare : zSnd zS 145 0 0 yX12_isSquare cX12_isSquare 8 (some .boolean) 1 [2, 0, 0, 0, 0] (F_X12_isSquare pr_X12_isSquare po_X12_isSquare)) : zSnd zS 145 0 0 yX12_radiusOf cX12_radiusOf 5 (some .int) 2 [2, 0, 0, 0] (fun xs P M => ∃ a1 a2 a3 : Int, xs = [103, a1, a2, a3] ∧ vc_X12_radiusOf pr_X12_isSquare po_X12_isSquare a1 a2 a3 P M) := by
  refine zSnd.of rfl (fun ad xs hz => Nat.le_trans (Nat.le_of_eq (zlen ad _ xs hz)) (by decide)) ?_
  intro Γ C _ _ xs M hz hF
  obtain ⟨a1, a2, a3, rfl, h⟩ := hF
  have zz_a1 := zall_h (zall_t hz) (by decide)
  have zz_a2 := zall_h (zall_t (zall_t hz)) (by decide)
  have zz_a3 := zall_h (zall_t (zall_t (zall_t hz))) (by decide)
  refine zr_rng (fun hR => ?_)
  have C : zC Γ mu_X12_radiusOf := C
  change zV Γ mu_X12_radiusOf (145, 0, 0) 0 [(0, zRf (zad Γ) 103), (1, zI a1), (2, zI a2), (3, zI a3)] [] M
  change vc_X12_radiusOf pr_X12_isSquare po_X12_isSquare a1 a2 a3 _ M at h
  unfold vc_X12_radiusOf at h
  refine zr_iconst C (zdec_at dm_X12_radiusOf 0 rfl) ?_
  refine zr_istore (L1 := [(4, zI 0), (0, zRf (zad Γ) 103), (1, zI a1), (2, zI a2), (3, zI a3)]) C (zdec_at dm_X12_radiusOf 1 rfl) (Nat.le_of_ble_eq_true rfl) rfl ?_
  obtain ⟨I3, ⟨n9, q10⟩, hI8⟩ := h
  have lp7 : ∀ (n5 : Nat) (v1 : Int) (M3 : zM), I3 v1 M3 n5 → zin v1 → zRng M3 → zV Γ mu_X12_radiusOf (145, 0, 0) 3 [(0, zRf (zad Γ) 103), (1, zI a1), (2, zI a2), (3, zI a3), (4, zI v1)] [] M3 := by
    intro n5
    induction n5 using Nat.strongRecOn with
    | _ n5 ih6 =>
    intro v1 M3 q11 z2 hR4
    have h := hI8 v1 M3 n5 q11 z2 hR4
    refine zr_aload_n C 0 rfl (zdec_at dm_X12_radiusOf 2 rfl) rfl ?_
    refine zr_iload_n C 1 rfl (zdec_at dm_X12_radiusOf 3 rfl) rfl ?_
    refine zr_iload_n C 2 rfl (zdec_at dm_X12_radiusOf 4 rfl) rfl ?_
    refine zr_iload C 4 rfl (zdec_at dm_X12_radiusOf 5 rfl) ?_
    refine zr_isub C (zdec_at dm_X12_radiusOf 6 rfl) ?_
    refine zr_iconst C (zdec_at dm_X12_radiusOf 7 rfl) ?_
    refine zr_isub C (zdec_at dm_X12_radiusOf 8 rfl) ?_
    refine zr_iload_n C 3 rfl (zdec_at dm_X12_radiusOf 9 rfl) rfl ?_
    refine zr_iload C 4 rfl (zdec_at dm_X12_radiusOf 10 rfl) ?_
    refine zr_isub C (zdec_at dm_X12_radiusOf 11 rfl) ?_
    refine zr_iconst C (zdec_at dm_X12_radiusOf 12 rfl) ?_
    refine zr_isub C (zdec_at dm_X12_radiusOf 13 rfl) ?_
    refine zr_iconst C (zdec_at dm_X12_radiusOf 14 rfl) ?_
    refine zr_iload C 4 rfl (zdec_at dm_X12_radiusOf 15 rfl) ?_
    refine zr_imul C (zdec_at dm_X12_radiusOf 16 rfl) ?_
    refine zr_iconst C (zdec_at dm_X12_radiusOf 17 rfl) ?_
    refine zr_iadd C (zdec_at dm_X12_radiusOf 18 rfl) ?_
    obtain ⟨o12, h⟩ := h
    obtain ⟨o13, h⟩ := h
    obtain ⟨o14, h⟩ := h
    obtain ⟨g20, h⟩ := h
    refine zr_callV C [a1, ((a2 - v1) - 1), ((a3 - v1) - 1), ((2 * v1) + 3)] hS_X12_isSquare ck_RX12_367 iv_X12_isSquare vc_X12 oc_103 rfl rfl (zdec_at dm_X12_radiusOf 19 rfl) ⟨rfl, rfl, rfl, rfl⟩ ⟨by decide, by decide⟩ (Nat.le_of_ble_eq_true rfl) (zall_0 zz_a1 (zall_0 o14 (zall_0 o13 (zall_0 o12 zall_n)))) ?_
    refine ⟨_, _, _, _, rfl, g20, fun r15 M16 p19 z18 hR17 => ?_⟩
    have h := h r15 M16 p19 z18 hR17
    show zV Γ mu_X12_radiusOf (145, 0, 0) 26 [(0, zRf (zad Γ) 103), (1, zI a1), (2, zI a2), (3, zI a3), (4, zI v1)] [zI r15] M16
    refine zr_if_eq C z18 (zdec_at dm_X12_radiusOf 20 rfl) rfl (fun g21 => ?_) (fun g21 => ?_)
    · have h := h.1 g21
      refine zr_iload C 4 rfl (zdec_at dm_X12_radiusOf 23 rfl) ?_
      exact zr_ireturn C rfl (zdec_at dm_X12_radiusOf 24 rfl) rfl ⟨z2, h⟩
    · have h := h.2 g21
      refine zr_iinc (L1 := [(4, zI (v1 + 1)), (0, zRf (zad Γ) 103), (1, zI a1), (2, zI a2), (3, zI a3)]) C 4 rfl (zdec_at dm_X12_radiusOf 21 rfl) (Nat.le_of_ble_eq_true rfl) rfl ?_
      refine zr_goto C (zdec_at dm_X12_radiusOf 22 rfl) rfl ?_
      obtain ⟨o22, h⟩ := h
      obtain ⟨n23, q24, q25⟩ := h
      exact zr_sub [1, 2, 3, 4, 0] rfl (ih6 n23 q24 _ _ q25 o22 hR17)
  exact zr_sub [1, 2, 3, 4, 0] rfl (lp7 n9 _ _ q10 (by decide) hR)

set_option maxHeartbeats 400000 in
set_option maxRecDepth 100000 in
theorem sn_X12_breadth {pr_X12_isDot : Int → zM → Prop} {po_X12_isDot : Int → zM → Int → zM → Prop} {pr_X12_in : Int → Int → Int → zM → Prop} {po_X12_in : Int → Int → Int → zM → Int → zM → Prop} {pr_X12_findFaces : zM → Prop} {po_X12_findFaces : zM → zM → Prop} {pr_X12_radiusOf : Int → Int → Int → zM → Prop} {po_X12_radiusOf : Int → Int → Int → zM → Int → zM → Prop} {pr_X12_beside : Int → Int → zM → Prop} {po_X12_beside : Int → Int → zM → Int → zM → Prop} {pr_X12_breadthOf : Int → Int → Int → zM → Prop} {po_X12_breadthOf : Int → Int → Int → zM → Int → zM → Prop} (hS_X12_isDot : zSnd zS 145 0 0 yX12_isDot cX12_isDot 2 (some .boolean) 0 [2, 0] (F_X12_isDot pr_X12_isDot po_X12_isDot)) (hS_X12_in : zSnd zS 145 0 0 yX12_in cX12_in 6 (some .boolean) 0 [1, 1, 1] (F_X12_in pr_X12_in po_X12_in)) (hS_X12_findFaces : zSnd zS 145 0 0 yX12_findFaces cX12_findFaces 6 none 2 [2] (F_X12_findFaces pr_X12_findFaces po_X12_findFaces)) (hS_X12_radiusOf : zSnd zS 145 0 0 yX12_radiusOf cX12_radiusOf 5 (some .int) 2 [2, 0, 0, 0] (F_X12_radiusOf pr_X12_radiusOf po_X12_radiusOf)) (hS_X12_beside : zSnd zS 145 0 0 yX12_beside cX12_beside 5 (some .int) 1 [2, 0, 0] (F_X12_beside pr_X12_beside po_X12_beside)) (hS_X12_breadthOf : zSnd zS 145 0 0 yX12_breadthOf cX12_breadthOf 9 (some .int) 2 [2, 0, 0, 0] (F_X12_breadthOf pr_X12_breadthOf po_X12_breadthOf)) : zSnd zS 145 0 0 yX12_breadth cX12_breadth 8 (some .int) 3 [2, 0, 0] (fun xs P M => ∃ a1 a2 : Int, xs = [103, a1, a2] ∧ vc_X12_breadth pr_X12_isDot po_X12_isDot pr_X12_in po_X12_in pr_X12_findFaces po_X12_findFaces pr_X12_radiusOf po_X12_radiusOf pr_X12_beside po_X12_beside pr_X12_breadthOf po_X12_breadthOf a1 a2 P M) := by
  refine zSnd.of rfl (fun ad xs hz => Nat.le_trans (Nat.le_of_eq (zlen ad _ xs hz)) (by decide)) ?_
  intro Γ C _ _ xs M hz hF
  obtain ⟨a1, a2, rfl, h⟩ := hF
  have zz_a1 := zall_h (zall_t hz) (by decide)
  have zz_a2 := zall_h (zall_t (zall_t hz)) (by decide)
  refine zr_rng (fun hR => ?_)
  have C : zC Γ mu_X12_breadth := C
  change zV Γ mu_X12_breadth (145, 0, 0) 0 [(0, zRf (zad Γ) 103), (1, zI a1), (2, zI a2)] [] M
  change vc_X12_breadth pr_X12_isDot po_X12_isDot pr_X12_in po_X12_in pr_X12_findFaces po_X12_findFaces pr_X12_radiusOf po_X12_radiusOf pr_X12_beside po_X12_beside pr_X12_breadthOf po_X12_breadthOf a1 a2 _ M at h
  unfold vc_X12_breadth at h
  refine zr_aload_n C 0 rfl (zdec_at dm_X12_breadth 0 rfl) rfl ?_
  refine zr_iconst C (zdec_at dm_X12_breadth 1 rfl) ?_
  refine zr_puti C fk_RX12_140 fi_103_0 (by decide) (zdec_at dm_X12_breadth 2 rfl) (fun M1 e2 => ?_)
  have h := h M1 e2
  have hR3 : zRng M1 := by rw [e2]; exact hR.set (by decide) _ _
  refine zr_aload_n C 0 rfl (zdec_at dm_X12_breadth 3 rfl) rfl ?_
  refine zr_iload_n C 1 rfl (zdec_at dm_X12_breadth 4 rfl) rfl ?_
  obtain ⟨g9, h⟩ := h
  refine zr_callV C [a1] hS_X12_isDot ck_RX12_202 iv_X12_isDot vc_X12 oc_103 rfl rfl (zdec_at dm_X12_breadth 5 rfl) ⟨rfl, rfl, rfl, rfl⟩ ⟨by decide, by decide⟩ (Nat.le_of_ble_eq_true rfl) (zall_0 zz_a1 zall_n) ?_
  refine ⟨_, rfl, g9, fun r4 M5 p8 z7 hR6 => ?_⟩
  have h := h r4 M5 p8 z7 hR6
  show zV Γ mu_X12_breadth (145, 0, 0) 10 [(0, zRf (zad Γ) 103), (1, zI a1), (2, zI a2)] [zI r4] M5
  refine zr_if_eq C z7 (zdec_at dm_X12_breadth 6 rfl) rfl (fun g10 => ?_) (fun g10 => ?_)
  · have h := h.1 g10
    refine zr_iconst C (zdec_at dm_X12_breadth 13 rfl) ?_
    exact zr_ireturn C rfl (zdec_at dm_X12_breadth 14 rfl) rfl ⟨(by decide), h⟩
  · have h := h.2 g10
    refine zr_iload_n C 2 rfl (zdec_at dm_X12_breadth 7 rfl) rfl ?_
    refine zr_i2l C zz_a2 (zdec_at dm_X12_breadth 8 rfl) ?_
    refine zr_lconst (v := 0) C (zdec_at dm_X12_breadth 9 rfl) rfl ?_
    refine zr_lconst (v := 1) C (zdec_at dm_X12_breadth 10 rfl) rfl ?_
    obtain ⟨g16, h⟩ := h
    refine zr_callS C [a2, 0, 1] hS_X12_in ck_RX12_156 sv_X12_in rfl rfl (zdec_at dm_X12_breadth 11 rfl) ⟨rfl, rfl, rfl, rfl⟩ ⟨by decide, by decide⟩ (Nat.le_of_ble_eq_true rfl) (zall_1 zz_a2 (zall_1 (by decide) (zall_1 (by decide) zall_n))) ?_
    refine ⟨_, _, _, rfl, g16, fun r11 M12 p15 z14 hR13 => ?_⟩
    have h := h r11 M12 p15 z14 hR13
    show zV Γ mu_X12_breadth (145, 0, 0) 20 [(0, zRf (zad Γ) 103), (1, zI a1), (2, zI a2)] [zI r11] M12
    refine zr_if_ne C z14 (zdec_at dm_X12_breadth 12 rfl) rfl (fun g17 => ?_) (fun g17 => ?_)
    · have h := h.1 g17
      refine zr_aload_n C 0 rfl (zdec_at dm_X12_breadth 15 rfl) rfl ?_
      obtain ⟨g22, h⟩ := h
      refine zr_callV C [] hS_X12_findFaces ck_RX12_240 iv_X12_findFaces vc_X12 oc_103 rfl rfl (zdec_at dm_X12_breadth 16 rfl) ⟨rfl, rfl, rfl, rfl⟩ ⟨by decide, by decide⟩ (Nat.le_of_ble_eq_true rfl) zall_n ?_
      refine ⟨rfl, g22, fun M18 p21 _ hR19 => ?_⟩
      have h := h M18 p21 hR19
      show zV Γ mu_X12_breadth (145, 0, 0) 29 [(0, zRf (zad Γ) 103), (1, zI a1), (2, zI a2)] [] M18
      refine zr_aload_n C 0 rfl (zdec_at dm_X12_breadth 17 rfl) rfl ?_
      refine zr_getr (q := 115) C fk_RX12_51 fi_103_29 (zdec_at dm_X12_breadth 18 rfl) ?_
      refine zr_iload_n C 1 rfl (zdec_at dm_X12_breadth 19 rfl) rfl ?_
      obtain ⟨o23, h⟩ := h
      refine zr_iald C ai_115 o23 (zdec_at dm_X12_breadth 20 rfl) ?_
      refine zr_istore_n (L1 := [(3, zI (M18 115 a1)), (0, zRf (zad Γ) 103), (1, zI a1), (2, zI a2)]) C (zdec_at dm_X12_breadth 21 rfl) rfl (Nat.le_of_ble_eq_true rfl) rfl ?_
      refine zr_iload_n C 3 rfl (zdec_at dm_X12_breadth 22 rfl) rfl ?_
      refine zr_if_ne C zz_a2 (zdec_at dm_X12_breadth 23 rfl) rfl (fun g24 => ?_) (fun g24 => ?_)
      · have h := h.1 g24
        refine zr_aload_n C 1 rfl (zdec_at dm_X12_breadth 34 rfl) rfl ?_
        refine zr_iload_n C 0 rfl (zdec_at dm_X12_breadth 35 rfl) rfl ?_
        refine zr_iload_n C 2 rfl (zdec_at dm_X12_breadth 36 rfl) rfl ?_
        refine zr_bipush C (zdec_at dm_X12_breadth 37 rfl) (by decide) ?_
        obtain ⟨o25, h⟩ := h
        refine zr_irem C zz_a1 (by decide) ⟨o25, by decide⟩ (zdec_at dm_X12_breadth 38 rfl) ?_
        refine zr_iload_n C 2 rfl (zdec_at dm_X12_breadth 39 rfl) rfl ?_
        refine zr_bipush C (zdec_at dm_X12_breadth 40 rfl) (by decide) ?_
        refine zr_idiv C zz_a1 (by decide) ⟨o25, by decide⟩ (zdec_at dm_X12_breadth 41 rfl) ?_
        obtain ⟨g31, h⟩ := h
        refine zr_callV C [(M18 115 a1), (a1 % 16), (a1 / 16)] hS_X12_radiusOf ck_RX12_374 iv_X12_radiusOf vc_X12 oc_103 rfl rfl (zdec_at dm_X12_breadth 42 rfl) ⟨rfl, rfl, rfl, rfl⟩ ⟨by decide, by decide⟩ (Nat.le_of_ble_eq_true rfl) (zall_0 (hR19 _ _) (zall_0 (z_rz (a := a1) (b := 16) ⟨o25, by decide⟩ (by decide)) (zall_0 (z_dz2 (a := a1) (b := 16) ⟨o25, by decide⟩ zz_a1) zall_n))) ?_
        refine ⟨_, _, _, rfl, g31, fun r26 M27 p30 z29 hR28 => ?_⟩
        have h := h r26 M27 p30 z29 hR28
        show zV Γ mu_X12_breadth (145, 0, 0) 67 [(3, zI (M18 115 a1)), (0, zRf (zad Γ) 103), (1, zI a1), (2, zI a2)] [zI r26] M27
        refine zr_istore (L1 := [(4, zI r26), (3, zI (M18 115 a1)), (0, zRf (zad Γ) 103), (1, zI a1), (2, zI a2)]) C (zdec_at dm_X12_breadth 43 rfl) (Nat.le_of_ble_eq_true rfl) rfl ?_
        refine zr_iconst C (zdec_at dm_X12_breadth 44 rfl) ?_
        refine zr_istore (L1 := [(5, zI 1), (4, zI r26), (3, zI (M18 115 a1)), (0, zRf (zad Γ) 103), (1, zI a1), (2, zI a2)]) C (zdec_at dm_X12_breadth 45 rfl) (Nat.le_of_ble_eq_true rfl) rfl ?_
        refine zr_iconst C (zdec_at dm_X12_breadth 46 rfl) ?_
        refine zr_istore (L1 := [(6, zI 0), (5, zI 1), (4, zI r26), (3, zI (M18 115 a1)), (0, zRf (zad Γ) 103), (1, zI a1), (2, zI a2)]) C (zdec_at dm_X12_breadth 47 rfl) (Nat.le_of_ble_eq_true rfl) rfl ?_
        obtain ⟨I75, ⟨n42, q43⟩, hI41⟩ := h
        have lp40 : ∀ (n38 : Nat) (v32 : Int) (v33 : Int) (M36 : zM), I75 v32 v33 M36 n38 → zin v32 → zin v33 → zRng M36 → zV Γ mu_X12_breadth (145, 0, 0) 75 [(0, zRf (zad Γ) 103), (1, zI a1), (3, zI (M18 115 a1)), (4, zI r26), (5, zI v32), (6, zI v33)] [] M36 := by
          intro n38
          induction n38 using Nat.strongRecOn with
          | _ n38 ih39 =>
          intro v32 v33 M36 q44 z34 z35 hR37
          have h := hI41 v32 v33 M36 n38 q44 z34 z35 hR37
          refine zr_iload C 5 rfl (zdec_at dm_X12_breadth 48 rfl) ?_
          refine zr_iconst C (zdec_at dm_X12_breadth 49 rfl) ?_
          refine zr_icmp_ge C z35 (by decide) (zdec_at dm_X12_breadth 50 rfl) rfl (fun g45 => ?_) (fun g45 => ?_)
          · have h := h.1 g45
            refine zr_iload C 4 rfl (zdec_at dm_X12_breadth 83 rfl) ?_
            refine zr_if_eq C z34 (zdec_at dm_X12_breadth 84 rfl) rfl (fun g46 => ?_) (fun g46 => ?_)
            · have h := h.1 g46
              refine zr_iconst C (zdec_at dm_X12_breadth 87 rfl) ?_
              exact zr_ireturn C rfl (zdec_at dm_X12_breadth 88 rfl) rfl ⟨(by decide), h⟩
            · have h := h.2 g46
              refine zr_iconst C (zdec_at dm_X12_breadth 85 rfl) ?_
              refine zr_goto C (zdec_at dm_X12_breadth 86 rfl) rfl ?_
              exact zr_ireturn C rfl (zdec_at dm_X12_breadth 88 rfl) rfl ⟨(by decide), h⟩
          · have h := h.2 g45
            refine zr_aload_n C 0 rfl (zdec_at dm_X12_breadth 51 rfl) rfl ?_
            refine zr_iload_n C 1 rfl (zdec_at dm_X12_breadth 52 rfl) rfl ?_
            refine zr_iload C 5 rfl (zdec_at dm_X12_breadth 53 rfl) ?_
            obtain ⟨g52, h⟩ := h
            refine zr_callV C [a1, v33] hS_X12_beside ck_RX12_236 iv_X12_beside vc_X12 oc_103 rfl rfl (zdec_at dm_X12_breadth 54 rfl) ⟨rfl, rfl, rfl, rfl⟩ ⟨by decide, by decide⟩ (Nat.le_of_ble_eq_true rfl) (zall_0 zz_a1 (zall_0 z35 zall_n)) ?_
            refine ⟨_, _, rfl, g52, fun r47 M48 p51 z50 hR49 => ?_⟩
            have h := h r47 M48 p51 z50 hR49
            show zV Γ mu_X12_breadth (145, 0, 0) 88 [(0, zRf (zad Γ) 103), (1, zI a1), (3, zI (M18 115 a1)), (4, zI r26), (5, zI v32), (6, zI v33)] [zI r47] M48
            refine zr_istore (L1 := [(7, zI r47), (0, zRf (zad Γ) 103), (1, zI a1), (3, zI (M18 115 a1)), (4, zI r26), (5, zI v32), (6, zI v33)]) C (zdec_at dm_X12_breadth 55 rfl) (Nat.le_of_ble_eq_true rfl) rfl ?_
            refine zr_iload C 5 rfl (zdec_at dm_X12_breadth 56 rfl) ?_
            refine zr_if_eq C z34 (zdec_at dm_X12_breadth 57 rfl) rfl (fun g53 => ?_) (fun g53 => ?_)
            · have h := h.1 g53
              refine zr_iconst C (zdec_at dm_X12_breadth 79 rfl) ?_
              refine zr_istore (L1 := [(5, zI 0), (7, zI r47), (0, zRf (zad Γ) 103), (1, zI a1), (3, zI (M18 115 a1)), (4, zI r26), (6, zI v33)]) C (zdec_at dm_X12_breadth 80 rfl) (Nat.le_of_ble_eq_true rfl) rfl ?_
              refine zr_iinc (L1 := [(6, zI (v33 + 1)), (5, zI 0), (7, zI r47), (0, zRf (zad Γ) 103), (1, zI a1), (3, zI (M18 115 a1)), (4, zI r26)]) C 6 rfl (zdec_at dm_X12_breadth 81 rfl) (Nat.le_of_ble_eq_true rfl) rfl ?_
              refine zr_goto C (zdec_at dm_X12_breadth 82 rfl) rfl ?_
              obtain ⟨o54, h⟩ := h
              obtain ⟨n55, q56, q57⟩ := h
              exact zr_sub [3, 4, 5, 6, 1, 0] rfl (ih39 n55 q56 _ _ _ q57 (by decide) o54 hR49)
            · have h := h.2 g53
              refine zr_iload C 0 rfl (zdec_at dm_X12_breadth 58 rfl) ?_
              refine zr_if_lt C z50 (zdec_at dm_X12_breadth 59 rfl) rfl (fun g58 => ?_) (fun g58 => ?_)
              · have h := h.1 g58
                refine zr_iconst C (zdec_at dm_X12_breadth 77 rfl) ?_
                refine zr_goto C (zdec_at dm_X12_breadth 78 rfl) rfl ?_
                refine zr_istore (L1 := [(5, zI 1), (7, zI r47), (0, zRf (zad Γ) 103), (1, zI a1), (3, zI (M18 115 a1)), (4, zI r26), (6, zI v33)]) C (zdec_at dm_X12_breadth 80 rfl) (Nat.le_of_ble_eq_true rfl) rfl ?_
                refine zr_iinc (L1 := [(6, zI (v33 + 1)), (5, zI 1), (7, zI r47), (0, zRf (zad Γ) 103), (1, zI a1), (3, zI (M18 115 a1)), (4, zI r26)]) C 6 rfl (zdec_at dm_X12_breadth 81 rfl) (Nat.le_of_ble_eq_true rfl) rfl ?_
                refine zr_goto C (zdec_at dm_X12_breadth 82 rfl) rfl ?_
                obtain ⟨o59, h⟩ := h
                obtain ⟨n60, q61, q62⟩ := h
                exact zr_sub [3, 4, 5, 6, 1, 0] rfl (ih39 n60 q61 _ _ _ q62 (by decide) o59 hR49)
              · have h := h.2 g58
                refine zr_aload_n C 1 rfl (zdec_at dm_X12_breadth 60 rfl) rfl ?_
                refine zr_getr (q := 115) C fk_RX12_51 fi_103_29 (zdec_at dm_X12_breadth 61 rfl) ?_
                refine zr_iload C 0 rfl (zdec_at dm_X12_breadth 62 rfl) ?_
                obtain ⟨o63, h⟩ := h
                refine zr_iald C ai_115 o63 (zdec_at dm_X12_breadth 63 rfl) ?_
                refine zr_iload_n C 3 rfl (zdec_at dm_X12_breadth 64 rfl) rfl ?_
                refine zr_icmp_ne C (hR49 _ _) (hR19 _ _) (zdec_at dm_X12_breadth 65 rfl) rfl (fun g64 => ?_) (fun g64 => ?_)
                · have h := h.1 g64
                  refine zr_iconst C (zdec_at dm_X12_breadth 77 rfl) ?_
                  refine zr_goto C (zdec_at dm_X12_breadth 78 rfl) rfl ?_
                  refine zr_istore (L1 := [(5, zI 1), (7, zI r47), (0, zRf (zad Γ) 103), (1, zI a1), (3, zI (M18 115 a1)), (4, zI r26), (6, zI v33)]) C (zdec_at dm_X12_breadth 80 rfl) (Nat.le_of_ble_eq_true rfl) rfl ?_
                  refine zr_iinc (L1 := [(6, zI (v33 + 1)), (5, zI 1), (7, zI r47), (0, zRf (zad Γ) 103), (1, zI a1), (3, zI (M18 115 a1)), (4, zI r26)]) C 6 rfl (zdec_at dm_X12_breadth 81 rfl) (Nat.le_of_ble_eq_true rfl) rfl ?_
                  refine zr_goto C (zdec_at dm_X12_breadth 82 rfl) rfl ?_
                  obtain ⟨o65, h⟩ := h
                  obtain ⟨n66, q67, q68⟩ := h
                  exact zr_sub [3, 4, 5, 6, 1, 0] rfl (ih39 n66 q67 _ _ _ q68 (by decide) o65 hR49)
                · have h := h.2 g64
                  refine zr_aload_n C 1 rfl (zdec_at dm_X12_breadth 66 rfl) rfl ?_
                  refine zr_iload_n C 3 rfl (zdec_at dm_X12_breadth 67 rfl) rfl ?_
                  refine zr_iload C 0 rfl (zdec_at dm_X12_breadth 68 rfl) ?_
                  refine zr_bipush C (zdec_at dm_X12_breadth 69 rfl) (by decide) ?_
                  obtain ⟨o69, h⟩ := h
                  refine zr_irem C z50 (by decide) ⟨o69, by decide⟩ (zdec_at dm_X12_breadth 70 rfl) ?_
                  refine zr_iload C 0 rfl (zdec_at dm_X12_breadth 71 rfl) ?_
                  refine zr_bipush C (zdec_at dm_X12_breadth 72 rfl) (by decide) ?_
                  refine zr_idiv C z50 (by decide) ⟨o69, by decide⟩ (zdec_at dm_X12_breadth 73 rfl) ?_
                  obtain ⟨g75, h⟩ := h
                  refine zr_callV C [(M18 115 a1), (r47 % 16), (r47 / 16)] hS_X12_radiusOf ck_RX12_374 iv_X12_radiusOf vc_X12 oc_103 rfl rfl (zdec_at dm_X12_breadth 74 rfl) ⟨rfl, rfl, rfl, rfl⟩ ⟨by decide, by decide⟩ (Nat.le_of_ble_eq_true rfl) (zall_0 (hR19 _ _) (zall_0 (z_rz (a := r47) (b := 16) ⟨o69, by decide⟩ (by decide)) (zall_0 (z_dz2 (a := r47) (b := 16) ⟨o69, by decide⟩ z50) zall_n))) ?_
                  refine ⟨_, _, _, rfl, g75, fun r70 M71 p74 z73 hR72 => ?_⟩
                  have h := h r70 M71 p74 z73 hR72
                  show zV Γ mu_X12_breadth (145, 0, 0) 126 [(7, zI r47), (0, zRf (zad Γ) 103), (1, zI a1), (3, zI (M18 115 a1)), (4, zI r26), (5, zI v32), (6, zI v33)] [zI r70] M71
                  refine zr_iload C 4 rfl (zdec_at dm_X12_breadth 75 rfl) ?_
                  refine zr_icmp_gt C z73 z29 (zdec_at dm_X12_breadth 76 rfl) rfl (fun g76 => ?_) (fun g76 => ?_)
                  · have h := h.1 g76
                    refine zr_iconst C (zdec_at dm_X12_breadth 79 rfl) ?_
                    refine zr_istore (L1 := [(5, zI 0), (7, zI r47), (0, zRf (zad Γ) 103), (1, zI a1), (3, zI (M18 115 a1)), (4, zI r26), (6, zI v33)]) C (zdec_at dm_X12_breadth 80 rfl) (Nat.le_of_ble_eq_true rfl) rfl ?_
                    refine zr_iinc (L1 := [(6, zI (v33 + 1)), (5, zI 0), (7, zI r47), (0, zRf (zad Γ) 103), (1, zI a1), (3, zI (M18 115 a1)), (4, zI r26)]) C 6 rfl (zdec_at dm_X12_breadth 81 rfl) (Nat.le_of_ble_eq_true rfl) rfl ?_
                    refine zr_goto C (zdec_at dm_X12_breadth 82 rfl) rfl ?_
                    obtain ⟨o77, h⟩ := h
                    obtain ⟨n78, q79, q80⟩ := h
                    exact zr_sub [3, 4, 5, 6, 1, 0] rfl (ih39 n78 q79 _ _ _ q80 (by decide) o77 hR72)
                  · have h := h.2 g76
                    refine zr_iconst C (zdec_at dm_X12_breadth 77 rfl) ?_
                    refine zr_goto C (zdec_at dm_X12_breadth 78 rfl) rfl ?_
                    refine zr_istore (L1 := [(5, zI 1), (7, zI r47), (0, zRf (zad Γ) 103), (1, zI a1), (3, zI (M18 115 a1)), (4, zI r26), (6, zI v33)]) C (zdec_at dm_X12_breadth 80 rfl) (Nat.le_of_ble_eq_true rfl) rfl ?_
                    refine zr_iinc (L1 := [(6, zI (v33 + 1)), (5, zI 1), (7, zI r47), (0, zRf (zad Γ) 103), (1, zI a1), (3, zI (M18 115 a1)), (4, zI r26)]) C 6 rfl (zdec_at dm_X12_breadth 81 rfl) (Nat.le_of_ble_eq_true rfl) rfl ?_
                    refine zr_goto C (zdec_at dm_X12_breadth 82 rfl) rfl ?_
                    obtain ⟨o81, h⟩ := h
                    obtain ⟨n82, q83, q84⟩ := h
                    exact zr_sub [3, 4, 5, 6, 1, 0] rfl (ih39 n82 q83 _ _ _ q84 (by decide) o81 hR72)
        exact zr_sub [4, 5, 3, 2, 1, 0] rfl (lp40 n42 _ _ _ q43 (by decide) (by decide) hR28)
      · have h := h.2 g24
        refine zr_aload_n C 1 rfl (zdec_at dm_X12_breadth 24 rfl) rfl ?_
        refine zr_iload_n C 0 rfl (zdec_at dm_X12_breadth 25 rfl) rfl ?_
        refine zr_iload_n C 2 rfl (zdec_at dm_X12_breadth 26 rfl) rfl ?_
        refine zr_bipush C (zdec_at dm_X12_breadth 27 rfl) (by decide) ?_
        obtain ⟨o85, h⟩ := h
        refine zr_irem C zz_a1 (by decide) ⟨o85, by decide⟩ (zdec_at dm_X12_breadth 28 rfl) ?_
        refine zr_iload_n C 2 rfl (zdec_at dm_X12_breadth 29 rfl) rfl ?_
        refine zr_bipush C (zdec_at dm_X12_breadth 30 rfl) (by decide) ?_
        refine zr_idiv C zz_a1 (by decide) ⟨o85, by decide⟩ (zdec_at dm_X12_breadth 31 rfl) ?_
        obtain ⟨g91, h⟩ := h
        refine zr_callV C [(M18 115 a1), (a1 % 16), (a1 / 16)] hS_X12_breadthOf ck_RX12_370 iv_X12_breadthOf vc_X12 oc_103 rfl rfl (zdec_at dm_X12_breadth 32 rfl) ⟨rfl, rfl, rfl, rfl⟩ ⟨by decide, by decide⟩ (Nat.le_of_ble_eq_true rfl) (zall_0 (hR19 _ _) (zall_0 (z_rz (a := a1) (b := 16) ⟨o85, by decide⟩ (by decide)) (zall_0 (z_dz2 (a := a1) (b := 16) ⟨o85, by decide⟩ zz_a1) zall_n))) ?_
        refine ⟨_, _, _, rfl, g91, fun r86 M87 p90 z89 hR88 => ?_⟩
        have h := h r86 M87 p90 z89 hR88
        show zV Γ mu_X12_breadth (145, 0, 0) 53 [(3, zI (M18 115 a1)), (0, zRf (zad Γ) 103), (1, zI a1), (2, zI a2)] [zI r86] M87
        exact zr_ireturn C rfl (zdec_at dm_X12_breadth 33 rfl) rfl ⟨z89, h⟩
    · have h := h.2 g17
      refine zr_iconst C (zdec_at dm_X12_breadth 13 rfl) ?_
      exact zr_ireturn C rfl (zdec_at dm_X12_breadth 14 rfl) rfl ⟨(by decide), h⟩

set_option maxHeartbeats 400000 in
set_option maxRecDepth 100000 in
theorem sn_X12_stroke {pr_X12_isFace : Int → zM → Prop} {po_X12_isFace : Int → zM → Int → zM → Prop} {pr_X12_in : Int → Int → Int → zM → Prop} {po_X12_in : Int → Int → Int → zM → Int → zM → Prop} {pr_X12_greatestOf : Int → zM → Prop} {po_X12_greatestOf : Int → zM → Int → zM → Prop} {pr_X12_findBox : Int → zM → Prop} {po_X12_findBox : Int → zM → zM → Prop} (hS_X12_isFace : zSnd zS 145 0 0 yX12_isFace cX12_isFace 2 (some .boolean) 3 [2, 0] (F_X12_isFace pr_X12_isFace po_X12_isFace)) (hS_X12_in : zSnd zS 145 0 0 yX12_in cX12_in 6 (some .boolean) 0 [1, 1, 1] (F_X12_in pr_X12_in po_X12_in)) (hS_X12_greatestOf : zSnd zS 145 0 0 yX12_greatestOf cX12_greatestOf 6 (some .int) 2 [2, 0] (F_X12_greatestOf pr_X12_greatestOf po_X12_greatestOf)) (hS_X12_findBox : zSnd zS 145 0 0 yX12_findBox cX12_findBox 5 none 0 [2, 0] (F_X12_findBox pr_X12_findBox po_X12_findBox)) : zSnd zS 145 0 0 yX12_stroke cX12_stroke 4 (some .int) 4 [2, 0, 0] (fun xs P M => ∃ a1 a2 : Int, xs = [103, a1, a2] ∧ vc_X12_stroke pr_X12_isFace po_X12_isFace pr_X12_in po_X12_in pr_X12_greatestOf po_X12_greatestOf pr_X12_findBox po_X12_findBox a1 a2 P M) := by
  refine zSnd.of rfl (fun ad xs hz => Nat.le_trans (Nat.le_of_eq (zlen ad _ xs hz)) (by decide)) ?_
  intro Γ C _ _ xs M hz hF
  obtain ⟨a1, a2, rfl, h⟩ := hF
  have zz_a1 := zall_h (zall_t hz) (by decide)
  have zz_a2 := zall_h (zall_t (zall_t hz)) (by decide)
  refine zr_rng (fun hR => ?_)
  have C : zC Γ mu_X12_stroke := C
  change zV Γ mu_X12_stroke (145, 0, 0) 0 [(0, zRf (zad Γ) 103), (1, zI a1), (2, zI a2)] [] M
  change vc_X12_stroke pr_X12_isFace po_X12_isFace pr_X12_in po_X12_in pr_X12_greatestOf po_X12_greatestOf pr_X12_findBox po_X12_findBox a1 a2 _ M at h
  unfold vc_X12_stroke at h
  refine zr_aload_n C 0 rfl (zdec_at dm_X12_stroke 0 rfl) rfl ?_
  refine zr_iconst C (zdec_at dm_X12_stroke 1 rfl) ?_
  refine zr_puti C fk_RX12_140 fi_103_0 (by decide) (zdec_at dm_X12_stroke 2 rfl) (fun M1 e2 => ?_)
  have h := h M1 e2
  have hR3 : zRng M1 := by rw [e2]; exact hR.set (by decide) _ _
  refine zr_aload_n C 0 rfl (zdec_at dm_X12_stroke 3 rfl) rfl ?_
  refine zr_iload_n C 1 rfl (zdec_at dm_X12_stroke 4 rfl) rfl ?_
  obtain ⟨g9, h⟩ := h
  refine zr_callV C [a1] hS_X12_isFace ck_RX12_300 iv_X12_isFace vc_X12 oc_103 rfl rfl (zdec_at dm_X12_stroke 5 rfl) ⟨rfl, rfl, rfl, rfl⟩ ⟨by decide, by decide⟩ (Nat.le_of_ble_eq_true rfl) (zall_0 zz_a1 zall_n) ?_
  refine ⟨_, rfl, g9, fun r4 M5 p8 z7 hR6 => ?_⟩
  have h := h r4 M5 p8 z7 hR6
  show zV Γ mu_X12_stroke (145, 0, 0) 10 [(0, zRf (zad Γ) 103), (1, zI a1), (2, zI a2)] [zI r4] M5
  refine zr_if_eq C z7 (zdec_at dm_X12_stroke 6 rfl) rfl (fun g10 => ?_) (fun g10 => ?_)
  · have h := h.1 g10
    refine zr_iconst C (zdec_at dm_X12_stroke 13 rfl) ?_
    exact zr_ireturn C rfl (zdec_at dm_X12_stroke 14 rfl) rfl ⟨(by decide), h⟩
  · have h := h.2 g10
    refine zr_iload_n C 2 rfl (zdec_at dm_X12_stroke 7 rfl) rfl ?_
    refine zr_i2l C zz_a2 (zdec_at dm_X12_stroke 8 rfl) ?_
    refine zr_lconst (v := 1) C (zdec_at dm_X12_stroke 9 rfl) rfl ?_
    refine zr_ldc2 C (zdec_at dm_X12_stroke 10 rfl) kc_RX12_377 ?_
    obtain ⟨g16, h⟩ := h
    refine zr_callS C [a2, 1, 16] hS_X12_in ck_RX12_156 sv_X12_in rfl rfl (zdec_at dm_X12_stroke 11 rfl) ⟨rfl, rfl, rfl, rfl⟩ ⟨by decide, by decide⟩ (Nat.le_of_ble_eq_true rfl) (zall_1 zz_a2 (zall_1 (by decide) (zall_1 (by decide) zall_n))) ?_
    refine ⟨_, _, _, rfl, g16, fun r11 M12 p15 z14 hR13 => ?_⟩
    have h := h r11 M12 p15 z14 hR13
    show zV Γ mu_X12_stroke (145, 0, 0) 22 [(0, zRf (zad Γ) 103), (1, zI a1), (2, zI a2)] [zI r11] M12
    refine zr_if_ne C z14 (zdec_at dm_X12_stroke 12 rfl) rfl (fun g17 => ?_) (fun g17 => ?_)
    · have h := h.1 g17
      refine zr_aload_n C 0 rfl (zdec_at dm_X12_stroke 15 rfl) rfl ?_
      refine zr_iload_n C 1 rfl (zdec_at dm_X12_stroke 16 rfl) rfl ?_
      obtain ⟨g23, h⟩ := h
      refine zr_callV C [a1] hS_X12_greatestOf ck_RX12_291 iv_X12_greatestOf vc_X12 oc_103 rfl rfl (zdec_at dm_X12_stroke 17 rfl) ⟨rfl, rfl, rfl, rfl⟩ ⟨by decide, by decide⟩ (Nat.le_of_ble_eq_true rfl) (zall_0 zz_a1 zall_n) ?_
      refine ⟨_, rfl, g23, fun r18 M19 p22 z21 hR20 => ?_⟩
      have h := h r18 M19 p22 z21 hR20
      show zV Γ mu_X12_stroke (145, 0, 0) 32 [(0, zRf (zad Γ) 103), (1, zI a1), (2, zI a2)] [zI r18] M19
      refine zr_istore_n (L1 := [(3, zI r18), (0, zRf (zad Γ) 103), (1, zI a1), (2, zI a2)]) C (zdec_at dm_X12_stroke 18 rfl) rfl (Nat.le_of_ble_eq_true rfl) rfl ?_
      refine zr_aload_n C 1 rfl (zdec_at dm_X12_stroke 19 rfl) rfl ?_
      refine zr_iload_n C 2 rfl (zdec_at dm_X12_stroke 20 rfl) rfl ?_
      obtain ⟨g28, h⟩ := h
      refine zr_callV C [a1] hS_X12_findBox ck_RX12_282 iv_X12_findBox vc_X12 oc_103 rfl rfl (zdec_at dm_X12_stroke 21 rfl) ⟨rfl, rfl, rfl, rfl⟩ ⟨by decide, by decide⟩ (Nat.le_of_ble_eq_true rfl) (zall_0 zz_a1 zall_n) ?_
      refine ⟨_, rfl, g28, fun M24 p27 _ hR25 => ?_⟩
      have h := h M24 p27 hR25
      show zV Γ mu_X12_stroke (145, 0, 0) 38 [(3, zI r18), (0, zRf (zad Γ) 103), (1, zI a1), (2, zI a2)] [] M24
      refine zr_iload_n C 0 rfl (zdec_at dm_X12_stroke 22 rfl) rfl ?_
      refine zr_iload_n C 3 rfl (zdec_at dm_X12_stroke 23 rfl) rfl ?_
      refine zr_icmp_gt C z21 zz_a2 (zdec_at dm_X12_stroke 24 rfl) rfl (fun g29 => ?_) (fun g29 => ?_)
      · have h := h.1 g29
        refine zr_iconst C (zdec_at dm_X12_stroke 39 rfl) ?_
        exact zr_ireturn C rfl (zdec_at dm_X12_stroke 40 rfl) rfl ⟨(by decide), h⟩
      · have h := h.2 g29
        refine zr_aload_n C 1 rfl (zdec_at dm_X12_stroke 25 rfl) rfl ?_
        refine zr_geti C fk_RX12_249 fi_103_34 (zdec_at dm_X12_stroke 26 rfl) ?_
        refine zr_iconst C (zdec_at dm_X12_stroke 27 rfl) ?_
        refine zr_iload_n C 0 rfl (zdec_at dm_X12_stroke 28 rfl) rfl ?_
        refine zr_imul C (zdec_at dm_X12_stroke 29 rfl) ?_
        obtain ⟨o30, h⟩ := h
        refine zr_icmp_gt C (hR25 _ _) o30 (zdec_at dm_X12_stroke 30 rfl) rfl (fun g31 => ?_) (fun g31 => ?_)
        · have h := h.1 g31
          refine zr_iconst C (zdec_at dm_X12_stroke 37 rfl) ?_
          refine zr_goto C (zdec_at dm_X12_stroke 38 rfl) rfl ?_
          exact zr_ireturn C rfl (zdec_at dm_X12_stroke 40 rfl) rfl ⟨(by decide), h⟩
        · have h := h.2 g31
          refine zr_aload_n C 1 rfl (zdec_at dm_X12_stroke 31 rfl) rfl ?_
          refine zr_geti C fk_RX12_252 fi_103_35 (zdec_at dm_X12_stroke 32 rfl) ?_
          refine zr_iconst C (zdec_at dm_X12_stroke 33 rfl) ?_
          refine zr_iload_n C 0 rfl (zdec_at dm_X12_stroke 34 rfl) rfl ?_
          refine zr_imul C (zdec_at dm_X12_stroke 35 rfl) ?_
          refine zr_icmp_le C (hR25 _ _) o30 (zdec_at dm_X12_stroke 36 rfl) rfl (fun g32 => ?_) (fun g32 => ?_)
          · have h := h.1 g32
            refine zr_iconst C (zdec_at dm_X12_stroke 39 rfl) ?_
            exact zr_ireturn C rfl (zdec_at dm_X12_stroke 40 rfl) rfl ⟨(by decide), h⟩
          · have h := h.2 g32
            refine zr_iconst C (zdec_at dm_X12_stroke 37 rfl) ?_
            refine zr_goto C (zdec_at dm_X12_stroke 38 rfl) rfl ?_
            exact zr_ireturn C rfl (zdec_at dm_X12_stroke 40 rfl) rfl ⟨(by decide), h⟩
    · have h := h.2 g17
      refine zr_iconst C (zdec_at dm_X12_stroke 13 rfl) ?_
      exact zr_ireturn C rfl (zdec_at dm_X12_stroke 14 rfl) rfl ⟨(by decide), h⟩

set_option maxHeartbeats 400000 in
set_option maxRecDepth 100000 in
theorem sn_X12_liesOn {pr_X12_findBox : Int → zM → Prop} {po_X12_findBox : Int → zM → zM → Prop} {pr_X12_isOf : Int → Int → Int → zM → Prop} {po_X12_isOf : Int → Int → Int → zM → Int → zM → Prop} (hS_X12_findBox : zSnd zS 145 0 0 yX12_findBox cX12_findBox 5 none 0 [2, 0] (F_X12_findBox pr_X12_findBox po_X12_findBox)) (hS_X12_isOf : zSnd zS 145 0 0 yX12_isOf cX12_isOf 4 (some .boolean) 0 [2, 0, 0, 0] (F_X12_isOf pr_X12_isOf po_X12_isOf)) : zSnd zS 145 0 0 yX12_liesOn cX12_liesOn 14 (some .boolean) 1 [2, 0, 0, 0] (fun xs P M => ∃ a1 a2 a3 : Int, xs = [103, a1, a2, a3] ∧ vc_X12_liesOn pr_X12_findBox po_X12_findBox pr_X12_isOf po_X12_isOf a1 a2 a3 P M) := by
  refine zSnd.of rfl (fun ad xs hz => Nat.le_trans (Nat.le_of_eq (zlen ad _ xs hz)) (by decide)) ?_
  intro Γ C _ _ xs M hz hF
  obtain ⟨a1, a2, a3, rfl, h⟩ := hF
  have zz_a1 := zall_h (zall_t hz) (by decide)
  have zz_a2 := zall_h (zall_t (zall_t hz)) (by decide)
  have zz_a3 := zall_h (zall_t (zall_t (zall_t hz))) (by decide)
  refine zr_rng (fun hR => ?_)
  have C : zC Γ mu_X12_liesOn := C
  change zV Γ mu_X12_liesOn (145, 0, 0) 0 [(0, zRf (zad Γ) 103), (1, zI a1), (2, zI a2), (3, zI a3)] [] M
  change vc_X12_liesOn pr_X12_findBox po_X12_findBox pr_X12_isOf po_X12_isOf a1 a2 a3 _ M at h
  unfold vc_X12_liesOn at h
  refine zr_aload_n C 0 rfl (zdec_at dm_X12_liesOn 0 rfl) rfl ?_
  refine zr_iload_n C 2 rfl (zdec_at dm_X12_liesOn 1 rfl) rfl ?_
  obtain ⟨g5, h⟩ := h
  refine zr_callV C [a2] hS_X12_findBox ck_RX12_282 iv_X12_findBox vc_X12 oc_103 rfl rfl (zdec_at dm_X12_liesOn 2 rfl) ⟨rfl, rfl, rfl, rfl⟩ ⟨by decide, by decide⟩ (Nat.le_of_ble_eq_true rfl) (zall_0 zz_a2 zall_n) ?_
  refine ⟨_, rfl, g5, fun M1 p4 _ hR2 => ?_⟩
  have h := h M1 p4 hR2
  show zV Γ mu_X12_liesOn (145, 0, 0) 5 [(0, zRf (zad Γ) 103), (1, zI a1), (2, zI a2), (3, zI a3)] [] M1
  refine zr_aload_n C 0 rfl (zdec_at dm_X12_liesOn 3 rfl) rfl ?_
  refine zr_geti C fk_RX12_243 fi_103_32 (zdec_at dm_X12_liesOn 4 rfl) ?_
  refine zr_istore (L1 := [(4, zI (M1 103 32)), (0, zRf (zad Γ) 103), (1, zI a1), (2, zI a2), (3, zI a3)]) C (zdec_at dm_X12_liesOn 5 rfl) (Nat.le_of_ble_eq_true rfl) rfl ?_
  refine zr_aload_n C 1 rfl (zdec_at dm_X12_liesOn 6 rfl) rfl ?_
  refine zr_geti C fk_RX12_246 fi_103_33 (zdec_at dm_X12_liesOn 7 rfl) ?_
  refine zr_istore (L1 := [(5, zI (M1 103 33)), (4, zI (M1 103 32)), (0, zRf (zad Γ) 103), (1, zI a1), (2, zI a2), (3, zI a3)]) C (zdec_at dm_X12_liesOn 8 rfl) (Nat.le_of_ble_eq_true rfl) rfl ?_
  refine zr_aload_n C 2 rfl (zdec_at dm_X12_liesOn 9 rfl) rfl ?_
  refine zr_geti C fk_RX12_249 fi_103_34 (zdec_at dm_X12_liesOn 10 rfl) ?_
  refine zr_istore (L1 := [(6, zI (M1 103 34)), (5, zI (M1 103 33)), (4, zI (M1 103 32)), (0, zRf (zad Γ) 103), (1, zI a1), (2, zI a2), (3, zI a3)]) C (zdec_at dm_X12_liesOn 11 rfl) (Nat.le_of_ble_eq_true rfl) rfl ?_
  refine zr_aload_n C 3 rfl (zdec_at dm_X12_liesOn 12 rfl) rfl ?_
  refine zr_geti C fk_RX12_252 fi_103_35 (zdec_at dm_X12_liesOn 13 rfl) ?_
  refine zr_istore (L1 := [(7, zI (M1 103 35)), (6, zI (M1 103 34)), (5, zI (M1 103 33)), (4, zI (M1 103 32)), (0, zRf (zad Γ) 103), (1, zI a1), (2, zI a2), (3, zI a3)]) C (zdec_at dm_X12_liesOn 14 rfl) (Nat.le_of_ble_eq_true rfl) rfl ?_
  refine zr_aload_n C 4 rfl (zdec_at dm_X12_liesOn 15 rfl) rfl ?_
  refine zr_iload_n C 5 rfl (zdec_at dm_X12_liesOn 16 rfl) rfl ?_
  obtain ⟨g10, h⟩ := h
  refine zr_callV C [a1] hS_X12_findBox ck_RX12_282 iv_X12_findBox vc_X12 oc_103 rfl rfl (zdec_at dm_X12_liesOn 17 rfl) ⟨rfl, rfl, rfl, rfl⟩ ⟨by decide, by decide⟩ (Nat.le_of_ble_eq_true rfl) (zall_0 zz_a1 zall_n) ?_
  refine ⟨_, rfl, g10, fun M6 p9 _ hR7 => ?_⟩
  have h := h M6 p9 hR7
  show zV Γ mu_X12_liesOn (145, 0, 0) 34 [(7, zI (M1 103 35)), (6, zI (M1 103 34)), (5, zI (M1 103 33)), (4, zI (M1 103 32)), (0, zRf (zad Γ) 103), (1, zI a1), (2, zI a2), (3, zI a3)] [] M6
  refine zr_iload_n C 7 rfl (zdec_at dm_X12_liesOn 18 rfl) rfl ?_
  refine zr_iconst C (zdec_at dm_X12_liesOn 19 rfl) ?_
  have h := h (fun v11 => zin v11 → zV Γ mu_X12_liesOn (145, 0, 0) 44 [(0, zRf (zad Γ) 103), (1, zI a1), (2, zI a2), (3, zI a3), (4, zI (M1 103 32)), (5, zI (M1 103 33)), (6, zI (M1 103 34)), (7, zI (M1 103 35))] [zI v11] M6) (fun v11 h z12 => by
    have h := h z12
    refine zr_istore (L1 := [(8, zI v11), (0, zRf (zad Γ) 103), (1, zI a1), (2, zI a2), (3, zI a3), (4, zI (M1 103 32)), (5, zI (M1 103 33)), (6, zI (M1 103 34)), (7, zI (M1 103 35))]) C (zdec_at dm_X12_liesOn 24 rfl) (Nat.le_of_ble_eq_true rfl) rfl ?_
    refine zr_iload C 7 rfl (zdec_at dm_X12_liesOn 25 rfl) ?_
    refine zr_iload C 0 rfl (zdec_at dm_X12_liesOn 26 rfl) ?_
    have h := h (fun v13 => zin v13 → zV Γ mu_X12_liesOn (145, 0, 0) 64 [(0, zRf (zad Γ) 103), (1, zI a1), (2, zI a2), (3, zI a3), (4, zI (M1 103 32)), (5, zI (M1 103 33)), (6, zI (M1 103 34)), (7, zI (M1 103 35)), (8, zI v11)] [zI v13, zI (M1 103 34)] M6) (fun v13 h z14 => by
      have h := h z14
      refine zr_icmp_ne C (hR2 _ _) z14 (zdec_at dm_X12_liesOn 33 rfl) rfl (fun g15 => ?_) (fun g15 => ?_)
      · have h := h.1 g15
        refine zr_iconst C (zdec_at dm_X12_liesOn 43 rfl) ?_
        exact zr_zreturn C rfl (by decide) (zdec_at dm_X12_liesOn 44 rfl) rfl ⟨(by decide), h⟩
      · have h := h.2 g15
        refine zr_iload C 7 rfl (zdec_at dm_X12_liesOn 34 rfl) ?_
        refine zr_iload C 8 rfl (zdec_at dm_X12_liesOn 35 rfl) ?_
        have h := h (fun v16 => zin v16 → zV Γ mu_X12_liesOn (145, 0, 0) 85 [(0, zRf (zad Γ) 103), (1, zI a1), (2, zI a2), (3, zI a3), (4, zI (M1 103 32)), (5, zI (M1 103 33)), (6, zI (M1 103 34)), (7, zI (M1 103 35)), (8, zI v11)] [zI v16, zI (M1 103 35)] M6) (fun v16 h z17 => by
          have h := h z17
          refine zr_icmp_eq C (hR2 _ _) z17 (zdec_at dm_X12_liesOn 42 rfl) rfl (fun g18 => ?_) (fun g18 => ?_)
          · have h := h.1 g18
            refine zr_iconst C (zdec_at dm_X12_liesOn 45 rfl) ?_
            refine zr_istore (L1 := [(9, zI 1), (0, zRf (zad Γ) 103), (1, zI a1), (2, zI a2), (3, zI a3), (4, zI (M1 103 32)), (5, zI (M1 103 33)), (6, zI (M1 103 34)), (7, zI (M1 103 35)), (8, zI v11)]) C (zdec_at dm_X12_liesOn 46 rfl) (Nat.le_of_ble_eq_true rfl) rfl ?_
            refine zr_iconst C (zdec_at dm_X12_liesOn 47 rfl) ?_
            refine zr_istore (L1 := [(10, zI 0), (9, zI 1), (0, zRf (zad Γ) 103), (1, zI a1), (2, zI a2), (3, zI a3), (4, zI (M1 103 32)), (5, zI (M1 103 33)), (6, zI (M1 103 34)), (7, zI (M1 103 35)), (8, zI v11)]) C (zdec_at dm_X12_liesOn 48 rfl) (Nat.le_of_ble_eq_true rfl) rfl ?_
            obtain ⟨I96, ⟨n29, q30⟩, hI28⟩ := h
            have lp27 : ∀ (n25 : Nat) (v19 : Int) (v20 : Int) (M23 : zM), I96 v19 v20 M23 n25 → zin v19 → zin v20 → zRng M23 → zV Γ mu_X12_liesOn (145, 0, 0) 96 [(0, zRf (zad Γ) 103), (1, zI a1), (2, zI a2), (3, zI a3), (4, zI (M1 103 32)), (5, zI (M1 103 33)), (6, zI (M1 103 34)), (7, zI (M1 103 35)), (8, zI v11), (9, zI v19), (10, zI v20)] [] M23 := by
              intro n25
              induction n25 using Nat.strongRecOn with
              | _ n25 ih26 =>
              intro v19 v20 M23 q31 z21 z22 hR24
              have h := hI28 v19 v20 M23 n25 q31 z21 z22 hR24
              refine zr_iload C 10 rfl (zdec_at dm_X12_liesOn 49 rfl) ?_
              refine zr_iload C 7 rfl (zdec_at dm_X12_liesOn 50 rfl) ?_
              refine zr_icmp_ge C z22 (hR2 _ _) (zdec_at dm_X12_liesOn 51 rfl) rfl (fun g32 => ?_) (fun g32 => ?_)
              · have h := h.1 g32
                refine zr_iload C 9 rfl (zdec_at dm_X12_liesOn 124 rfl) ?_
                obtain ⟨o33, h⟩ := h
                exact zr_zreturn C rfl o33 (zdec_at dm_X12_liesOn 125 rfl) rfl ⟨z21, h⟩
              · have h := h.2 g32
                refine zr_iload C 9 rfl (zdec_at dm_X12_liesOn 52 rfl) ?_
                refine zr_if_eq C z21 (zdec_at dm_X12_liesOn 53 rfl) rfl (fun g34 => ?_) (fun g34 => ?_)
                · have h := h.1 g34
                  refine zr_iload C 9 rfl (zdec_at dm_X12_liesOn 124 rfl) ?_
                  obtain ⟨o35, h⟩ := h
                  exact zr_zreturn C rfl o35 (zdec_at dm_X12_liesOn 125 rfl) rfl ⟨z21, h⟩
                · have h := h.2 g34
                  refine zr_iconst C (zdec_at dm_X12_liesOn 54 rfl) ?_
                  refine zr_istore (L1 := [(11, zI 0), (0, zRf (zad Γ) 103), (1, zI a1), (2, zI a2), (3, zI a3), (4, zI (M1 103 32)), (5, zI (M1 103 33)), (6, zI (M1 103 34)), (7, zI (M1 103 35)), (8, zI v11), (9, zI v19), (10, zI v20)]) C (zdec_at dm_X12_liesOn 55 rfl) (Nat.le_of_ble_eq_true rfl) rfl ?_
                  obtain ⟨I111, ⟨n46, q47⟩, hI45⟩ := h
                  have lp44 : ∀ (n42 : Nat) (v36 : Int) (v37 : Int) (M40 : zM), I111 v36 v37 M40 n42 → zin v36 → zin v37 → zRng M40 → zV Γ mu_X12_liesOn (145, 0, 0) 111 [(0, zRf (zad Γ) 103), (1, zI a1), (2, zI a2), (3, zI a3), (4, zI (M1 103 32)), (5, zI (M1 103 33)), (6, zI (M1 103 34)), (7, zI (M1 103 35)), (8, zI v11), (9, zI v36), (10, zI v20), (11, zI v37)] [] M40 := by
                    intro n42
                    induction n42 using Nat.strongRecOn with
                    | _ n42 ih43 =>
                    intro v36 v37 M40 q48 z38 z39 hR41
                    have h := hI45 v36 v37 M40 n42 q48 z38 z39 hR41
                    refine zr_iload C 11 rfl (zdec_at dm_X12_liesOn 56 rfl) ?_
                    refine zr_iload C 6 rfl (zdec_at dm_X12_liesOn 57 rfl) ?_
                    refine zr_icmp_ge C z39 (hR2 _ _) (zdec_at dm_X12_liesOn 58 rfl) rfl (fun g49 => ?_) (fun g49 => ?_)
                    · have h := h.1 g49
                      refine zr_iinc (L1 := [(10, zI (v20 + 1)), (0, zRf (zad Γ) 103), (1, zI a1), (2, zI a2), (3, zI a3), (4, zI (M1 103 32)), (5, zI (M1 103 33)), (6, zI (M1 103 34)), (7, zI (M1 103 35)), (8, zI v11), (9, zI v36), (11, zI v37)]) C 10 rfl (zdec_at dm_X12_liesOn 122 rfl) (Nat.le_of_ble_eq_true rfl) rfl ?_
                      refine zr_goto C (zdec_at dm_X12_liesOn 123 rfl) rfl ?_
                      obtain ⟨o50, h⟩ := h
                      obtain ⟨n51, q52, q53⟩ := h
                      exact zr_sub [1, 2, 3, 4, 5, 6, 7, 8, 9, 10, 0] rfl (ih26 n51 q52 _ _ _ q53 z38 o50 hR41)
                    · have h := h.2 g49
                      refine zr_iload C 9 rfl (zdec_at dm_X12_liesOn 59 rfl) ?_
                      refine zr_if_eq C z38 (zdec_at dm_X12_liesOn 60 rfl) rfl (fun g54 => ?_) (fun g54 => ?_)
                      · have h := h.1 g54
                        refine zr_iinc (L1 := [(10, zI (v20 + 1)), (0, zRf (zad Γ) 103), (1, zI a1), (2, zI a2), (3, zI a3), (4, zI (M1 103 32)), (5, zI (M1 103 33)), (6, zI (M1 103 34)), (7, zI (M1 103 35)), (8, zI v11), (9, zI v36), (11, zI v37)]) C 10 rfl (zdec_at dm_X12_liesOn 122 rfl) (Nat.le_of_ble_eq_true rfl) rfl ?_
                        refine zr_goto C (zdec_at dm_X12_liesOn 123 rfl) rfl ?_
                        obtain ⟨o55, h⟩ := h
                        obtain ⟨n56, q57, q58⟩ := h
                        exact zr_sub [1, 2, 3, 4, 5, 6, 7, 8, 9, 10, 0] rfl (ih26 n56 q57 _ _ _ q58 z38 o55 hR41)
                      · have h := h.2 g54
                        refine zr_iload_n C 3 rfl (zdec_at dm_X12_liesOn 61 rfl) rfl ?_
                        refine zr_iconst C (zdec_at dm_X12_liesOn 62 rfl) ?_
                        obtain ⟨o59, h⟩ := h
                        refine zr_irem C zz_a3 (by decide) ⟨o59, by decide⟩ (zdec_at dm_X12_liesOn 63 rfl) ?_
                        have h := h (fun v60 => zin v60 → zV Γ mu_X12_liesOn (145, 0, 0) 141 [(0, zRf (zad Γ) 103), (1, zI a1), (2, zI a2), (3, zI a3), (4, zI (M1 103 32)), (5, zI (M1 103 33)), (6, zI (M1 103 34)), (7, zI (M1 103 35)), (8, zI v11), (10, zI v20), (11, zI v37)] [zI v60] M40) (fun v60 h z61 => by
                          have h := h z61
                          refine zr_istore (L1 := [(12, zI v60), (0, zRf (zad Γ) 103), (1, zI a1), (2, zI a2), (3, zI a3), (4, zI (M1 103 32)), (5, zI (M1 103 33)), (6, zI (M1 103 34)), (7, zI (M1 103 35)), (8, zI v11), (10, zI v20), (11, zI v37)]) C (zdec_at dm_X12_liesOn 72 rfl) (Nat.le_of_ble_eq_true rfl) rfl ?_
                          refine zr_iload_n C 4 rfl (zdec_at dm_X12_liesOn 73 rfl) rfl ?_
                          refine zr_iconst C (zdec_at dm_X12_liesOn 74 rfl) ?_
                          refine zr_idiv C zz_a3 (by decide) ⟨o59, by decide⟩ (zdec_at dm_X12_liesOn 75 rfl) ?_
                          refine zr_iconst C (zdec_at dm_X12_liesOn 76 rfl) ?_
                          obtain ⟨o62, h⟩ := h
                          refine zr_irem C (z_dz2 (a := a3) (b := 2) ⟨o59, by decide⟩ zz_a3) (by decide) ⟨o62, by decide⟩ (zdec_at dm_X12_liesOn 77 rfl) ?_
                          have h := h (fun v63 => zin v63 → zV Γ mu_X12_liesOn (145, 0, 0) 163 [(0, zRf (zad Γ) 103), (1, zI a1), (2, zI a2), (3, zI a3), (4, zI (M1 103 32)), (5, zI (M1 103 33)), (6, zI (M1 103 34)), (7, zI (M1 103 35)), (8, zI v11), (10, zI v20), (11, zI v37), (12, zI v60)] [zI v63] M40) (fun v63 h z64 => by
                            have h := h z64
                            refine zr_istore (L1 := [(13, zI v63), (0, zRf (zad Γ) 103), (1, zI a1), (2, zI a2), (3, zI a3), (4, zI (M1 103 32)), (5, zI (M1 103 33)), (6, zI (M1 103 34)), (7, zI (M1 103 35)), (8, zI v11), (10, zI v20), (11, zI v37), (12, zI v60)]) C (zdec_at dm_X12_liesOn 86 rfl) (Nat.le_of_ble_eq_true rfl) rfl ?_
                            refine zr_aload_n C 1 rfl (zdec_at dm_X12_liesOn 87 rfl) rfl ?_
                            refine zr_iload_n C 3 rfl (zdec_at dm_X12_liesOn 88 rfl) rfl ?_
                            refine zr_iload C 5 rfl (zdec_at dm_X12_liesOn 89 rfl) ?_
                            refine zr_iload C 11 rfl (zdec_at dm_X12_liesOn 90 rfl) ?_
                            refine zr_iadd C (zdec_at dm_X12_liesOn 91 rfl) ?_
                            refine zr_iload C 6 rfl (zdec_at dm_X12_liesOn 92 rfl) ?_
                            refine zr_iload C 10 rfl (zdec_at dm_X12_liesOn 93 rfl) ?_
                            refine zr_iadd C (zdec_at dm_X12_liesOn 94 rfl) ?_
                            obtain ⟨o65, h⟩ := h
                            obtain ⟨o66, h⟩ := h
                            obtain ⟨g72, h⟩ := h
                            refine zr_callV C [a2, ((M1 103 32) + v37), ((M1 103 33) + v20)] hS_X12_isOf ck_RX12_255 iv_X12_isOf vc_X12 oc_103 rfl rfl (zdec_at dm_X12_liesOn 95 rfl) ⟨rfl, rfl, rfl, rfl⟩ ⟨by decide, by decide⟩ (Nat.le_of_ble_eq_true rfl) (zall_0 zz_a2 (zall_0 o66 (zall_0 o65 zall_n))) ?_
                            refine ⟨_, _, _, rfl, g72, fun r67 M68 p71 z70 hR69 => ?_⟩
                            have h := h r67 M68 p71 z70 hR69
                            show zV Γ mu_X12_liesOn (145, 0, 0) 180 [(13, zI v63), (0, zRf (zad Γ) 103), (1, zI a1), (2, zI a2), (3, zI a3), (4, zI (M1 103 32)), (5, zI (M1 103 33)), (6, zI (M1 103 34)), (7, zI (M1 103 35)), (8, zI v11), (10, zI v20), (11, zI v37), (12, zI v60)] [zI r67] M68
                            refine zr_aload_n C 1 rfl (zdec_at dm_X12_liesOn 96 rfl) rfl ?_
                            refine zr_iload_n C 2 rfl (zdec_at dm_X12_liesOn 97 rfl) rfl ?_
                            refine zr_aload_n C 1 rfl (zdec_at dm_X12_liesOn 98 rfl) rfl ?_
                            refine zr_geti C fk_RX12_243 fi_103_32 (zdec_at dm_X12_liesOn 99 rfl) ?_
                            refine zr_iload C 9 rfl (zdec_at dm_X12_liesOn 100 rfl) ?_
                            have h := h (fun v73 => zin v73 → zV Γ mu_X12_liesOn (145, 0, 0) 198 [(0, zRf (zad Γ) 103), (1, zI a1), (2, zI a2), (3, zI a3), (4, zI (M1 103 32)), (5, zI (M1 103 33)), (6, zI (M1 103 34)), (7, zI (M1 103 35)), (8, zI v11), (10, zI v20), (11, zI v37), (12, zI v60), (13, zI v63)] [zI v73, zI (M68 103 32), zI a1, zRf (zad Γ) 103, zI r67] M68) (fun v73 h z74 => by
                              have h := h z74
                              refine zr_iadd C (zdec_at dm_X12_liesOn 105 rfl) ?_
                              refine zr_aload_n C 0 rfl (zdec_at dm_X12_liesOn 106 rfl) rfl ?_
                              refine zr_geti C fk_RX12_246 fi_103_33 (zdec_at dm_X12_liesOn 107 rfl) ?_
                              refine zr_iload C 8 rfl (zdec_at dm_X12_liesOn 108 rfl) ?_
                              have h := h (fun v75 => zin v75 → zV Γ mu_X12_liesOn (145, 0, 0) 215 [(0, zRf (zad Γ) 103), (1, zI a1), (2, zI a2), (3, zI a3), (4, zI (M1 103 32)), (5, zI (M1 103 33)), (6, zI (M1 103 34)), (7, zI (M1 103 35)), (8, zI v11), (10, zI v20), (11, zI v37)] [zI v75, zI (M68 103 33), zI ((M68 103 32) + v73), zI a1, zRf (zad Γ) 103, zI r67] M68) (fun v75 h z76 => by
                                have h := h z76
                                refine zr_iadd C (zdec_at dm_X12_liesOn 113 rfl) ?_
                                obtain ⟨o77, h⟩ := h
                                obtain ⟨o78, h⟩ := h
                                obtain ⟨g84, h⟩ := h
                                refine zr_callV C [a1, ((M68 103 32) + v73), ((M68 103 33) + v75)] hS_X12_isOf ck_RX12_255 iv_X12_isOf vc_X12 oc_103 rfl rfl (zdec_at dm_X12_liesOn 114 rfl) ⟨rfl, rfl, rfl, rfl⟩ ⟨by decide, by decide⟩ (Nat.le_of_ble_eq_true rfl) (zall_0 zz_a1 (zall_0 o78 (zall_0 o77 zall_n))) ?_
                                refine ⟨_, _, _, rfl, g84, fun r79 M80 p83 z82 hR81 => ?_⟩
                                have h := h r79 M80 p83 z82 hR81
                                show zV Γ mu_X12_liesOn (145, 0, 0) 219 [(0, zRf (zad Γ) 103), (1, zI a1), (2, zI a2), (3, zI a3), (4, zI (M1 103 32)), (5, zI (M1 103 33)), (6, zI (M1 103 34)), (7, zI (M1 103 35)), (8, zI v11), (10, zI v20), (11, zI v37)] [zI r79, zI r67] M80
                                refine zr_icmp_ne C z70 z82 (zdec_at dm_X12_liesOn 115 rfl) rfl (fun g85 => ?_) (fun g85 => ?_)
                                · have h := h.1 g85
                                  refine zr_iconst C (zdec_at dm_X12_liesOn 118 rfl) ?_
                                  refine zr_istore (L1 := [(9, zI 0), (0, zRf (zad Γ) 103), (1, zI a1), (2, zI a2), (3, zI a3), (4, zI (M1 103 32)), (5, zI (M1 103 33)), (6, zI (M1 103 34)), (7, zI (M1 103 35)), (8, zI v11), (10, zI v20), (11, zI v37)]) C (zdec_at dm_X12_liesOn 119 rfl) (Nat.le_of_ble_eq_true rfl) rfl ?_
                                  refine zr_iinc (L1 := [(11, zI (v37 + 1)), (9, zI 0), (0, zRf (zad Γ) 103), (1, zI a1), (2, zI a2), (3, zI a3), (4, zI (M1 103 32)), (5, zI (M1 103 33)), (6, zI (M1 103 34)), (7, zI (M1 103 35)), (8, zI v11), (10, zI v20)]) C 11 rfl (zdec_at dm_X12_liesOn 120 rfl) (Nat.le_of_ble_eq_true rfl) rfl ?_
                                  refine zr_goto C (zdec_at dm_X12_liesOn 121 rfl) rfl ?_
                                  obtain ⟨o86, h⟩ := h
                                  obtain ⟨n87, q88, q89⟩ := h
                                  exact zr_sub [2, 3, 4, 5, 6, 7, 8, 9, 10, 1, 11, 0] rfl (ih43 n87 q88 _ _ _ q89 (by decide) o86 hR81)
                                · have h := h.2 g85
                                  refine zr_iconst C (zdec_at dm_X12_liesOn 116 rfl) ?_
                                  refine zr_goto C (zdec_at dm_X12_liesOn 117 rfl) rfl ?_
                                  refine zr_istore (L1 := [(9, zI 1), (0, zRf (zad Γ) 103), (1, zI a1), (2, zI a2), (3, zI a3), (4, zI (M1 103 32)), (5, zI (M1 103 33)), (6, zI (M1 103 34)), (7, zI (M1 103 35)), (8, zI v11), (10, zI v20), (11, zI v37)]) C (zdec_at dm_X12_liesOn 119 rfl) (Nat.le_of_ble_eq_true rfl) rfl ?_
                                  refine zr_iinc (L1 := [(11, zI (v37 + 1)), (9, zI 1), (0, zRf (zad Γ) 103), (1, zI a1), (2, zI a2), (3, zI a3), (4, zI (M1 103 32)), (5, zI (M1 103 33)), (6, zI (M1 103 34)), (7, zI (M1 103 35)), (8, zI v11), (10, zI v20)]) C 11 rfl (zdec_at dm_X12_liesOn 120 rfl) (Nat.le_of_ble_eq_true rfl) rfl ?_
                                  refine zr_goto C (zdec_at dm_X12_liesOn 121 rfl) rfl ?_
                                  obtain ⟨o90, h⟩ := h
                                  obtain ⟨n91, q92, q93⟩ := h
                                  exact zr_sub [2, 3, 4, 5, 6, 7, 8, 9, 10, 1, 11, 0] rfl (ih43 n91 q92 _ _ _ q93 (by decide) o90 hR81))
                              refine zr_if_eq C z12 (zdec_at dm_X12_liesOn 109 rfl) rfl (fun g94 => ?_) (fun g94 => ?_)
                              · have h := h.1 g94
                                refine zr_iload C 12 rfl (zdec_at dm_X12_liesOn 112 rfl) ?_
                                exact zr_sub [0, 1, 2, 3, 4, 5, 6, 7, 8, 9, 10] rfl (h z64)
                              · have h := h.2 g94
                                refine zr_iload C 11 rfl (zdec_at dm_X12_liesOn 110 rfl) ?_
                                refine zr_goto C (zdec_at dm_X12_liesOn 111 rfl) rfl ?_
                                exact zr_sub [0, 1, 2, 3, 4, 5, 6, 7, 8, 9, 10] rfl (h z61))
                            refine zr_if_eq C z12 (zdec_at dm_X12_liesOn 101 rfl) rfl (fun g95 => ?_) (fun g95 => ?_)
                            · have h := h.1 g95
                              refine zr_iload C 12 rfl (zdec_at dm_X12_liesOn 104 rfl) ?_
                              exact zr_sub [1, 2, 3, 4, 5, 6, 7, 8, 9, 10, 11, 12, 0] rfl (h z61)
                            · have h := h.2 g95
                              refine zr_iload C 0 rfl (zdec_at dm_X12_liesOn 102 rfl) ?_
                              refine zr_goto C (zdec_at dm_X12_liesOn 103 rfl) rfl ?_
                              exact zr_sub [1, 2, 3, 4, 5, 6, 7, 8, 9, 10, 11, 12, 0] rfl (h z64))
                          refine zr_if_ne C (z_rz (a := (a3 / 2)) (b := 2) ⟨o62, by decide⟩ (by decide)) (zdec_at dm_X12_liesOn 78 rfl) rfl (fun g96 => ?_) (fun g96 => ?_)
                          · have h := h.1 g96
                            refine zr_iload C 8 rfl (zdec_at dm_X12_liesOn 81 rfl) ?_
                            refine zr_iconst C (zdec_at dm_X12_liesOn 82 rfl) ?_
                            refine zr_isub C (zdec_at dm_X12_liesOn 83 rfl) ?_
                            refine zr_iload C 10 rfl (zdec_at dm_X12_liesOn 84 rfl) ?_
                            refine zr_isub C (zdec_at dm_X12_liesOn 85 rfl) ?_
                            obtain ⟨o97, h⟩ := h
                            exact zr_sub [1, 2, 3, 4, 5, 6, 7, 8, 9, 10, 11, 0] rfl (h o97)
                          · have h := h.2 g96
                            refine zr_iload C 10 rfl (zdec_at dm_X12_liesOn 79 rfl) ?_
                            refine zr_goto C (zdec_at dm_X12_liesOn 80 rfl) rfl ?_
                            exact zr_sub [1, 2, 3, 4, 5, 6, 7, 8, 9, 10, 11, 0] rfl (h z22))
                        refine zr_if_ne C (z_rz (a := a3) (b := 2) ⟨o59, by decide⟩ (by decide)) (zdec_at dm_X12_liesOn 64 rfl) rfl (fun g98 => ?_) (fun g98 => ?_)
                        · have h := h.1 g98
                          refine zr_iload C 6 rfl (zdec_at dm_X12_liesOn 67 rfl) ?_
                          refine zr_iconst C (zdec_at dm_X12_liesOn 68 rfl) ?_
                          refine zr_isub C (zdec_at dm_X12_liesOn 69 rfl) ?_
                          refine zr_iload C 11 rfl (zdec_at dm_X12_liesOn 70 rfl) ?_
                          refine zr_isub C (zdec_at dm_X12_liesOn 71 rfl) ?_
                          obtain ⟨o99, h⟩ := h
                          exact zr_sub [0, 1, 2, 3, 4, 5, 6, 7, 8, 10, 11] rfl (h o99)
                        · have h := h.2 g98
                          refine zr_iload C 11 rfl (zdec_at dm_X12_liesOn 65 rfl) ?_
                          refine zr_goto C (zdec_at dm_X12_liesOn 66 rfl) rfl ?_
                          exact zr_sub [0, 1, 2, 3, 4, 5, 6, 7, 8, 10, 11] rfl (h z39)
                  exact zr_sub [1, 2, 3, 4, 5, 6, 7, 8, 9, 10, 11, 0] rfl (lp44 n46 _ _ _ q47 z21 (by decide) hR24)
            exact zr_sub [2, 3, 4, 5, 6, 7, 8, 9, 10, 1, 0] rfl (lp27 n29 _ _ _ q30 (by decide) (by decide) hR7)
          · have h := h.2 g18
            refine zr_iconst C (zdec_at dm_X12_liesOn 43 rfl) ?_
            exact zr_zreturn C rfl (by decide) (zdec_at dm_X12_liesOn 44 rfl) rfl ⟨(by decide), h⟩)
        refine zr_if_eq C z12 (zdec_at dm_X12_liesOn 36 rfl) rfl (fun g100 => ?_) (fun g100 => ?_)
        · have h := h.1 g100
          refine zr_aload_n C 0 rfl (zdec_at dm_X12_liesOn 40 rfl) rfl ?_
          refine zr_geti C fk_RX12_252 fi_103_35 (zdec_at dm_X12_liesOn 41 rfl) ?_
          exact zr_sub [0, 1, 2, 3, 4, 5, 6, 7, 8] rfl (h (hR7 _ _))
        · have h := h.2 g100
          refine zr_aload_n C 0 rfl (zdec_at dm_X12_liesOn 37 rfl) rfl ?_
          refine zr_geti C fk_RX12_249 fi_103_34 (zdec_at dm_X12_liesOn 38 rfl) ?_
          refine zr_goto C (zdec_at dm_X12_liesOn 39 rfl) rfl ?_
          exact zr_sub [0, 1, 2, 3, 4, 5, 6, 7, 8] rfl (h (hR7 _ _)))
    refine zr_if_eq C z12 (zdec_at dm_X12_liesOn 27 rfl) rfl (fun g101 => ?_) (fun g101 => ?_)
    · have h := h.1 g101
      refine zr_aload_n C 1 rfl (zdec_at dm_X12_liesOn 31 rfl) rfl ?_
      refine zr_geti C fk_RX12_249 fi_103_34 (zdec_at dm_X12_liesOn 32 rfl) ?_
      exact zr_sub [1, 2, 3, 4, 5, 6, 7, 8, 0] rfl (h (hR7 _ _))
    · have h := h.2 g101
      refine zr_aload_n C 1 rfl (zdec_at dm_X12_liesOn 28 rfl) rfl ?_
      refine zr_geti C fk_RX12_252 fi_103_35 (zdec_at dm_X12_liesOn 29 rfl) ?_
      refine zr_goto C (zdec_at dm_X12_liesOn 30 rfl) rfl ?_
      exact zr_sub [1, 2, 3, 4, 5, 6, 7, 8, 0] rfl (h (hR7 _ _)))
  refine zr_icmp_lt C zz_a3 (by decide) (zdec_at dm_X12_liesOn 20 rfl) rfl (fun g102 => ?_) (fun g102 => ?_)
  · have h := h.1 g102
    refine zr_iconst C (zdec_at dm_X12_liesOn 23 rfl) ?_
    exact zr_sub [4, 5, 6, 7, 3, 2, 1, 0] rfl (h (by decide))
  · have h := h.2 g102
    refine zr_iconst C (zdec_at dm_X12_liesOn 21 rfl) ?_
    refine zr_goto C (zdec_at dm_X12_liesOn 22 rfl) rfl ?_
    exact zr_sub [4, 5, 6, 7, 3, 2, 1, 0] rfl (h (by decide))

set_option maxHeartbeats 400000 in
set_option maxRecDepth 100000 in
theorem sn_X12_areLike {pr_X12_sizeOf : Int → zM → Prop} {po_X12_sizeOf : Int → zM → Int → zM → Prop} {pr_X12_liesOn : Int → Int → Int → zM → Prop} {po_X12_liesOn : Int → Int → Int → zM → Int → zM → Prop} (hS_X12_sizeOf : zSnd zS 145 0 0 yX12_sizeOf cX12_sizeOf 4 (some .int) 0 [2, 0] (F_X12_sizeOf pr_X12_sizeOf po_X12_sizeOf)) (hS_X12_liesOn : zSnd zS 145 0 0 yX12_liesOn cX12_liesOn 14 (some .boolean) 1 [2, 0, 0, 0] (F_X12_liesOn pr_X12_liesOn po_X12_liesOn)) : zSnd zS 145 0 0 yX12_areLike cX12_areLike 6 (some .boolean) 2 [2, 0, 0] (fun xs P M => ∃ a1 a2 : Int, xs = [103, a1, a2] ∧ vc_X12_areLike pr_X12_sizeOf po_X12_sizeOf pr_X12_liesOn po_X12_liesOn a1 a2 P M) := by
  refine zSnd.of rfl (fun ad xs hz => Nat.le_trans (Nat.le_of_eq (zlen ad _ xs hz)) (by decide)) ?_
  intro Γ C _ _ xs M hz hF
  obtain ⟨a1, a2, rfl, h⟩ := hF
  have zz_a1 := zall_h (zall_t hz) (by decide)
  have zz_a2 := zall_h (zall_t (zall_t hz)) (by decide)
  refine zr_rng (fun hR => ?_)
  have C : zC Γ mu_X12_areLike := C
  change zV Γ mu_X12_areLike (145, 0, 0) 0 [(0, zRf (zad Γ) 103), (1, zI a1), (2, zI a2)] [] M
  change vc_X12_areLike pr_X12_sizeOf po_X12_sizeOf pr_X12_liesOn po_X12_liesOn a1 a2 _ M at h
  unfold vc_X12_areLike at h
  refine zr_aload_n C 0 rfl (zdec_at dm_X12_areLike 0 rfl) rfl ?_
  refine zr_iload_n C 1 rfl (zdec_at dm_X12_areLike 1 rfl) rfl ?_
  obtain ⟨g6, h⟩ := h
  refine zr_callV C [a1] hS_X12_sizeOf ck_RX12_279 iv_X12_sizeOf vc_X12 oc_103 rfl rfl (zdec_at dm_X12_areLike 2 rfl) ⟨rfl, rfl, rfl, rfl⟩ ⟨by decide, by decide⟩ (Nat.le_of_ble_eq_true rfl) (zall_0 zz_a1 zall_n) ?_
  refine ⟨_, rfl, g6, fun r1 M2 p5 z4 hR3 => ?_⟩
  have h := h r1 M2 p5 z4 hR3
  show zV Γ mu_X12_areLike (145, 0, 0) 5 [(0, zRf (zad Γ) 103), (1, zI a1), (2, zI a2)] [zI r1] M2
  refine zr_aload_n C 0 rfl (zdec_at dm_X12_areLike 3 rfl) rfl ?_
  refine zr_iload_n C 2 rfl (zdec_at dm_X12_areLike 4 rfl) rfl ?_
  obtain ⟨g12, h⟩ := h
  refine zr_callV C [a2] hS_X12_sizeOf ck_RX12_279 iv_X12_sizeOf vc_X12 oc_103 rfl rfl (zdec_at dm_X12_areLike 5 rfl) ⟨rfl, rfl, rfl, rfl⟩ ⟨by decide, by decide⟩ (Nat.le_of_ble_eq_true rfl) (zall_0 zz_a2 zall_n) ?_
  refine ⟨_, rfl, g12, fun r7 M8 p11 z10 hR9 => ?_⟩
  have h := h r7 M8 p11 z10 hR9
  show zV Γ mu_X12_areLike (145, 0, 0) 10 [(0, zRf (zad Γ) 103), (1, zI a1), (2, zI a2)] [zI r7, zI r1] M8
  refine zr_icmp_ne C z4 z10 (zdec_at dm_X12_areLike 6 rfl) rfl (fun g13 => ?_) (fun g13 => ?_)
  · have h := h.1 g13
    refine zr_iconst C (zdec_at dm_X12_areLike 9 rfl) ?_
    refine zr_istore_n (L1 := [(3, zI 0), (0, zRf (zad Γ) 103), (1, zI a1), (2, zI a2)]) C (zdec_at dm_X12_areLike 10 rfl) rfl (Nat.le_of_ble_eq_true rfl) rfl ?_
    refine zr_iconst C (zdec_at dm_X12_areLike 11 rfl) ?_
    refine zr_istore (L1 := [(4, zI 0), (3, zI 0), (0, zRf (zad Γ) 103), (1, zI a1), (2, zI a2)]) C (zdec_at dm_X12_areLike 12 rfl) (Nat.le_of_ble_eq_true rfl) rfl ?_
    refine zr_iconst C (zdec_at dm_X12_areLike 13 rfl) ?_
    refine zr_istore (L1 := [(5, zI 0), (4, zI 0), (3, zI 0), (0, zRf (zad Γ) 103), (1, zI a1), (2, zI a2)]) C (zdec_at dm_X12_areLike 14 rfl) (Nat.le_of_ble_eq_true rfl) rfl ?_
    obtain ⟨I25, ⟨n24, q25⟩, hI23⟩ := h
    have lp22 : ∀ (n20 : Nat) (v14 : Int) (v15 : Int) (M18 : zM), I25 v14 v15 M18 n20 → zin v14 → zin v15 → zRng M18 → zV Γ mu_X12_areLike (145, 0, 0) 25 [(0, zRf (zad Γ) 103), (1, zI a1), (2, zI a2), (3, zI 0), (4, zI v14), (5, zI v15)] [] M18 := by
      intro n20
      induction n20 using Nat.strongRecOn with
      | _ n20 ih21 =>
      intro v14 v15 M18 q26 z16 z17 hR19
      have h := hI23 v14 v15 M18 n20 q26 z16 z17 hR19
      refine zr_iload C 5 rfl (zdec_at dm_X12_areLike 15 rfl) ?_
      refine zr_bipush C (zdec_at dm_X12_areLike 16 rfl) (by decide) ?_
      refine zr_icmp_ge C z17 (by decide) (zdec_at dm_X12_areLike 17 rfl) rfl (fun g27 => ?_) (fun g27 => ?_)
      · have h := h.1 g27
        refine zr_iload C 4 rfl (zdec_at dm_X12_areLike 30 rfl) ?_
        obtain ⟨o28, h⟩ := h
        exact zr_zreturn C rfl o28 (zdec_at dm_X12_areLike 31 rfl) rfl ⟨z16, h⟩
      · have h := h.2 g27
        refine zr_iload_n C 3 rfl (zdec_at dm_X12_areLike 18 rfl) rfl ?_
        refine zr_if_eq C (by decide) (zdec_at dm_X12_areLike 19 rfl) rfl (fun g29 => ?_) (fun g29 => ?_)
        · have h := h.1 g29
          refine zr_iload C 4 rfl (zdec_at dm_X12_areLike 30 rfl) ?_
          obtain ⟨o30, h⟩ := h
          exact zr_zreturn C rfl o30 (zdec_at dm_X12_areLike 31 rfl) rfl ⟨z16, h⟩
        · have h := h.2 g29
          refine zr_iload C 4 rfl (zdec_at dm_X12_areLike 20 rfl) ?_
          refine zr_if_ne C z16 (zdec_at dm_X12_areLike 21 rfl) rfl (fun g31 => ?_) (fun g31 => ?_)
          · have h := h.1 g31
            refine zr_iload C 4 rfl (zdec_at dm_X12_areLike 30 rfl) ?_
            obtain ⟨o32, h⟩ := h
            exact zr_zreturn C rfl o32 (zdec_at dm_X12_areLike 31 rfl) rfl ⟨z16, h⟩
          · have h := h.2 g31
            refine zr_aload_n C 0 rfl (zdec_at dm_X12_areLike 22 rfl) rfl ?_
            refine zr_iload_n C 1 rfl (zdec_at dm_X12_areLike 23 rfl) rfl ?_
            refine zr_iload_n C 2 rfl (zdec_at dm_X12_areLike 24 rfl) rfl ?_
            refine zr_iload C 5 rfl (zdec_at dm_X12_areLike 25 rfl) ?_
            obtain ⟨g38, h⟩ := h
            refine zr_callV C [a1, a2, v15] hS_X12_liesOn ck_RX12_379 iv_X12_liesOn vc_X12 oc_103 rfl rfl (zdec_at dm_X12_areLike 26 rfl) ⟨rfl, rfl, rfl, rfl⟩ ⟨by decide, by decide⟩ (Nat.le_of_ble_eq_true rfl) (zall_0 zz_a1 (zall_0 zz_a2 (zall_0 z17 zall_n))) ?_
            refine ⟨_, _, _, rfl, g38, fun r33 M34 p37 z36 hR35 => ?_⟩
            have h := h r33 M34 p37 z36 hR35
            show zV Γ mu_X12_areLike (145, 0, 0) 49 [(0, zRf (zad Γ) 103), (1, zI a1), (2, zI a2), (3, zI 0), (4, zI v14), (5, zI v15)] [zI r33] M34
            refine zr_istore (L1 := [(4, zI r33), (0, zRf (zad Γ) 103), (1, zI a1), (2, zI a2), (3, zI 0), (5, zI v15)]) C (zdec_at dm_X12_areLike 27 rfl) (Nat.le_of_ble_eq_true rfl) rfl ?_
            refine zr_iinc (L1 := [(5, zI (v15 + 1)), (4, zI r33), (0, zRf (zad Γ) 103), (1, zI a1), (2, zI a2), (3, zI 0)]) C 5 rfl (zdec_at dm_X12_areLike 28 rfl) (Nat.le_of_ble_eq_true rfl) rfl ?_
            refine zr_goto C (zdec_at dm_X12_areLike 29 rfl) rfl ?_
            obtain ⟨o39, h⟩ := h
            obtain ⟨n40, q41, q42⟩ := h
            exact zr_sub [2, 3, 4, 5, 1, 0] rfl (ih21 n40 q41 _ _ _ q42 z36 o39 hR35)
    exact zr_sub [3, 4, 5, 2, 1, 0] rfl (lp22 n24 _ _ _ q25 (by decide) (by decide) hR9)
  · have h := h.2 g13
    refine zr_iconst C (zdec_at dm_X12_areLike 7 rfl) ?_
    refine zr_goto C (zdec_at dm_X12_areLike 8 rfl) rfl ?_
    refine zr_istore_n (L1 := [(3, zI 1), (0, zRf (zad Γ) 103), (1, zI a1), (2, zI a2)]) C (zdec_at dm_X12_areLike 10 rfl) rfl (Nat.le_of_ble_eq_true rfl) rfl ?_
    refine zr_iconst C (zdec_at dm_X12_areLike 11 rfl) ?_
    refine zr_istore (L1 := [(4, zI 0), (3, zI 1), (0, zRf (zad Γ) 103), (1, zI a1), (2, zI a2)]) C (zdec_at dm_X12_areLike 12 rfl) (Nat.le_of_ble_eq_true rfl) rfl ?_
    refine zr_iconst C (zdec_at dm_X12_areLike 13 rfl) ?_
    refine zr_istore (L1 := [(5, zI 0), (4, zI 0), (3, zI 1), (0, zRf (zad Γ) 103), (1, zI a1), (2, zI a2)]) C (zdec_at dm_X12_areLike 14 rfl) (Nat.le_of_ble_eq_true rfl) rfl ?_
    obtain ⟨I25, ⟨n53, q54⟩, hI52⟩ := h
    have lp51 : ∀ (n49 : Nat) (v43 : Int) (v44 : Int) (M47 : zM), I25 v43 v44 M47 n49 → zin v43 → zin v44 → zRng M47 → zV Γ mu_X12_areLike (145, 0, 0) 25 [(0, zRf (zad Γ) 103), (1, zI a1), (2, zI a2), (3, zI 1), (4, zI v43), (5, zI v44)] [] M47 := by
      intro n49
      induction n49 using Nat.strongRecOn with
      | _ n49 ih50 =>
      intro v43 v44 M47 q55 z45 z46 hR48
      have h := hI52 v43 v44 M47 n49 q55 z45 z46 hR48
      refine zr_iload C 5 rfl (zdec_at dm_X12_areLike 15 rfl) ?_
      refine zr_bipush C (zdec_at dm_X12_areLike 16 rfl) (by decide) ?_
      refine zr_icmp_ge C z46 (by decide) (zdec_at dm_X12_areLike 17 rfl) rfl (fun g56 => ?_) (fun g56 => ?_)
      · have h := h.1 g56
        refine zr_iload C 4 rfl (zdec_at dm_X12_areLike 30 rfl) ?_
        obtain ⟨o57, h⟩ := h
        exact zr_zreturn C rfl o57 (zdec_at dm_X12_areLike 31 rfl) rfl ⟨z45, h⟩
      · have h := h.2 g56
        refine zr_iload_n C 3 rfl (zdec_at dm_X12_areLike 18 rfl) rfl ?_
        refine zr_if_eq C (by decide) (zdec_at dm_X12_areLike 19 rfl) rfl (fun g58 => ?_) (fun g58 => ?_)
        · have h := h.1 g58
          refine zr_iload C 4 rfl (zdec_at dm_X12_areLike 30 rfl) ?_
          obtain ⟨o59, h⟩ := h
          exact zr_zreturn C rfl o59 (zdec_at dm_X12_areLike 31 rfl) rfl ⟨z45, h⟩
        · have h := h.2 g58
          refine zr_iload C 4 rfl (zdec_at dm_X12_areLike 20 rfl) ?_
          refine zr_if_ne C z45 (zdec_at dm_X12_areLike 21 rfl) rfl (fun g60 => ?_) (fun g60 => ?_)
          · have h := h.1 g60
            refine zr_iload C 4 rfl (zdec_at dm_X12_areLike 30 rfl) ?_
            obtain ⟨o61, h⟩ := h
            exact zr_zreturn C rfl o61 (zdec_at dm_X12_areLike 31 rfl) rfl ⟨z45, h⟩
          · have h := h.2 g60
            refine zr_aload_n C 0 rfl (zdec_at dm_X12_areLike 22 rfl) rfl ?_
            refine zr_iload_n C 1 rfl (zdec_at dm_X12_areLike 23 rfl) rfl ?_
            refine zr_iload_n C 2 rfl (zdec_at dm_X12_areLike 24 rfl) rfl ?_
            refine zr_iload C 5 rfl (zdec_at dm_X12_areLike 25 rfl) ?_
            obtain ⟨g67, h⟩ := h
            refine zr_callV C [a1, a2, v44] hS_X12_liesOn ck_RX12_379 iv_X12_liesOn vc_X12 oc_103 rfl rfl (zdec_at dm_X12_areLike 26 rfl) ⟨rfl, rfl, rfl, rfl⟩ ⟨by decide, by decide⟩ (Nat.le_of_ble_eq_true rfl) (zall_0 zz_a1 (zall_0 zz_a2 (zall_0 z46 zall_n))) ?_
            refine ⟨_, _, _, rfl, g67, fun r62 M63 p66 z65 hR64 => ?_⟩
            have h := h r62 M63 p66 z65 hR64
            show zV Γ mu_X12_areLike (145, 0, 0) 49 [(0, zRf (zad Γ) 103), (1, zI a1), (2, zI a2), (3, zI 1), (4, zI v43), (5, zI v44)] [zI r62] M63
            refine zr_istore (L1 := [(4, zI r62), (0, zRf (zad Γ) 103), (1, zI a1), (2, zI a2), (3, zI 1), (5, zI v44)]) C (zdec_at dm_X12_areLike 27 rfl) (Nat.le_of_ble_eq_true rfl) rfl ?_
            refine zr_iinc (L1 := [(5, zI (v44 + 1)), (4, zI r62), (0, zRf (zad Γ) 103), (1, zI a1), (2, zI a2), (3, zI 1)]) C 5 rfl (zdec_at dm_X12_areLike 28 rfl) (Nat.le_of_ble_eq_true rfl) rfl ?_
            refine zr_goto C (zdec_at dm_X12_areLike 29 rfl) rfl ?_
            obtain ⟨o68, h⟩ := h
            obtain ⟨n69, q70, q71⟩ := h
            exact zr_sub [2, 3, 4, 5, 1, 0] rfl (ih50 n69 q70 _ _ _ q71 z65 o68 hR64)
    exact zr_sub [3, 4, 5, 2, 1, 0] rfl (lp51 n53 _ _ _ q54 (by decide) (by decide) hR9)

set_option maxHeartbeats 400000 in
set_option maxRecDepth 100000 in
theorem sn_X12_like {pr_X12_isFace : Int → zM → Prop} {po_X12_isFace : Int → zM → Int → zM → Prop} {pr_X12_areLike : Int → Int → zM → Prop} {po_X12_areLike : Int → Int → zM → Int → zM → Prop} (hS_X12_isFace : zSnd zS 145 0 0 yX12_isFace cX12_isFace 2 (some .boolean) 3 [2, 0] (F_X12_isFace pr_X12_isFace po_X12_isFace)) (hS_X12_areLike : zSnd zS 145 0 0 yX12_areLike cX12_areLike 6 (some .boolean) 2 [2, 0, 0] (F_X12_areLike pr_X12_areLike po_X12_areLike)) : zSnd zS 145 0 0 yX12_like cX12_like 3 (some .int) 4 [2, 0, 0] (fun xs P M => ∃ a1 a2 : Int, xs = [103, a1, a2] ∧ vc_X12_like pr_X12_isFace po_X12_isFace pr_X12_areLike po_X12_areLike a1 a2 P M) := by
  refine zSnd.of rfl (fun ad xs hz => Nat.le_trans (Nat.le_of_eq (zlen ad _ xs hz)) (by decide)) ?_
  intro Γ C _ _ xs M hz hF
  obtain ⟨a1, a2, rfl, h⟩ := hF
  have zz_a1 := zall_h (zall_t hz) (by decide)
  have zz_a2 := zall_h (zall_t (zall_t hz)) (by decide)
  refine zr_rng (fun hR => ?_)
  have C : zC Γ mu_X12_like := C
  change zV Γ mu_X12_like (145, 0, 0) 0 [(0, zRf (zad Γ) 103), (1, zI a1), (2, zI a2)] [] M
  change vc_X12_like pr_X12_isFace po_X12_isFace pr_X12_areLike po_X12_areLike a1 a2 _ M at h
  unfold vc_X12_like at h
  refine zr_aload_n C 0 rfl (zdec_at dm_X12_like 0 rfl) rfl ?_
  refine zr_iconst C (zdec_at dm_X12_like 1 rfl) ?_
  refine zr_puti C fk_RX12_140 fi_103_0 (by decide) (zdec_at dm_X12_like 2 rfl) (fun M1 e2 => ?_)
  have h := h M1 e2
  have hR3 : zRng M1 := by rw [e2]; exact hR.set (by decide) _ _
  refine zr_aload_n C 0 rfl (zdec_at dm_X12_like 3 rfl) rfl ?_
  refine zr_iload_n C 1 rfl (zdec_at dm_X12_like 4 rfl) rfl ?_
  obtain ⟨g9, h⟩ := h
  refine zr_callV C [a1] hS_X12_isFace ck_RX12_300 iv_X12_isFace vc_X12 oc_103 rfl rfl (zdec_at dm_X12_like 5 rfl) ⟨rfl, rfl, rfl, rfl⟩ ⟨by decide, by decide⟩ (Nat.le_of_ble_eq_true rfl) (zall_0 zz_a1 zall_n) ?_
  refine ⟨_, rfl, g9, fun r4 M5 p8 z7 hR6 => ?_⟩
  have h := h r4 M5 p8 z7 hR6
  show zV Γ mu_X12_like (145, 0, 0) 10 [(0, zRf (zad Γ) 103), (1, zI a1), (2, zI a2)] [zI r4] M5
  refine zr_if_eq C z7 (zdec_at dm_X12_like 6 rfl) rfl (fun g10 => ?_) (fun g10 => ?_)
  · have h := h.1 g10
    refine zr_iconst C (zdec_at dm_X12_like 11 rfl) ?_
    refine zr_goto C (zdec_at dm_X12_like 12 rfl) rfl ?_
    exact zr_ireturn C rfl (zdec_at dm_X12_like 21 rfl) rfl ⟨(by decide), h⟩
  · have h := h.2 g10
    refine zr_aload_n C 0 rfl (zdec_at dm_X12_like 7 rfl) rfl ?_
    refine zr_iload_n C 2 rfl (zdec_at dm_X12_like 8 rfl) rfl ?_
    obtain ⟨g16, h⟩ := h
    refine zr_callV C [a2] hS_X12_isFace ck_RX12_300 iv_X12_isFace vc_X12 oc_103 rfl rfl (zdec_at dm_X12_like 9 rfl) ⟨rfl, rfl, rfl, rfl⟩ ⟨by decide, by decide⟩ (Nat.le_of_ble_eq_true rfl) (zall_0 zz_a2 zall_n) ?_
    refine ⟨_, rfl, g16, fun r11 M12 p15 z14 hR13 => ?_⟩
    have h := h r11 M12 p15 z14 hR13
    show zV Γ mu_X12_like (145, 0, 0) 18 [(0, zRf (zad Γ) 103), (1, zI a1), (2, zI a2)] [zI r11] M12
    refine zr_if_ne C z14 (zdec_at dm_X12_like 10 rfl) rfl (fun g17 => ?_) (fun g17 => ?_)
    · have h := h.1 g17
      refine zr_aload_n C 0 rfl (zdec_at dm_X12_like 13 rfl) rfl ?_
      refine zr_iload_n C 1 rfl (zdec_at dm_X12_like 14 rfl) rfl ?_
      refine zr_iload_n C 2 rfl (zdec_at dm_X12_like 15 rfl) rfl ?_
      obtain ⟨g23, h⟩ := h
      refine zr_callV C [a1, a2] hS_X12_areLike ck_RX12_382 iv_X12_areLike vc_X12 oc_103 rfl rfl (zdec_at dm_X12_like 16 rfl) ⟨rfl, rfl, rfl, rfl⟩ ⟨by decide, by decide⟩ (Nat.le_of_ble_eq_true rfl) (zall_0 zz_a1 (zall_0 zz_a2 zall_n)) ?_
      refine ⟨_, _, rfl, g23, fun r18 M19 p22 z21 hR20 => ?_⟩
      have h := h r18 M19 p22 z21 hR20
      show zV Γ mu_X12_like (145, 0, 0) 31 [(0, zRf (zad Γ) 103), (1, zI a1), (2, zI a2)] [zI r18] M19
      refine zr_if_eq C z21 (zdec_at dm_X12_like 17 rfl) rfl (fun g24 => ?_) (fun g24 => ?_)
      · have h := h.1 g24
        refine zr_iconst C (zdec_at dm_X12_like 20 rfl) ?_
        exact zr_ireturn C rfl (zdec_at dm_X12_like 21 rfl) rfl ⟨(by decide), h⟩
      · have h := h.2 g24
        refine zr_iconst C (zdec_at dm_X12_like 18 rfl) ?_
        refine zr_goto C (zdec_at dm_X12_like 19 rfl) rfl ?_
        exact zr_ireturn C rfl (zdec_at dm_X12_like 21 rfl) rfl ⟨(by decide), h⟩
    · have h := h.2 g17
      refine zr_iconst C (zdec_at dm_X12_like 11 rfl) ?_
      refine zr_goto C (zdec_at dm_X12_like 12 rfl) rfl ?_
      exact zr_ireturn C rfl (zdec_at dm_X12_like 21 rfl) rfl ⟨(by decide), h⟩

set_option maxHeartbeats 400000 in
set_option maxRecDepth 100000 in
theorem sn_X12_butFor {pr_X12_isFace : Int → zM → Prop} {po_X12_isFace : Int → zM → Int → zM → Prop} {pr_X12_findBox : Int → zM → Prop} {po_X12_findBox : Int → zM → zM → Prop} {pr_X12_isOf : Int → Int → Int → zM → Prop} {po_X12_isOf : Int → Int → Int → zM → Int → zM → Prop} (hS_X12_isFace : zSnd zS 145 0 0 yX12_isFace cX12_isFace 2 (some .boolean) 3 [2, 0] (F_X12_isFace pr_X12_isFace po_X12_isFace)) (hS_X12_findBox : zSnd zS 145 0 0 yX12_findBox cX12_findBox 5 none 0 [2, 0] (F_X12_findBox pr_X12_findBox po_X12_findBox)) (hS_X12_isOf : zSnd zS 145 0 0 yX12_isOf cX12_isOf 4 (some .boolean) 0 [2, 0, 0, 0] (F_X12_isOf pr_X12_isOf po_X12_isOf)) : zSnd zS 145 0 0 yX12_butFor cX12_butFor 10 (some .int) 4 [2, 0, 0] (fun xs P M => ∃ a1 a2 : Int, xs = [103, a1, a2] ∧ vc_X12_butFor pr_X12_isFace po_X12_isFace pr_X12_findBox po_X12_findBox pr_X12_isOf po_X12_isOf a1 a2 P M) := by
  refine zSnd.of rfl (fun ad xs hz => Nat.le_trans (Nat.le_of_eq (zlen ad _ xs hz)) (by decide)) ?_
  intro Γ C _ _ xs M hz hF
  obtain ⟨a1, a2, rfl, h⟩ := hF
  have zz_a1 := zall_h (zall_t hz) (by decide)
  have zz_a2 := zall_h (zall_t (zall_t hz)) (by decide)
  refine zr_rng (fun hR => ?_)
  have C : zC Γ mu_X12_butFor := C
  change zV Γ mu_X12_butFor (145, 0, 0) 0 [(0, zRf (zad Γ) 103), (1, zI a1), (2, zI a2)] [] M
  change vc_X12_butFor pr_X12_isFace po_X12_isFace pr_X12_findBox po_X12_findBox pr_X12_isOf po_X12_isOf a1 a2 _ M at h
  unfold vc_X12_butFor at h
  refine zr_aload_n C 0 rfl (zdec_at dm_X12_butFor 0 rfl) rfl ?_
  refine zr_iconst C (zdec_at dm_X12_butFor 1 rfl) ?_
  refine zr_puti C fk_RX12_140 fi_103_0 (by decide) (zdec_at dm_X12_butFor 2 rfl) (fun M1 e2 => ?_)
  have h := h M1 e2
  have hR3 : zRng M1 := by rw [e2]; exact hR.set (by decide) _ _
  refine zr_aload_n C 0 rfl (zdec_at dm_X12_butFor 3 rfl) rfl ?_
  refine zr_iload_n C 1 rfl (zdec_at dm_X12_butFor 4 rfl) rfl ?_
  obtain ⟨g9, h⟩ := h
  refine zr_callV C [a1] hS_X12_isFace ck_RX12_300 iv_X12_isFace vc_X12 oc_103 rfl rfl (zdec_at dm_X12_butFor 5 rfl) ⟨rfl, rfl, rfl, rfl⟩ ⟨by decide, by decide⟩ (Nat.le_of_ble_eq_true rfl) (zall_0 zz_a1 zall_n) ?_
  refine ⟨_, rfl, g9, fun r4 M5 p8 z7 hR6 => ?_⟩
  have h := h r4 M5 p8 z7 hR6
  show zV Γ mu_X12_butFor (145, 0, 0) 10 [(0, zRf (zad Γ) 103), (1, zI a1), (2, zI a2)] [zI r4] M5
  refine zr_if_eq C z7 (zdec_at dm_X12_butFor 6 rfl) rfl (fun g10 => ?_) (fun g10 => ?_)
  · have h := h.1 g10
    refine zr_iconst C (zdec_at dm_X12_butFor 11 rfl) ?_
    exact zr_ireturn C rfl (zdec_at dm_X12_butFor 12 rfl) rfl ⟨(by decide), h⟩
  · have h := h.2 g10
    refine zr_aload_n C 0 rfl (zdec_at dm_X12_butFor 7 rfl) rfl ?_
    refine zr_iload_n C 2 rfl (zdec_at dm_X12_butFor 8 rfl) rfl ?_
    obtain ⟨g16, h⟩ := h
    refine zr_callV C [a2] hS_X12_isFace ck_RX12_300 iv_X12_isFace vc_X12 oc_103 rfl rfl (zdec_at dm_X12_butFor 9 rfl) ⟨rfl, rfl, rfl, rfl⟩ ⟨by decide, by decide⟩ (Nat.le_of_ble_eq_true rfl) (zall_0 zz_a2 zall_n) ?_
    refine ⟨_, rfl, g16, fun r11 M12 p15 z14 hR13 => ?_⟩
    have h := h r11 M12 p15 z14 hR13
    show zV Γ mu_X12_butFor (145, 0, 0) 18 [(0, zRf (zad Γ) 103), (1, zI a1), (2, zI a2)] [zI r11] M12
    refine zr_if_ne C z14 (zdec_at dm_X12_butFor 10 rfl) rfl (fun g17 => ?_) (fun g17 => ?_)
    · have h := h.1 g17
      refine zr_aload_n C 0 rfl (zdec_at dm_X12_butFor 13 rfl) rfl ?_
      refine zr_iload_n C 2 rfl (zdec_at dm_X12_butFor 14 rfl) rfl ?_
      obtain ⟨g22, h⟩ := h
      refine zr_callV C [a2] hS_X12_findBox ck_RX12_282 iv_X12_findBox vc_X12 oc_103 rfl rfl (zdec_at dm_X12_butFor 15 rfl) ⟨rfl, rfl, rfl, rfl⟩ ⟨by decide, by decide⟩ (Nat.le_of_ble_eq_true rfl) (zall_0 zz_a2 zall_n) ?_
      refine ⟨_, rfl, g22, fun M18 p21 _ hR19 => ?_⟩
      have h := h M18 p21 hR19
      show zV Γ mu_X12_butFor (145, 0, 0) 28 [(0, zRf (zad Γ) 103), (1, zI a1), (2, zI a2)] [] M18
      refine zr_aload_n C 0 rfl (zdec_at dm_X12_butFor 16 rfl) rfl ?_
      refine zr_geti C fk_RX12_243 fi_103_32 (zdec_at dm_X12_butFor 17 rfl) ?_
      refine zr_istore_n (L1 := [(3, zI (M18 103 32)), (0, zRf (zad Γ) 103), (1, zI a1), (2, zI a2)]) C (zdec_at dm_X12_butFor 18 rfl) rfl (Nat.le_of_ble_eq_true rfl) rfl ?_
      refine zr_aload_n C 1 rfl (zdec_at dm_X12_butFor 19 rfl) rfl ?_
      refine zr_geti C fk_RX12_246 fi_103_33 (zdec_at dm_X12_butFor 20 rfl) ?_
      refine zr_istore (L1 := [(4, zI (M18 103 33)), (3, zI (M18 103 32)), (0, zRf (zad Γ) 103), (1, zI a1), (2, zI a2)]) C (zdec_at dm_X12_butFor 21 rfl) (Nat.le_of_ble_eq_true rfl) rfl ?_
      refine zr_aload_n C 2 rfl (zdec_at dm_X12_butFor 22 rfl) rfl ?_
      refine zr_geti C fk_RX12_249 fi_103_34 (zdec_at dm_X12_butFor 23 rfl) ?_
      refine zr_istore (L1 := [(5, zI (M18 103 34)), (4, zI (M18 103 33)), (3, zI (M18 103 32)), (0, zRf (zad Γ) 103), (1, zI a1), (2, zI a2)]) C (zdec_at dm_X12_butFor 24 rfl) (Nat.le_of_ble_eq_true rfl) rfl ?_
      refine zr_aload_n C 3 rfl (zdec_at dm_X12_butFor 25 rfl) rfl ?_
      refine zr_geti C fk_RX12_252 fi_103_35 (zdec_at dm_X12_butFor 26 rfl) ?_
      refine zr_istore (L1 := [(6, zI (M18 103 35)), (5, zI (M18 103 34)), (4, zI (M18 103 33)), (3, zI (M18 103 32)), (0, zRf (zad Γ) 103), (1, zI a1), (2, zI a2)]) C (zdec_at dm_X12_butFor 27 rfl) (Nat.le_of_ble_eq_true rfl) rfl ?_
      refine zr_aload_n C 4 rfl (zdec_at dm_X12_butFor 28 rfl) rfl ?_
      refine zr_iload_n C 5 rfl (zdec_at dm_X12_butFor 29 rfl) rfl ?_
      obtain ⟨g27, h⟩ := h
      refine zr_callV C [a1] hS_X12_findBox ck_RX12_282 iv_X12_findBox vc_X12 oc_103 rfl rfl (zdec_at dm_X12_butFor 30 rfl) ⟨rfl, rfl, rfl, rfl⟩ ⟨by decide, by decide⟩ (Nat.le_of_ble_eq_true rfl) (zall_0 zz_a1 zall_n) ?_
      refine ⟨_, rfl, g27, fun M23 p26 _ hR24 => ?_⟩
      have h := h M23 p26 hR24
      show zV Γ mu_X12_butFor (145, 0, 0) 56 [(6, zI (M18 103 35)), (5, zI (M18 103 34)), (4, zI (M18 103 33)), (3, zI (M18 103 32)), (0, zRf (zad Γ) 103), (1, zI a1), (2, zI a2)] [] M23
      refine zr_iload C 1 rfl (zdec_at dm_X12_butFor 31 rfl) ?_
      refine zr_aload_n C 4 rfl (zdec_at dm_X12_butFor 32 rfl) rfl ?_
      refine zr_geti C fk_RX12_249 fi_103_34 (zdec_at dm_X12_butFor 33 rfl) ?_
      refine zr_icmp_ne C (hR19 _ _) (hR24 _ _) (zdec_at dm_X12_butFor 34 rfl) rfl (fun g28 => ?_) (fun g28 => ?_)
      · have h := h.1 g28
        refine zr_bipush C (zdec_at dm_X12_butFor 39 rfl) (by decide) ?_
        exact zr_ireturn C rfl (zdec_at dm_X12_butFor 40 rfl) rfl ⟨(by decide), h⟩
      · have h := h.2 g28
        refine zr_iload C 0 rfl (zdec_at dm_X12_butFor 35 rfl) ?_
        refine zr_aload_n C 4 rfl (zdec_at dm_X12_butFor 36 rfl) rfl ?_
        refine zr_geti C fk_RX12_252 fi_103_35 (zdec_at dm_X12_butFor 37 rfl) ?_
        refine zr_icmp_eq C (hR19 _ _) (hR24 _ _) (zdec_at dm_X12_butFor 38 rfl) rfl (fun g29 => ?_) (fun g29 => ?_)
        · have h := h.1 g29
          refine zr_iconst C (zdec_at dm_X12_butFor 41 rfl) ?_
          refine zr_istore (L1 := [(7, zI 0), (6, zI (M18 103 35)), (5, zI (M18 103 34)), (4, zI (M18 103 33)), (3, zI (M18 103 32)), (0, zRf (zad Γ) 103), (1, zI a1), (2, zI a2)]) C (zdec_at dm_X12_butFor 42 rfl) (Nat.le_of_ble_eq_true rfl) rfl ?_
          refine zr_iconst C (zdec_at dm_X12_butFor 43 rfl) ?_
          refine zr_istore (L1 := [(8, zI 0), (7, zI 0), (6, zI (M18 103 35)), (5, zI (M18 103 34)), (4, zI (M18 103 33)), (3, zI (M18 103 32)), (0, zRf (zad Γ) 103), (1, zI a1), (2, zI a2)]) C (zdec_at dm_X12_butFor 44 rfl) (Nat.le_of_ble_eq_true rfl) rfl ?_
          obtain ⟨I83, ⟨n40, q41⟩, hI39⟩ := h
          have lp38 : ∀ (n36 : Nat) (v30 : Int) (v31 : Int) (M34 : zM), I83 v30 v31 M34 n36 → zin v30 → zin v31 → zRng M34 → zV Γ mu_X12_butFor (145, 0, 0) 83 [(0, zRf (zad Γ) 103), (1, zI a1), (2, zI a2), (3, zI (M18 103 32)), (4, zI (M18 103 33)), (5, zI (M18 103 34)), (6, zI (M18 103 35)), (7, zI v30), (8, zI v31)] [] M34 := by
            intro n36
            induction n36 using Nat.strongRecOn with
            | _ n36 ih37 =>
            intro v30 v31 M34 q42 z32 z33 hR35
            have h := hI39 v30 v31 M34 n36 q42 z32 z33 hR35
            refine zr_iload C 8 rfl (zdec_at dm_X12_butFor 45 rfl) ?_
            refine zr_iload C 6 rfl (zdec_at dm_X12_butFor 46 rfl) ?_
            refine zr_icmp_ge C z33 (hR19 _ _) (zdec_at dm_X12_butFor 47 rfl) rfl (fun g43 => ?_) (fun g43 => ?_)
            · have h := h.1 g43
              refine zr_iload C 7 rfl (zdec_at dm_X12_butFor 84 rfl) ?_
              exact zr_ireturn C rfl (zdec_at dm_X12_butFor 85 rfl) rfl ⟨z32, h⟩
            · have h := h.2 g43
              refine zr_iconst C (zdec_at dm_X12_butFor 48 rfl) ?_
              refine zr_istore (L1 := [(9, zI 0), (0, zRf (zad Γ) 103), (1, zI a1), (2, zI a2), (3, zI (M18 103 32)), (4, zI (M18 103 33)), (5, zI (M18 103 34)), (6, zI (M18 103 35)), (7, zI v30), (8, zI v31)]) C (zdec_at dm_X12_butFor 49 rfl) (Nat.le_of_ble_eq_true rfl) rfl ?_
              obtain ⟨I93, ⟨n54, q55⟩, hI53⟩ := h
              have lp52 : ∀ (n50 : Nat) (v44 : Int) (v45 : Int) (M48 : zM), I93 v44 v45 M48 n50 → zin v44 → zin v45 → zRng M48 → zV Γ mu_X12_butFor (145, 0, 0) 93 [(0, zRf (zad Γ) 103), (1, zI a1), (2, zI a2), (3, zI (M18 103 32)), (4, zI (M18 103 33)), (5, zI (M18 103 34)), (6, zI (M18 103 35)), (7, zI v44), (8, zI v31), (9, zI v45)] [] M48 := by
                intro n50
                induction n50 using Nat.strongRecOn with
                | _ n50 ih51 =>
                intro v44 v45 M48 q56 z46 z47 hR49
                have h := hI53 v44 v45 M48 n50 q56 z46 z47 hR49
                refine zr_iload C 9 rfl (zdec_at dm_X12_butFor 50 rfl) ?_
                refine zr_iload C 5 rfl (zdec_at dm_X12_butFor 51 rfl) ?_
                refine zr_icmp_ge C z47 (hR19 _ _) (zdec_at dm_X12_butFor 52 rfl) rfl (fun g57 => ?_) (fun g57 => ?_)
                · have h := h.1 g57
                  refine zr_iinc (L1 := [(8, zI (v31 + 1)), (0, zRf (zad Γ) 103), (1, zI a1), (2, zI a2), (3, zI (M18 103 32)), (4, zI (M18 103 33)), (5, zI (M18 103 34)), (6, zI (M18 103 35)), (7, zI v44), (9, zI v45)]) C 8 rfl (zdec_at dm_X12_butFor 82 rfl) (Nat.le_of_ble_eq_true rfl) rfl ?_
                  refine zr_goto C (zdec_at dm_X12_butFor 83 rfl) rfl ?_
                  obtain ⟨o58, h⟩ := h
                  obtain ⟨n59, q60, q61⟩ := h
                  exact zr_sub [1, 2, 3, 4, 5, 6, 7, 8, 0] rfl (ih37 n59 q60 _ _ _ q61 z46 o58 hR49)
                · have h := h.2 g57
                  refine zr_iload C 7 rfl (zdec_at dm_X12_butFor 53 rfl) ?_
                  refine zr_aload_n C 0 rfl (zdec_at dm_X12_butFor 54 rfl) rfl ?_
                  refine zr_iload_n C 1 rfl (zdec_at dm_X12_butFor 55 rfl) rfl ?_
                  refine zr_aload_n C 0 rfl (zdec_at dm_X12_butFor 56 rfl) rfl ?_
                  refine zr_geti C fk_RX12_243 fi_103_32 (zdec_at dm_X12_butFor 57 rfl) ?_
                  refine zr_iload C 9 rfl (zdec_at dm_X12_butFor 58 rfl) ?_
                  refine zr_iadd C (zdec_at dm_X12_butFor 59 rfl) ?_
                  refine zr_aload_n C 0 rfl (zdec_at dm_X12_butFor 60 rfl) rfl ?_
                  refine zr_geti C fk_RX12_246 fi_103_33 (zdec_at dm_X12_butFor 61 rfl) ?_
                  refine zr_iload C 8 rfl (zdec_at dm_X12_butFor 62 rfl) ?_
                  refine zr_iadd C (zdec_at dm_X12_butFor 63 rfl) ?_
                  obtain ⟨o62, h⟩ := h
                  obtain ⟨o63, h⟩ := h
                  obtain ⟨g69, h⟩ := h
                  refine zr_callV C [a1, ((M48 103 32) + v45), ((M48 103 33) + v31)] hS_X12_isOf ck_RX12_255 iv_X12_isOf vc_X12 oc_103 rfl rfl (zdec_at dm_X12_butFor 64 rfl) ⟨rfl, rfl, rfl, rfl⟩ ⟨by decide, by decide⟩ (Nat.le_of_ble_eq_true rfl) (zall_0 zz_a1 (zall_0 o63 (zall_0 o62 zall_n))) ?_
                  refine ⟨_, _, _, rfl, g69, fun r64 M65 p68 z67 hR66 => ?_⟩
                  have h := h r64 M65 p68 z67 hR66
                  show zV Γ mu_X12_butFor (145, 0, 0) 121 [(0, zRf (zad Γ) 103), (1, zI a1), (2, zI a2), (3, zI (M18 103 32)), (4, zI (M18 103 33)), (5, zI (M18 103 34)), (6, zI (M18 103 35)), (7, zI v44), (8, zI v31), (9, zI v45)] [zI r64, zI v44] M65
                  refine zr_aload_n C 0 rfl (zdec_at dm_X12_butFor 65 rfl) rfl ?_
                  refine zr_iload_n C 2 rfl (zdec_at dm_X12_butFor 66 rfl) rfl ?_
                  refine zr_iload_n C 3 rfl (zdec_at dm_X12_butFor 67 rfl) rfl ?_
                  refine zr_iload C 9 rfl (zdec_at dm_X12_butFor 68 rfl) ?_
                  refine zr_iadd C (zdec_at dm_X12_butFor 69 rfl) ?_
                  refine zr_iload C 4 rfl (zdec_at dm_X12_butFor 70 rfl) ?_
                  refine zr_iload C 8 rfl (zdec_at dm_X12_butFor 71 rfl) ?_
                  refine zr_iadd C (zdec_at dm_X12_butFor 72 rfl) ?_
                  obtain ⟨o70, h⟩ := h
                  obtain ⟨o71, h⟩ := h
                  obtain ⟨g77, h⟩ := h
                  refine zr_callV C [a2, ((M18 103 32) + v45), ((M18 103 33) + v31)] hS_X12_isOf ck_RX12_255 iv_X12_isOf vc_X12 oc_103 rfl rfl (zdec_at dm_X12_butFor 73 rfl) ⟨rfl, rfl, rfl, rfl⟩ ⟨by decide, by decide⟩ (Nat.le_of_ble_eq_true rfl) (zall_0 zz_a2 (zall_0 o71 (zall_0 o70 zall_n))) ?_
                  refine ⟨_, _, _, rfl, g77, fun r72 M73 p76 z75 hR74 => ?_⟩
                  have h := h r72 M73 p76 z75 hR74
                  show zV Γ mu_X12_butFor (145, 0, 0) 135 [(0, zRf (zad Γ) 103), (1, zI a1), (2, zI a2), (3, zI (M18 103 32)), (4, zI (M18 103 33)), (5, zI (M18 103 34)), (6, zI (M18 103 35)), (7, zI v44), (8, zI v31), (9, zI v45)] [zI r72, zI r64, zI v44] M73
                  refine zr_icmp_eq C z67 z75 (zdec_at dm_X12_butFor 74 rfl) rfl (fun g78 => ?_) (fun g78 => ?_)
                  · have h := h.1 g78
                    refine zr_iconst C (zdec_at dm_X12_butFor 77 rfl) ?_
                    refine zr_iadd C (zdec_at dm_X12_butFor 78 rfl) ?_
                    refine zr_istore (L1 := [(7, zI (v44 + 0)), (0, zRf (zad Γ) 103), (1, zI a1), (2, zI a2), (3, zI (M18 103 32)), (4, zI (M18 103 33)), (5, zI (M18 103 34)), (6, zI (M18 103 35)), (8, zI v31), (9, zI v45)]) C (zdec_at dm_X12_butFor 79 rfl) (Nat.le_of_ble_eq_true rfl) rfl ?_
                    refine zr_iinc (L1 := [(9, zI (v45 + 1)), (7, zI (v44 + 0)), (0, zRf (zad Γ) 103), (1, zI a1), (2, zI a2), (3, zI (M18 103 32)), (4, zI (M18 103 33)), (5, zI (M18 103 34)), (6, zI (M18 103 35)), (8, zI v31)]) C 9 rfl (zdec_at dm_X12_butFor 80 rfl) (Nat.le_of_ble_eq_true rfl) rfl ?_
                    refine zr_goto C (zdec_at dm_X12_butFor 81 rfl) rfl ?_
                    obtain ⟨o79, h⟩ := h
                    obtain ⟨o80, h⟩ := h
                    obtain ⟨n81, q82, q83⟩ := h
                    exact zr_sub [2, 3, 4, 5, 6, 7, 8, 1, 9, 0] rfl (ih51 n81 q82 _ _ _ q83 o79 o80 hR74)
                  · have h := h.2 g78
                    refine zr_iconst C (zdec_at dm_X12_butFor 75 rfl) ?_
                    refine zr_goto C (zdec_at dm_X12_butFor 76 rfl) rfl ?_
                    refine zr_iadd C (zdec_at dm_X12_butFor 78 rfl) ?_
                    refine zr_istore (L1 := [(7, zI (v44 + 1)), (0, zRf (zad Γ) 103), (1, zI a1), (2, zI a2), (3, zI (M18 103 32)), (4, zI (M18 103 33)), (5, zI (M18 103 34)), (6, zI (M18 103 35)), (8, zI v31), (9, zI v45)]) C (zdec_at dm_X12_butFor 79 rfl) (Nat.le_of_ble_eq_true rfl) rfl ?_
                    refine zr_iinc (L1 := [(9, zI (v45 + 1)), (7, zI (v44 + 1)), (0, zRf (zad Γ) 103), (1, zI a1), (2, zI a2), (3, zI (M18 103 32)), (4, zI (M18 103 33)), (5, zI (M18 103 34)), (6, zI (M18 103 35)), (8, zI v31)]) C 9 rfl (zdec_at dm_X12_butFor 80 rfl) (Nat.le_of_ble_eq_true rfl) rfl ?_
                    refine zr_goto C (zdec_at dm_X12_butFor 81 rfl) rfl ?_
                    obtain ⟨o84, h⟩ := h
                    obtain ⟨o85, h⟩ := h
                    obtain ⟨n86, q87, q88⟩ := h
                    exact zr_sub [2, 3, 4, 5, 6, 7, 8, 1, 9, 0] rfl (ih51 n86 q87 _ _ _ q88 o84 o85 hR74)
              exact zr_sub [1, 2, 3, 4, 5, 6, 7, 8, 9, 0] rfl (lp52 n54 _ _ _ q55 z32 (by decide) hR35)
          exact zr_sub [6, 7, 8, 5, 4, 3, 2, 1, 0] rfl (lp38 n40 _ _ _ q41 (by decide) (by decide) hR24)
        · have h := h.2 g29
          refine zr_bipush C (zdec_at dm_X12_butFor 39 rfl) (by decide) ?_
          exact zr_ireturn C rfl (zdec_at dm_X12_butFor 40 rfl) rfl ⟨(by decide), h⟩
    · have h := h.2 g17
      refine zr_iconst C (zdec_at dm_X12_butFor 11 rfl) ?_
      exact zr_ireturn C rfl (zdec_at dm_X12_butFor 12 rfl) rfl ⟨(by decide), h⟩

set_option maxHeartbeats 400000 in
set_option maxRecDepth 100000 in
theorem sn_X12_leaderOf {pr_X12_areLike : Int → Int → zM → Prop} {po_X12_areLike : Int → Int → zM → Int → zM → Prop} (hS_X12_areLike : zSnd zS 145 0 0 yX12_areLike cX12_areLike 6 (some .boolean) 2 [2, 0, 0] (F_X12_areLike pr_X12_areLike po_X12_areLike)) : zSnd zS 145 0 0 yX12_leaderOf cX12_leaderOf 3 (some .int) 3 [2, 0] (fun xs P M => ∃ a1 : Int, xs = [103, a1] ∧ vc_X12_leaderOf pr_X12_areLike po_X12_areLike a1 P M) := by
  refine zSnd.of rfl (fun ad xs hz => Nat.le_trans (Nat.le_of_eq (zlen ad _ xs hz)) (by decide)) ?_
  intro Γ C _ _ xs M hz hF
  obtain ⟨a1, rfl, h⟩ := hF
  have zz_a1 := zall_h (zall_t hz) (by decide)
  refine zr_rng (fun hR => ?_)
  have C : zC Γ mu_X12_leaderOf := C
  change zV Γ mu_X12_leaderOf (145, 0, 0) 0 [(0, zRf (zad Γ) 103), (1, zI a1)] [] M
  change vc_X12_leaderOf pr_X12_areLike po_X12_areLike a1 _ M at h
  unfold vc_X12_leaderOf at h
  refine zr_iconst C (zdec_at dm_X12_leaderOf 0 rfl) ?_
  refine zr_istore_n (L1 := [(2, zI 0), (0, zRf (zad Γ) 103), (1, zI a1)]) C (zdec_at dm_X12_leaderOf 1 rfl) rfl (Nat.le_of_ble_eq_true rfl) rfl ?_
  obtain ⟨I2, ⟨n9, q10⟩, hI8⟩ := h
  have lp7 : ∀ (n5 : Nat) (v1 : Int) (M3 : zM), I2 v1 M3 n5 → zin v1 → zRng M3 → zV Γ mu_X12_leaderOf (145, 0, 0) 2 [(0, zRf (zad Γ) 103), (1, zI a1), (2, zI v1)] [] M3 := by
    intro n5
    induction n5 using Nat.strongRecOn with
    | _ n5 ih6 =>
    intro v1 M3 q11 z2 hR4
    have h := hI8 v1 M3 n5 q11 z2 hR4
    refine zr_iload_n C 2 rfl (zdec_at dm_X12_leaderOf 2 rfl) rfl ?_
    refine zr_iload_n C 1 rfl (zdec_at dm_X12_leaderOf 3 rfl) rfl ?_
    refine zr_icmp_ge C z2 zz_a1 (zdec_at dm_X12_leaderOf 4 rfl) rfl (fun g12 => ?_) (fun g12 => ?_)
    · have h := h.1 g12
      refine zr_iload_n C 1 rfl (zdec_at dm_X12_leaderOf 14 rfl) rfl ?_
      exact zr_ireturn C rfl (zdec_at dm_X12_leaderOf 15 rfl) rfl ⟨zz_a1, h⟩
    · have h := h.2 g12
      refine zr_aload_n C 0 rfl (zdec_at dm_X12_leaderOf 5 rfl) rfl ?_
      refine zr_iload_n C 2 rfl (zdec_at dm_X12_leaderOf 6 rfl) rfl ?_
      refine zr_iload_n C 1 rfl (zdec_at dm_X12_leaderOf 7 rfl) rfl ?_
      obtain ⟨g18, h⟩ := h
      refine zr_callV C [v1, a1] hS_X12_areLike ck_RX12_382 iv_X12_areLike vc_X12 oc_103 rfl rfl (zdec_at dm_X12_leaderOf 8 rfl) ⟨rfl, rfl, rfl, rfl⟩ ⟨by decide, by decide⟩ (Nat.le_of_ble_eq_true rfl) (zall_0 z2 (zall_0 zz_a1 zall_n)) ?_
      refine ⟨_, _, rfl, g18, fun r13 M14 p17 z16 hR15 => ?_⟩
      have h := h r13 M14 p17 z16 hR15
      show zV Γ mu_X12_leaderOf (145, 0, 0) 13 [(0, zRf (zad Γ) 103), (1, zI a1), (2, zI v1)] [zI r13] M14
      refine zr_if_eq C z16 (zdec_at dm_X12_leaderOf 9 rfl) rfl (fun g19 => ?_) (fun g19 => ?_)
      · have h := h.1 g19
        refine zr_iinc (L1 := [(2, zI (v1 + 1)), (0, zRf (zad Γ) 103), (1, zI a1)]) C 2 rfl (zdec_at dm_X12_leaderOf 12 rfl) (Nat.le_of_ble_eq_true rfl) rfl ?_
        refine zr_goto C (zdec_at dm_X12_leaderOf 13 rfl) rfl ?_
        obtain ⟨o20, h⟩ := h
        obtain ⟨n21, q22, q23⟩ := h
        exact zr_sub [1, 2, 0] rfl (ih6 n21 q22 _ _ q23 o20 hR15)
      · have h := h.2 g19
        refine zr_iload_n C 2 rfl (zdec_at dm_X12_leaderOf 10 rfl) rfl ?_
        exact zr_ireturn C rfl (zdec_at dm_X12_leaderOf 11 rfl) rfl ⟨z2, h⟩
  exact zr_sub [1, 2, 0] rfl (lp7 n9 _ _ q10 (by decide) hR)

set_option maxHeartbeats 400000 in
set_option maxRecDepth 100000 in
theorem sn_X12_leader {pr_X12_isFace : Int → zM → Prop} {po_X12_isFace : Int → zM → Int → zM → Prop} {pr_X12_leaderOf : Int → zM → Prop} {po_X12_leaderOf : Int → zM → Int → zM → Prop} (hS_X12_isFace : zSnd zS 145 0 0 yX12_isFace cX12_isFace 2 (some .boolean) 3 [2, 0] (F_X12_isFace pr_X12_isFace po_X12_isFace)) (hS_X12_leaderOf : zSnd zS 145 0 0 yX12_leaderOf cX12_leaderOf 3 (some .int) 3 [2, 0] (F_X12_leaderOf pr_X12_leaderOf po_X12_leaderOf)) : zSnd zS 145 0 0 yX12_leader cX12_leader 2 (some .int) 4 [2, 0] (fun xs P M => ∃ a1 : Int, xs = [103, a1] ∧ vc_X12_leader pr_X12_isFace po_X12_isFace pr_X12_leaderOf po_X12_leaderOf a1 P M) := by
  refine zSnd.of rfl (fun ad xs hz => Nat.le_trans (Nat.le_of_eq (zlen ad _ xs hz)) (by decide)) ?_
  intro Γ C _ _ xs M hz hF
  obtain ⟨a1, rfl, h⟩ := hF
  have zz_a1 := zall_h (zall_t hz) (by decide)
  refine zr_rng (fun hR => ?_)
  have C : zC Γ mu_X12_leader := C
  change zV Γ mu_X12_leader (145, 0, 0) 0 [(0, zRf (zad Γ) 103), (1, zI a1)] [] M
  change vc_X12_leader pr_X12_isFace po_X12_isFace pr_X12_leaderOf po_X12_leaderOf a1 _ M at h
  unfold vc_X12_leader at h
  refine zr_aload_n C 0 rfl (zdec_at dm_X12_leader 0 rfl) rfl ?_
  refine zr_iconst C (zdec_at dm_X12_leader 1 rfl) ?_
  refine zr_puti C fk_RX12_140 fi_103_0 (by decide) (zdec_at dm_X12_leader 2 rfl) (fun M1 e2 => ?_)
  have h := h M1 e2
  have hR3 : zRng M1 := by rw [e2]; exact hR.set (by decide) _ _
  refine zr_aload_n C 0 rfl (zdec_at dm_X12_leader 3 rfl) rfl ?_
  refine zr_iload_n C 1 rfl (zdec_at dm_X12_leader 4 rfl) rfl ?_
  obtain ⟨g9, h⟩ := h
  refine zr_callV C [a1] hS_X12_isFace ck_RX12_300 iv_X12_isFace vc_X12 oc_103 rfl rfl (zdec_at dm_X12_leader 5 rfl) ⟨rfl, rfl, rfl, rfl⟩ ⟨by decide, by decide⟩ (Nat.le_of_ble_eq_true rfl) (zall_0 zz_a1 zall_n) ?_
  refine ⟨_, rfl, g9, fun r4 M5 p8 z7 hR6 => ?_⟩
  have h := h r4 M5 p8 z7 hR6
  show zV Γ mu_X12_leader (145, 0, 0) 10 [(0, zRf (zad Γ) 103), (1, zI a1)] [zI r4] M5
  refine zr_if_eq C z7 (zdec_at dm_X12_leader 6 rfl) rfl (fun g10 => ?_) (fun g10 => ?_)
  · have h := h.1 g10
    refine zr_iconst C (zdec_at dm_X12_leader 11 rfl) ?_
    exact zr_ireturn C rfl (zdec_at dm_X12_leader 12 rfl) rfl ⟨(by decide), h⟩
  · have h := h.2 g10
    refine zr_aload_n C 0 rfl (zdec_at dm_X12_leader 7 rfl) rfl ?_
    refine zr_iload_n C 1 rfl (zdec_at dm_X12_leader 8 rfl) rfl ?_
    obtain ⟨g16, h⟩ := h
    refine zr_callV C [a1] hS_X12_leaderOf ck_RX12_385 iv_X12_leaderOf vc_X12 oc_103 rfl rfl (zdec_at dm_X12_leader 9 rfl) ⟨rfl, rfl, rfl, rfl⟩ ⟨by decide, by decide⟩ (Nat.le_of_ble_eq_true rfl) (zall_0 zz_a1 zall_n) ?_
    refine ⟨_, rfl, g16, fun r11 M12 p15 z14 hR13 => ?_⟩
    have h := h r11 M12 p15 z14 hR13
    show zV Γ mu_X12_leader (145, 0, 0) 18 [(0, zRf (zad Γ) 103), (1, zI a1)] [zI r11] M12
    refine zr_goto C (zdec_at dm_X12_leader 10 rfl) rfl ?_
    exact zr_ireturn C rfl (zdec_at dm_X12_leader 12 rfl) rfl ⟨z14, h⟩

set_option maxHeartbeats 400000 in
set_option maxRecDepth 100000 in
theorem sn_X12_square : zSnd zS 145 0 0 yX12_square cX12_square 1 (some .int) 0 [0] (fun xs P M => ∃ a0 : Int, xs = [a0] ∧ vc_X12_square a0 P M) := by
  refine zSnd.of rfl (fun ad xs hz => Nat.le_trans (Nat.le_of_eq (zlen ad _ xs hz)) (by decide)) ?_
  intro Γ C _ _ xs M hz hF
  obtain ⟨a0, rfl, h⟩ := hF
  have zz_a0 := zall_h hz (by decide)
  refine zr_rng (fun hR => ?_)
  have C : zC Γ mu_X12_square := C
  change zV Γ mu_X12_square (145, 0, 0) 0 [(0, zI a0)] [] M
  change vc_X12_square a0 _ M at h
  unfold vc_X12_square at h
  refine zr_iload_n C 0 rfl (zdec_at dm_X12_square 0 rfl) rfl ?_
  refine zr_iload_n C 0 rfl (zdec_at dm_X12_square 1 rfl) rfl ?_
  refine zr_imul C (zdec_at dm_X12_square 2 rfl) ?_
  obtain ⟨o1, h⟩ := h
  exact zr_ireturn C rfl (zdec_at dm_X12_square 3 rfl) rfl ⟨o1, h⟩

set_option maxHeartbeats 400000 in
set_option maxRecDepth 100000 in
theorem sn_X12_nearestOf {pr_X12_square : Int → zM → Prop} {po_X12_square : Int → zM → Int → zM → Prop} (hS_X12_square : zSnd zS 145 0 0 yX12_square cX12_square 1 (some .int) 0 [0] (F_X12_square pr_X12_square po_X12_square)) : zSnd zS 145 0 0 yX12_nearestOf cX12_nearestOf 6 (some .int) 1 [2, 0, 0] (fun xs P M => ∃ a1 a2 : Int, xs = [103, a1, a2] ∧ vc_X12_nearestOf pr_X12_square po_X12_square a1 a2 P M) := by
  refine zSnd.of rfl (fun ad xs hz => Nat.le_trans (Nat.le_of_eq (zlen ad _ xs hz)) (by decide)) ?_
  intro Γ C _ _ xs M hz hF
  obtain ⟨a1, a2, rfl, h⟩ := hF
  have zz_a1 := zall_h (zall_t hz) (by decide)
  have zz_a2 := zall_h (zall_t (zall_t hz)) (by decide)
  refine zr_rng (fun hR => ?_)
  have C : zC Γ mu_X12_nearestOf := C
  change zV Γ mu_X12_nearestOf (145, 0, 0) 0 [(0, zRf (zad Γ) 103), (1, zI a1), (2, zI a2)] [] M
  change vc_X12_nearestOf pr_X12_square po_X12_square a1 a2 _ M at h
  unfold vc_X12_nearestOf at h
  refine zr_iconst C (zdec_at dm_X12_nearestOf 0 rfl) ?_
  refine zr_istore_n (L1 := [(3, zI (-1)), (0, zRf (zad Γ) 103), (1, zI a1), (2, zI a2)]) C (zdec_at dm_X12_nearestOf 1 rfl) rfl (Nat.le_of_ble_eq_true rfl) rfl ?_
  refine zr_iconst C (zdec_at dm_X12_nearestOf 2 rfl) ?_
  refine zr_istore (L1 := [(4, zI 0), (3, zI (-1)), (0, zRf (zad Γ) 103), (1, zI a1), (2, zI a2)]) C (zdec_at dm_X12_nearestOf 3 rfl) (Nat.le_of_ble_eq_true rfl) rfl ?_
  obtain ⟨I5, ⟨n11, q12⟩, hI10⟩ := h
  have lp9 : ∀ (n7 : Nat) (v1 : Int) (v2 : Int) (M5 : zM), I5 v1 v2 M5 n7 → zin v1 → zin v2 → zRng M5 → zV Γ mu_X12_nearestOf (145, 0, 0) 5 [(0, zRf (zad Γ) 103), (1, zI a1), (2, zI a2), (3, zI v1), (4, zI v2)] [] M5 := by
    intro n7
    induction n7 using Nat.strongRecOn with
    | _ n7 ih8 =>
    intro v1 v2 M5 q13 z3 z4 hR6
    have h := hI10 v1 v2 M5 n7 q13 z3 z4 hR6
    refine zr_iload C 4 rfl (zdec_at dm_X12_nearestOf 4 rfl) ?_
    refine zr_bipush C (zdec_at dm_X12_nearestOf 5 rfl) (by decide) ?_
    refine zr_icmp_ge C z4 (by decide) (zdec_at dm_X12_nearestOf 6 rfl) rfl (fun g14 => ?_) (fun g14 => ?_)
    · have h := h.1 g14
      refine zr_iload_n C 3 rfl (zdec_at dm_X12_nearestOf 49 rfl) rfl ?_
      exact zr_ireturn C rfl (zdec_at dm_X12_nearestOf 50 rfl) rfl ⟨z3, h⟩
    · have h := h.2 g14
      refine zr_iload_n C 2 rfl (zdec_at dm_X12_nearestOf 7 rfl) rfl ?_
      refine zr_iload C 4 rfl (zdec_at dm_X12_nearestOf 8 rfl) ?_
      refine zr_ishr C (zdec_at dm_X12_nearestOf 9 rfl) ?_
      refine zr_iconst C (zdec_at dm_X12_nearestOf 10 rfl) ?_
      refine zr_iand C (zdec_at dm_X12_nearestOf 11 rfl) ?_
      refine zr_iconst C (zdec_at dm_X12_nearestOf 12 rfl) ?_
      have h := h (fun v15 M17 => zin v15 → zRng M17 → zV Γ mu_X12_nearestOf (145, 0, 0) 67 [(0, zRf (zad Γ) 103), (1, zI a1), (2, zI a2), (3, zI v1), (4, zI v2)] [zI v15] M17) (fun v15 M17 h z16 hR18 => by
        have h := h z16 hR18
        refine zr_istore (L1 := [(5, zI v15), (0, zRf (zad Γ) 103), (1, zI a1), (2, zI a2), (3, zI v1), (4, zI v2)]) C (zdec_at dm_X12_nearestOf 40 rfl) (Nat.le_of_ble_eq_true rfl) rfl ?_
        refine zr_iload C 0 rfl (zdec_at dm_X12_nearestOf 41 rfl) ?_
        refine zr_if_eq C z16 (zdec_at dm_X12_nearestOf 42 rfl) rfl (fun g19 => ?_) (fun g19 => ?_)
        · have h := h.1 g19
          refine zr_iload_n C 4 rfl (zdec_at dm_X12_nearestOf 45 rfl) rfl ?_
          refine zr_istore_n (L1 := [(3, zI v1), (5, zI v15), (0, zRf (zad Γ) 103), (1, zI a1), (2, zI a2), (4, zI v2)]) C (zdec_at dm_X12_nearestOf 46 rfl) rfl (Nat.le_of_ble_eq_true rfl) rfl ?_
          refine zr_iinc (L1 := [(4, zI (v2 + 1)), (3, zI v1), (5, zI v15), (0, zRf (zad Γ) 103), (1, zI a1), (2, zI a2)]) C 5 rfl (zdec_at dm_X12_nearestOf 47 rfl) (Nat.le_of_ble_eq_true rfl) rfl ?_
          refine zr_goto C (zdec_at dm_X12_nearestOf 48 rfl) rfl ?_
          obtain ⟨o20, h⟩ := h
          obtain ⟨n21, q22, q23⟩ := h
          exact zr_sub [3, 4, 5, 1, 0] rfl (ih8 n21 q22 _ _ _ q23 z3 o20 hR18)
        · have h := h.2 g19
          refine zr_iload C 5 rfl (zdec_at dm_X12_nearestOf 43 rfl) ?_
          refine zr_goto C (zdec_at dm_X12_nearestOf 44 rfl) rfl ?_
          refine zr_istore_n (L1 := [(3, zI v2), (5, zI v15), (0, zRf (zad Γ) 103), (1, zI a1), (2, zI a2), (4, zI v2)]) C (zdec_at dm_X12_nearestOf 46 rfl) rfl (Nat.le_of_ble_eq_true rfl) rfl ?_
          refine zr_iinc (L1 := [(4, zI (v2 + 1)), (3, zI v2), (5, zI v15), (0, zRf (zad Γ) 103), (1, zI a1), (2, zI a2)]) C 5 rfl (zdec_at dm_X12_nearestOf 47 rfl) (Nat.le_of_ble_eq_true rfl) rfl ?_
          refine zr_goto C (zdec_at dm_X12_nearestOf 48 rfl) rfl ?_
          obtain ⟨o24, h⟩ := h
          obtain ⟨n25, q26, q27⟩ := h
          exact zr_sub [3, 4, 5, 1, 0] rfl (ih8 n25 q26 _ _ _ q27 z4 o24 hR18))
      have h := h (fun M28 => zRng M28 → zV Γ mu_X12_nearestOf (145, 0, 0) 66 [(0, zRf (zad Γ) 103), (1, zI a1), (2, zI a2), (3, zI v1), (4, zI v2)] [] M28) (fun M28 h hR29 => by
        have h := h hR29
        refine zr_iconst C (zdec_at dm_X12_nearestOf 39 rfl) ?_
        exact zr_sub [0, 1, 2, 3, 4] rfl (h (by decide) hR29))
      refine zr_icmp_ne C (zland_z _ _) (by decide) (zdec_at dm_X12_nearestOf 13 rfl) rfl (fun g30 => ?_) (fun g30 => ?_)
      · have h := h.1 g30
        exact zr_sub [0, 1, 2, 3, 4] rfl (h hR6)
      · have h := h.2 g30
        refine zr_iload_n C 3 rfl (zdec_at dm_X12_nearestOf 14 rfl) rfl ?_
        have h := h (fun M31 => zRng M31 → zV Γ mu_X12_nearestOf (145, 0, 0) 62 [(0, zRf (zad Γ) 103), (1, zI a1), (2, zI a2), (3, zI v1), (4, zI v2)] [] M31) (fun M31 h hR32 => by
          have h := h hR32
          refine zr_iconst C (zdec_at dm_X12_nearestOf 37 rfl) ?_
          refine zr_goto C (zdec_at dm_X12_nearestOf 38 rfl) rfl ?_
          exact zr_sub [0, 1, 2, 3, 4] rfl (h (by decide) hR32))
        refine zr_if_lt C z3 (zdec_at dm_X12_nearestOf 15 rfl) rfl (fun g33 => ?_) (fun g33 => ?_)
        · have h := h.1 g33
          exact zr_sub [0, 1, 2, 3, 4] rfl (h hR6)
        · have h := h.2 g33
          refine zr_aload_n C 0 rfl (zdec_at dm_X12_nearestOf 16 rfl) rfl ?_
          refine zr_getr (q := 105) C fk_RX12_20 fi_103_4 (zdec_at dm_X12_nearestOf 17 rfl) ?_
          refine zr_iload C 4 rfl (zdec_at dm_X12_nearestOf 18 rfl) ?_
          obtain ⟨o34, h⟩ := h
          refine zr_iald C ai_105 o34 (zdec_at dm_X12_nearestOf 19 rfl) ?_
          refine zr_aload_n C 0 rfl (zdec_at dm_X12_nearestOf 20 rfl) rfl ?_
          refine zr_getr (q := 105) C fk_RX12_20 fi_103_4 (zdec_at dm_X12_nearestOf 21 rfl) ?_
          refine zr_iload_n C 1 rfl (zdec_at dm_X12_nearestOf 22 rfl) rfl ?_
          obtain ⟨o35, h⟩ := h
          refine zr_iald C ai_105 o35 (zdec_at dm_X12_nearestOf 23 rfl) ?_
          refine zr_isub C (zdec_at dm_X12_nearestOf 24 rfl) ?_
          obtain ⟨o36, h⟩ := h
          obtain ⟨g42, h⟩ := h
          refine zr_callS C [((M5 105 v2) - (M5 105 a1))] hS_X12_square ck_RX12_388 sv_X12_square rfl rfl (zdec_at dm_X12_nearestOf 25 rfl) ⟨rfl, rfl, rfl, rfl⟩ ⟨by decide, by decide⟩ (Nat.le_of_ble_eq_true rfl) (zall_0 o36 zall_n) ?_
          refine ⟨_, rfl, g42, fun r37 M38 p41 z40 hR39 => ?_⟩
          have h := h r37 M38 p41 z40 hR39
          show zV Γ mu_X12_nearestOf (145, 0, 0) 43 [(0, zRf (zad Γ) 103), (1, zI a1), (2, zI a2), (3, zI v1), (4, zI v2)] [zI r37] M38
          refine zr_aload_n C 0 rfl (zdec_at dm_X12_nearestOf 26 rfl) rfl ?_
          refine zr_getr (q := 105) C fk_RX12_20 fi_103_4 (zdec_at dm_X12_nearestOf 27 rfl) ?_
          refine zr_iload_n C 3 rfl (zdec_at dm_X12_nearestOf 28 rfl) rfl ?_
          obtain ⟨o43, h⟩ := h
          refine zr_iald C ai_105 o43 (zdec_at dm_X12_nearestOf 29 rfl) ?_
          refine zr_aload_n C 0 rfl (zdec_at dm_X12_nearestOf 30 rfl) rfl ?_
          refine zr_getr (q := 105) C fk_RX12_20 fi_103_4 (zdec_at dm_X12_nearestOf 31 rfl) ?_
          refine zr_iload_n C 1 rfl (zdec_at dm_X12_nearestOf 32 rfl) rfl ?_
          refine zr_iald C ai_105 o35 (zdec_at dm_X12_nearestOf 33 rfl) ?_
          refine zr_isub C (zdec_at dm_X12_nearestOf 34 rfl) ?_
          obtain ⟨o44, h⟩ := h
          obtain ⟨g50, h⟩ := h
          refine zr_callS C [((M38 105 v1) - (M38 105 a1))] hS_X12_square ck_RX12_388 sv_X12_square rfl rfl (zdec_at dm_X12_nearestOf 35 rfl) ⟨rfl, rfl, rfl, rfl⟩ ⟨by decide, by decide⟩ (Nat.le_of_ble_eq_true rfl) (zall_0 o44 zall_n) ?_
          refine ⟨_, rfl, g50, fun r45 M46 p49 z48 hR47 => ?_⟩
          have h := h r45 M46 p49 z48 hR47
          show zV Γ mu_X12_nearestOf (145, 0, 0) 59 [(0, zRf (zad Γ) 103), (1, zI a1), (2, zI a2), (3, zI v1), (4, zI v2)] [zI r45, zI r37] M46
          refine zr_icmp_ge C z40 z48 (zdec_at dm_X12_nearestOf 36 rfl) rfl (fun g51 => ?_) (fun g51 => ?_)
          · have h := h.1 g51
            exact zr_sub [0, 1, 2, 3, 4] rfl (h hR47)
          · have h := h.2 g51
            exact zr_sub [0, 1, 2, 3, 4] rfl (h hR47)
  exact zr_sub [2, 3, 4, 1, 0] rfl (lp9 n11 _ _ _ q12 (by decide) (by decide) hR)

set_option maxHeartbeats 400000 in
set_option maxRecDepth 100000 in
theorem sn_X12_ones : zSnd zS 145 0 0 yX12_ones cX12_ones 3 (some .int) 0 [0] (fun xs P M => ∃ a0 : Int, xs = [a0] ∧ vc_X12_ones a0 P M) := by
  refine zSnd.of rfl (fun ad xs hz => Nat.le_trans (Nat.le_of_eq (zlen ad _ xs hz)) (by decide)) ?_
  intro Γ C _ _ xs M hz hF
  obtain ⟨a0, rfl, h⟩ := hF
  have zz_a0 := zall_h hz (by decide)
  refine zr_rng (fun hR => ?_)
  have C : zC Γ mu_X12_ones := C
  change zV Γ mu_X12_ones (145, 0, 0) 0 [(0, zI a0)] [] M
  change vc_X12_ones a0 _ M at h
  unfold vc_X12_ones at h
  refine zr_iconst C (zdec_at dm_X12_ones 0 rfl) ?_
  refine zr_istore_n (L1 := [(1, zI 0), (0, zI a0)]) C (zdec_at dm_X12_ones 1 rfl) rfl (Nat.le_of_ble_eq_true rfl) rfl ?_
  refine zr_iload_n C 1 rfl (zdec_at dm_X12_ones 2 rfl) rfl ?_
  refine zr_istore_n (L1 := [(2, zI a0), (1, zI 0), (0, zI a0)]) C (zdec_at dm_X12_ones 3 rfl) rfl (Nat.le_of_ble_eq_true rfl) rfl ?_
  obtain ⟨I4, ⟨n9, q10⟩, hI8⟩ := h
  have lp7 : ∀ (n5 : Nat) (v1 : Int) (v2 : Int), I4 v1 v2 n5 → zin v1 → zin v2 → zV Γ mu_X12_ones (145, 0, 0) 4 [(1, zI v1), (2, zI v2)] [] M := by
    intro n5
    induction n5 using Nat.strongRecOn with
    | _ n5 ih6 =>
    intro v1 v2 q11 z3 z4
    have h := hI8 v1 v2 n5 q11 z3 z4
    refine zr_iload_n C 1 rfl (zdec_at dm_X12_ones 4 rfl) rfl ?_
    refine zr_if_le C z4 (zdec_at dm_X12_ones 5 rfl) rfl (fun g12 => ?_) (fun g12 => ?_)
    · have h := h.1 g12
      refine zr_iload_n C 0 rfl (zdec_at dm_X12_ones 17 rfl) rfl ?_
      exact zr_ireturn C rfl (zdec_at dm_X12_ones 18 rfl) rfl ⟨z3, h⟩
    · have h := h.2 g12
      refine zr_iload_n C 0 rfl (zdec_at dm_X12_ones 6 rfl) rfl ?_
      refine zr_iload_n C 1 rfl (zdec_at dm_X12_ones 7 rfl) rfl ?_
      refine zr_iconst C (zdec_at dm_X12_ones 8 rfl) ?_
      obtain ⟨o13, h⟩ := h
      refine zr_irem C z4 (by decide) ⟨o13, by decide⟩ (zdec_at dm_X12_ones 9 rfl) ?_
      refine zr_iadd C (zdec_at dm_X12_ones 10 rfl) ?_
      refine zr_istore_n (L1 := [(1, zI (v1 + (v2 % 2))), (2, zI v2)]) C (zdec_at dm_X12_ones 11 rfl) rfl (Nat.le_of_ble_eq_true rfl) rfl ?_
      refine zr_iload_n C 1 rfl (zdec_at dm_X12_ones 12 rfl) rfl ?_
      refine zr_iconst C (zdec_at dm_X12_ones 13 rfl) ?_
      refine zr_idiv C z4 (by decide) ⟨o13, by decide⟩ (zdec_at dm_X12_ones 14 rfl) ?_
      refine zr_istore_n (L1 := [(2, zI (v2 / 2)), (1, zI (v1 + (v2 % 2)))]) C (zdec_at dm_X12_ones 15 rfl) rfl (Nat.le_of_ble_eq_true rfl) rfl ?_
      refine zr_goto C (zdec_at dm_X12_ones 16 rfl) rfl ?_
      obtain ⟨o14, h⟩ := h
      obtain ⟨n15, q16, q17⟩ := h
      exact zr_sub [1, 0] rfl (ih6 n15 q16 _ _ q17 o14 (z_dz2 (a := v2) (b := 2) ⟨o13, by decide⟩ z4))
  exact zr_sub [1, 0] rfl (lp7 n9 _ _ q10 (by decide) zz_a0)

set_option maxHeartbeats 400000 in
set_option maxRecDepth 100000 in
theorem sn_X12_findColours {pr_X12_isDot : Int → zM → Prop} {po_X12_isDot : Int → zM → Int → zM → Prop} (hS_X12_isDot : zSnd zS 145 0 0 yX12_isDot cX12_isDot 2 (some .boolean) 0 [2, 0] (F_X12_isDot pr_X12_isDot po_X12_isDot)) : zSnd zS 145 0 0 yX12_findColours cX12_findColours 3 (some .int) 1 [2] (fun xs P M => xs = [103] ∧ vc_X12_findColours pr_X12_isDot po_X12_isDot P M) := by
  refine zSnd.of rfl (fun ad xs hz => Nat.le_trans (Nat.le_of_eq (zlen ad _ xs hz)) (by decide)) ?_
  intro Γ C _ _ xs M hz hF
  obtain ⟨rfl, h⟩ := hF
  refine zr_rng (fun hR => ?_)
  have C : zC Γ mu_X12_findColours := C
  change zV Γ mu_X12_findColours (145, 0, 0) 0 [(0, zRf (zad Γ) 103)] [] M
  change vc_X12_findColours pr_X12_isDot po_X12_isDot _ M at h
  unfold vc_X12_findColours at h
  refine zr_iconst C (zdec_at dm_X12_findColours 0 rfl) ?_
  refine zr_istore_n (L1 := [(1, zI 0), (0, zRf (zad Γ) 103)]) C (zdec_at dm_X12_findColours 1 rfl) rfl (Nat.le_of_ble_eq_true rfl) rfl ?_
  refine zr_iconst C (zdec_at dm_X12_findColours 2 rfl) ?_
  refine zr_istore_n (L1 := [(2, zI 0), (1, zI 0), (0, zRf (zad Γ) 103)]) C (zdec_at dm_X12_findColours 3 rfl) rfl (Nat.le_of_ble_eq_true rfl) rfl ?_
  obtain ⟨I4, ⟨n9, q10⟩, hI8⟩ := h
  have lp7 : ∀ (n5 : Nat) (v1 : Int) (M3 : zM), I4 v1 M3 n5 → zin v1 → zRng M3 → zV Γ mu_X12_findColours (145, 0, 0) 4 [(0, zRf (zad Γ) 103), (1, zI 0), (2, zI v1)] [] M3 := by
    intro n5
    induction n5 using Nat.strongRecOn with
    | _ n5 ih6 =>
    intro v1 M3 q11 z2 hR4
    have h := hI8 v1 M3 n5 q11 z2 hR4
    refine zr_iload_n C 2 rfl (zdec_at dm_X12_findColours 4 rfl) rfl ?_
    refine zr_bipush C (zdec_at dm_X12_findColours 5 rfl) (by decide) ?_
    refine zr_icmp_ge C z2 (by decide) (zdec_at dm_X12_findColours 6 rfl) rfl (fun g12 => ?_) (fun g12 => ?_)
    · have h := h.1 g12
      refine zr_iconst C (zdec_at dm_X12_findColours 14 rfl) ?_
      refine zr_istore_n (L1 := [(2, zI 0), (0, zRf (zad Γ) 103), (1, zI 0)]) C (zdec_at dm_X12_findColours 15 rfl) rfl (Nat.le_of_ble_eq_true rfl) rfl ?_
      obtain ⟨I25, ⟨n23, q24⟩, hI22⟩ := h
      have lp21 : ∀ (n19 : Nat) (v13 : Int) (v14 : Int) (M17 : zM), I25 v13 v14 M17 n19 → zin v13 → zin v14 → zRng M17 → zV Γ mu_X12_findColours (145, 0, 0) 25 [(0, zRf (zad Γ) 103), (1, zI v13), (2, zI v14)] [] M17 := by
        intro n19
        induction n19 using Nat.strongRecOn with
        | _ n19 ih20 =>
        intro v13 v14 M17 q25 z15 z16 hR18
        have h := hI22 v13 v14 M17 n19 q25 z15 z16 hR18
        refine zr_iload_n C 2 rfl (zdec_at dm_X12_findColours 16 rfl) rfl ?_
        refine zr_sipush C (zdec_at dm_X12_findColours 17 rfl) (by decide) ?_
        refine zr_icmp_ge C z16 (by decide) (zdec_at dm_X12_findColours 18 rfl) rfl (fun g26 => ?_) (fun g26 => ?_)
        · have h := h.1 g26
          refine zr_iload_n C 1 rfl (zdec_at dm_X12_findColours 45 rfl) rfl ?_
          exact zr_ireturn C rfl (zdec_at dm_X12_findColours 46 rfl) rfl ⟨z15, h⟩
        · have h := h.2 g26
          refine zr_aload_n C 0 rfl (zdec_at dm_X12_findColours 19 rfl) rfl ?_
          refine zr_iload_n C 2 rfl (zdec_at dm_X12_findColours 20 rfl) rfl ?_
          obtain ⟨g32, h⟩ := h
          refine zr_callV C [v14] hS_X12_isDot ck_RX12_202 iv_X12_isDot vc_X12 oc_103 rfl rfl (zdec_at dm_X12_findColours 21 rfl) ⟨rfl, rfl, rfl, rfl⟩ ⟨by decide, by decide⟩ (Nat.le_of_ble_eq_true rfl) (zall_0 z16 zall_n) ?_
          refine ⟨_, rfl, g32, fun r27 M28 p31 z30 hR29 => ?_⟩
          have h := h r27 M28 p31 z30 hR29
          show zV Γ mu_X12_findColours (145, 0, 0) 37 [(0, zRf (zad Γ) 103), (1, zI v13), (2, zI v14)] [zI r27] M28
          refine zr_if_eq C z30 (zdec_at dm_X12_findColours 22 rfl) rfl (fun g33 => ?_) (fun g33 => ?_)
          · have h := h.1 g33
            refine zr_iinc (L1 := [(2, zI (v14 + 1)), (0, zRf (zad Γ) 103), (1, zI v13)]) C 2 rfl (zdec_at dm_X12_findColours 43 rfl) (Nat.le_of_ble_eq_true rfl) rfl ?_
            refine zr_goto C (zdec_at dm_X12_findColours 44 rfl) rfl ?_
            obtain ⟨o34, h⟩ := h
            obtain ⟨n35, q36, q37⟩ := h
            exact zr_sub [1, 2, 0] rfl (ih20 n35 q36 _ _ _ q37 z15 o34 hR29)
          · have h := h.2 g33
            refine zr_aload_n C 0 rfl (zdec_at dm_X12_findColours 23 rfl) rfl ?_
            refine zr_getr (q := 128) C fk_RX12_91 fi_103_51 (zdec_at dm_X12_findColours 24 rfl) ?_
            refine zr_aload_n C 0 rfl (zdec_at dm_X12_findColours 25 rfl) rfl ?_
            refine zr_getr (q := 104) C fk_RX12_16 fi_103_3 (zdec_at dm_X12_findColours 26 rfl) ?_
            refine zr_iload_n C 2 rfl (zdec_at dm_X12_findColours 27 rfl) rfl ?_
            obtain ⟨o38, h⟩ := h
            refine zr_iald C ai_104 o38 (zdec_at dm_X12_findColours 28 rfl) ?_
            refine zr_dup2 C rfl rfl (zdec_at dm_X12_findColours 29 rfl) ?_
            obtain ⟨o39, h⟩ := h
            refine zr_iald C ai_128 o39 (zdec_at dm_X12_findColours 30 rfl) ?_
            refine zr_iconst C (zdec_at dm_X12_findColours 31 rfl) ?_
            refine zr_iadd C (zdec_at dm_X12_findColours 32 rfl) ?_
            obtain ⟨o40, h⟩ := h
            refine zr_iast C ai_128 o39 o40 (zdec_at dm_X12_findColours 33 rfl) (fun M41 e42 => ?_)
            have h := h M41 e42
            have hR43 : zRng M41 := by rw [e42]; exact hR29.set o40 _ _
            refine zr_iload_n C 1 rfl (zdec_at dm_X12_findColours 34 rfl) rfl ?_
            refine zr_iconst C (zdec_at dm_X12_findColours 35 rfl) ?_
            refine zr_aload_n C 0 rfl (zdec_at dm_X12_findColours 36 rfl) rfl ?_
            refine zr_getr (q := 104) C fk_RX12_16 fi_103_3 (zdec_at dm_X12_findColours 37 rfl) ?_
            refine zr_iload_n C 2 rfl (zdec_at dm_X12_findColours 38 rfl) rfl ?_
            refine zr_iald C ai_104 o38 (zdec_at dm_X12_findColours 39 rfl) ?_
            refine zr_ishl C (zdec_at dm_X12_findColours 40 rfl) ?_
            refine zr_ior C (zdec_at dm_X12_findColours 41 rfl) ?_
            refine zr_istore_n (L1 := [(1, zI (zlor v13 (zshl 1 (M41 104 v14)))), (0, zRf (zad Γ) 103), (2, zI v14)]) C (zdec_at dm_X12_findColours 42 rfl) rfl (Nat.le_of_ble_eq_true rfl) rfl ?_
            refine zr_iinc (L1 := [(2, zI (v14 + 1)), (1, zI (zlor v13 (zshl 1 (M41 104 v14)))), (0, zRf (zad Γ) 103)]) C 2 rfl (zdec_at dm_X12_findColours 43 rfl) (Nat.le_of_ble_eq_true rfl) rfl ?_
            refine zr_goto C (zdec_at dm_X12_findColours 44 rfl) rfl ?_
            obtain ⟨o44, h⟩ := h
            obtain ⟨n45, q46, q47⟩ := h
            exact zr_sub [2, 1, 0] rfl (ih20 n45 q46 _ _ _ q47 (zlor_z _ _) o44 hR43)
      exact zr_sub [1, 2, 0] rfl (lp21 n23 _ _ _ q24 (by decide) (by decide) hR4)
    · have h := h.2 g12
      refine zr_aload_n C 0 rfl (zdec_at dm_X12_findColours 7 rfl) rfl ?_
      refine zr_getr (q := 128) C fk_RX12_91 fi_103_51 (zdec_at dm_X12_findColours 8 rfl) ?_
      refine zr_iload_n C 2 rfl (zdec_at dm_X12_findColours 9 rfl) rfl ?_
      refine zr_iconst C (zdec_at dm_X12_findColours 10 rfl) ?_
      obtain ⟨o48, h⟩ := h
      refine zr_iast C ai_128 o48 (by decide) (zdec_at dm_X12_findColours 11 rfl) (fun M49 e50 => ?_)
      have h := h M49 e50
      have hR51 : zRng M49 := by rw [e50]; exact hR4.set (by decide) _ _
      refine zr_iinc (L1 := [(2, zI (v1 + 1)), (0, zRf (zad Γ) 103), (1, zI 0)]) C 2 rfl (zdec_at dm_X12_findColours 12 rfl) (Nat.le_of_ble_eq_true rfl) rfl ?_
      refine zr_goto C (zdec_at dm_X12_findColours 13 rfl) rfl ?_
      obtain ⟨o52, h⟩ := h
      obtain ⟨n53, q54, q55⟩ := h
      exact zr_sub [1, 2, 0] rfl (ih6 n53 q54 _ _ q55 o52 hR51)
  exact zr_sub [2, 1, 0] rfl (lp7 n9 _ _ q10 (by decide) hR)

set_option maxHeartbeats 400000 in
set_option maxRecDepth 100000 in
theorem sn_X12_findFew {pr_X12_findColours : zM → Prop} {po_X12_findColours : zM → Int → zM → Prop} {pr_X12_ones : Int → zM → Prop} {po_X12_ones : Int → zM → Int → zM → Prop} {pr_X12_nearestOf : Int → Int → zM → Prop} {po_X12_nearestOf : Int → Int → zM → Int → zM → Prop} {pr_X12_square : Int → zM → Prop} {po_X12_square : Int → zM → Int → zM → Prop} (hS_X12_findColours : zSnd zS 145 0 0 yX12_findColours cX12_findColours 3 (some .int) 1 [2] (F_X12_findColours pr_X12_findColours po_X12_findColours)) (hS_X12_ones : zSnd zS 145 0 0 yX12_ones cX12_ones 3 (some .int) 0 [0] (F_X12_ones pr_X12_ones po_X12_ones)) (hS_X12_nearestOf : zSnd zS 145 0 0 yX12_nearestOf cX12_nearestOf 6 (some .int) 1 [2, 0, 0] (F_X12_nearestOf pr_X12_nearestOf po_X12_nearestOf)) (hS_X12_square : zSnd zS 145 0 0 yX12_square cX12_square 1 (some .int) 0 [0] (F_X12_square pr_X12_square po_X12_square)) : zSnd zS 145 0 0 yX12_findFew cX12_findFew 6 (some .boolean) 2 [2, 0] (fun xs P M => ∃ a1 : Int, xs = [103, a1] ∧ vc_X12_findFew pr_X12_findColours po_X12_findColours pr_X12_ones po_X12_ones pr_X12_nearestOf po_X12_nearestOf pr_X12_square po_X12_square a1 P M) := by
  refine zSnd.of rfl (fun ad xs hz => Nat.le_trans (Nat.le_of_eq (zlen ad _ xs hz)) (by decide)) ?_
  intro Γ C _ _ xs M hz hF
  obtain ⟨a1, rfl, h⟩ := hF
  have zz_a1 := zall_h (zall_t hz) (by decide)
  refine zr_rng (fun hR => ?_)
  have C : zC Γ mu_X12_findFew := C
  change zV Γ mu_X12_findFew (145, 0, 0) 0 [(0, zRf (zad Γ) 103), (1, zI a1)] [] M
  change vc_X12_findFew pr_X12_findColours po_X12_findColours pr_X12_ones po_X12_ones pr_X12_nearestOf po_X12_nearestOf pr_X12_square po_X12_square a1 _ M at h
  unfold vc_X12_findFew at h
  refine zr_aload_n C 0 rfl (zdec_at dm_X12_findFew 0 rfl) rfl ?_
  obtain ⟨g6, h⟩ := h
  refine zr_callV C [] hS_X12_findColours ck_RX12_391 iv_X12_findColours vc_X12 oc_103 rfl rfl (zdec_at dm_X12_findFew 1 rfl) ⟨rfl, rfl, rfl, rfl⟩ ⟨by decide, by decide⟩ (Nat.le_of_ble_eq_true rfl) zall_n ?_
  refine ⟨rfl, g6, fun r1 M2 p5 z4 hR3 => ?_⟩
  have h := h r1 M2 p5 z4 hR3
  show zV Γ mu_X12_findFew (145, 0, 0) 4 [(0, zRf (zad Γ) 103), (1, zI a1)] [zI r1] M2
  refine zr_istore_n (L1 := [(2, zI r1), (0, zRf (zad Γ) 103), (1, zI a1)]) C (zdec_at dm_X12_findFew 2 rfl) rfl (Nat.le_of_ble_eq_true rfl) rfl ?_
  refine zr_iload_n C 0 rfl (zdec_at dm_X12_findFew 3 rfl) rfl ?_
  obtain ⟨g12, h⟩ := h
  refine zr_callS C [r1] hS_X12_ones ck_RX12_394 sv_X12_ones rfl rfl (zdec_at dm_X12_findFew 4 rfl) ⟨rfl, rfl, rfl, rfl⟩ ⟨by decide, by decide⟩ (Nat.le_of_ble_eq_true rfl) (zall_0 z4 zall_n) ?_
  refine ⟨_, rfl, g12, fun r7 M8 p11 z10 hR9 => ?_⟩
  have h := h r7 M8 p11 z10 hR9
  show zV Γ mu_X12_findFew (145, 0, 0) 9 [(2, zI r1), (0, zRf (zad Γ) 103), (1, zI a1)] [zI r7] M8
  refine zr_bipush C (zdec_at dm_X12_findFew 5 rfl) (by decide) ?_
  refine zr_icmp_le C z10 (by decide) (zdec_at dm_X12_findFew 6 rfl) rfl (fun g13 => ?_) (fun g13 => ?_)
  · have h := h.1 g13
    refine zr_aload_n C 1 rfl (zdec_at dm_X12_findFew 9 rfl) rfl ?_
    refine zr_iconst C (zdec_at dm_X12_findFew 10 rfl) ?_
    refine zr_puti C fk_RX12_397 fi_103_52 (by decide) (zdec_at dm_X12_findFew 11 rfl) (fun M14 e15 => ?_)
    have h := h M14 e15
    have hR16 : zRng M14 := by rw [e15]; exact hR9.set (by decide) _ _
    refine zr_iconst C (zdec_at dm_X12_findFew 12 rfl) ?_
    refine zr_istore_n (L1 := [(3, zI 1), (2, zI r1), (0, zRf (zad Γ) 103), (1, zI a1)]) C (zdec_at dm_X12_findFew 13 rfl) rfl (Nat.le_of_ble_eq_true rfl) rfl ?_
    obtain ⟨I23, ⟨n25, q26⟩, hI24⟩ := h
    have lp23 : ∀ (n21 : Nat) (v17 : Int) (M19 : zM), I23 v17 M19 n21 → zin v17 → zRng M19 → zV Γ mu_X12_findFew (145, 0, 0) 23 [(0, zRf (zad Γ) 103), (1, zI a1), (2, zI r1), (3, zI v17)] [] M19 := by
      intro n21
      induction n21 using Nat.strongRecOn with
      | _ n21 ih22 =>
      intro v17 M19 q27 z18 hR20
      have h := hI24 v17 M19 n21 q27 z18 hR20
      refine zr_iload_n C 3 rfl (zdec_at dm_X12_findFew 14 rfl) rfl ?_
      refine zr_ldcw C (zdec_at dm_X12_findFew 15 rfl) kc_RX12_400 ?_
      refine zr_icmp_ge C z18 (by decide) (zdec_at dm_X12_findFew 16 rfl) rfl (fun g28 => ?_) (fun g28 => ?_)
      · have h := h.1 g28
        refine zr_iconst C (zdec_at dm_X12_findFew 79 rfl) ?_
        exact zr_zreturn C rfl (by decide) (zdec_at dm_X12_findFew 80 rfl) rfl ⟨(by decide), h⟩
      · have h := h.2 g28
        refine zr_iload_n C 3 rfl (zdec_at dm_X12_findFew 17 rfl) rfl ?_
        refine zr_iload_n C 2 rfl (zdec_at dm_X12_findFew 18 rfl) rfl ?_
        refine zr_iconst C (zdec_at dm_X12_findFew 19 rfl) ?_
        refine zr_ixor C (zdec_at dm_X12_findFew 20 rfl) ?_
        refine zr_iand C (zdec_at dm_X12_findFew 21 rfl) ?_
        refine zr_if_ne C (zland_z _ _) (zdec_at dm_X12_findFew 22 rfl) rfl (fun g29 => ?_) (fun g29 => ?_)
        · have h := h.1 g29
          refine zr_iinc (L1 := [(3, zI (v17 + 1)), (0, zRf (zad Γ) 103), (1, zI a1), (2, zI r1)]) C 3 rfl (zdec_at dm_X12_findFew 77 rfl) (Nat.le_of_ble_eq_true rfl) rfl ?_
          refine zr_goto C (zdec_at dm_X12_findFew 78 rfl) rfl ?_
          obtain ⟨o30, h⟩ := h
          obtain ⟨n31, q32, q33⟩ := h
          exact zr_sub [1, 2, 3, 0] rfl (ih22 n31 q32 _ _ q33 o30 hR20)
        · have h := h.2 g29
          refine zr_iload_n C 3 rfl (zdec_at dm_X12_findFew 23 rfl) rfl ?_
          obtain ⟨g39, h⟩ := h
          refine zr_callS C [v17] hS_X12_ones ck_RX12_394 sv_X12_ones rfl rfl (zdec_at dm_X12_findFew 24 rfl) ⟨rfl, rfl, rfl, rfl⟩ ⟨by decide, by decide⟩ (Nat.le_of_ble_eq_true rfl) (zall_0 z18 zall_n) ?_
          refine ⟨_, rfl, g39, fun r34 M35 p38 z37 hR36 => ?_⟩
          have h := h r34 M35 p38 z37 hR36
          show zV Γ mu_X12_findFew (145, 0, 0) 42 [(0, zRf (zad Γ) 103), (1, zI a1), (2, zI r1), (3, zI v17)] [zI r34] M35
          refine zr_iload_n C 1 rfl (zdec_at dm_X12_findFew 25 rfl) rfl ?_
          refine zr_icmp_gt C z37 zz_a1 (zdec_at dm_X12_findFew 26 rfl) rfl (fun g40 => ?_) (fun g40 => ?_)
          · have h := h.1 g40
            refine zr_iinc (L1 := [(3, zI (v17 + 1)), (0, zRf (zad Γ) 103), (1, zI a1), (2, zI r1)]) C 3 rfl (zdec_at dm_X12_findFew 77 rfl) (Nat.le_of_ble_eq_true rfl) rfl ?_
            refine zr_goto C (zdec_at dm_X12_findFew 78 rfl) rfl ?_
            obtain ⟨o41, h⟩ := h
            obtain ⟨n42, q43, q44⟩ := h
            exact zr_sub [1, 2, 3, 0] rfl (ih22 n42 q43 _ _ q44 o41 hR36)
          · have h := h.2 g40
            refine zr_iconst C (zdec_at dm_X12_findFew 27 rfl) ?_
            refine zr_istore (L1 := [(4, zI 0), (0, zRf (zad Γ) 103), (1, zI a1), (2, zI r1), (3, zI v17)]) C (zdec_at dm_X12_findFew 28 rfl) (Nat.le_of_ble_eq_true rfl) rfl ?_
            refine zr_iconst C (zdec_at dm_X12_findFew 29 rfl) ?_
            refine zr_istore (L1 := [(5, zI 0), (4, zI 0), (0, zRf (zad Γ) 103), (1, zI a1), (2, zI r1), (3, zI v17)]) C (zdec_at dm_X12_findFew 30 rfl) (Nat.le_of_ble_eq_true rfl) rfl ?_
            obtain ⟨I52, ⟨n55, q56⟩, hI54⟩ := h
            have lp53 : ∀ (n51 : Nat) (v45 : Int) (v46 : Int) (M49 : zM), I52 v45 v46 M49 n51 → zin v45 → zin v46 → zRng M49 → zV Γ mu_X12_findFew (145, 0, 0) 52 [(0, zRf (zad Γ) 103), (1, zI a1), (2, zI r1), (3, zI v17), (4, zI v45), (5, zI v46)] [] M49 := by
              intro n51
              induction n51 using Nat.strongRecOn with
              | _ n51 ih52 =>
              intro v45 v46 M49 q57 z47 z48 hR50
              have h := hI54 v45 v46 M49 n51 q57 z47 z48 hR50
              refine zr_iload C 5 rfl (zdec_at dm_X12_findFew 31 rfl) ?_
              refine zr_bipush C (zdec_at dm_X12_findFew 32 rfl) (by decide) ?_
              refine zr_icmp_ge C z48 (by decide) (zdec_at dm_X12_findFew 33 rfl) rfl (fun g58 => ?_) (fun g58 => ?_)
              · have h := h.1 g58
                refine zr_aload_n C 0 rfl (zdec_at dm_X12_findFew 64 rfl) rfl ?_
                refine zr_geti C fk_RX12_397 fi_103_52 (zdec_at dm_X12_findFew 65 rfl) ?_
                refine zr_if_lt C (hR50 _ _) (zdec_at dm_X12_findFew 66 rfl) rfl (fun g59 => ?_) (fun g59 => ?_)
                · have h := h.1 g59
                  refine zr_aload_n C 0 rfl (zdec_at dm_X12_findFew 71 rfl) rfl ?_
                  refine zr_iload_n C 3 rfl (zdec_at dm_X12_findFew 72 rfl) rfl ?_
                  refine zr_puti C fk_RX12_397 fi_103_52 z18 (zdec_at dm_X12_findFew 73 rfl) (fun M60 e61 => ?_)
                  have h := h M60 e61
                  have hR62 : zRng M60 := by rw [e61]; exact hR50.set z18 _ _
                  refine zr_aload_n C 0 rfl (zdec_at dm_X12_findFew 74 rfl) rfl ?_
                  refine zr_iload C 4 rfl (zdec_at dm_X12_findFew 75 rfl) ?_
                  refine zr_puti C fk_RX12_404 fi_103_53 z47 (zdec_at dm_X12_findFew 76 rfl) (fun M63 e64 => ?_)
                  have h := h M63 e64
                  have hR65 : zRng M63 := by rw [e64]; exact hR62.set z47 _ _
                  refine zr_iinc (L1 := [(3, zI (v17 + 1)), (0, zRf (zad Γ) 103), (1, zI a1), (2, zI r1), (4, zI v45), (5, zI v46)]) C 3 rfl (zdec_at dm_X12_findFew 77 rfl) (Nat.le_of_ble_eq_true rfl) rfl ?_
                  refine zr_goto C (zdec_at dm_X12_findFew 78 rfl) rfl ?_
                  obtain ⟨o66, h⟩ := h
                  obtain ⟨n67, q68, q69⟩ := h
                  exact zr_sub [1, 2, 3, 0] rfl (ih22 n67 q68 _ _ q69 o66 hR65)
                · have h := h.2 g59
                  refine zr_iload C 4 rfl (zdec_at dm_X12_findFew 67 rfl) ?_
                  refine zr_aload_n C 0 rfl (zdec_at dm_X12_findFew 68 rfl) rfl ?_
                  refine zr_geti C fk_RX12_404 fi_103_53 (zdec_at dm_X12_findFew 69 rfl) ?_
                  refine zr_icmp_ge C z47 (hR50 _ _) (zdec_at dm_X12_findFew 70 rfl) rfl (fun g70 => ?_) (fun g70 => ?_)
                  · have h := h.1 g70
                    refine zr_iinc (L1 := [(3, zI (v17 + 1)), (0, zRf (zad Γ) 103), (1, zI a1), (2, zI r1), (4, zI v45), (5, zI v46)]) C 3 rfl (zdec_at dm_X12_findFew 77 rfl) (Nat.le_of_ble_eq_true rfl) rfl ?_
                    refine zr_goto C (zdec_at dm_X12_findFew 78 rfl) rfl ?_
                    obtain ⟨o71, h⟩ := h
                    obtain ⟨n72, q73, q74⟩ := h
                    exact zr_sub [1, 2, 3, 0] rfl (ih22 n72 q73 _ _ q74 o71 hR50)
                  · have h := h.2 g70
                    refine zr_aload_n C 0 rfl (zdec_at dm_X12_findFew 71 rfl) rfl ?_
                    refine zr_iload_n C 3 rfl (zdec_at dm_X12_findFew 72 rfl) rfl ?_
                    refine zr_puti C fk_RX12_397 fi_103_52 z18 (zdec_at dm_X12_findFew 73 rfl) (fun M75 e76 => ?_)
                    have h := h M75 e76
                    have hR77 : zRng M75 := by rw [e76]; exact hR50.set z18 _ _
                    refine zr_aload_n C 0 rfl (zdec_at dm_X12_findFew 74 rfl) rfl ?_
                    refine zr_iload C 4 rfl (zdec_at dm_X12_findFew 75 rfl) ?_
                    refine zr_puti C fk_RX12_404 fi_103_53 z47 (zdec_at dm_X12_findFew 76 rfl) (fun M78 e79 => ?_)
                    have h := h M78 e79
                    have hR80 : zRng M78 := by rw [e79]; exact hR77.set z47 _ _
                    refine zr_iinc (L1 := [(3, zI (v17 + 1)), (0, zRf (zad Γ) 103), (1, zI a1), (2, zI r1), (4, zI v45), (5, zI v46)]) C 3 rfl (zdec_at dm_X12_findFew 77 rfl) (Nat.le_of_ble_eq_true rfl) rfl ?_
                    refine zr_goto C (zdec_at dm_X12_findFew 78 rfl) rfl ?_
                    obtain ⟨o81, h⟩ := h
                    obtain ⟨n82, q83, q84⟩ := h
                    exact zr_sub [1, 2, 3, 0] rfl (ih22 n82 q83 _ _ q84 o81 hR80)
              · have h := h.2 g58
                refine zr_iload C 4 rfl (zdec_at dm_X12_findFew 34 rfl) ?_
                refine zr_aload_n C 0 rfl (zdec_at dm_X12_findFew 35 rfl) rfl ?_
                refine zr_getr (q := 128) C fk_RX12_91 fi_103_51 (zdec_at dm_X12_findFew 36 rfl) ?_
                refine zr_iload C 5 rfl (zdec_at dm_X12_findFew 37 rfl) ?_
                obtain ⟨o85, h⟩ := h
                refine zr_iald C ai_128 o85 (zdec_at dm_X12_findFew 38 rfl) ?_
                refine zr_if_ne C (hR50 _ _) (zdec_at dm_X12_findFew 39 rfl) rfl (fun g86 => ?_) (fun g86 => ?_)
                · have h := h.1 g86
                  refine zr_aload_n C 0 rfl (zdec_at dm_X12_findFew 42 rfl) rfl ?_
                  refine zr_getr (q := 128) C fk_RX12_91 fi_103_51 (zdec_at dm_X12_findFew 43 rfl) ?_
                  refine zr_iload C 5 rfl (zdec_at dm_X12_findFew 44 rfl) ?_
                  refine zr_iald C ai_128 o85 (zdec_at dm_X12_findFew 45 rfl) ?_
                  refine zr_aload_n C 0 rfl (zdec_at dm_X12_findFew 46 rfl) rfl ?_
                  refine zr_getr (q := 105) C fk_RX12_20 fi_103_4 (zdec_at dm_X12_findFew 47 rfl) ?_
                  refine zr_aload_n C 0 rfl (zdec_at dm_X12_findFew 48 rfl) rfl ?_
                  refine zr_iload C 5 rfl (zdec_at dm_X12_findFew 49 rfl) ?_
                  refine zr_iload_n C 3 rfl (zdec_at dm_X12_findFew 50 rfl) rfl ?_
                  obtain ⟨g92, h⟩ := h
                  refine zr_callV C [v46, v17] hS_X12_nearestOf ck_RX12_401 iv_X12_nearestOf vc_X12 oc_103 rfl rfl (zdec_at dm_X12_findFew 51 rfl) ⟨rfl, rfl, rfl, rfl⟩ ⟨by decide, by decide⟩ (Nat.le_of_ble_eq_true rfl) (zall_0 z48 (zall_0 z18 zall_n)) ?_
                  refine ⟨_, _, rfl, g92, fun r87 M88 p91 z90 hR89 => ?_⟩
                  have h := h r87 M88 p91 z90 hR89
                  show zV Γ mu_X12_findFew (145, 0, 0) 93 [(0, zRf (zad Γ) 103), (1, zI a1), (2, zI r1), (3, zI v17), (4, zI v45), (5, zI v46)] [zI r87, zRf (zad Γ) 105, zI (M49 128 v46), zI v45] M88
                  obtain ⟨o93, h⟩ := h
                  refine zr_iald C ai_105 o93 (zdec_at dm_X12_findFew 52 rfl) ?_
                  refine zr_aload_n C 0 rfl (zdec_at dm_X12_findFew 53 rfl) rfl ?_
                  refine zr_getr (q := 105) C fk_RX12_20 fi_103_4 (zdec_at dm_X12_findFew 54 rfl) ?_
                  refine zr_iload C 5 rfl (zdec_at dm_X12_findFew 55 rfl) ?_
                  refine zr_iald C ai_105 o85 (zdec_at dm_X12_findFew 56 rfl) ?_
                  refine zr_isub C (zdec_at dm_X12_findFew 57 rfl) ?_
                  obtain ⟨o94, h⟩ := h
                  obtain ⟨g100, h⟩ := h
                  refine zr_callS C [((M88 105 r87) - (M88 105 v46))] hS_X12_square ck_RX12_388 sv_X12_square rfl rfl (zdec_at dm_X12_findFew 58 rfl) ⟨rfl, rfl, rfl, rfl⟩ ⟨by decide, by decide⟩ (Nat.le_of_ble_eq_true rfl) (zall_0 o94 zall_n) ?_
                  refine ⟨_, rfl, g100, fun r95 M96 p99 z98 hR97 => ?_⟩
                  have h := h r95 M96 p99 z98 hR97
                  show zV Γ mu_X12_findFew (145, 0, 0) 105 [(0, zRf (zad Γ) 103), (1, zI a1), (2, zI r1), (3, zI v17), (4, zI v45), (5, zI v46)] [zI r95, zI (M49 128 v46), zI v45] M96
                  refine zr_imul C (zdec_at dm_X12_findFew 59 rfl) ?_
                  refine zr_iadd C (zdec_at dm_X12_findFew 60 rfl) ?_
                  refine zr_istore (L1 := [(4, zI (v45 + ((M49 128 v46) * r95))), (0, zRf (zad Γ) 103), (1, zI a1), (2, zI r1), (3, zI v17), (5, zI v46)]) C (zdec_at dm_X12_findFew 61 rfl) (Nat.le_of_ble_eq_true rfl) rfl ?_
                  refine zr_iinc (L1 := [(5, zI (v46 + 1)), (4, zI (v45 + ((M49 128 v46) * r95))), (0, zRf (zad Γ) 103), (1, zI a1), (2, zI r1), (3, zI v17)]) C 5 rfl (zdec_at dm_X12_findFew 62 rfl) (Nat.le_of_ble_eq_true rfl) rfl ?_
                  refine zr_goto C (zdec_at dm_X12_findFew 63 rfl) rfl ?_
                  obtain ⟨o101, h⟩ := h
                  obtain ⟨o102, h⟩ := h
                  obtain ⟨n103, q104, q105⟩ := h
                  exact zr_sub [2, 3, 4, 5, 1, 0] rfl (ih52 n103 q104 _ _ _ q105 o101 o102 hR97)
                · have h := h.2 g86
                  refine zr_iconst C (zdec_at dm_X12_findFew 40 rfl) ?_
                  refine zr_goto C (zdec_at dm_X12_findFew 41 rfl) rfl ?_
                  refine zr_iadd C (zdec_at dm_X12_findFew 60 rfl) ?_
                  refine zr_istore (L1 := [(4, zI (v45 + 0)), (0, zRf (zad Γ) 103), (1, zI a1), (2, zI r1), (3, zI v17), (5, zI v46)]) C (zdec_at dm_X12_findFew 61 rfl) (Nat.le_of_ble_eq_true rfl) rfl ?_
                  refine zr_iinc (L1 := [(5, zI (v46 + 1)), (4, zI (v45 + 0)), (0, zRf (zad Γ) 103), (1, zI a1), (2, zI r1), (3, zI v17)]) C 5 rfl (zdec_at dm_X12_findFew 62 rfl) (Nat.le_of_ble_eq_true rfl) rfl ?_
                  refine zr_goto C (zdec_at dm_X12_findFew 63 rfl) rfl ?_
                  obtain ⟨o106, h⟩ := h
                  obtain ⟨o107, h⟩ := h
                  obtain ⟨n108, q109, q110⟩ := h
                  exact zr_sub [2, 3, 4, 5, 1, 0] rfl (ih52 n108 q109 _ _ _ q110 o106 o107 hR50)
            exact zr_sub [2, 3, 4, 5, 1, 0] rfl (lp53 n55 _ _ _ q56 (by decide) (by decide) hR36)
    exact zr_sub [2, 3, 1, 0] rfl (lp23 n25 _ _ q26 (by decide) hR16)
  · have h := h.2 g13
    refine zr_iconst C (zdec_at dm_X12_findFew 7 rfl) ?_
    exact zr_zreturn C rfl (by decide) (zdec_at dm_X12_findFew 8 rfl) rfl ⟨(by decide), h⟩

set_option maxHeartbeats 400000 in
set_option maxRecDepth 100000 in
theorem sn_X12_few {pr_X12_in : Int → Int → Int → zM → Prop} {po_X12_in : Int → Int → Int → zM → Int → zM → Prop} {pr_X12_findFew : Int → zM → Prop} {po_X12_findFew : Int → zM → Int → zM → Prop} (hS_X12_in : zSnd zS 145 0 0 yX12_in cX12_in 6 (some .boolean) 0 [1, 1, 1] (F_X12_in pr_X12_in po_X12_in)) (hS_X12_findFew : zSnd zS 145 0 0 yX12_findFew cX12_findFew 6 (some .boolean) 2 [2, 0] (F_X12_findFew pr_X12_findFew po_X12_findFew)) : zSnd zS 145 0 0 yX12_few cX12_few 3 (some .int) 3 [2, 0, 0] (fun xs P M => ∃ a1 a2 : Int, xs = [103, a1, a2] ∧ vc_X12_few pr_X12_in po_X12_in pr_X12_findFew po_X12_findFew a1 a2 P M) := by
  refine zSnd.of rfl (fun ad xs hz => Nat.le_trans (Nat.le_of_eq (zlen ad _ xs hz)) (by decide)) ?_
  intro Γ C _ _ xs M hz hF
  obtain ⟨a1, a2, rfl, h⟩ := hF
  have zz_a1 := zall_h (zall_t hz) (by decide)
  have zz_a2 := zall_h (zall_t (zall_t hz)) (by decide)
  refine zr_rng (fun hR => ?_)
  have C : zC Γ mu_X12_few := C
  change zV Γ mu_X12_few (145, 0, 0) 0 [(0, zRf (zad Γ) 103), (1, zI a1), (2, zI a2)] [] M
  change vc_X12_few pr_X12_in po_X12_in pr_X12_findFew po_X12_findFew a1 a2 _ M at h
  unfold vc_X12_few at h
  refine zr_aload_n C 0 rfl (zdec_at dm_X12_few 0 rfl) rfl ?_
  refine zr_iconst C (zdec_at dm_X12_few 1 rfl) ?_
  refine zr_puti C fk_RX12_140 fi_103_0 (by decide) (zdec_at dm_X12_few 2 rfl) (fun M1 e2 => ?_)
  have h := h M1 e2
  have hR3 : zRng M1 := by rw [e2]; exact hR.set (by decide) _ _
  refine zr_iload_n C 1 rfl (zdec_at dm_X12_few 3 rfl) rfl ?_
  refine zr_i2l C zz_a1 (zdec_at dm_X12_few 4 rfl) ?_
  refine zr_lconst (v := 1) C (zdec_at dm_X12_few 5 rfl) rfl ?_
  refine zr_ldc2 C (zdec_at dm_X12_few 6 rfl) kc_RX12_407 ?_
  obtain ⟨g9, h⟩ := h
  refine zr_callS C [a1, 1, 4] hS_X12_in ck_RX12_156 sv_X12_in rfl rfl (zdec_at dm_X12_few 7 rfl) ⟨rfl, rfl, rfl, rfl⟩ ⟨by decide, by decide⟩ (Nat.le_of_ble_eq_true rfl) (zall_1 zz_a1 (zall_1 (by decide) (zall_1 (by decide) zall_n))) ?_
  refine ⟨_, _, _, rfl, g9, fun r4 M5 p8 z7 hR6 => ?_⟩
  have h := h r4 M5 p8 z7 hR6
  show zV Γ mu_X12_few (145, 0, 0) 14 [(0, zRf (zad Γ) 103), (1, zI a1), (2, zI a2)] [zI r4] M5
  refine zr_if_eq C z7 (zdec_at dm_X12_few 8 rfl) rfl (fun g10 => ?_) (fun g10 => ?_)
  · have h := h.1 g10
    refine zr_iconst C (zdec_at dm_X12_few 15 rfl) ?_
    exact zr_ireturn C rfl (zdec_at dm_X12_few 16 rfl) rfl ⟨(by decide), h⟩
  · have h := h.2 g10
    refine zr_iload_n C 2 rfl (zdec_at dm_X12_few 9 rfl) rfl ?_
    refine zr_i2l C zz_a2 (zdec_at dm_X12_few 10 rfl) ?_
    refine zr_lconst (v := 0) C (zdec_at dm_X12_few 11 rfl) rfl ?_
    refine zr_lconst (v := 1) C (zdec_at dm_X12_few 12 rfl) rfl ?_
    obtain ⟨g16, h⟩ := h
    refine zr_callS C [a2, 0, 1] hS_X12_in ck_RX12_156 sv_X12_in rfl rfl (zdec_at dm_X12_few 13 rfl) ⟨rfl, rfl, rfl, rfl⟩ ⟨by decide, by decide⟩ (Nat.le_of_ble_eq_true rfl) (zall_1 zz_a2 (zall_1 (by decide) (zall_1 (by decide) zall_n))) ?_
    refine ⟨_, _, _, rfl, g16, fun r11 M12 p15 z14 hR13 => ?_⟩
    have h := h r11 M12 p15 z14 hR13
    show zV Γ mu_X12_few (145, 0, 0) 24 [(0, zRf (zad Γ) 103), (1, zI a1), (2, zI a2)] [zI r11] M12
    refine zr_if_ne C z14 (zdec_at dm_X12_few 14 rfl) rfl (fun g17 => ?_) (fun g17 => ?_)
    · have h := h.1 g17
      refine zr_aload_n C 0 rfl (zdec_at dm_X12_few 17 rfl) rfl ?_
      refine zr_iload_n C 1 rfl (zdec_at dm_X12_few 18 rfl) rfl ?_
      obtain ⟨g23, h⟩ := h
      refine zr_callV C [a1] hS_X12_findFew ck_RX12_409 iv_X12_findFew vc_X12 oc_103 rfl rfl (zdec_at dm_X12_few 19 rfl) ⟨rfl, rfl, rfl, rfl⟩ ⟨by decide, by decide⟩ (Nat.le_of_ble_eq_true rfl) (zall_0 zz_a1 zall_n) ?_
      refine ⟨_, rfl, g23, fun r18 M19 p22 z21 hR20 => ?_⟩
      have h := h r18 M19 p22 z21 hR20
      show zV Γ mu_X12_few (145, 0, 0) 34 [(0, zRf (zad Γ) 103), (1, zI a1), (2, zI a2)] [zI r18] M19
      refine zr_if_ne C z21 (zdec_at dm_X12_few 20 rfl) rfl (fun g24 => ?_) (fun g24 => ?_)
      · have h := h.1 g24
        refine zr_iload_n C 2 rfl (zdec_at dm_X12_few 23 rfl) rfl ?_
        refine zr_if_ne C zz_a2 (zdec_at dm_X12_few 24 rfl) rfl (fun g25 => ?_) (fun g25 => ?_)
        · have h := h.1 g25
          refine zr_aload_n C 0 rfl (zdec_at dm_X12_few 28 rfl) rfl ?_
          refine zr_geti C fk_RX12_397 fi_103_52 (zdec_at dm_X12_few 29 rfl) ?_
          exact zr_ireturn C rfl (zdec_at dm_X12_few 30 rfl) rfl ⟨(hR20 _ _), h⟩
        · have h := h.2 g25
          refine zr_aload_n C 0 rfl (zdec_at dm_X12_few 25 rfl) rfl ?_
          refine zr_geti C fk_RX12_404 fi_103_53 (zdec_at dm_X12_few 26 rfl) ?_
          refine zr_goto C (zdec_at dm_X12_few 27 rfl) rfl ?_
          exact zr_ireturn C rfl (zdec_at dm_X12_few 30 rfl) rfl ⟨(hR20 _ _), h⟩
      · have h := h.2 g24
        refine zr_bipush C (zdec_at dm_X12_few 21 rfl) (by decide) ?_
        refine zr_goto C (zdec_at dm_X12_few 22 rfl) rfl ?_
        exact zr_ireturn C rfl (zdec_at dm_X12_few 30 rfl) rfl ⟨(by decide), h⟩
    · have h := h.2 g17
      refine zr_iconst C (zdec_at dm_X12_few 15 rfl) ?_
      exact zr_ireturn C rfl (zdec_at dm_X12_few 16 rfl) rfl ⟨(by decide), h⟩

set_option maxHeartbeats 400000 in
set_option maxRecDepth 100000 in
theorem sn_X12_makeFew {pr_X12_in : Int → Int → Int → zM → Prop} {po_X12_in : Int → Int → Int → zM → Int → zM → Prop} {pr_X12_findFew : Int → zM → Prop} {po_X12_findFew : Int → zM → Int → zM → Prop} {pr_X12_copyDots : zM → Prop} {po_X12_copyDots : zM → zM → Prop} {pr_X12_change : zM → Prop} {po_X12_change : zM → Int → zM → Prop} {pr_X12_isDot : Int → zM → Prop} {po_X12_isDot : Int → zM → Int → zM → Prop} {pr_X12_nearestOf : Int → Int → zM → Prop} {po_X12_nearestOf : Int → Int → zM → Int → zM → Prop} (hS_X12_in : zSnd zS 145 0 0 yX12_in cX12_in 6 (some .boolean) 0 [1, 1, 1] (F_X12_in pr_X12_in po_X12_in)) (hS_X12_findFew : zSnd zS 145 0 0 yX12_findFew cX12_findFew 6 (some .boolean) 2 [2, 0] (F_X12_findFew pr_X12_findFew po_X12_findFew)) (hS_X12_copyDots : zSnd zS 145 0 0 yX12_copyDots cX12_copyDots 2 none 0 [2] (F_X12_copyDots pr_X12_copyDots po_X12_copyDots)) (hS_X12_change : zSnd zS 145 0 0 yX12_change cX12_change 3 (some .int) 0 [2] (F_X12_change pr_X12_change po_X12_change)) (hS_X12_isDot : zSnd zS 145 0 0 yX12_isDot cX12_isDot 2 (some .boolean) 0 [2, 0] (F_X12_isDot pr_X12_isDot po_X12_isDot)) (hS_X12_nearestOf : zSnd zS 145 0 0 yX12_nearestOf cX12_nearestOf 6 (some .int) 1 [2, 0, 0] (F_X12_nearestOf pr_X12_nearestOf po_X12_nearestOf)) : zSnd zS 145 0 0 yX12_makeFew cX12_makeFew 3 (some .int) 3 [2, 0] (fun xs P M => ∃ a1 : Int, xs = [103, a1] ∧ vc_X12_makeFew pr_X12_in po_X12_in pr_X12_findFew po_X12_findFew pr_X12_copyDots po_X12_copyDots pr_X12_change po_X12_change pr_X12_isDot po_X12_isDot pr_X12_nearestOf po_X12_nearestOf a1 P M) := by
  refine zSnd.of rfl (fun ad xs hz => Nat.le_trans (Nat.le_of_eq (zlen ad _ xs hz)) (by decide)) ?_
  intro Γ C _ _ xs M hz hF
  obtain ⟨a1, rfl, h⟩ := hF
  have zz_a1 := zall_h (zall_t hz) (by decide)
  refine zr_rng (fun hR => ?_)
  have C : zC Γ mu_X12_makeFew := C
  change zV Γ mu_X12_makeFew (145, 0, 0) 0 [(0, zRf (zad Γ) 103), (1, zI a1)] [] M
  change vc_X12_makeFew pr_X12_in po_X12_in pr_X12_findFew po_X12_findFew pr_X12_copyDots po_X12_copyDots pr_X12_change po_X12_change pr_X12_isDot po_X12_isDot pr_X12_nearestOf po_X12_nearestOf a1 _ M at h
  unfold vc_X12_makeFew at h
  refine zr_aload_n C 0 rfl (zdec_at dm_X12_makeFew 0 rfl) rfl ?_
  refine zr_iconst C (zdec_at dm_X12_makeFew 1 rfl) ?_
  refine zr_puti C fk_RX12_140 fi_103_0 (by decide) (zdec_at dm_X12_makeFew 2 rfl) (fun M1 e2 => ?_)
  have h := h M1 e2
  have hR3 : zRng M1 := by rw [e2]; exact hR.set (by decide) _ _
  refine zr_iload_n C 1 rfl (zdec_at dm_X12_makeFew 3 rfl) rfl ?_
  refine zr_i2l C zz_a1 (zdec_at dm_X12_makeFew 4 rfl) ?_
  refine zr_lconst (v := 1) C (zdec_at dm_X12_makeFew 5 rfl) rfl ?_
  refine zr_ldc2 C (zdec_at dm_X12_makeFew 6 rfl) kc_RX12_407 ?_
  obtain ⟨g9, h⟩ := h
  refine zr_callS C [a1, 1, 4] hS_X12_in ck_RX12_156 sv_X12_in rfl rfl (zdec_at dm_X12_makeFew 7 rfl) ⟨rfl, rfl, rfl, rfl⟩ ⟨by decide, by decide⟩ (Nat.le_of_ble_eq_true rfl) (zall_1 zz_a1 (zall_1 (by decide) (zall_1 (by decide) zall_n))) ?_
  refine ⟨_, _, _, rfl, g9, fun r4 M5 p8 z7 hR6 => ?_⟩
  have h := h r4 M5 p8 z7 hR6
  show zV Γ mu_X12_makeFew (145, 0, 0) 14 [(0, zRf (zad Γ) 103), (1, zI a1)] [zI r4] M5
  refine zr_if_ne C z7 (zdec_at dm_X12_makeFew 8 rfl) rfl (fun g10 => ?_) (fun g10 => ?_)
  · have h := h.1 g10
    refine zr_aload_n C 0 rfl (zdec_at dm_X12_makeFew 11 rfl) rfl ?_
    refine zr_iload_n C 1 rfl (zdec_at dm_X12_makeFew 12 rfl) rfl ?_
    obtain ⟨g16, h⟩ := h
    refine zr_callV C [a1] hS_X12_findFew ck_RX12_409 iv_X12_findFew vc_X12 oc_103 rfl rfl (zdec_at dm_X12_makeFew 13 rfl) ⟨rfl, rfl, rfl, rfl⟩ ⟨by decide, by decide⟩ (Nat.le_of_ble_eq_true rfl) (zall_0 zz_a1 zall_n) ?_
    refine ⟨_, rfl, g16, fun r11 M12 p15 z14 hR13 => ?_⟩
    have h := h r11 M12 p15 z14 hR13
    show zV Γ mu_X12_makeFew (145, 0, 0) 24 [(0, zRf (zad Γ) 103), (1, zI a1)] [zI r11] M12
    refine zr_if_ne C z14 (zdec_at dm_X12_makeFew 14 rfl) rfl (fun g17 => ?_) (fun g17 => ?_)
    · have h := h.1 g17
      refine zr_aload_n C 0 rfl (zdec_at dm_X12_makeFew 17 rfl) rfl ?_
      obtain ⟨g22, h⟩ := h
      refine zr_callV C [] hS_X12_copyDots ck_RX12_216 iv_X12_copyDots vc_X12 oc_103 rfl rfl (zdec_at dm_X12_makeFew 18 rfl) ⟨rfl, rfl, rfl, rfl⟩ ⟨by decide, by decide⟩ (Nat.le_of_ble_eq_true rfl) zall_n ?_
      refine ⟨rfl, g22, fun M18 p21 _ hR19 => ?_⟩
      have h := h M18 p21 hR19
      show zV Γ mu_X12_makeFew (145, 0, 0) 34 [(0, zRf (zad Γ) 103), (1, zI a1)] [] M18
      refine zr_iconst C (zdec_at dm_X12_makeFew 19 rfl) ?_
      refine zr_istore_n (L1 := [(2, zI 0), (0, zRf (zad Γ) 103), (1, zI a1)]) C (zdec_at dm_X12_makeFew 20 rfl) rfl (Nat.le_of_ble_eq_true rfl) rfl ?_
      obtain ⟨I36, ⟨n31, q32⟩, hI30⟩ := h
      have lp29 : ∀ (n27 : Nat) (v23 : Int) (M25 : zM), I36 v23 M25 n27 → zin v23 → zRng M25 → zV Γ mu_X12_makeFew (145, 0, 0) 36 [(0, zRf (zad Γ) 103), (2, zI v23)] [] M25 := by
        intro n27
        induction n27 using Nat.strongRecOn with
        | _ n27 ih28 =>
        intro v23 M25 q33 z24 hR26
        have h := hI30 v23 M25 n27 q33 z24 hR26
        refine zr_iload_n C 1 rfl (zdec_at dm_X12_makeFew 21 rfl) rfl ?_
        refine zr_sipush C (zdec_at dm_X12_makeFew 22 rfl) (by decide) ?_
        refine zr_icmp_ge C z24 (by decide) (zdec_at dm_X12_makeFew 23 rfl) rfl (fun g34 => ?_) (fun g34 => ?_)
        · have h := h.1 g34
          refine zr_aload_n C 0 rfl (zdec_at dm_X12_makeFew 47 rfl) rfl ?_
          obtain ⟨g40, h⟩ := h
          refine zr_callV C [] hS_X12_change ck_RX12_219 iv_X12_change vc_X12 oc_103 rfl rfl (zdec_at dm_X12_makeFew 48 rfl) ⟨rfl, rfl, rfl, rfl⟩ ⟨by decide, by decide⟩ (Nat.le_of_ble_eq_true rfl) zall_n ?_
          refine ⟨rfl, g40, fun r35 M36 p39 z38 hR37 => ?_⟩
          have h := h r35 M36 p39 z38 hR37
          show zV Γ mu_X12_makeFew (145, 0, 0) 90 [(0, zRf (zad Γ) 103), (2, zI v23)] [zI r35] M36
          exact zr_ireturn C rfl (zdec_at dm_X12_makeFew 49 rfl) rfl ⟨z38, h⟩
        · have h := h.2 g34
          refine zr_aload_n C 0 rfl (zdec_at dm_X12_makeFew 24 rfl) rfl ?_
          refine zr_getr (q := 114) C fk_RX12_48 fi_103_28 (zdec_at dm_X12_makeFew 25 rfl) ?_
          refine zr_iload_n C 1 rfl (zdec_at dm_X12_makeFew 26 rfl) rfl ?_
          refine zr_aload_n C 0 rfl (zdec_at dm_X12_makeFew 27 rfl) rfl ?_
          refine zr_iload_n C 1 rfl (zdec_at dm_X12_makeFew 28 rfl) rfl ?_
          obtain ⟨g46, h⟩ := h
          refine zr_callV C [v23] hS_X12_isDot ck_RX12_202 iv_X12_isDot vc_X12 oc_103 rfl rfl (zdec_at dm_X12_makeFew 29 rfl) ⟨rfl, rfl, rfl, rfl⟩ ⟨by decide, by decide⟩ (Nat.le_of_ble_eq_true rfl) (zall_0 z24 zall_n) ?_
          refine ⟨_, rfl, g46, fun r41 M42 p45 z44 hR43 => ?_⟩
          have h := h r41 M42 p45 z44 hR43
          show zV Γ mu_X12_makeFew (145, 0, 0) 53 [(0, zRf (zad Γ) 103), (2, zI v23)] [zI r41, zI v23, zRf (zad Γ) 114] M42
          refine zr_if_eq C z44 (zdec_at dm_X12_makeFew 30 rfl) rfl (fun g47 => ?_) (fun g47 => ?_)
          · have h := h.1 g47
            refine zr_aload_n C 0 rfl (zdec_at dm_X12_makeFew 40 rfl) rfl ?_
            refine zr_getr (q := 114) C fk_RX12_48 fi_103_28 (zdec_at dm_X12_makeFew 41 rfl) ?_
            refine zr_iload_n C 1 rfl (zdec_at dm_X12_makeFew 42 rfl) rfl ?_
            obtain ⟨o48, h⟩ := h
            refine zr_iald C ai_114 o48 (zdec_at dm_X12_makeFew 43 rfl) ?_
            refine zr_iast C ai_114 o48 (hR43 _ _) (zdec_at dm_X12_makeFew 44 rfl) (fun M49 e50 => ?_)
            have h := h M49 e50
            have hR51 : zRng M49 := by rw [e50]; exact hR43.set (hR43 _ _) _ _
            refine zr_iinc (L1 := [(2, zI (v23 + 1)), (0, zRf (zad Γ) 103)]) C 1 rfl (zdec_at dm_X12_makeFew 45 rfl) (Nat.le_of_ble_eq_true rfl) rfl ?_
            refine zr_goto C (zdec_at dm_X12_makeFew 46 rfl) rfl ?_
            obtain ⟨o52, h⟩ := h
            obtain ⟨n53, q54, q55⟩ := h
            exact zr_sub [1, 0] rfl (ih28 n53 q54 _ _ q55 o52 hR51)
          · have h := h.2 g47
            refine zr_aload_n C 0 rfl (zdec_at dm_X12_makeFew 31 rfl) rfl ?_
            refine zr_aload_n C 0 rfl (zdec_at dm_X12_makeFew 32 rfl) rfl ?_
            refine zr_getr (q := 104) C fk_RX12_16 fi_103_3 (zdec_at dm_X12_makeFew 33 rfl) ?_
            refine zr_iload_n C 1 rfl (zdec_at dm_X12_makeFew 34 rfl) rfl ?_
            obtain ⟨o56, h⟩ := h
            refine zr_iald C ai_104 o56 (zdec_at dm_X12_makeFew 35 rfl) ?_
            refine zr_aload_n C 0 rfl (zdec_at dm_X12_makeFew 36 rfl) rfl ?_
            refine zr_geti C fk_RX12_397 fi_103_52 (zdec_at dm_X12_makeFew 37 rfl) ?_
            obtain ⟨g62, h⟩ := h
            refine zr_callV C [(M42 104 v23), (M42 103 52)] hS_X12_nearestOf ck_RX12_401 iv_X12_nearestOf vc_X12 oc_103 rfl rfl (zdec_at dm_X12_makeFew 38 rfl) ⟨rfl, rfl, rfl, rfl⟩ ⟨by decide, by decide⟩ (Nat.le_of_ble_eq_true rfl) (zall_0 (hR43 _ _) (zall_0 (hR43 _ _) zall_n)) ?_
            refine ⟨_, _, rfl, g62, fun r57 M58 p61 z60 hR59 => ?_⟩
            have h := h r57 M58 p61 z60 hR59
            show zV Γ mu_X12_makeFew (145, 0, 0) 70 [(0, zRf (zad Γ) 103), (2, zI v23)] [zI r57, zI v23, zRf (zad Γ) 114] M58
            refine zr_goto C (zdec_at dm_X12_makeFew 39 rfl) rfl ?_
            refine zr_iast C ai_114 o56 z60 (zdec_at dm_X12_makeFew 44 rfl) (fun M63 e64 => ?_)
            have h := h M63 e64
            have hR65 : zRng M63 := by rw [e64]; exact hR59.set z60 _ _
            refine zr_iinc (L1 := [(2, zI (v23 + 1)), (0, zRf (zad Γ) 103)]) C 1 rfl (zdec_at dm_X12_makeFew 45 rfl) (Nat.le_of_ble_eq_true rfl) rfl ?_
            refine zr_goto C (zdec_at dm_X12_makeFew 46 rfl) rfl ?_
            obtain ⟨o66, h⟩ := h
            obtain ⟨n67, q68, q69⟩ := h
            exact zr_sub [1, 0] rfl (ih28 n67 q68 _ _ q69 o66 hR65)
      exact zr_sub [1, 0] rfl (lp29 n31 _ _ q32 (by decide) hR19)
    · have h := h.2 g17
      refine zr_bipush C (zdec_at dm_X12_makeFew 15 rfl) (by decide) ?_
      exact zr_ireturn C rfl (zdec_at dm_X12_makeFew 16 rfl) rfl ⟨(by decide), h⟩
  · have h := h.2 g10
    refine zr_iconst C (zdec_at dm_X12_makeFew 9 rfl) ?_
    exact zr_ireturn C rfl (zdec_at dm_X12_makeFew 10 rfl) rfl ⟨(by decide), h⟩

set_option maxHeartbeats 400000 in
set_option maxRecDepth 100000 in
theorem sn_X12_moveTo : zSnd zS 145 0 0 yX12_moveTo cX12_moveTo 6 (some .int) 0 [2, 0, 0, 0] (fun xs P M => ∃ a1 a2 a3 : Int, xs = [103, a1, a2, a3] ∧ vc_X12_moveTo a1 a2 a3 P M) := by
  refine zSnd.of rfl (fun ad xs hz => Nat.le_trans (Nat.le_of_eq (zlen ad _ xs hz)) (by decide)) ?_
  intro Γ C _ _ xs M hz hF
  obtain ⟨a1, a2, a3, rfl, h⟩ := hF
  have zz_a1 := zall_h (zall_t hz) (by decide)
  have zz_a2 := zall_h (zall_t (zall_t hz)) (by decide)
  have zz_a3 := zall_h (zall_t (zall_t (zall_t hz))) (by decide)
  refine zr_rng (fun hR => ?_)
  have C : zC Γ mu_X12_moveTo := C
  change zV Γ mu_X12_moveTo (145, 0, 0) 0 [(0, zRf (zad Γ) 103), (1, zI a1), (2, zI a2), (3, zI a3)] [] M
  change vc_X12_moveTo a1 a2 a3 _ M at h
  unfold vc_X12_moveTo at h
  refine zr_aload_n C 0 rfl (zdec_at dm_X12_moveTo 0 rfl) rfl ?_
  refine zr_getr (q := 116) C fk_RX12_54 fi_103_31 (zdec_at dm_X12_moveTo 1 rfl) ?_
  refine zr_iload_n C 3 rfl (zdec_at dm_X12_moveTo 2 rfl) rfl ?_
  obtain ⟨o1, h⟩ := h
  refine zr_iald C ai_116 o1 (zdec_at dm_X12_moveTo 3 rfl) ?_
  refine zr_bipush C (zdec_at dm_X12_moveTo 4 rfl) (by decide) ?_
  obtain ⟨o2, h⟩ := h
  refine zr_irem C (hR _ _) (by decide) ⟨o2, by decide⟩ (zdec_at dm_X12_moveTo 5 rfl) ?_
  refine zr_iload_n C 1 rfl (zdec_at dm_X12_moveTo 6 rfl) rfl ?_
  refine zr_isub C (zdec_at dm_X12_moveTo 7 rfl) ?_
  refine zr_istore (L1 := [(4, zI (((M 116 a3) % 16) - a1)), (0, zRf (zad Γ) 103), (1, zI a1), (2, zI a2), (3, zI a3)]) C (zdec_at dm_X12_moveTo 8 rfl) (Nat.le_of_ble_eq_true rfl) rfl ?_
  refine zr_aload_n C 1 rfl (zdec_at dm_X12_moveTo 9 rfl) rfl ?_
  refine zr_getr (q := 116) C fk_RX12_54 fi_103_31 (zdec_at dm_X12_moveTo 10 rfl) ?_
  refine zr_iload_n C 4 rfl (zdec_at dm_X12_moveTo 11 rfl) rfl ?_
  refine zr_iald C ai_116 o1 (zdec_at dm_X12_moveTo 12 rfl) ?_
  refine zr_bipush C (zdec_at dm_X12_moveTo 13 rfl) (by decide) ?_
  refine zr_idiv C (hR _ _) (by decide) ⟨o2, by decide⟩ (zdec_at dm_X12_moveTo 14 rfl) ?_
  refine zr_iload_n C 3 rfl (zdec_at dm_X12_moveTo 15 rfl) rfl ?_
  refine zr_isub C (zdec_at dm_X12_moveTo 16 rfl) ?_
  refine zr_istore (L1 := [(5, zI (((M 116 a3) / 16) - a2)), (4, zI (((M 116 a3) % 16) - a1)), (0, zRf (zad Γ) 103), (1, zI a1), (2, zI a2), (3, zI a3)]) C (zdec_at dm_X12_moveTo 17 rfl) (Nat.le_of_ble_eq_true rfl) rfl ?_
  refine zr_iload C 1 rfl (zdec_at dm_X12_moveTo 18 rfl) ?_
  have h := h (fun v3 => zin v3 → zV Γ mu_X12_moveTo (145, 0, 0) 39 [(5, zI (((M 116 a3) / 16) - a2))] [zI v3] M) (fun v3 h z4 => by
    have h := h z4
    refine zr_iload C 0 rfl (zdec_at dm_X12_moveTo 24 rfl) ?_
    obtain ⟨o5, h⟩ := h
    refine zr_if_ge C o5 (zdec_at dm_X12_moveTo 25 rfl) rfl (fun g6 => ?_) (fun g6 => ?_)
    · have h := h.1 g6
      refine zr_iload C 0 rfl (zdec_at dm_X12_moveTo 29 rfl) ?_
      refine zr_iadd C (zdec_at dm_X12_moveTo 30 rfl) ?_
      obtain ⟨o7, h⟩ := h
      exact zr_ireturn C rfl (zdec_at dm_X12_moveTo 31 rfl) rfl ⟨o7, h⟩
    · have h := h.2 g6
      refine zr_iload C 0 rfl (zdec_at dm_X12_moveTo 26 rfl) ?_
      refine zr_ineg C (zdec_at dm_X12_moveTo 27 rfl) ?_
      refine zr_goto C (zdec_at dm_X12_moveTo 28 rfl) rfl ?_
      refine zr_iadd C (zdec_at dm_X12_moveTo 30 rfl) ?_
      obtain ⟨o8, h⟩ := h
      exact zr_ireturn C rfl (zdec_at dm_X12_moveTo 31 rfl) rfl ⟨o8, h⟩)
  obtain ⟨o9, h⟩ := h
  refine zr_if_ge C o9 (zdec_at dm_X12_moveTo 19 rfl) rfl (fun g10 => ?_) (fun g10 => ?_)
  · have h := h.1 g10
    refine zr_iload C 1 rfl (zdec_at dm_X12_moveTo 23 rfl) ?_
    exact zr_sub [0] rfl (h o9)
  · have h := h.2 g10
    refine zr_iload C 1 rfl (zdec_at dm_X12_moveTo 20 rfl) ?_
    refine zr_ineg C (zdec_at dm_X12_moveTo 21 rfl) ?_
    refine zr_goto C (zdec_at dm_X12_moveTo 22 rfl) rfl ?_
    obtain ⟨o11, h⟩ := h
    exact zr_sub [0] rfl (h o11)

set_option maxHeartbeats 400000 in
set_option maxRecDepth 100000 in
theorem sn_X12_findPen {pr_X12_moveTo : Int → Int → Int → zM → Prop} {po_X12_moveTo : Int → Int → Int → zM → Int → zM → Prop} (hS_X12_moveTo : zSnd zS 145 0 0 yX12_moveTo cX12_moveTo 6 (some .int) 0 [2, 0, 0, 0] (F_X12_moveTo pr_X12_moveTo po_X12_moveTo)) : zSnd zS 145 0 0 yX12_findPen cX12_findPen 10 (some .int) 1 [2] (fun xs P M => xs = [103] ∧ vc_X12_findPen pr_X12_moveTo po_X12_moveTo P M) := by
  refine zSnd.of rfl (fun ad xs hz => Nat.le_trans (Nat.le_of_eq (zlen ad _ xs hz)) (by decide)) ?_
  intro Γ C _ _ xs M hz hF
  obtain ⟨rfl, h⟩ := hF
  refine zr_rng (fun hR => ?_)
  have C : zC Γ mu_X12_findPen := C
  change zV Γ mu_X12_findPen (145, 0, 0) 0 [(0, zRf (zad Γ) 103)] [] M
  change vc_X12_findPen pr_X12_moveTo po_X12_moveTo _ M at h
  unfold vc_X12_findPen at h
  refine zr_iconst C (zdec_at dm_X12_findPen 0 rfl) ?_
  refine zr_istore_n (L1 := [(1, zI (-1)), (0, zRf (zad Γ) 103)]) C (zdec_at dm_X12_findPen 1 rfl) rfl (Nat.le_of_ble_eq_true rfl) rfl ?_
  refine zr_iconst C (zdec_at dm_X12_findPen 2 rfl) ?_
  refine zr_istore_n (L1 := [(2, zI 1), (1, zI (-1)), (0, zRf (zad Γ) 103)]) C (zdec_at dm_X12_findPen 3 rfl) rfl (Nat.le_of_ble_eq_true rfl) rfl ?_
  refine zr_iconst C (zdec_at dm_X12_findPen 4 rfl) ?_
  refine zr_istore_n (L1 := [(3, zI 0), (2, zI 1), (1, zI (-1)), (0, zRf (zad Γ) 103)]) C (zdec_at dm_X12_findPen 5 rfl) rfl (Nat.le_of_ble_eq_true rfl) rfl ?_
  obtain ⟨I6, ⟨n9, q10⟩, hI8⟩ := h
  have lp7 : ∀ (n5 : Nat) (v1 : Int) (v2 : Int), I6 v1 v2 n5 → zin v1 → zin v2 → zV Γ mu_X12_findPen (145, 0, 0) 6 [(0, zRf (zad Γ) 103), (1, zI (-1)), (2, zI v1), (3, zI v2)] [] M := by
    intro n5
    induction n5 using Nat.strongRecOn with
    | _ n5 ih6 =>
    intro v1 v2 q11 z3 z4
    have h := hI8 v1 v2 n5 q11 z3 z4
    refine zr_iload_n C 3 rfl (zdec_at dm_X12_findPen 6 rfl) rfl ?_
    refine zr_aload_n C 0 rfl (zdec_at dm_X12_findPen 7 rfl) rfl ?_
    refine zr_geti C fk_RX12_412 fi_103_57 (zdec_at dm_X12_findPen 8 rfl) ?_
    refine zr_icmp_ge C z4 (hR _ _) (zdec_at dm_X12_findPen 9 rfl) rfl (fun g12 => ?_) (fun g12 => ?_)
    · have h := h.1 g12
      refine zr_iconst C (zdec_at dm_X12_findPen 17 rfl) ?_
      refine zr_istore_n (L1 := [(3, zI 0), (0, zRf (zad Γ) 103), (1, zI (-1)), (2, zI v1)]) C (zdec_at dm_X12_findPen 18 rfl) rfl (Nat.le_of_ble_eq_true rfl) rfl ?_
      obtain ⟨I29, ⟨n23, q24⟩, hI22⟩ := h
      have lp21 : ∀ (n19 : Nat) (v13 : Int) (v14 : Int) (M17 : zM), I29 v13 v14 M17 n19 → zin v13 → zin v14 → zRng M17 → zV Γ mu_X12_findPen (145, 0, 0) 29 [(0, zRf (zad Γ) 103), (1, zI v13), (2, zI v1), (3, zI v14)] [] M17 := by
        intro n19
        induction n19 using Nat.strongRecOn with
        | _ n19 ih20 =>
        intro v13 v14 M17 q25 z15 z16 hR18
        have h := hI22 v13 v14 M17 n19 q25 z15 z16 hR18
        refine zr_iload_n C 3 rfl (zdec_at dm_X12_findPen 19 rfl) rfl ?_
        refine zr_iload_n C 2 rfl (zdec_at dm_X12_findPen 20 rfl) rfl ?_
        refine zr_icmp_ge C z16 z3 (zdec_at dm_X12_findPen 21 rfl) rfl (fun g26 => ?_) (fun g26 => ?_)
        · have h := h.1 g26
          refine zr_iload_n C 1 rfl (zdec_at dm_X12_findPen 138 rfl) rfl ?_
          exact zr_ireturn C rfl (zdec_at dm_X12_findPen 139 rfl) rfl ⟨z15, h⟩
        · have h := h.2 g26
          refine zr_iload_n C 3 rfl (zdec_at dm_X12_findPen 22 rfl) rfl ?_
          refine zr_istore (L1 := [(4, zI v14), (0, zRf (zad Γ) 103), (1, zI v13), (2, zI v1), (3, zI v14)]) C (zdec_at dm_X12_findPen 23 rfl) (Nat.le_of_ble_eq_true rfl) rfl ?_
          refine zr_iconst C (zdec_at dm_X12_findPen 24 rfl) ?_
          refine zr_istore (L1 := [(5, zI 0), (4, zI v14), (0, zRf (zad Γ) 103), (1, zI v13), (2, zI v1), (3, zI v14)]) C (zdec_at dm_X12_findPen 25 rfl) (Nat.le_of_ble_eq_true rfl) rfl ?_
          refine zr_aload_n C 2 rfl (zdec_at dm_X12_findPen 26 rfl) rfl ?_
          refine zr_geti C fk_RX12_412 fi_103_57 (zdec_at dm_X12_findPen 27 rfl) ?_
          refine zr_iconst C (zdec_at dm_X12_findPen 28 rfl) ?_
          refine zr_isub C (zdec_at dm_X12_findPen 29 rfl) ?_
          refine zr_istore (L1 := [(6, zI ((M17 103 57) - 1)), (5, zI 0), (4, zI v14), (0, zRf (zad Γ) 103), (1, zI v13), (2, zI v1), (3, zI v14)]) C (zdec_at dm_X12_findPen 30 rfl) (Nat.le_of_ble_eq_true rfl) rfl ?_
          obtain ⟨o30, h⟩ := h
          obtain ⟨I48, ⟨n40, q41⟩, hI39⟩ := h
          have lp38 : ∀ (n36 : Nat) (v27 : Int) (v28 : Int) (v29 : Int) (M34 : zM), I48 v27 v28 v29 M34 n36 → zin v27 → zin v28 → zin v29 → zRng M34 → zV Γ mu_X12_findPen (145, 0, 0) 48 [(0, zRf (zad Γ) 103), (1, zI v13), (2, zI v1), (3, zI v14), (4, zI v27), (5, zI v28), (6, zI v29)] [] M34 := by
            intro n36
            induction n36 using Nat.strongRecOn with
            | _ n36 ih37 =>
            intro v27 v28 v29 M34 q42 z31 z32 z33 hR35
            have h := hI39 v27 v28 v29 M34 n36 q42 z31 z32 z33 hR35
            refine zr_iload C 6 rfl (zdec_at dm_X12_findPen 31 rfl) ?_
            refine zr_if_lt C z33 (zdec_at dm_X12_findPen 32 rfl) rfl (fun g43 => ?_) (fun g43 => ?_)
            · have h := h.1 g43
              refine zr_iload C 5 rfl (zdec_at dm_X12_findPen 60 rfl) ?_
              refine zr_iconst C (zdec_at dm_X12_findPen 61 rfl) ?_
              refine zr_aload_n C 0 rfl (zdec_at dm_X12_findPen 62 rfl) rfl ?_
              refine zr_geti C fk_RX12_412 fi_103_57 (zdec_at dm_X12_findPen 63 rfl) ?_
              refine zr_ishl C (zdec_at dm_X12_findPen 64 rfl) ?_
              refine zr_iconst C (zdec_at dm_X12_findPen 65 rfl) ?_
              refine zr_isub C (zdec_at dm_X12_findPen 66 rfl) ?_
              obtain ⟨o44, h⟩ := h
              refine zr_icmp_ne C z32 o44 (zdec_at dm_X12_findPen 67 rfl) rfl (fun g45 => ?_) (fun g45 => ?_)
              · have h := h.1 g45
                refine zr_iinc (L1 := [(3, zI (v14 + 1)), (0, zRf (zad Γ) 103), (1, zI v13), (2, zI v1), (4, zI v27), (5, zI v28), (6, zI v29)]) C 3 rfl (zdec_at dm_X12_findPen 136 rfl) (Nat.le_of_ble_eq_true rfl) rfl ?_
                refine zr_goto C (zdec_at dm_X12_findPen 137 rfl) rfl ?_
                obtain ⟨o46, h⟩ := h
                obtain ⟨n47, q48, q49⟩ := h
                exact zr_sub [1, 2, 3, 0] rfl (ih20 n47 q48 _ _ _ q49 z15 o46 hR35)
              · have h := h.2 g45
                refine zr_iconst C (zdec_at dm_X12_findPen 68 rfl) ?_
                refine zr_istore (L1 := [(6, zI 0), (0, zRf (zad Γ) 103), (1, zI v13), (2, zI v1), (3, zI v14), (4, zI v27), (5, zI v28)]) C (zdec_at dm_X12_findPen 69 rfl) (Nat.le_of_ble_eq_true rfl) rfl ?_
                refine zr_iconst C (zdec_at dm_X12_findPen 70 rfl) ?_
                refine zr_istore (L1 := [(7, zI 0), (6, zI 0), (0, zRf (zad Γ) 103), (1, zI v13), (2, zI v1), (3, zI v14), (4, zI v27), (5, zI v28)]) C (zdec_at dm_X12_findPen 71 rfl) (Nat.le_of_ble_eq_true rfl) rfl ?_
                refine zr_iconst C (zdec_at dm_X12_findPen 72 rfl) ?_
                refine zr_istore (L1 := [(8, zI 0), (7, zI 0), (6, zI 0), (0, zRf (zad Γ) 103), (1, zI v13), (2, zI v1), (3, zI v14), (4, zI v27), (5, zI v28)]) C (zdec_at dm_X12_findPen 73 rfl) (Nat.le_of_ble_eq_true rfl) rfl ?_
                refine zr_iconst C (zdec_at dm_X12_findPen 74 rfl) ?_
                refine zr_istore (L1 := [(9, zI 0), (8, zI 0), (7, zI 0), (6, zI 0), (0, zRf (zad Γ) 103), (1, zI v13), (2, zI v1), (3, zI v14), (4, zI v27), (5, zI v28)]) C (zdec_at dm_X12_findPen 75 rfl) (Nat.le_of_ble_eq_true rfl) rfl ?_
                obtain ⟨I126, ⟨n64, q65⟩, hI63⟩ := h
                have lp62 : ∀ (n60 : Nat) (v50 : Int) (v51 : Int) (v52 : Int) (v53 : Int) (M58 : zM), I126 v50 v51 v52 v53 M58 n60 → zin v50 → zin v51 → zin v52 → zin v53 → zRng M58 → zV Γ mu_X12_findPen (145, 0, 0) 126 [(0, zRf (zad Γ) 103), (1, zI v13), (2, zI v1), (3, zI v14), (6, zI v50), (7, zI v51), (8, zI v52), (9, zI v53)] [] M58 := by
                  intro n60
                  induction n60 using Nat.strongRecOn with
                  | _ n60 ih61 =>
                  intro v50 v51 v52 v53 M58 q66 z54 z55 z56 z57 hR59
                  have h := hI63 v50 v51 v52 v53 M58 n60 q66 z54 z55 z56 z57 hR59
                  refine zr_iload C 7 rfl (zdec_at dm_X12_findPen 76 rfl) ?_
                  refine zr_aload_n C 0 rfl (zdec_at dm_X12_findPen 77 rfl) rfl ?_
                  refine zr_geti C fk_RX12_412 fi_103_57 (zdec_at dm_X12_findPen 78 rfl) ?_
                  refine zr_icmp_ge C z57 (hR59 _ _) (zdec_at dm_X12_findPen 79 rfl) rfl (fun g67 => ?_) (fun g67 => ?_)
                  · have h := h.1 g67
                    refine zr_iload_n C 1 rfl (zdec_at dm_X12_findPen 113 rfl) rfl ?_
                    refine zr_if_lt C z15 (zdec_at dm_X12_findPen 114 rfl) rfl (fun g68 => ?_) (fun g68 => ?_)
                    · have h := h.1 g68
                      refine zr_iload C 4 rfl (zdec_at dm_X12_findPen 118 rfl) ?_
                      refine zr_istore_n (L1 := [(1, zI v50), (0, zRf (zad Γ) 103), (2, zI v1), (3, zI v14), (6, zI v50), (7, zI v51), (8, zI v52), (9, zI v53)]) C (zdec_at dm_X12_findPen 119 rfl) rfl (Nat.le_of_ble_eq_true rfl) rfl ?_
                      refine zr_iconst C (zdec_at dm_X12_findPen 120 rfl) ?_
                      refine zr_istore (L1 := [(9, zI 0), (1, zI v50), (0, zRf (zad Γ) 103), (2, zI v1), (3, zI v14), (6, zI v50), (7, zI v51), (8, zI v52)]) C (zdec_at dm_X12_findPen 121 rfl) (Nat.le_of_ble_eq_true rfl) rfl ?_
                      obtain ⟨I211, ⟨n77, q78⟩, hI76⟩ := h
                      have lp75 : ∀ (n73 : Nat) (v69 : Int) (M71 : zM), I211 v69 M71 n73 → zin v69 → zRng M71 → zV Γ mu_X12_findPen (145, 0, 0) 211 [(0, zRf (zad Γ) 103), (1, zI v50), (2, zI v1), (3, zI v14), (9, zI v69)] [] M71 := by
                        intro n73
                        induction n73 using Nat.strongRecOn with
                        | _ n73 ih74 =>
                        intro v69 M71 q79 z70 hR72
                        have h := hI76 v69 M71 n73 q79 z70 hR72
                        refine zr_iload C 4 rfl (zdec_at dm_X12_findPen 122 rfl) ?_
                        refine zr_aload_n C 0 rfl (zdec_at dm_X12_findPen 123 rfl) rfl ?_
                        refine zr_geti C fk_RX12_412 fi_103_57 (zdec_at dm_X12_findPen 124 rfl) ?_
                        refine zr_icmp_ge C z70 (hR72 _ _) (zdec_at dm_X12_findPen 125 rfl) rfl (fun g80 => ?_) (fun g80 => ?_)
                        · have h := h.1 g80
                          refine zr_iinc (L1 := [(3, zI (v14 + 1)), (0, zRf (zad Γ) 103), (1, zI v50), (2, zI v1), (9, zI v69)]) C 3 rfl (zdec_at dm_X12_findPen 136 rfl) (Nat.le_of_ble_eq_true rfl) rfl ?_
                          refine zr_goto C (zdec_at dm_X12_findPen 137 rfl) rfl ?_
                          obtain ⟨o81, h⟩ := h
                          obtain ⟨n82, q83, q84⟩ := h
                          exact zr_sub [1, 2, 3, 0] rfl (ih20 n82 q83 _ _ _ q84 z54 o81 hR72)
                        · have h := h.2 g80
                          refine zr_aload_n C 0 rfl (zdec_at dm_X12_findPen 126 rfl) rfl ?_
                          refine zr_getr (q := 131) C fk_RX12_100 fi_103_56 (zdec_at dm_X12_findPen 127 rfl) ?_
                          refine zr_iload C 4 rfl (zdec_at dm_X12_findPen 128 rfl) ?_
                          refine zr_aload_n C 0 rfl (zdec_at dm_X12_findPen 129 rfl) rfl ?_
                          refine zr_getr (q := 130) C fk_RX12_97 fi_103_55 (zdec_at dm_X12_findPen 130 rfl) ?_
                          refine zr_iload C 4 rfl (zdec_at dm_X12_findPen 131 rfl) ?_
                          obtain ⟨o85, h⟩ := h
                          refine zr_iald C ai_130 o85 (zdec_at dm_X12_findPen 132 rfl) ?_
                          refine zr_iast C ai_131 o85 (hR72 _ _) (zdec_at dm_X12_findPen 133 rfl) (fun M86 e87 => ?_)
                          have h := h M86 e87
                          have hR88 : zRng M86 := by rw [e87]; exact hR72.set (hR72 _ _) _ _
                          refine zr_iinc (L1 := [(9, zI (v69 + 1)), (0, zRf (zad Γ) 103), (1, zI v50), (2, zI v1), (3, zI v14)]) C 4 rfl (zdec_at dm_X12_findPen 134 rfl) (Nat.le_of_ble_eq_true rfl) rfl ?_
                          refine zr_goto C (zdec_at dm_X12_findPen 135 rfl) rfl ?_
                          obtain ⟨o89, h⟩ := h
                          obtain ⟨n90, q91, q92⟩ := h
                          exact zr_sub [1, 2, 3, 4, 0] rfl (ih74 n90 q91 _ _ q92 o89 hR88)
                      exact zr_sub [2, 1, 3, 4, 0] rfl (lp75 n77 _ _ q78 (by decide) hR59)
                    · have h := h.2 g68
                      refine zr_iload C 4 rfl (zdec_at dm_X12_findPen 115 rfl) ?_
                      refine zr_iload_n C 1 rfl (zdec_at dm_X12_findPen 116 rfl) rfl ?_
                      refine zr_icmp_ge C z54 z15 (zdec_at dm_X12_findPen 117 rfl) rfl (fun g93 => ?_) (fun g93 => ?_)
                      · have h := h.1 g93
                        refine zr_iinc (L1 := [(3, zI (v14 + 1)), (0, zRf (zad Γ) 103), (1, zI v13), (2, zI v1), (6, zI v50), (7, zI v51), (8, zI v52), (9, zI v53)]) C 3 rfl (zdec_at dm_X12_findPen 136 rfl) (Nat.le_of_ble_eq_true rfl) rfl ?_
                        refine zr_goto C (zdec_at dm_X12_findPen 137 rfl) rfl ?_
                        obtain ⟨o94, h⟩ := h
                        obtain ⟨n95, q96, q97⟩ := h
                        exact zr_sub [1, 2, 3, 0] rfl (ih20 n95 q96 _ _ _ q97 z15 o94 hR59)
                      · have h := h.2 g93
                        refine zr_iload C 4 rfl (zdec_at dm_X12_findPen 118 rfl) ?_
                        refine zr_istore_n (L1 := [(1, zI v50), (0, zRf (zad Γ) 103), (2, zI v1), (3, zI v14), (6, zI v50), (7, zI v51), (8, zI v52), (9, zI v53)]) C (zdec_at dm_X12_findPen 119 rfl) rfl (Nat.le_of_ble_eq_true rfl) rfl ?_
                        refine zr_iconst C (zdec_at dm_X12_findPen 120 rfl) ?_
                        refine zr_istore (L1 := [(9, zI 0), (1, zI v50), (0, zRf (zad Γ) 103), (2, zI v1), (3, zI v14), (6, zI v50), (7, zI v51), (8, zI v52)]) C (zdec_at dm_X12_findPen 121 rfl) (Nat.le_of_ble_eq_true rfl) rfl ?_
                        obtain ⟨I211, ⟨n106, q107⟩, hI105⟩ := h
                        have lp104 : ∀ (n102 : Nat) (v98 : Int) (M100 : zM), I211 v98 M100 n102 → zin v98 → zRng M100 → zV Γ mu_X12_findPen (145, 0, 0) 211 [(0, zRf (zad Γ) 103), (1, zI v50), (2, zI v1), (3, zI v14), (9, zI v98)] [] M100 := by
                          intro n102
                          induction n102 using Nat.strongRecOn with
                          | _ n102 ih103 =>
                          intro v98 M100 q108 z99 hR101
                          have h := hI105 v98 M100 n102 q108 z99 hR101
                          refine zr_iload C 4 rfl (zdec_at dm_X12_findPen 122 rfl) ?_
                          refine zr_aload_n C 0 rfl (zdec_at dm_X12_findPen 123 rfl) rfl ?_
                          refine zr_geti C fk_RX12_412 fi_103_57 (zdec_at dm_X12_findPen 124 rfl) ?_
                          refine zr_icmp_ge C z99 (hR101 _ _) (zdec_at dm_X12_findPen 125 rfl) rfl (fun g109 => ?_) (fun g109 => ?_)
                          · have h := h.1 g109
                            refine zr_iinc (L1 := [(3, zI (v14 + 1)), (0, zRf (zad Γ) 103), (1, zI v50), (2, zI v1), (9, zI v98)]) C 3 rfl (zdec_at dm_X12_findPen 136 rfl) (Nat.le_of_ble_eq_true rfl) rfl ?_
                            refine zr_goto C (zdec_at dm_X12_findPen 137 rfl) rfl ?_
                            obtain ⟨o110, h⟩ := h
                            obtain ⟨n111, q112, q113⟩ := h
                            exact zr_sub [1, 2, 3, 0] rfl (ih20 n111 q112 _ _ _ q113 z54 o110 hR101)
                          · have h := h.2 g109
                            refine zr_aload_n C 0 rfl (zdec_at dm_X12_findPen 126 rfl) rfl ?_
                            refine zr_getr (q := 131) C fk_RX12_100 fi_103_56 (zdec_at dm_X12_findPen 127 rfl) ?_
                            refine zr_iload C 4 rfl (zdec_at dm_X12_findPen 128 rfl) ?_
                            refine zr_aload_n C 0 rfl (zdec_at dm_X12_findPen 129 rfl) rfl ?_
                            refine zr_getr (q := 130) C fk_RX12_97 fi_103_55 (zdec_at dm_X12_findPen 130 rfl) ?_
                            refine zr_iload C 4 rfl (zdec_at dm_X12_findPen 131 rfl) ?_
                            obtain ⟨o114, h⟩ := h
                            refine zr_iald C ai_130 o114 (zdec_at dm_X12_findPen 132 rfl) ?_
                            refine zr_iast C ai_131 o114 (hR101 _ _) (zdec_at dm_X12_findPen 133 rfl) (fun M115 e116 => ?_)
                            have h := h M115 e116
                            have hR117 : zRng M115 := by rw [e116]; exact hR101.set (hR101 _ _) _ _
                            refine zr_iinc (L1 := [(9, zI (v98 + 1)), (0, zRf (zad Γ) 103), (1, zI v50), (2, zI v1), (3, zI v14)]) C 4 rfl (zdec_at dm_X12_findPen 134 rfl) (Nat.le_of_ble_eq_true rfl) rfl ?_
                            refine zr_goto C (zdec_at dm_X12_findPen 135 rfl) rfl ?_
                            obtain ⟨o118, h⟩ := h
                            obtain ⟨n119, q120, q121⟩ := h
                            exact zr_sub [1, 2, 3, 4, 0] rfl (ih103 n119 q120 _ _ q121 o118 hR117)
                        exact zr_sub [2, 1, 3, 4, 0] rfl (lp104 n106 _ _ q107 (by decide) hR59)
                  · have h := h.2 g67
                    refine zr_iload C 4 rfl (zdec_at dm_X12_findPen 80 rfl) ?_
                    refine zr_aload_n C 0 rfl (zdec_at dm_X12_findPen 81 rfl) rfl ?_
                    refine zr_iload C 5 rfl (zdec_at dm_X12_findPen 82 rfl) ?_
                    refine zr_iload C 6 rfl (zdec_at dm_X12_findPen 83 rfl) ?_
                    refine zr_aload_n C 0 rfl (zdec_at dm_X12_findPen 84 rfl) rfl ?_
                    refine zr_getr (q := 130) C fk_RX12_97 fi_103_55 (zdec_at dm_X12_findPen 85 rfl) ?_
                    refine zr_iload C 7 rfl (zdec_at dm_X12_findPen 86 rfl) ?_
                    obtain ⟨o122, h⟩ := h
                    refine zr_iald C ai_130 o122 (zdec_at dm_X12_findPen 87 rfl) ?_
                    obtain ⟨g128, h⟩ := h
                    refine zr_callV C [v51, v52, (M58 130 v53)] hS_X12_moveTo ck_RX12_415 iv_X12_moveTo vc_X12 oc_103 rfl rfl (zdec_at dm_X12_findPen 88 rfl) ⟨rfl, rfl, rfl, rfl⟩ ⟨by decide, by decide⟩ (Nat.le_of_ble_eq_true rfl) (zall_0 z55 (zall_0 z56 (zall_0 (hR59 _ _) zall_n))) ?_
                    refine ⟨_, _, _, rfl, g128, fun r123 M124 p127 z126 hR125 => ?_⟩
                    have h := h r123 M124 p127 z126 hR125
                    show zV Γ mu_X12_findPen (145, 0, 0) 152 [(0, zRf (zad Γ) 103), (1, zI v13), (2, zI v1), (3, zI v14), (6, zI v50), (7, zI v51), (8, zI v52), (9, zI v53)] [zI r123, zI v50] M124
                    refine zr_iadd C (zdec_at dm_X12_findPen 89 rfl) ?_
                    refine zr_istore (L1 := [(6, zI (v50 + r123)), (0, zRf (zad Γ) 103), (1, zI v13), (2, zI v1), (3, zI v14), (7, zI v51), (8, zI v52), (9, zI v53)]) C (zdec_at dm_X12_findPen 90 rfl) (Nat.le_of_ble_eq_true rfl) rfl ?_
                    refine zr_aload_n C 1 rfl (zdec_at dm_X12_findPen 91 rfl) rfl ?_
                    refine zr_getr (q := 116) C fk_RX12_54 fi_103_31 (zdec_at dm_X12_findPen 92 rfl) ?_
                    refine zr_aload_n C 1 rfl (zdec_at dm_X12_findPen 93 rfl) rfl ?_
                    refine zr_getr (q := 130) C fk_RX12_97 fi_103_55 (zdec_at dm_X12_findPen 94 rfl) ?_
                    refine zr_iload C 7 rfl (zdec_at dm_X12_findPen 95 rfl) ?_
                    refine zr_iald C ai_130 o122 (zdec_at dm_X12_findPen 96 rfl) ?_
                    obtain ⟨o129, h⟩ := h
                    refine zr_iald C ai_116 o129 (zdec_at dm_X12_findPen 97 rfl) ?_
                    refine zr_bipush C (zdec_at dm_X12_findPen 98 rfl) (by decide) ?_
                    obtain ⟨o130, h⟩ := h
                    refine zr_irem C (hR125 _ _) (by decide) ⟨o130, by decide⟩ (zdec_at dm_X12_findPen 99 rfl) ?_
                    refine zr_istore (L1 := [(7, zI ((M124 116 (M124 130 v53)) % 16)), (6, zI (v50 + r123)), (0, zRf (zad Γ) 103), (1, zI v13), (2, zI v1), (3, zI v14), (8, zI v52), (9, zI v53)]) C (zdec_at dm_X12_findPen 100 rfl) (Nat.le_of_ble_eq_true rfl) rfl ?_
                    refine zr_aload_n C 2 rfl (zdec_at dm_X12_findPen 101 rfl) rfl ?_
                    refine zr_getr (q := 116) C fk_RX12_54 fi_103_31 (zdec_at dm_X12_findPen 102 rfl) ?_
                    refine zr_aload_n C 2 rfl (zdec_at dm_X12_findPen 103 rfl) rfl ?_
                    refine zr_getr (q := 130) C fk_RX12_97 fi_103_55 (zdec_at dm_X12_findPen 104 rfl) ?_
                    refine zr_iload C 7 rfl (zdec_at dm_X12_findPen 105 rfl) ?_
                    refine zr_iald C ai_130 o122 (zdec_at dm_X12_findPen 106 rfl) ?_
                    refine zr_iald C ai_116 o129 (zdec_at dm_X12_findPen 107 rfl) ?_
                    refine zr_bipush C (zdec_at dm_X12_findPen 108 rfl) (by decide) ?_
                    refine zr_idiv C (hR125 _ _) (by decide) ⟨o130, by decide⟩ (zdec_at dm_X12_findPen 109 rfl) ?_
                    refine zr_istore (L1 := [(8, zI ((M124 116 (M124 130 v53)) / 16)), (7, zI ((M124 116 (M124 130 v53)) % 16)), (6, zI (v50 + r123)), (0, zRf (zad Γ) 103), (1, zI v13), (2, zI v1), (3, zI v14), (9, zI v53)]) C (zdec_at dm_X12_findPen 110 rfl) (Nat.le_of_ble_eq_true rfl) rfl ?_
                    refine zr_iinc (L1 := [(9, zI (v53 + 1)), (8, zI ((M124 116 (M124 130 v53)) / 16)), (7, zI ((M124 116 (M124 130 v53)) % 16)), (6, zI (v50 + r123)), (0, zRf (zad Γ) 103), (1, zI v13), (2, zI v1), (3, zI v14)]) C 7 rfl (zdec_at dm_X12_findPen 111 rfl) (Nat.le_of_ble_eq_true rfl) rfl ?_
                    refine zr_goto C (zdec_at dm_X12_findPen 112 rfl) rfl ?_
                    obtain ⟨o131, h⟩ := h
                    obtain ⟨o132, h⟩ := h
                    obtain ⟨n133, q134, q135⟩ := h
                    exact zr_sub [4, 5, 6, 7, 3, 2, 1, 0] rfl (ih61 n133 q134 _ _ _ _ _ q135 o131 (z_rz (a := (M124 116 (M124 130 v53))) (b := 16) ⟨o130, by decide⟩ (by decide)) (z_dz2 (a := (M124 116 (M124 130 v53))) (b := 16) ⟨o130, by decide⟩ (hR125 _ _)) o132 hR125)
                exact zr_sub [4, 5, 6, 7, 3, 2, 1, 0] rfl (lp62 n64 _ _ _ _ _ q65 (by decide) (by decide) (by decide) (by decide) hR35)
            · have h := h.2 g43
              refine zr_aload_n C 0 rfl (zdec_at dm_X12_findPen 33 rfl) rfl ?_
              refine zr_getr (q := 130) C fk_RX12_97 fi_103_55 (zdec_at dm_X12_findPen 34 rfl) ?_
              refine zr_iload C 6 rfl (zdec_at dm_X12_findPen 35 rfl) ?_
              refine zr_aload_n C 0 rfl (zdec_at dm_X12_findPen 36 rfl) rfl ?_
              refine zr_getr (q := 129) C fk_RX12_94 fi_103_54 (zdec_at dm_X12_findPen 37 rfl) ?_
              refine zr_iload C 4 rfl (zdec_at dm_X12_findPen 38 rfl) ?_
              refine zr_aload_n C 0 rfl (zdec_at dm_X12_findPen 39 rfl) rfl ?_
              refine zr_geti C fk_RX12_412 fi_103_57 (zdec_at dm_X12_findPen 40 rfl) ?_
              obtain ⟨o136, h⟩ := h
              refine zr_irem C z31 (hR35 _ _) o136 (zdec_at dm_X12_findPen 41 rfl) ?_
              obtain ⟨o137, h⟩ := h
              refine zr_iald C ai_129 o137 (zdec_at dm_X12_findPen 42 rfl) ?_
              obtain ⟨o138, h⟩ := h
              refine zr_iast C ai_130 o138 (hR35 _ _) (zdec_at dm_X12_findPen 43 rfl) (fun M139 e140 => ?_)
              have h := h M139 e140
              have hR141 : zRng M139 := by rw [e140]; exact hR35.set (hR35 _ _) _ _
              refine zr_iload C 5 rfl (zdec_at dm_X12_findPen 44 rfl) ?_
              refine zr_iconst C (zdec_at dm_X12_findPen 45 rfl) ?_
              refine zr_iload C 4 rfl (zdec_at dm_X12_findPen 46 rfl) ?_
              refine zr_aload_n C 0 rfl (zdec_at dm_X12_findPen 47 rfl) rfl ?_
              refine zr_geti C fk_RX12_412 fi_103_57 (zdec_at dm_X12_findPen 48 rfl) ?_
              obtain ⟨o142, h⟩ := h
              refine zr_irem C z31 (hR141 _ _) o142 (zdec_at dm_X12_findPen 49 rfl) ?_
              refine zr_ishl C (zdec_at dm_X12_findPen 50 rfl) ?_
              refine zr_ior C (zdec_at dm_X12_findPen 51 rfl) ?_
              refine zr_istore (L1 := [(5, zI (zlor v28 (zshl 1 (v27 % (M139 103 57))))), (0, zRf (zad Γ) 103), (1, zI v13), (2, zI v1), (3, zI v14), (4, zI v27), (6, zI v29)]) C (zdec_at dm_X12_findPen 52 rfl) (Nat.le_of_ble_eq_true rfl) rfl ?_
              refine zr_iload C 5 rfl (zdec_at dm_X12_findPen 53 rfl) ?_
              refine zr_aload_n C 1 rfl (zdec_at dm_X12_findPen 54 rfl) rfl ?_
              refine zr_geti C fk_RX12_412 fi_103_57 (zdec_at dm_X12_findPen 55 rfl) ?_
              refine zr_idiv C z31 (hR141 _ _) o142 (zdec_at dm_X12_findPen 56 rfl) ?_
              refine zr_istore (L1 := [(4, zI (v27 / (M139 103 57))), (5, zI (zlor v28 (zshl 1 (v27 % (M139 103 57))))), (0, zRf (zad Γ) 103), (1, zI v13), (2, zI v1), (3, zI v14), (6, zI v29)]) C (zdec_at dm_X12_findPen 57 rfl) (Nat.le_of_ble_eq_true rfl) rfl ?_
              refine zr_iinc (L1 := [(6, zI (v29 + (-1))), (4, zI (v27 / (M139 103 57))), (5, zI (zlor v28 (zshl 1 (v27 % (M139 103 57))))), (0, zRf (zad Γ) 103), (1, zI v13), (2, zI v1), (3, zI v14)]) C 6 rfl (zdec_at dm_X12_findPen 58 rfl) (Nat.le_of_ble_eq_true rfl) rfl ?_
              refine zr_goto C (zdec_at dm_X12_findPen 59 rfl) rfl ?_
              obtain ⟨o143, h⟩ := h
              obtain ⟨n144, q145, q146⟩ := h
              exact zr_sub [3, 4, 5, 6, 1, 2, 0] rfl (ih37 n144 q145 _ _ _ _ q146 (z_dz2 (a := v27) (b := (M139 103 57)) o142 z31) (zlor_z _ _) o143 hR141)
          exact zr_sub [3, 4, 5, 6, 2, 1, 0] rfl (lp38 n40 _ _ _ _ q41 z16 (by decide) o30 hR18)
      exact zr_sub [1, 2, 3, 0] rfl (lp21 n23 _ _ _ q24 (by decide) (by decide) hR)
    · have h := h.2 g12
      refine zr_iload_n C 2 rfl (zdec_at dm_X12_findPen 10 rfl) rfl ?_
      refine zr_aload_n C 0 rfl (zdec_at dm_X12_findPen 11 rfl) rfl ?_
      refine zr_geti C fk_RX12_412 fi_103_57 (zdec_at dm_X12_findPen 12 rfl) ?_
      refine zr_imul C (zdec_at dm_X12_findPen 13 rfl) ?_
      refine zr_istore_n (L1 := [(2, zI (v1 * (M 103 57))), (0, zRf (zad Γ) 103), (1, zI (-1)), (3, zI v2)]) C (zdec_at dm_X12_findPen 14 rfl) rfl (Nat.le_of_ble_eq_true rfl) rfl ?_
      refine zr_iinc (L1 := [(3, zI (v2 + 1)), (2, zI (v1 * (M 103 57))), (0, zRf (zad Γ) 103), (1, zI (-1))]) C 3 rfl (zdec_at dm_X12_findPen 15 rfl) (Nat.le_of_ble_eq_true rfl) rfl ?_
      refine zr_goto C (zdec_at dm_X12_findPen 16 rfl) rfl ?_
      obtain ⟨o147, h⟩ := h
      obtain ⟨o148, h⟩ := h
      obtain ⟨n149, q150, q151⟩ := h
      exact zr_sub [2, 3, 1, 0] rfl (ih6 n149 q150 _ _ q151 o147 o148)
  exact zr_sub [3, 2, 1, 0] rfl (lp7 n9 _ _ q10 (by decide) (by decide))

set_option maxHeartbeats 400000 in
set_option maxRecDepth 100000 in
theorem sn_X12_pen {pr_X12_in : Int → Int → Int → zM → Prop} {po_X12_in : Int → Int → Int → zM → Int → zM → Prop} {pr_X12_findFaces : zM → Prop} {po_X12_findFaces : zM → zM → Prop} {pr_X12_findPen : zM → Prop} {po_X12_findPen : zM → Int → zM → Prop} (hS_X12_in : zSnd zS 145 0 0 yX12_in cX12_in 6 (some .boolean) 0 [1, 1, 1] (F_X12_in pr_X12_in po_X12_in)) (hS_X12_findFaces : zSnd zS 145 0 0 yX12_findFaces cX12_findFaces 6 none 2 [2] (F_X12_findFaces pr_X12_findFaces po_X12_findFaces)) (hS_X12_findPen : zSnd zS 145 0 0 yX12_findPen cX12_findPen 10 (some .int) 1 [2] (F_X12_findPen pr_X12_findPen po_X12_findPen)) : zSnd zS 145 0 0 yX12_pen cX12_pen 4 (some .int) 3 [2, 0, 0] (fun xs P M => ∃ a1 a2 : Int, xs = [103, a1, a2] ∧ vc_X12_pen pr_X12_in po_X12_in pr_X12_findFaces po_X12_findFaces pr_X12_findPen po_X12_findPen a1 a2 P M) := by
  refine zSnd.of rfl (fun ad xs hz => Nat.le_trans (Nat.le_of_eq (zlen ad _ xs hz)) (by decide)) ?_
  intro Γ C _ _ xs M hz hF
  obtain ⟨a1, a2, rfl, h⟩ := hF
  have zz_a1 := zall_h (zall_t hz) (by decide)
  have zz_a2 := zall_h (zall_t (zall_t hz)) (by decide)
  refine zr_rng (fun hR => ?_)
  have C : zC Γ mu_X12_pen := C
  change zV Γ mu_X12_pen (145, 0, 0) 0 [(0, zRf (zad Γ) 103), (1, zI a1), (2, zI a2)] [] M
  change vc_X12_pen pr_X12_in po_X12_in pr_X12_findFaces po_X12_findFaces pr_X12_findPen po_X12_findPen a1 a2 _ M at h
  unfold vc_X12_pen at h
  refine zr_aload_n C 0 rfl (zdec_at dm_X12_pen 0 rfl) rfl ?_
  refine zr_iconst C (zdec_at dm_X12_pen 1 rfl) ?_
  refine zr_puti C fk_RX12_140 fi_103_0 (by decide) (zdec_at dm_X12_pen 2 rfl) (fun M1 e2 => ?_)
  have h := h M1 e2
  have hR3 : zRng M1 := by rw [e2]; exact hR.set (by decide) _ _
  refine zr_iload_n C 1 rfl (zdec_at dm_X12_pen 3 rfl) rfl ?_
  refine zr_i2l C zz_a1 (zdec_at dm_X12_pen 4 rfl) ?_
  refine zr_lconst (v := 0) C (zdec_at dm_X12_pen 5 rfl) rfl ?_
  refine zr_ldc2 C (zdec_at dm_X12_pen 6 rfl) kc_RX12_214 ?_
  obtain ⟨g9, h⟩ := h
  refine zr_callS C [a1, 0, 15] hS_X12_in ck_RX12_156 sv_X12_in rfl rfl (zdec_at dm_X12_pen 7 rfl) ⟨rfl, rfl, rfl, rfl⟩ ⟨by decide, by decide⟩ (Nat.le_of_ble_eq_true rfl) (zall_1 zz_a1 (zall_1 (by decide) (zall_1 (by decide) zall_n))) ?_
  refine ⟨_, _, _, rfl, g9, fun r4 M5 p8 z7 hR6 => ?_⟩
  have h := h r4 M5 p8 z7 hR6
  show zV Γ mu_X12_pen (145, 0, 0) 14 [(0, zRf (zad Γ) 103), (1, zI a1), (2, zI a2)] [zI r4] M5
  refine zr_if_eq C z7 (zdec_at dm_X12_pen 8 rfl) rfl (fun g10 => ?_) (fun g10 => ?_)
  · have h := h.1 g10
    refine zr_iconst C (zdec_at dm_X12_pen 15 rfl) ?_
    exact zr_ireturn C rfl (zdec_at dm_X12_pen 16 rfl) rfl ⟨(by decide), h⟩
  · have h := h.2 g10
    refine zr_iload_n C 2 rfl (zdec_at dm_X12_pen 9 rfl) rfl ?_
    refine zr_i2l C zz_a2 (zdec_at dm_X12_pen 10 rfl) ?_
    refine zr_ldc2 C (zdec_at dm_X12_pen 11 rfl) kc_RX12_418 ?_
    refine zr_ldc2 C (zdec_at dm_X12_pen 12 rfl) kc_RX12_420 ?_
    obtain ⟨g16, h⟩ := h
    refine zr_callS C [a2, -1, 6] hS_X12_in ck_RX12_156 sv_X12_in rfl rfl (zdec_at dm_X12_pen 13 rfl) ⟨rfl, rfl, rfl, rfl⟩ ⟨by decide, by decide⟩ (Nat.le_of_ble_eq_true rfl) (zall_1 zz_a2 (zall_1 (by decide) (zall_1 (by decide) zall_n))) ?_
    refine ⟨_, _, _, rfl, g16, fun r11 M12 p15 z14 hR13 => ?_⟩
    have h := h r11 M12 p15 z14 hR13
    show zV Γ mu_X12_pen (145, 0, 0) 28 [(0, zRf (zad Γ) 103), (1, zI a1), (2, zI a2)] [zI r11] M12
    refine zr_if_ne C z14 (zdec_at dm_X12_pen 14 rfl) rfl (fun g17 => ?_) (fun g17 => ?_)
    · have h := h.1 g17
      refine zr_aload_n C 0 rfl (zdec_at dm_X12_pen 17 rfl) rfl ?_
      obtain ⟨g22, h⟩ := h
      refine zr_callV C [] hS_X12_findFaces ck_RX12_240 iv_X12_findFaces vc_X12 oc_103 rfl rfl (zdec_at dm_X12_pen 18 rfl) ⟨rfl, rfl, rfl, rfl⟩ ⟨by decide, by decide⟩ (Nat.le_of_ble_eq_true rfl) zall_n ?_
      refine ⟨rfl, g22, fun M18 p21 _ hR19 => ?_⟩
      have h := h M18 p21 hR19
      show zV Γ mu_X12_pen (145, 0, 0) 37 [(0, zRf (zad Γ) 103), (1, zI a1), (2, zI a2)] [] M18
      refine zr_aload_n C 0 rfl (zdec_at dm_X12_pen 19 rfl) rfl ?_
      refine zr_iconst C (zdec_at dm_X12_pen 20 rfl) ?_
      refine zr_puti C fk_RX12_412 fi_103_57 (by decide) (zdec_at dm_X12_pen 21 rfl) (fun M23 e24 => ?_)
      have h := h M23 e24
      have hR25 : zRng M23 := by rw [e24]; exact hR19.set (by decide) _ _
      refine zr_iconst C (zdec_at dm_X12_pen 22 rfl) ?_
      refine zr_istore_n (L1 := [(3, zI 0), (0, zRf (zad Γ) 103), (1, zI a1), (2, zI a2)]) C (zdec_at dm_X12_pen 23 rfl) rfl (Nat.le_of_ble_eq_true rfl) rfl ?_
      obtain ⟨I44, ⟨n34, q35⟩, hI33⟩ := h
      have lp32 : ∀ (n30 : Nat) (v26 : Int) (M28 : zM), I44 v26 M28 n30 → zin v26 → zRng M28 → zV Γ mu_X12_pen (145, 0, 0) 44 [(0, zRf (zad Γ) 103), (1, zI a1), (2, zI a2), (3, zI v26)] [] M28 := by
        intro n30
        induction n30 using Nat.strongRecOn with
        | _ n30 ih31 =>
        intro v26 M28 q36 z27 hR29
        have h := hI33 v26 M28 n30 q36 z27 hR29
        refine zr_iload_n C 3 rfl (zdec_at dm_X12_pen 24 rfl) rfl ?_
        refine zr_aload_n C 0 rfl (zdec_at dm_X12_pen 25 rfl) rfl ?_
        refine zr_geti C fk_RX12_233 fi_103_30 (zdec_at dm_X12_pen 26 rfl) ?_
        refine zr_icmp_ge C z27 (hR29 _ _) (zdec_at dm_X12_pen 27 rfl) rfl (fun g37 => ?_) (fun g37 => ?_)
        · have h := h.1 g37
          refine zr_aload_n C 0 rfl (zdec_at dm_X12_pen 51 rfl) rfl ?_
          refine zr_geti C fk_RX12_412 fi_103_57 (zdec_at dm_X12_pen 52 rfl) ?_
          refine zr_bipush C (zdec_at dm_X12_pen 53 rfl) (by decide) ?_
          refine zr_icmp_le C (hR29 _ _) (by decide) (zdec_at dm_X12_pen 54 rfl) rfl (fun g38 => ?_) (fun g38 => ?_)
          · have h := h.1 g38
            refine zr_aload_n C 0 rfl (zdec_at dm_X12_pen 57 rfl) rfl ?_
            refine zr_geti C fk_RX12_412 fi_103_57 (zdec_at dm_X12_pen 58 rfl) ?_
            refine zr_if_eq C (hR29 _ _) (zdec_at dm_X12_pen 59 rfl) rfl (fun g39 => ?_) (fun g39 => ?_)
            · have h := h.1 g39
              refine zr_bipush C (zdec_at dm_X12_pen 64 rfl) (by decide) ?_
              exact zr_ireturn C rfl (zdec_at dm_X12_pen 65 rfl) rfl ⟨(by decide), h⟩
            · have h := h.2 g39
              refine zr_iload_n C 2 rfl (zdec_at dm_X12_pen 60 rfl) rfl ?_
              refine zr_aload_n C 0 rfl (zdec_at dm_X12_pen 61 rfl) rfl ?_
              refine zr_geti C fk_RX12_412 fi_103_57 (zdec_at dm_X12_pen 62 rfl) ?_
              refine zr_icmp_lt C zz_a2 (hR29 _ _) (zdec_at dm_X12_pen 63 rfl) rfl (fun g40 => ?_) (fun g40 => ?_)
              · have h := h.1 g40
                refine zr_aload_n C 0 rfl (zdec_at dm_X12_pen 66 rfl) rfl ?_
                obtain ⟨g46, h⟩ := h
                refine zr_callV C [] hS_X12_findPen ck_RX12_422 iv_X12_findPen vc_X12 oc_103 rfl rfl (zdec_at dm_X12_pen 67 rfl) ⟨rfl, rfl, rfl, rfl⟩ ⟨by decide, by decide⟩ (Nat.le_of_ble_eq_true rfl) zall_n ?_
                refine ⟨rfl, g46, fun r41 M42 p45 z44 hR43 => ?_⟩
                have h := h r41 M42 p45 z44 hR43
                show zV Γ mu_X12_pen (145, 0, 0) 127 [(0, zRf (zad Γ) 103), (1, zI a1), (2, zI a2), (3, zI v26)] [zI r41] M42
                refine zr_istore_n (L1 := [(3, zI r41), (0, zRf (zad Γ) 103), (1, zI a1), (2, zI a2)]) C (zdec_at dm_X12_pen 68 rfl) rfl (Nat.le_of_ble_eq_true rfl) rfl ?_
                refine zr_iload_n C 3 rfl (zdec_at dm_X12_pen 69 rfl) rfl ?_
                refine zr_iconst C (zdec_at dm_X12_pen 70 rfl) ?_
                refine zr_icmp_ne C zz_a2 (by decide) (zdec_at dm_X12_pen 71 rfl) rfl (fun g47 => ?_) (fun g47 => ?_)
                · have h := h.1 g47
                  refine zr_aload_n C 1 rfl (zdec_at dm_X12_pen 74 rfl) rfl ?_
                  refine zr_getr (q := 131) C fk_RX12_100 fi_103_56 (zdec_at dm_X12_pen 75 rfl) ?_
                  refine zr_iload_n C 3 rfl (zdec_at dm_X12_pen 76 rfl) rfl ?_
                  obtain ⟨o48, h⟩ := h
                  refine zr_iald C ai_131 o48 (zdec_at dm_X12_pen 77 rfl) ?_
                  exact zr_ireturn C rfl (zdec_at dm_X12_pen 78 rfl) rfl ⟨(hR43 _ _), h⟩
                · have h := h.2 g47
                  refine zr_iload_n C 0 rfl (zdec_at dm_X12_pen 72 rfl) rfl ?_
                  refine zr_goto C (zdec_at dm_X12_pen 73 rfl) rfl ?_
                  exact zr_ireturn C rfl (zdec_at dm_X12_pen 78 rfl) rfl ⟨z44, h⟩
              · have h := h.2 g40
                refine zr_bipush C (zdec_at dm_X12_pen 64 rfl) (by decide) ?_
                exact zr_ireturn C rfl (zdec_at dm_X12_pen 65 rfl) rfl ⟨(by decide), h⟩
          · have h := h.2 g38
            refine zr_bipush C (zdec_at dm_X12_pen 55 rfl) (by decide) ?_
            exact zr_ireturn C rfl (zdec_at dm_X12_pen 56 rfl) rfl ⟨(by decide), h⟩
        · have h := h.2 g37
          refine zr_aload_n C 0 rfl (zdec_at dm_X12_pen 28 rfl) rfl ?_
          refine zr_getr (q := 104) C fk_RX12_16 fi_103_3 (zdec_at dm_X12_pen 29 rfl) ?_
          refine zr_aload_n C 0 rfl (zdec_at dm_X12_pen 30 rfl) rfl ?_
          refine zr_getr (q := 116) C fk_RX12_54 fi_103_31 (zdec_at dm_X12_pen 31 rfl) ?_
          refine zr_iload_n C 3 rfl (zdec_at dm_X12_pen 32 rfl) rfl ?_
          obtain ⟨o49, h⟩ := h
          refine zr_iald C ai_116 o49 (zdec_at dm_X12_pen 33 rfl) ?_
          obtain ⟨o50, h⟩ := h
          refine zr_iald C ai_104 o50 (zdec_at dm_X12_pen 34 rfl) ?_
          refine zr_iload_n C 1 rfl (zdec_at dm_X12_pen 35 rfl) rfl ?_
          refine zr_icmp_ne C (hR29 _ _) zz_a1 (zdec_at dm_X12_pen 36 rfl) rfl (fun g51 => ?_) (fun g51 => ?_)
          · have h := h.1 g51
            refine zr_iinc (L1 := [(3, zI (v26 + 1)), (0, zRf (zad Γ) 103), (1, zI a1), (2, zI a2)]) C 3 rfl (zdec_at dm_X12_pen 49 rfl) (Nat.le_of_ble_eq_true rfl) rfl ?_
            refine zr_goto C (zdec_at dm_X12_pen 50 rfl) rfl ?_
            obtain ⟨o52, h⟩ := h
            obtain ⟨n53, q54, q55⟩ := h
            exact zr_sub [1, 2, 3, 0] rfl (ih31 n53 q54 _ _ q55 o52 hR29)
          · have h := h.2 g51
            refine zr_aload_n C 0 rfl (zdec_at dm_X12_pen 37 rfl) rfl ?_
            refine zr_getr (q := 129) C fk_RX12_94 fi_103_54 (zdec_at dm_X12_pen 38 rfl) ?_
            refine zr_aload_n C 0 rfl (zdec_at dm_X12_pen 39 rfl) rfl ?_
            refine zr_geti C fk_RX12_412 fi_103_57 (zdec_at dm_X12_pen 40 rfl) ?_
            refine zr_iload_n C 3 rfl (zdec_at dm_X12_pen 41 rfl) rfl ?_
            obtain ⟨o56, h⟩ := h
            refine zr_iast C ai_129 o56 z27 (zdec_at dm_X12_pen 42 rfl) (fun M57 e58 => ?_)
            have h := h M57 e58
            have hR59 : zRng M57 := by rw [e58]; exact hR29.set z27 _ _
            refine zr_aload_n C 0 rfl (zdec_at dm_X12_pen 43 rfl) rfl ?_
            refine zr_dup C rfl (zdec_at dm_X12_pen 44 rfl) ?_
            refine zr_geti C fk_RX12_412 fi_103_57 (zdec_at dm_X12_pen 45 rfl) ?_
            refine zr_iconst C (zdec_at dm_X12_pen 46 rfl) ?_
            refine zr_iadd C (zdec_at dm_X12_pen 47 rfl) ?_
            obtain ⟨o60, h⟩ := h
            refine zr_puti C fk_RX12_412 fi_103_57 o60 (zdec_at dm_X12_pen 48 rfl) (fun M61 e62 => ?_)
            have h := h M61 e62
            have hR63 : zRng M61 := by rw [e62]; exact hR59.set o60 _ _
            refine zr_iinc (L1 := [(3, zI (v26 + 1)), (0, zRf (zad Γ) 103), (1, zI a1), (2, zI a2)]) C 3 rfl (zdec_at dm_X12_pen 49 rfl) (Nat.le_of_ble_eq_true rfl) rfl ?_
            refine zr_goto C (zdec_at dm_X12_pen 50 rfl) rfl ?_
            obtain ⟨o64, h⟩ := h
            obtain ⟨n65, q66, q67⟩ := h
            exact zr_sub [1, 2, 3, 0] rfl (ih31 n65 q66 _ _ q67 o64 hR63)
      exact zr_sub [1, 2, 3, 0] rfl (lp32 n34 _ _ q35 (by decide) hR25)
    · have h := h.2 g17
      refine zr_iconst C (zdec_at dm_X12_pen 15 rfl) ?_
      exact zr_ireturn C rfl (zdec_at dm_X12_pen 16 rfl) rfl ⟨(by decide), h⟩

set_option maxHeartbeats 400000 in
set_option maxRecDepth 100000 in
theorem sn_X12_look : zSnd zS 145 0 0 yX12_look cX12_look 1 (some .int) 0 [2] (fun xs P M => xs = [103] ∧ vc_X12_look P M) := by
  refine zSnd.of rfl (fun ad xs hz => Nat.le_trans (Nat.le_of_eq (zlen ad _ xs hz)) (by decide)) ?_
  intro Γ C _ _ xs M hz hF
  obtain ⟨rfl, h⟩ := hF
  refine zr_rng (fun hR => ?_)
  have C : zC Γ mu_X12_look := C
  change zV Γ mu_X12_look (145, 0, 0) 0 [(0, zRf (zad Γ) 103)] [] M
  change vc_X12_look _ M at h
  unfold vc_X12_look at h
  refine zr_aload_n C 0 rfl (zdec_at dm_X12_look 0 rfl) rfl ?_
  refine zr_geti C fk_RX12_143 fi_103_23 (zdec_at dm_X12_look 1 rfl) ?_
  refine zr_aload_n C 0 rfl (zdec_at dm_X12_look 2 rfl) rfl ?_
  refine zr_geti C fk_RX12_146 fi_103_22 (zdec_at dm_X12_look 3 rfl) ?_
  refine zr_icmp_lt C (hR _ _) (hR _ _) (zdec_at dm_X12_look 4 rfl) rfl (fun g1 => ?_) (fun g1 => ?_)
  · have h := h.1 g1
    refine zr_aload_n C 0 rfl (zdec_at dm_X12_look 7 rfl) rfl ?_
    refine zr_geti C fk_RX12_425 fi_103_58 (zdec_at dm_X12_look 8 rfl) ?_
    refine zr_if_eq C (hR _ _) (zdec_at dm_X12_look 9 rfl) rfl (fun g2 => ?_) (fun g2 => ?_)
    · have h := h.1 g2
      refine zr_aload_n C 0 rfl (zdec_at dm_X12_look 19 rfl) rfl ?_
      refine zr_getr (q := 142) C fk_RX12_133 fi_103_73 (zdec_at dm_X12_look 20 rfl) ?_
      refine zr_aload_n C 0 rfl (zdec_at dm_X12_look 21 rfl) rfl ?_
      refine zr_geti C fk_RX12_149 fi_103_21 (zdec_at dm_X12_look 22 rfl) ?_
      refine zr_aload_n C 0 rfl (zdec_at dm_X12_look 23 rfl) rfl ?_
      refine zr_geti C fk_RX12_143 fi_103_23 (zdec_at dm_X12_look 24 rfl) ?_
      refine zr_iadd C (zdec_at dm_X12_look 25 rfl) ?_
      obtain ⟨o3, h⟩ := h
      refine zr_lald C ai_142 o3 (zdec_at dm_X12_look 26 rfl) ?_
      refine zr_l2i C (zdec_at dm_X12_look 27 rfl) ?_
      refine zr_sipush C (zdec_at dm_X12_look 28 rfl) (by decide) ?_
      refine zr_iand C (zdec_at dm_X12_look 29 rfl) ?_
      exact zr_ireturn C rfl (zdec_at dm_X12_look 30 rfl) rfl ⟨(zland_z _ _), h⟩
    · have h := h.2 g2
      refine zr_aload_n C 0 rfl (zdec_at dm_X12_look 10 rfl) rfl ?_
      refine zr_getr (q := 107) C fk_RX12_26 fi_103_10 (zdec_at dm_X12_look 11 rfl) ?_
      refine zr_aload_n C 0 rfl (zdec_at dm_X12_look 12 rfl) rfl ?_
      refine zr_geti C fk_RX12_149 fi_103_21 (zdec_at dm_X12_look 13 rfl) ?_
      refine zr_aload_n C 0 rfl (zdec_at dm_X12_look 14 rfl) rfl ?_
      refine zr_geti C fk_RX12_143 fi_103_23 (zdec_at dm_X12_look 15 rfl) ?_
      refine zr_iadd C (zdec_at dm_X12_look 16 rfl) ?_
      obtain ⟨o4, h⟩ := h
      refine zr_iald C ai_107 o4 (zdec_at dm_X12_look 17 rfl) ?_
      refine zr_goto C (zdec_at dm_X12_look 18 rfl) rfl ?_
      exact zr_ireturn C rfl (zdec_at dm_X12_look 30 rfl) rfl ⟨(hR _ _), h⟩
  · have h := h.2 g1
    refine zr_iconst C (zdec_at dm_X12_look 5 rfl) ?_
    refine zr_goto C (zdec_at dm_X12_look 6 rfl) rfl ?_
    exact zr_ireturn C rfl (zdec_at dm_X12_look 30 rfl) rfl ⟨(by decide), h⟩

set_option maxHeartbeats 400000 in
set_option maxRecDepth 100000 in
theorem sn_X12_letterOf : zSnd zS 145 0 0 yX12_letterOf cX12_letterOf 1 (some .int) 0 [0] (fun xs P M => ∃ a0 : Int, xs = [a0] ∧ vc_X12_letterOf a0 P M) := by
  refine zSnd.of rfl (fun ad xs hz => Nat.le_trans (Nat.le_of_eq (zlen ad _ xs hz)) (by decide)) ?_
  intro Γ C _ _ xs M hz hF
  obtain ⟨a0, rfl, h⟩ := hF
  have zz_a0 := zall_h hz (by decide)
  refine zr_rng (fun hR => ?_)
  have C : zC Γ mu_X12_letterOf := C
  change zV Γ mu_X12_letterOf (145, 0, 0) 0 [(0, zI a0)] [] M
  change vc_X12_letterOf a0 _ M at h
  unfold vc_X12_letterOf at h
  refine zr_iload_n C 0 rfl (zdec_at dm_X12_letterOf 0 rfl) rfl ?_
  by_cases g1_0 : a0 = 98
  · have h := h.1 g1_0
    refine zr_tsin C 0 (g1_0.trans (by decide)) zz_a0 (by decide) (zdec_at dm_X12_letterOf 1 rfl) rfl rfl ?_
    refine zr_bipush C (zdec_at dm_X12_letterOf 10 rfl) (by decide) ?_
    exact zr_ireturn C rfl (zdec_at dm_X12_letterOf 11 rfl) rfl ⟨(by decide), h⟩
  · have h := h.2 g1_0
    by_cases g1_1 : a0 = 99
    · have h := h.1 g1_1
      refine zr_tsin C 1 (g1_1.trans (by decide)) zz_a0 (by decide) (zdec_at dm_X12_letterOf 1 rfl) rfl rfl ?_
      refine zr_iconst C (zdec_at dm_X12_letterOf 12 rfl) ?_
      exact zr_ireturn C rfl (zdec_at dm_X12_letterOf 13 rfl) rfl ⟨(by decide), h⟩
    · have h := h.2 g1_1
      by_cases g1_2 : a0 = 100
      · have h := h.1 g1_2
        refine zr_tsin C 2 (g1_2.trans (by decide)) zz_a0 (by decide) (zdec_at dm_X12_letterOf 1 rfl) rfl rfl ?_
        refine zr_bipush C (zdec_at dm_X12_letterOf 14 rfl) (by decide) ?_
        exact zr_ireturn C rfl (zdec_at dm_X12_letterOf 15 rfl) rfl ⟨(by decide), h⟩
      · have h := h.2 g1_2
        by_cases g1_3 : a0 = 101
        · have h := h.1 g1_3
          refine zr_tsin C 3 (g1_3.trans (by decide)) zz_a0 (by decide) (zdec_at dm_X12_letterOf 1 rfl) rfl rfl ?_
          refine zr_iconst C (zdec_at dm_X12_letterOf 26 rfl) ?_
          exact zr_ireturn C rfl (zdec_at dm_X12_letterOf 27 rfl) rfl ⟨(by decide), h⟩
        · have h := h.2 g1_3
          by_cases g1_4 : a0 = 102
          · have h := h.1 g1_4
            refine zr_tsin C 4 (g1_4.trans (by decide)) zz_a0 (by decide) (zdec_at dm_X12_letterOf 1 rfl) rfl rfl ?_
            refine zr_iconst C (zdec_at dm_X12_letterOf 26 rfl) ?_
            exact zr_ireturn C rfl (zdec_at dm_X12_letterOf 27 rfl) rfl ⟨(by decide), h⟩
          · have h := h.2 g1_4
            by_cases g1_5 : a0 = 103
            · have h := h.1 g1_5
              refine zr_tsin C 5 (g1_5.trans (by decide)) zz_a0 (by decide) (zdec_at dm_X12_letterOf 1 rfl) rfl rfl ?_
              refine zr_bipush C (zdec_at dm_X12_letterOf 18 rfl) (by decide) ?_
              exact zr_ireturn C rfl (zdec_at dm_X12_letterOf 19 rfl) rfl ⟨(by decide), h⟩
            · have h := h.2 g1_5
              by_cases g1_6 : a0 = 104
              · have h := h.1 g1_6
                refine zr_tsin C 6 (g1_6.trans (by decide)) zz_a0 (by decide) (zdec_at dm_X12_letterOf 1 rfl) rfl rfl ?_
                refine zr_bipush C (zdec_at dm_X12_letterOf 4 rfl) (by decide) ?_
                exact zr_ireturn C rfl (zdec_at dm_X12_letterOf 5 rfl) rfl ⟨(by decide), h⟩
              · have h := h.2 g1_6
                by_cases g1_7 : a0 = 105
                · have h := h.1 g1_7
                  refine zr_tsin C 7 (g1_7.trans (by decide)) zz_a0 (by decide) (zdec_at dm_X12_letterOf 1 rfl) rfl rfl ?_
                  refine zr_iconst C (zdec_at dm_X12_letterOf 26 rfl) ?_
                  exact zr_ireturn C rfl (zdec_at dm_X12_letterOf 27 rfl) rfl ⟨(by decide), h⟩
                · have h := h.2 g1_7
                  by_cases g1_8 : a0 = 106
                  · have h := h.1 g1_8
                    refine zr_tsin C 8 (g1_8.trans (by decide)) zz_a0 (by decide) (zdec_at dm_X12_letterOf 1 rfl) rfl rfl ?_
                    refine zr_iconst C (zdec_at dm_X12_letterOf 26 rfl) ?_
                    exact zr_ireturn C rfl (zdec_at dm_X12_letterOf 27 rfl) rfl ⟨(by decide), h⟩
                  · have h := h.2 g1_8
                    by_cases g1_9 : a0 = 107
                    · have h := h.1 g1_9
                      refine zr_tsin C 9 (g1_9.trans (by decide)) zz_a0 (by decide) (zdec_at dm_X12_letterOf 1 rfl) rfl rfl ?_
                      refine zr_bipush C (zdec_at dm_X12_letterOf 20 rfl) (by decide) ?_
                      exact zr_ireturn C rfl (zdec_at dm_X12_letterOf 21 rfl) rfl ⟨(by decide), h⟩
                    · have h := h.2 g1_9
                      by_cases g1_10 : a0 = 108
                      · have h := h.1 g1_10
                        refine zr_tsin C 10 (g1_10.trans (by decide)) zz_a0 (by decide) (zdec_at dm_X12_letterOf 1 rfl) rfl rfl ?_
                        refine zr_iconst C (zdec_at dm_X12_letterOf 26 rfl) ?_
                        exact zr_ireturn C rfl (zdec_at dm_X12_letterOf 27 rfl) rfl ⟨(by decide), h⟩
                      · have h := h.2 g1_10
                        by_cases g1_11 : a0 = 109
                        · have h := h.1 g1_11
                          refine zr_tsin C 11 (g1_11.trans (by decide)) zz_a0 (by decide) (zdec_at dm_X12_letterOf 1 rfl) rfl rfl ?_
                          refine zr_iconst C (zdec_at dm_X12_letterOf 26 rfl) ?_
                          exact zr_ireturn C rfl (zdec_at dm_X12_letterOf 27 rfl) rfl ⟨(by decide), h⟩
                        · have h := h.2 g1_11
                          by_cases g1_12 : a0 = 110
                          · have h := h.1 g1_12
                            refine zr_tsin C 12 (g1_12.trans (by decide)) zz_a0 (by decide) (zdec_at dm_X12_letterOf 1 rfl) rfl rfl ?_
                            refine zr_bipush C (zdec_at dm_X12_letterOf 16 rfl) (by decide) ?_
                            exact zr_ireturn C rfl (zdec_at dm_X12_letterOf 17 rfl) rfl ⟨(by decide), h⟩
                          · have h := h.2 g1_12
                            by_cases g1_13 : a0 = 111
                            · have h := h.1 g1_13
                              refine zr_tsin C 13 (g1_13.trans (by decide)) zz_a0 (by decide) (zdec_at dm_X12_letterOf 1 rfl) rfl rfl ?_
                              refine zr_iconst C (zdec_at dm_X12_letterOf 26 rfl) ?_
                              exact zr_ireturn C rfl (zdec_at dm_X12_letterOf 27 rfl) rfl ⟨(by decide), h⟩
                            · have h := h.2 g1_13
                              by_cases g1_14 : a0 = 112
                              · have h := h.1 g1_14
                                refine zr_tsin C 14 (g1_14.trans (by decide)) zz_a0 (by decide) (zdec_at dm_X12_letterOf 1 rfl) rfl rfl ?_
                                refine zr_iconst C (zdec_at dm_X12_letterOf 26 rfl) ?_
                                exact zr_ireturn C rfl (zdec_at dm_X12_letterOf 27 rfl) rfl ⟨(by decide), h⟩
                              · have h := h.2 g1_14
                                by_cases g1_15 : a0 = 113
                                · have h := h.1 g1_15
                                  refine zr_tsin C 15 (g1_15.trans (by decide)) zz_a0 (by decide) (zdec_at dm_X12_letterOf 1 rfl) rfl rfl ?_
                                  refine zr_iconst C (zdec_at dm_X12_letterOf 26 rfl) ?_
                                  exact zr_ireturn C rfl (zdec_at dm_X12_letterOf 27 rfl) rfl ⟨(by decide), h⟩
                                · have h := h.2 g1_15
                                  by_cases g1_16 : a0 = 114
                                  · have h := h.1 g1_16
                                    refine zr_tsin C 16 (g1_16.trans (by decide)) zz_a0 (by decide) (zdec_at dm_X12_letterOf 1 rfl) rfl rfl ?_
                                    refine zr_iconst C (zdec_at dm_X12_letterOf 26 rfl) ?_
                                    exact zr_ireturn C rfl (zdec_at dm_X12_letterOf 27 rfl) rfl ⟨(by decide), h⟩
                                  · have h := h.2 g1_16
                                    by_cases g1_17 : a0 = 115
                                    · have h := h.1 g1_17
                                      refine zr_tsin C 17 (g1_17.trans (by decide)) zz_a0 (by decide) (zdec_at dm_X12_letterOf 1 rfl) rfl rfl ?_
                                      refine zr_iconst C (zdec_at dm_X12_letterOf 2 rfl) ?_
                                      exact zr_ireturn C rfl (zdec_at dm_X12_letterOf 3 rfl) rfl ⟨(by decide), h⟩
                                    · have h := h.2 g1_17
                                      by_cases g1_18 : a0 = 116
                                      · have h := h.1 g1_18
                                        refine zr_tsin C 18 (g1_18.trans (by decide)) zz_a0 (by decide) (zdec_at dm_X12_letterOf 1 rfl) rfl rfl ?_
                                        refine zr_bipush C (zdec_at dm_X12_letterOf 8 rfl) (by decide) ?_
                                        exact zr_ireturn C rfl (zdec_at dm_X12_letterOf 9 rfl) rfl ⟨(by decide), h⟩
                                      · have h := h.2 g1_18
                                        by_cases g1_19 : a0 = 117
                                        · have h := h.1 g1_19
                                          refine zr_tsin C 19 (g1_19.trans (by decide)) zz_a0 (by decide) (zdec_at dm_X12_letterOf 1 rfl) rfl rfl ?_
                                          refine zr_iconst C (zdec_at dm_X12_letterOf 26 rfl) ?_
                                          exact zr_ireturn C rfl (zdec_at dm_X12_letterOf 27 rfl) rfl ⟨(by decide), h⟩
                                        · have h := h.2 g1_19
                                          by_cases g1_20 : a0 = 118
                                          · have h := h.1 g1_20
                                            refine zr_tsin C 20 (g1_20.trans (by decide)) zz_a0 (by decide) (zdec_at dm_X12_letterOf 1 rfl) rfl rfl ?_
                                            refine zr_iconst C (zdec_at dm_X12_letterOf 26 rfl) ?_
                                            exact zr_ireturn C rfl (zdec_at dm_X12_letterOf 27 rfl) rfl ⟨(by decide), h⟩
                                          · have h := h.2 g1_20
                                            by_cases g1_21 : a0 = 119
                                            · have h := h.1 g1_21
                                              refine zr_tsin C 21 (g1_21.trans (by decide)) zz_a0 (by decide) (zdec_at dm_X12_letterOf 1 rfl) rfl rfl ?_
                                              refine zr_iconst C (zdec_at dm_X12_letterOf 6 rfl) ?_
                                              exact zr_ireturn C rfl (zdec_at dm_X12_letterOf 7 rfl) rfl ⟨(by decide), h⟩
                                            · have h := h.2 g1_21
                                              by_cases g1_22 : a0 = 120
                                              · have h := h.1 g1_22
                                                refine zr_tsin C 22 (g1_22.trans (by decide)) zz_a0 (by decide) (zdec_at dm_X12_letterOf 1 rfl) rfl rfl ?_
                                                refine zr_iconst C (zdec_at dm_X12_letterOf 22 rfl) ?_
                                                exact zr_ireturn C rfl (zdec_at dm_X12_letterOf 23 rfl) rfl ⟨(by decide), h⟩
                                              · have h := h.2 g1_22
                                                by_cases g1_23 : a0 = 121
                                                · have h := h.1 g1_23
                                                  refine zr_tsin C 23 (g1_23.trans (by decide)) zz_a0 (by decide) (zdec_at dm_X12_letterOf 1 rfl) rfl rfl ?_
                                                  refine zr_iconst C (zdec_at dm_X12_letterOf 24 rfl) ?_
                                                  exact zr_ireturn C rfl (zdec_at dm_X12_letterOf 25 rfl) rfl ⟨(by decide), h⟩
                                                · have h := h.2 g1_23
                                                  refine zr_tsout C (zts_s 122 (zts_s 121 (zts_s 120 (zts_s 119 (zts_s 118 (zts_s 117 (zts_s 116 (zts_s 115 (zts_s 114 (zts_s 113 (zts_s 112 (zts_s 111 (zts_s 110 (zts_s 109 (zts_s 108 (zts_s 107 (zts_s 106 (zts_s 105 (zts_s 104 (zts_s 103 (zts_s 102 (zts_s 101 (zts_s 100 (zts_s 99 (zts_0 a0 98) g1_0) g1_1) g1_2) g1_3) g1_4) g1_5) g1_6) g1_7) g1_8) g1_9) g1_10) g1_11) g1_12) g1_13) g1_14) g1_15) g1_16) g1_17) g1_18) g1_19) g1_20) g1_21) g1_22) g1_23) zz_a0 (zdec_at dm_X12_letterOf 1 rfl) rfl ?_
                                                  refine zr_iconst C (zdec_at dm_X12_letterOf 26 rfl) ?_
                                                  exact zr_ireturn C rfl (zdec_at dm_X12_letterOf 27 rfl) rfl ⟨(by decide), h⟩

set_option maxHeartbeats 400000 in
set_option maxRecDepth 100000 in
theorem sn_X12_worth {pr_X12_areLike : Int → Int → zM → Prop} {po_X12_areLike : Int → Int → zM → Int → zM → Prop} {pr_X12_fieldOf : Int → Int → zM → Prop} {po_X12_fieldOf : Int → Int → zM → Int → zM → Prop} (hS_X12_areLike : zSnd zS 145 0 0 yX12_areLike cX12_areLike 6 (some .boolean) 2 [2, 0, 0] (F_X12_areLike pr_X12_areLike po_X12_areLike)) (hS_X12_fieldOf : zSnd zS 145 0 0 yX12_fieldOf cX12_fieldOf 3 (some .int) 4 [2, 0, 0] (F_X12_fieldOf pr_X12_fieldOf po_X12_fieldOf)) : zSnd zS 145 0 0 yX12_worth cX12_worth 4 (some .int) 5 [2, 0] (fun xs P M => ∃ a1 : Int, xs = [103, a1] ∧ vc_X12_worth pr_X12_areLike po_X12_areLike pr_X12_fieldOf po_X12_fieldOf a1 P M) := by
  refine zSnd.of rfl (fun ad xs hz => Nat.le_trans (Nat.le_of_eq (zlen ad _ xs hz)) (by decide)) ?_
  intro Γ C _ _ xs M hz hF
  obtain ⟨a1, rfl, h⟩ := hF
  have zz_a1 := zall_h (zall_t hz) (by decide)
  refine zr_rng (fun hR => ?_)
  have C : zC Γ mu_X12_worth := C
  change zV Γ mu_X12_worth (145, 0, 0) 0 [(0, zRf (zad Γ) 103), (1, zI a1)] [] M
  change vc_X12_worth pr_X12_areLike po_X12_areLike pr_X12_fieldOf po_X12_fieldOf a1 _ M at h
  unfold vc_X12_worth at h
  refine zr_iload_n C 1 rfl (zdec_at dm_X12_worth 0 rfl) rfl ?_
  refine zr_bipush C (zdec_at dm_X12_worth 1 rfl) (by decide) ?_
  refine zr_icmp_eq C zz_a1 (by decide) (zdec_at dm_X12_worth 2 rfl) rfl (fun g1 => ?_) (fun g1 => ?_)
  · have h := h.1 g1
    refine zr_iconst C (zdec_at dm_X12_worth 9 rfl) ?_
    refine zr_istore_n (L1 := [(2, zI 0), (0, zRf (zad Γ) 103), (1, zI a1)]) C (zdec_at dm_X12_worth 10 rfl) rfl (Nat.le_of_ble_eq_true rfl) rfl ?_
    refine zr_iconst C (zdec_at dm_X12_worth 11 rfl) ?_
    refine zr_istore_n (L1 := [(3, zI 0), (2, zI 0), (0, zRf (zad Γ) 103), (1, zI a1)]) C (zdec_at dm_X12_worth 12 rfl) rfl (Nat.le_of_ble_eq_true rfl) rfl ?_
    obtain ⟨I20, ⟨n12, q13⟩, hI11⟩ := h
    have lp10 : ∀ (n8 : Nat) (v2 : Int) (v3 : Int) (M6 : zM), I20 v2 v3 M6 n8 → zin v2 → zin v3 → zRng M6 → zV Γ mu_X12_worth (145, 0, 0) 20 [(0, zRf (zad Γ) 103), (2, zI v2), (3, zI v3)] [] M6 := by
      intro n8
      induction n8 using Nat.strongRecOn with
      | _ n8 ih9 =>
      intro v2 v3 M6 q14 z4 z5 hR7
      have h := hI11 v2 v3 M6 n8 q14 z4 z5 hR7
      refine zr_iload_n C 2 rfl (zdec_at dm_X12_worth 13 rfl) rfl ?_
      refine zr_aload_n C 0 rfl (zdec_at dm_X12_worth 14 rfl) rfl ?_
      refine zr_geti C fk_RX12_233 fi_103_30 (zdec_at dm_X12_worth 15 rfl) ?_
      refine zr_icmp_ge C z5 (hR7 _ _) (zdec_at dm_X12_worth 16 rfl) rfl (fun g15 => ?_) (fun g15 => ?_)
      · have h := h.1 g15
        refine zr_iload_n C 1 rfl (zdec_at dm_X12_worth 31 rfl) rfl ?_
        exact zr_ireturn C rfl (zdec_at dm_X12_worth 32 rfl) rfl ⟨z4, h⟩
      · have h := h.2 g15
        refine zr_iload_n C 1 rfl (zdec_at dm_X12_worth 17 rfl) rfl ?_
        refine zr_aload_n C 0 rfl (zdec_at dm_X12_worth 18 rfl) rfl ?_
        refine zr_aload_n C 0 rfl (zdec_at dm_X12_worth 19 rfl) rfl ?_
        refine zr_geti C fk_RX12_428 fi_103_59 (zdec_at dm_X12_worth 20 rfl) ?_
        refine zr_iload_n C 2 rfl (zdec_at dm_X12_worth 21 rfl) rfl ?_
        obtain ⟨g21, h⟩ := h
        refine zr_callV C [(M6 103 59), v3] hS_X12_areLike ck_RX12_382 iv_X12_areLike vc_X12 oc_103 rfl rfl (zdec_at dm_X12_worth 22 rfl) ⟨rfl, rfl, rfl, rfl⟩ ⟨by decide, by decide⟩ (Nat.le_of_ble_eq_true rfl) (zall_0 (hR7 _ _) (zall_0 z5 zall_n)) ?_
        refine ⟨_, _, rfl, g21, fun r16 M17 p20 z19 hR18 => ?_⟩
        have h := h r16 M17 p20 z19 hR18
        show zV Γ mu_X12_worth (145, 0, 0) 38 [(0, zRf (zad Γ) 103), (2, zI v2), (3, zI v3)] [zI r16, zI v2] M17
        refine zr_if_eq C z19 (zdec_at dm_X12_worth 23 rfl) rfl (fun g22 => ?_) (fun g22 => ?_)
        · have h := h.1 g22
          refine zr_iconst C (zdec_at dm_X12_worth 26 rfl) ?_
          refine zr_iadd C (zdec_at dm_X12_worth 27 rfl) ?_
          refine zr_istore_n (L1 := [(2, zI (v2 + 0)), (0, zRf (zad Γ) 103), (3, zI v3)]) C (zdec_at dm_X12_worth 28 rfl) rfl (Nat.le_of_ble_eq_true rfl) rfl ?_
          refine zr_iinc (L1 := [(3, zI (v3 + 1)), (2, zI (v2 + 0)), (0, zRf (zad Γ) 103)]) C 2 rfl (zdec_at dm_X12_worth 29 rfl) (Nat.le_of_ble_eq_true rfl) rfl ?_
          refine zr_goto C (zdec_at dm_X12_worth 30 rfl) rfl ?_
          obtain ⟨o23, h⟩ := h
          obtain ⟨o24, h⟩ := h
          obtain ⟨n25, q26, q27⟩ := h
          exact zr_sub [2, 1, 0] rfl (ih9 n25 q26 _ _ _ q27 o23 o24 hR18)
        · have h := h.2 g22
          refine zr_iconst C (zdec_at dm_X12_worth 24 rfl) ?_
          refine zr_goto C (zdec_at dm_X12_worth 25 rfl) rfl ?_
          refine zr_iadd C (zdec_at dm_X12_worth 27 rfl) ?_
          refine zr_istore_n (L1 := [(2, zI (v2 + 1)), (0, zRf (zad Γ) 103), (3, zI v3)]) C (zdec_at dm_X12_worth 28 rfl) rfl (Nat.le_of_ble_eq_true rfl) rfl ?_
          refine zr_iinc (L1 := [(3, zI (v3 + 1)), (2, zI (v2 + 1)), (0, zRf (zad Γ) 103)]) C 2 rfl (zdec_at dm_X12_worth 29 rfl) (Nat.le_of_ble_eq_true rfl) rfl ?_
          refine zr_goto C (zdec_at dm_X12_worth 30 rfl) rfl ?_
          obtain ⟨o28, h⟩ := h
          obtain ⟨o29, h⟩ := h
          obtain ⟨n30, q31, q32⟩ := h
          exact zr_sub [2, 1, 0] rfl (ih9 n30 q31 _ _ _ q32 o28 o29 hR18)
    exact zr_sub [2, 1, 0] rfl (lp10 n12 _ _ _ q13 (by decide) (by decide) hR)
  · have h := h.2 g1
    refine zr_aload_n C 0 rfl (zdec_at dm_X12_worth 3 rfl) rfl ?_
    refine zr_aload_n C 0 rfl (zdec_at dm_X12_worth 4 rfl) rfl ?_
    refine zr_geti C fk_RX12_428 fi_103_59 (zdec_at dm_X12_worth 5 rfl) ?_
    refine zr_iload_n C 1 rfl (zdec_at dm_X12_worth 6 rfl) rfl ?_
    obtain ⟨g38, h⟩ := h
    refine zr_callV C [(M 103 59), a1] hS_X12_fieldOf ck_RX12_305 iv_X12_fieldOf vc_X12 oc_103 rfl rfl (zdec_at dm_X12_worth 7 rfl) ⟨rfl, rfl, rfl, rfl⟩ ⟨by decide, by decide⟩ (Nat.le_of_ble_eq_true rfl) (zall_0 (hR _ _) (zall_0 zz_a1 zall_n)) ?_
    refine ⟨_, _, rfl, g38, fun r33 M34 p37 z36 hR35 => ?_⟩
    have h := h r33 M34 p37 z36 hR35
    show zV Γ mu_X12_worth (145, 0, 0) 15 [(0, zRf (zad Γ) 103), (1, zI a1)] [zI r33] M34
    exact zr_ireturn C rfl (zdec_at dm_X12_worth 8 rfl) rfl ⟨z36, h⟩

set_option maxHeartbeats 400000 in
set_option maxRecDepth 100000 in
theorem sn_X12_readAtom {pr_X12_look : zM → Prop} {po_X12_look : zM → Int → zM → Prop} {pr_X12_letterOf : Int → zM → Prop} {po_X12_letterOf : Int → zM → Int → zM → Prop} {pr_X12_isDigit : Int → zM → Prop} {po_X12_isDigit : Int → zM → Int → zM → Prop} {pr_X12_worth : Int → zM → Prop} {po_X12_worth : Int → zM → Int → zM → Prop} (hS_X12_look : zSnd zS 145 0 0 yX12_look cX12_look 1 (some .int) 0 [2] (F_X12_look pr_X12_look po_X12_look)) (hS_X12_letterOf : zSnd zS 145 0 0 yX12_letterOf cX12_letterOf 1 (some .int) 0 [0] (F_X12_letterOf pr_X12_letterOf po_X12_letterOf)) (hS_X12_isDigit : zSnd zS 145 0 0 yX12_isDigit cX12_isDigit 1 (some .boolean) 1 [0] (F_X12_isDigit pr_X12_isDigit po_X12_isDigit)) (hS_X12_worth : zSnd zS 145 0 0 yX12_worth cX12_worth 4 (some .int) 5 [2, 0] (F_X12_worth pr_X12_worth po_X12_worth)) : zSnd zS 145 0 0 yX12_readAtom cX12_readAtom 4 (some .int) 6 [2] (fun xs P M => xs = [103] ∧ vc_X12_readAtom pr_X12_look po_X12_look pr_X12_letterOf po_X12_letterOf pr_X12_isDigit po_X12_isDigit pr_X12_worth po_X12_worth P M) := by
  refine zSnd.of rfl (fun ad xs hz => Nat.le_trans (Nat.le_of_eq (zlen ad _ xs hz)) (by decide)) ?_
  intro Γ C _ _ xs M hz hF
  obtain ⟨rfl, h⟩ := hF
  refine zr_rng (fun hR => ?_)
  have C : zC Γ mu_X12_readAtom := C
  change zV Γ mu_X12_readAtom (145, 0, 0) 0 [(0, zRf (zad Γ) 103)] [] M
  change vc_X12_readAtom pr_X12_look po_X12_look pr_X12_letterOf po_X12_letterOf pr_X12_isDigit po_X12_isDigit pr_X12_worth po_X12_worth _ M at h
  unfold vc_X12_readAtom at h
  refine zr_aload_n C 0 rfl (zdec_at dm_X12_readAtom 0 rfl) rfl ?_
  obtain ⟨g6, h⟩ := h
  refine zr_callV C [] hS_X12_look ck_RX12_431 iv_X12_look vc_X12 oc_103 rfl rfl (zdec_at dm_X12_readAtom 1 rfl) ⟨rfl, rfl, rfl, rfl⟩ ⟨by decide, by decide⟩ (Nat.le_of_ble_eq_true rfl) zall_n ?_
  refine ⟨rfl, g6, fun r1 M2 p5 z4 hR3 => ?_⟩
  have h := h r1 M2 p5 z4 hR3
  show zV Γ mu_X12_readAtom (145, 0, 0) 4 [(0, zRf (zad Γ) 103)] [zI r1] M2
  refine zr_istore_n (L1 := [(1, zI r1), (0, zRf (zad Γ) 103)]) C (zdec_at dm_X12_readAtom 2 rfl) rfl (Nat.le_of_ble_eq_true rfl) rfl ?_
  refine zr_iload_n C 0 rfl (zdec_at dm_X12_readAtom 3 rfl) rfl ?_
  obtain ⟨g12, h⟩ := h
  refine zr_callS C [r1] hS_X12_letterOf ck_RX12_434 sv_X12_letterOf rfl rfl (zdec_at dm_X12_readAtom 4 rfl) ⟨rfl, rfl, rfl, rfl⟩ ⟨by decide, by decide⟩ (Nat.le_of_ble_eq_true rfl) (zall_0 z4 zall_n) ?_
  refine ⟨_, rfl, g12, fun r7 M8 p11 z10 hR9 => ?_⟩
  have h := h r7 M8 p11 z10 hR9
  show zV Γ mu_X12_readAtom (145, 0, 0) 9 [(1, zI r1), (0, zRf (zad Γ) 103)] [zI r7] M8
  refine zr_if_lt C z10 (zdec_at dm_X12_readAtom 5 rfl) rfl (fun g13 => ?_) (fun g13 => ?_)
  · have h := h.1 g13
    refine zr_iload_n C 0 rfl (zdec_at dm_X12_readAtom 22 rfl) rfl ?_
    obtain ⟨g19, h⟩ := h
    refine zr_callS C [r1] hS_X12_isDigit ck_RX12_190 sv_X12_isDigit rfl rfl (zdec_at dm_X12_readAtom 23 rfl) ⟨rfl, rfl, rfl, rfl⟩ ⟨by decide, by decide⟩ (Nat.le_of_ble_eq_true rfl) (zall_0 z4 zall_n) ?_
    refine ⟨_, rfl, g19, fun r14 M15 p18 z17 hR16 => ?_⟩
    have h := h r14 M15 p18 z17 hR16
    show zV Γ mu_X12_readAtom (145, 0, 0) 46 [(1, zI r1), (0, zRf (zad Γ) 103)] [zI r14] M15
    refine zr_if_ne C z17 (zdec_at dm_X12_readAtom 24 rfl) rfl (fun g20 => ?_) (fun g20 => ?_)
    · have h := h.1 g20
      refine zr_iload_n C 0 rfl (zdec_at dm_X12_readAtom 30 rfl) rfl ?_
      refine zr_bipush C (zdec_at dm_X12_readAtom 31 rfl) (by decide) ?_
      refine zr_isub C (zdec_at dm_X12_readAtom 32 rfl) ?_
      refine zr_istore_n (L1 := [(2, zI (r1 - 48)), (1, zI r1), (0, zRf (zad Γ) 103)]) C (zdec_at dm_X12_readAtom 33 rfl) rfl (Nat.le_of_ble_eq_true rfl) rfl ?_
      refine zr_aload_n C 2 rfl (zdec_at dm_X12_readAtom 34 rfl) rfl ?_
      refine zr_dup C rfl (zdec_at dm_X12_readAtom 35 rfl) ?_
      refine zr_geti C fk_RX12_143 fi_103_23 (zdec_at dm_X12_readAtom 36 rfl) ?_
      refine zr_iconst C (zdec_at dm_X12_readAtom 37 rfl) ?_
      refine zr_iadd C (zdec_at dm_X12_readAtom 38 rfl) ?_
      obtain ⟨o21, h⟩ := h
      refine zr_puti C fk_RX12_143 fi_103_23 o21 (zdec_at dm_X12_readAtom 39 rfl) (fun M22 e23 => ?_)
      have h := h M22 e23
      have hR24 : zRng M22 := by rw [e23]; exact hR16.set o21 _ _
      refine zr_iconst C (zdec_at dm_X12_readAtom 40 rfl) ?_
      refine zr_istore_n (L1 := [(3, zI 1), (2, zI (r1 - 48)), (1, zI r1), (0, zRf (zad Γ) 103)]) C (zdec_at dm_X12_readAtom 41 rfl) rfl (Nat.le_of_ble_eq_true rfl) rfl ?_
      obtain ⟨o27, h⟩ := h
      obtain ⟨I73, ⟨n36, q37⟩, hI35⟩ := h
      have lp34 : ∀ (n32 : Nat) (v25 : Int) (v26 : Int) (M30 : zM), I73 v25 v26 M30 n32 → zin v25 → zin v26 → zRng M30 → zV Γ mu_X12_readAtom (145, 0, 0) 73 [(0, zRf (zad Γ) 103), (1, zI r1), (2, zI v25), (3, zI v26)] [] M30 := by
        intro n32
        induction n32 using Nat.strongRecOn with
        | _ n32 ih33 =>
        intro v25 v26 M30 q38 z28 z29 hR31
        have h := hI35 v25 v26 M30 n32 q38 z28 z29 hR31
        refine zr_iload_n C 3 rfl (zdec_at dm_X12_readAtom 42 rfl) rfl ?_
        refine zr_iconst C (zdec_at dm_X12_readAtom 43 rfl) ?_
        refine zr_icmp_ge C z29 (by decide) (zdec_at dm_X12_readAtom 44 rfl) rfl (fun g39 => ?_) (fun g39 => ?_)
        · have h := h.1 g39
          refine zr_iload_n C 2 rfl (zdec_at dm_X12_readAtom 69 rfl) rfl ?_
          exact zr_ireturn C rfl (zdec_at dm_X12_readAtom 70 rfl) rfl ⟨z28, h⟩
        · have h := h.2 g39
          refine zr_iload_n C 1 rfl (zdec_at dm_X12_readAtom 45 rfl) rfl ?_
          refine zr_bipush C (zdec_at dm_X12_readAtom 46 rfl) (by decide) ?_
          refine zr_icmp_eq C z4 (by decide) (zdec_at dm_X12_readAtom 47 rfl) rfl (fun g40 => ?_) (fun g40 => ?_)
          · have h := h.1 g40
            refine zr_iload_n C 2 rfl (zdec_at dm_X12_readAtom 69 rfl) rfl ?_
            exact zr_ireturn C rfl (zdec_at dm_X12_readAtom 70 rfl) rfl ⟨z28, h⟩
          · have h := h.2 g40
            refine zr_aload_n C 0 rfl (zdec_at dm_X12_readAtom 48 rfl) rfl ?_
            obtain ⟨g46, h⟩ := h
            refine zr_callV C [] hS_X12_look ck_RX12_431 iv_X12_look vc_X12 oc_103 rfl rfl (zdec_at dm_X12_readAtom 49 rfl) ⟨rfl, rfl, rfl, rfl⟩ ⟨by decide, by decide⟩ (Nat.le_of_ble_eq_true rfl) zall_n ?_
            refine ⟨rfl, g46, fun r41 M42 p45 z44 hR43 => ?_⟩
            have h := h r41 M42 p45 z44 hR43
            show zV Γ mu_X12_readAtom (145, 0, 0) 88 [(0, zRf (zad Γ) 103), (1, zI r1), (2, zI v25), (3, zI v26)] [zI r41] M42
            obtain ⟨g52, h⟩ := h
            refine zr_callS C [r41] hS_X12_isDigit ck_RX12_190 sv_X12_isDigit rfl rfl (zdec_at dm_X12_readAtom 50 rfl) ⟨rfl, rfl, rfl, rfl⟩ ⟨by decide, by decide⟩ (Nat.le_of_ble_eq_true rfl) (zall_0 z44 zall_n) ?_
            refine ⟨_, rfl, g52, fun r47 M48 p51 z50 hR49 => ?_⟩
            have h := h r47 M48 p51 z50 hR49
            show zV Γ mu_X12_readAtom (145, 0, 0) 91 [(0, zRf (zad Γ) 103), (1, zI r1), (2, zI v25), (3, zI v26)] [zI r47] M48
            refine zr_if_eq C z50 (zdec_at dm_X12_readAtom 51 rfl) rfl (fun g53 => ?_) (fun g53 => ?_)
            · have h := h.1 g53
              refine zr_iload_n C 2 rfl (zdec_at dm_X12_readAtom 69 rfl) rfl ?_
              exact zr_ireturn C rfl (zdec_at dm_X12_readAtom 70 rfl) rfl ⟨z28, h⟩
            · have h := h.2 g53
              refine zr_bipush C (zdec_at dm_X12_readAtom 52 rfl) (by decide) ?_
              refine zr_iload_n C 2 rfl (zdec_at dm_X12_readAtom 53 rfl) rfl ?_
              refine zr_imul C (zdec_at dm_X12_readAtom 54 rfl) ?_
              refine zr_aload_n C 0 rfl (zdec_at dm_X12_readAtom 55 rfl) rfl ?_
              obtain ⟨g59, h⟩ := h
              refine zr_callV C [] hS_X12_look ck_RX12_431 iv_X12_look vc_X12 oc_103 rfl rfl (zdec_at dm_X12_readAtom 56 rfl) ⟨rfl, rfl, rfl, rfl⟩ ⟨by decide, by decide⟩ (Nat.le_of_ble_eq_true rfl) zall_n ?_
              refine ⟨rfl, g59, fun r54 M55 p58 z57 hR56 => ?_⟩
              have h := h r54 M55 p58 z57 hR56
              show zV Γ mu_X12_readAtom (145, 0, 0) 102 [(0, zRf (zad Γ) 103), (1, zI r1), (2, zI v25), (3, zI v26)] [zI r54, zI (10 * v25)] M55
              refine zr_iadd C (zdec_at dm_X12_readAtom 57 rfl) ?_
              refine zr_bipush C (zdec_at dm_X12_readAtom 58 rfl) (by decide) ?_
              refine zr_isub C (zdec_at dm_X12_readAtom 59 rfl) ?_
              refine zr_istore_n (L1 := [(2, zI (((10 * v25) + r54) - 48)), (0, zRf (zad Γ) 103), (1, zI r1), (3, zI v26)]) C (zdec_at dm_X12_readAtom 60 rfl) rfl (Nat.le_of_ble_eq_true rfl) rfl ?_
              refine zr_aload_n C 1 rfl (zdec_at dm_X12_readAtom 61 rfl) rfl ?_
              refine zr_dup C rfl (zdec_at dm_X12_readAtom 62 rfl) ?_
              refine zr_geti C fk_RX12_143 fi_103_23 (zdec_at dm_X12_readAtom 63 rfl) ?_
              refine zr_iconst C (zdec_at dm_X12_readAtom 64 rfl) ?_
              refine zr_iadd C (zdec_at dm_X12_readAtom 65 rfl) ?_
              obtain ⟨o60, h⟩ := h
              refine zr_puti C fk_RX12_143 fi_103_23 o60 (zdec_at dm_X12_readAtom 66 rfl) (fun M61 e62 => ?_)
              have h := h M61 e62
              have hR63 : zRng M61 := by rw [e62]; exact hR56.set o60 _ _
              refine zr_iinc (L1 := [(3, zI (v26 + 1)), (2, zI (((10 * v25) + r54) - 48)), (0, zRf (zad Γ) 103), (1, zI r1)]) C 3 rfl (zdec_at dm_X12_readAtom 67 rfl) (Nat.le_of_ble_eq_true rfl) rfl ?_
              refine zr_goto C (zdec_at dm_X12_readAtom 68 rfl) rfl ?_
              obtain ⟨o64, h⟩ := h
              obtain ⟨o65, h⟩ := h
              obtain ⟨n66, q67, q68⟩ := h
              exact zr_sub [2, 3, 1, 0] rfl (ih33 n66 q67 _ _ _ q68 o64 o65 hR63)
      exact zr_sub [3, 2, 1, 0] rfl (lp34 n36 _ _ _ q37 o27 (by decide) hR24)
    · have h := h.2 g20
      refine zr_aload_n C 1 rfl (zdec_at dm_X12_readAtom 25 rfl) rfl ?_
      refine zr_iconst C (zdec_at dm_X12_readAtom 26 rfl) ?_
      refine zr_putz C fk_RX12_164 fi_103_24 (by decide) (by decide) (zdec_at dm_X12_readAtom 27 rfl) (fun M69 e70 => ?_)
      have h := h M69 e70
      have hR71 : zRng M69 := by rw [e70]; exact hR16.set (by decide) _ _
      refine zr_iconst C (zdec_at dm_X12_readAtom 28 rfl) ?_
      exact zr_ireturn C rfl (zdec_at dm_X12_readAtom 29 rfl) rfl ⟨(by decide), h⟩
  · have h := h.2 g13
    refine zr_aload_n C 1 rfl (zdec_at dm_X12_readAtom 6 rfl) rfl ?_
    refine zr_dup C rfl (zdec_at dm_X12_readAtom 7 rfl) ?_
    refine zr_geti C fk_RX12_143 fi_103_23 (zdec_at dm_X12_readAtom 8 rfl) ?_
    refine zr_iconst C (zdec_at dm_X12_readAtom 9 rfl) ?_
    refine zr_iadd C (zdec_at dm_X12_readAtom 10 rfl) ?_
    obtain ⟨o72, h⟩ := h
    refine zr_puti C fk_RX12_143 fi_103_23 o72 (zdec_at dm_X12_readAtom 11 rfl) (fun M73 e74 => ?_)
    have h := h M73 e74
    have hR75 : zRng M73 := by rw [e74]; exact hR9.set o72 _ _
    refine zr_aload_n C 1 rfl (zdec_at dm_X12_readAtom 12 rfl) rfl ?_
    refine zr_geti C fk_RX12_425 fi_103_58 (zdec_at dm_X12_readAtom 13 rfl) ?_
    refine zr_if_eq C (hR75 _ _) (zdec_at dm_X12_readAtom 14 rfl) rfl (fun g76 => ?_) (fun g76 => ?_)
    · have h := h.1 g76
      refine zr_iconst C (zdec_at dm_X12_readAtom 20 rfl) ?_
      exact zr_ireturn C rfl (zdec_at dm_X12_readAtom 21 rfl) rfl ⟨(by decide), h⟩
    · have h := h.2 g76
      refine zr_aload_n C 1 rfl (zdec_at dm_X12_readAtom 15 rfl) rfl ?_
      refine zr_iload_n C 0 rfl (zdec_at dm_X12_readAtom 16 rfl) rfl ?_
      obtain ⟨g82, h⟩ := h
      refine zr_callS C [r1] hS_X12_letterOf ck_RX12_434 sv_X12_letterOf rfl rfl (zdec_at dm_X12_readAtom 17 rfl) ⟨rfl, rfl, rfl, rfl⟩ ⟨by decide, by decide⟩ (Nat.le_of_ble_eq_true rfl) (zall_0 z4 zall_n) ?_
      refine ⟨_, rfl, g82, fun r77 M78 p81 z80 hR79 => ?_⟩
      have h := h r77 M78 p81 z80 hR79
      show zV Γ mu_X12_readAtom (145, 0, 0) 34 [(1, zI r1), (0, zRf (zad Γ) 103)] [zI r77, zRf (zad Γ) 103] M78
      obtain ⟨g88, h⟩ := h
      refine zr_callV C [r77] hS_X12_worth ck_RX12_437 iv_X12_worth vc_X12 oc_103 rfl rfl (zdec_at dm_X12_readAtom 18 rfl) ⟨rfl, rfl, rfl, rfl⟩ ⟨by decide, by decide⟩ (Nat.le_of_ble_eq_true rfl) (zall_0 z80 zall_n) ?_
      refine ⟨_, rfl, g88, fun r83 M84 p87 z86 hR85 => ?_⟩
      have h := h r83 M84 p87 z86 hR85
      show zV Γ mu_X12_readAtom (145, 0, 0) 37 [(1, zI r1), (0, zRf (zad Γ) 103)] [zI r83] M84
      refine zr_goto C (zdec_at dm_X12_readAtom 19 rfl) rfl ?_
      exact zr_ireturn C rfl (zdec_at dm_X12_readAtom 21 rfl) rfl ⟨z86, h⟩

set_option maxHeartbeats 400000 in
set_option maxRecDepth 100000 in
theorem sn_X12_readSum {pr_X12_readAtom : zM → Prop} {po_X12_readAtom : zM → Int → zM → Prop} {pr_X12_look : zM → Prop} {po_X12_look : zM → Int → zM → Prop} (hS_X12_readAtom : zSnd zS 145 0 0 yX12_readAtom cX12_readAtom 4 (some .int) 6 [2] (F_X12_readAtom pr_X12_readAtom po_X12_readAtom)) (hS_X12_look : zSnd zS 145 0 0 yX12_look cX12_look 1 (some .int) 0 [2] (F_X12_look pr_X12_look po_X12_look)) : zSnd zS 145 0 0 yX12_readSum cX12_readSum 4 (some .int) 7 [2] (fun xs P M => xs = [103] ∧ vc_X12_readSum pr_X12_readAtom po_X12_readAtom pr_X12_look po_X12_look P M) := by
  refine zSnd.of rfl (fun ad xs hz => Nat.le_trans (Nat.le_of_eq (zlen ad _ xs hz)) (by decide)) ?_
  intro Γ C _ _ xs M hz hF
  obtain ⟨rfl, h⟩ := hF
  refine zr_rng (fun hR => ?_)
  have C : zC Γ mu_X12_readSum := C
  change zV Γ mu_X12_readSum (145, 0, 0) 0 [(0, zRf (zad Γ) 103)] [] M
  change vc_X12_readSum pr_X12_readAtom po_X12_readAtom pr_X12_look po_X12_look _ M at h
  unfold vc_X12_readSum at h
  refine zr_aload_n C 0 rfl (zdec_at dm_X12_readSum 0 rfl) rfl ?_
  obtain ⟨g6, h⟩ := h
  refine zr_callV C [] hS_X12_readAtom ck_RX12_440 iv_X12_readAtom vc_X12 oc_103 rfl rfl (zdec_at dm_X12_readSum 1 rfl) ⟨rfl, rfl, rfl, rfl⟩ ⟨by decide, by decide⟩ (Nat.le_of_ble_eq_true rfl) zall_n ?_
  refine ⟨rfl, g6, fun r1 M2 p5 z4 hR3 => ?_⟩
  have h := h r1 M2 p5 z4 hR3
  show zV Γ mu_X12_readSum (145, 0, 0) 4 [(0, zRf (zad Γ) 103)] [zI r1] M2
  refine zr_istore_n (L1 := [(1, zI r1), (0, zRf (zad Γ) 103)]) C (zdec_at dm_X12_readSum 2 rfl) rfl (Nat.le_of_ble_eq_true rfl) rfl ?_
  obtain ⟨I5, ⟨n15, q16⟩, hI14⟩ := h
  have lp13 : ∀ (n11 : Nat) (v7 : Int) (M9 : zM), I5 v7 M9 n11 → zin v7 → zRng M9 → zV Γ mu_X12_readSum (145, 0, 0) 5 [(0, zRf (zad Γ) 103), (1, zI v7)] [] M9 := by
    intro n11
    induction n11 using Nat.strongRecOn with
    | _ n11 ih12 =>
    intro v7 M9 q17 z8 hR10
    have h := hI14 v7 M9 n11 q17 z8 hR10
    refine zr_aload_n C 0 rfl (zdec_at dm_X12_readSum 3 rfl) rfl ?_
    refine zr_geti C fk_RX12_164 fi_103_24 (zdec_at dm_X12_readSum 4 rfl) ?_
    refine zr_if_ne C (hR10 _ _) (zdec_at dm_X12_readSum 5 rfl) rfl (fun g18 => ?_) (fun g18 => ?_)
    · have h := h.1 g18
      refine zr_iload_n C 1 rfl (zdec_at dm_X12_readSum 38 rfl) rfl ?_
      exact zr_ireturn C rfl (zdec_at dm_X12_readSum 39 rfl) rfl ⟨z8, h⟩
    · have h := h.2 g18
      refine zr_aload_n C 0 rfl (zdec_at dm_X12_readSum 6 rfl) rfl ?_
      obtain ⟨g24, h⟩ := h
      refine zr_callV C [] hS_X12_look ck_RX12_431 iv_X12_look vc_X12 oc_103 rfl rfl (zdec_at dm_X12_readSum 7 rfl) ⟨rfl, rfl, rfl, rfl⟩ ⟨by decide, by decide⟩ (Nat.le_of_ble_eq_true rfl) zall_n ?_
      refine ⟨rfl, g24, fun r19 M20 p23 z22 hR21 => ?_⟩
      have h := h r19 M20 p23 z22 hR21
      show zV Γ mu_X12_readSum (145, 0, 0) 16 [(0, zRf (zad Γ) 103), (1, zI v7)] [zI r19] M20
      refine zr_bipush C (zdec_at dm_X12_readSum 8 rfl) (by decide) ?_
      have h := h (fun M25 => zRng M25 → zV Γ mu_X12_readSum (145, 0, 0) 30 [(0, zRf (zad Γ) 103), (1, zI v7)] [] M25) (fun M25 h hR26 => by
        have h := h hR26
        refine zr_aload_n C 0 rfl (zdec_at dm_X12_readSum 14 rfl) rfl ?_
        obtain ⟨g32, h⟩ := h
        refine zr_callV C [] hS_X12_look ck_RX12_431 iv_X12_look vc_X12 oc_103 rfl rfl (zdec_at dm_X12_readSum 15 rfl) ⟨rfl, rfl, rfl, rfl⟩ ⟨by decide, by decide⟩ (Nat.le_of_ble_eq_true rfl) zall_n ?_
        refine ⟨rfl, g32, fun r27 M28 p31 z30 hR29 => ?_⟩
        have h := h r27 M28 p31 z30 hR29
        show zV Γ mu_X12_readSum (145, 0, 0) 34 [(0, zRf (zad Γ) 103), (1, zI v7)] [zI r27] M28
        refine zr_istore_n (L1 := [(2, zI r27), (0, zRf (zad Γ) 103), (1, zI v7)]) C (zdec_at dm_X12_readSum 16 rfl) rfl (Nat.le_of_ble_eq_true rfl) rfl ?_
        refine zr_aload_n C 1 rfl (zdec_at dm_X12_readSum 17 rfl) rfl ?_
        refine zr_dup C rfl (zdec_at dm_X12_readSum 18 rfl) ?_
        refine zr_geti C fk_RX12_143 fi_103_23 (zdec_at dm_X12_readSum 19 rfl) ?_
        refine zr_iconst C (zdec_at dm_X12_readSum 20 rfl) ?_
        refine zr_iadd C (zdec_at dm_X12_readSum 21 rfl) ?_
        obtain ⟨o33, h⟩ := h
        refine zr_puti C fk_RX12_143 fi_103_23 o33 (zdec_at dm_X12_readSum 22 rfl) (fun M34 e35 => ?_)
        have h := h M34 e35
        have hR36 : zRng M34 := by rw [e35]; exact hR29.set o33 _ _
        refine zr_aload_n C 1 rfl (zdec_at dm_X12_readSum 23 rfl) rfl ?_
        obtain ⟨g42, h⟩ := h
        refine zr_callV C [] hS_X12_readAtom ck_RX12_440 iv_X12_readAtom vc_X12 oc_103 rfl rfl (zdec_at dm_X12_readSum 24 rfl) ⟨rfl, rfl, rfl, rfl⟩ ⟨by decide, by decide⟩ (Nat.le_of_ble_eq_true rfl) zall_n ?_
        refine ⟨rfl, g42, fun r37 M38 p41 z40 hR39 => ?_⟩
        have h := h r37 M38 p41 z40 hR39
        show zV Γ mu_X12_readSum (145, 0, 0) 49 [(2, zI r27), (0, zRf (zad Γ) 103), (1, zI v7)] [zI r37] M38
        refine zr_istore_n (L1 := [(3, zI r37), (2, zI r27), (0, zRf (zad Γ) 103), (1, zI v7)]) C (zdec_at dm_X12_readSum 25 rfl) rfl (Nat.le_of_ble_eq_true rfl) rfl ?_
        refine zr_iload_n C 1 rfl (zdec_at dm_X12_readSum 26 rfl) rfl ?_
        refine zr_bipush C (zdec_at dm_X12_readSum 27 rfl) (by decide) ?_
        refine zr_icmp_ne C z30 (by decide) (zdec_at dm_X12_readSum 28 rfl) rfl (fun g43 => ?_) (fun g43 => ?_)
        · have h := h.1 g43
          refine zr_iload_n C 3 rfl (zdec_at dm_X12_readSum 33 rfl) rfl ?_
          refine zr_iload_n C 0 rfl (zdec_at dm_X12_readSum 34 rfl) rfl ?_
          refine zr_isub C (zdec_at dm_X12_readSum 35 rfl) ?_
          refine zr_istore_n (L1 := [(1, zI (v7 - r37)), (3, zI r37), (2, zI r27), (0, zRf (zad Γ) 103)]) C (zdec_at dm_X12_readSum 36 rfl) rfl (Nat.le_of_ble_eq_true rfl) rfl ?_
          refine zr_goto C (zdec_at dm_X12_readSum 37 rfl) rfl ?_
          obtain ⟨o44, h⟩ := h
          obtain ⟨n45, q46, q47⟩ := h
          exact zr_sub [3, 0] rfl (ih12 n45 q46 _ _ q47 o44 hR39)
        · have h := h.2 g43
          refine zr_iload_n C 3 rfl (zdec_at dm_X12_readSum 29 rfl) rfl ?_
          refine zr_iload_n C 0 rfl (zdec_at dm_X12_readSum 30 rfl) rfl ?_
          refine zr_iadd C (zdec_at dm_X12_readSum 31 rfl) ?_
          refine zr_goto C (zdec_at dm_X12_readSum 32 rfl) rfl ?_
          refine zr_istore_n (L1 := [(1, zI (v7 + r37)), (3, zI r37), (2, zI r27), (0, zRf (zad Γ) 103)]) C (zdec_at dm_X12_readSum 36 rfl) rfl (Nat.le_of_ble_eq_true rfl) rfl ?_
          refine zr_goto C (zdec_at dm_X12_readSum 37 rfl) rfl ?_
          obtain ⟨o48, h⟩ := h
          obtain ⟨n49, q50, q51⟩ := h
          exact zr_sub [3, 0] rfl (ih12 n49 q50 _ _ q51 o48 hR39))
      refine zr_icmp_eq C z22 (by decide) (zdec_at dm_X12_readSum 9 rfl) rfl (fun g52 => ?_) (fun g52 => ?_)
      · have h := h.1 g52
        exact zr_sub [0, 1] rfl (h hR21)
      · have h := h.2 g52
        refine zr_aload_n C 0 rfl (zdec_at dm_X12_readSum 10 rfl) rfl ?_
        obtain ⟨g58, h⟩ := h
        refine zr_callV C [] hS_X12_look ck_RX12_431 iv_X12_look vc_X12 oc_103 rfl rfl (zdec_at dm_X12_readSum 11 rfl) ⟨rfl, rfl, rfl, rfl⟩ ⟨by decide, by decide⟩ (Nat.le_of_ble_eq_true rfl) zall_n ?_
        refine ⟨rfl, g58, fun r53 M54 p57 z56 hR55 => ?_⟩
        have h := h r53 M54 p57 z56 hR55
        show zV Γ mu_X12_readSum (145, 0, 0) 25 [(0, zRf (zad Γ) 103), (1, zI v7)] [zI r53] M54
        refine zr_bipush C (zdec_at dm_X12_readSum 12 rfl) (by decide) ?_
        refine zr_icmp_ne C z56 (by decide) (zdec_at dm_X12_readSum 13 rfl) rfl (fun g59 => ?_) (fun g59 => ?_)
        · have h := h.1 g59
          refine zr_iload_n C 1 rfl (zdec_at dm_X12_readSum 38 rfl) rfl ?_
          exact zr_ireturn C rfl (zdec_at dm_X12_readSum 39 rfl) rfl ⟨z8, h⟩
        · have h := h.2 g59
          exact zr_sub [0, 1] rfl (h hR55)
  exact zr_sub [1, 0] rfl (lp13 n15 _ _ q16 z4 hR3)

set_option maxHeartbeats 400000 in
set_option maxRecDepth 100000 in
theorem sn_X12_readTest {pr_X12_readSum : zM → Prop} {po_X12_readSum : zM → Int → zM → Prop} {pr_X12_look : zM → Prop} {po_X12_look : zM → Int → zM → Prop} (hS_X12_readSum : zSnd zS 145 0 0 yX12_readSum cX12_readSum 4 (some .int) 7 [2] (F_X12_readSum pr_X12_readSum po_X12_readSum)) (hS_X12_look : zSnd zS 145 0 0 yX12_look cX12_look 1 (some .int) 0 [2] (F_X12_look pr_X12_look po_X12_look)) : zSnd zS 145 0 0 yX12_readTest cX12_readTest 4 (some .boolean) 8 [2] (fun xs P M => xs = [103] ∧ vc_X12_readTest pr_X12_readSum po_X12_readSum pr_X12_look po_X12_look P M) := by
  refine zSnd.of rfl (fun ad xs hz => Nat.le_trans (Nat.le_of_eq (zlen ad _ xs hz)) (by decide)) ?_
  intro Γ C _ _ xs M hz hF
  obtain ⟨rfl, h⟩ := hF
  refine zr_rng (fun hR => ?_)
  have C : zC Γ mu_X12_readTest := C
  change zV Γ mu_X12_readTest (145, 0, 0) 0 [(0, zRf (zad Γ) 103)] [] M
  change vc_X12_readTest pr_X12_readSum po_X12_readSum pr_X12_look po_X12_look _ M at h
  unfold vc_X12_readTest at h
  refine zr_aload_n C 0 rfl (zdec_at dm_X12_readTest 0 rfl) rfl ?_
  obtain ⟨g6, h⟩ := h
  refine zr_callV C [] hS_X12_readSum ck_RX12_443 iv_X12_readSum vc_X12 oc_103 rfl rfl (zdec_at dm_X12_readTest 1 rfl) ⟨rfl, rfl, rfl, rfl⟩ ⟨by decide, by decide⟩ (Nat.le_of_ble_eq_true rfl) zall_n ?_
  refine ⟨rfl, g6, fun r1 M2 p5 z4 hR3 => ?_⟩
  have h := h r1 M2 p5 z4 hR3
  show zV Γ mu_X12_readTest (145, 0, 0) 4 [(0, zRf (zad Γ) 103)] [zI r1] M2
  refine zr_istore_n (L1 := [(1, zI r1), (0, zRf (zad Γ) 103)]) C (zdec_at dm_X12_readTest 2 rfl) rfl (Nat.le_of_ble_eq_true rfl) rfl ?_
  refine zr_aload_n C 1 rfl (zdec_at dm_X12_readTest 3 rfl) rfl ?_
  obtain ⟨g12, h⟩ := h
  refine zr_callV C [] hS_X12_look ck_RX12_431 iv_X12_look vc_X12 oc_103 rfl rfl (zdec_at dm_X12_readTest 4 rfl) ⟨rfl, rfl, rfl, rfl⟩ ⟨by decide, by decide⟩ (Nat.le_of_ble_eq_true rfl) zall_n ?_
  refine ⟨rfl, g12, fun r7 M8 p11 z10 hR9 => ?_⟩
  have h := h r7 M8 p11 z10 hR9
  show zV Γ mu_X12_readTest (145, 0, 0) 9 [(1, zI r1), (0, zRf (zad Γ) 103)] [zI r7] M8
  refine zr_istore_n (L1 := [(2, zI r7), (1, zI r1), (0, zRf (zad Γ) 103)]) C (zdec_at dm_X12_readTest 5 rfl) rfl (Nat.le_of_ble_eq_true rfl) rfl ?_
  refine zr_aload_n C 2 rfl (zdec_at dm_X12_readTest 6 rfl) rfl ?_
  refine zr_geti C fk_RX12_164 fi_103_24 (zdec_at dm_X12_readTest 7 rfl) ?_
  refine zr_if_ne C (hR9 _ _) (zdec_at dm_X12_readTest 8 rfl) rfl (fun g13 => ?_) (fun g13 => ?_)
  · have h := h.1 g13
    refine zr_aload_n C 2 rfl (zdec_at dm_X12_readTest 18 rfl) rfl ?_
    refine zr_iconst C (zdec_at dm_X12_readTest 19 rfl) ?_
    refine zr_putz C fk_RX12_164 fi_103_24 (by decide) (by decide) (zdec_at dm_X12_readTest 20 rfl) (fun M14 e15 => ?_)
    have h := h M14 e15
    have hR16 : zRng M14 := by rw [e15]; exact hR9.set (by decide) _ _
    refine zr_iconst C (zdec_at dm_X12_readTest 21 rfl) ?_
    exact zr_zreturn C rfl (by decide) (zdec_at dm_X12_readTest 22 rfl) rfl ⟨(by decide), h⟩
  · have h := h.2 g13
    refine zr_iload_n C 0 rfl (zdec_at dm_X12_readTest 9 rfl) rfl ?_
    refine zr_bipush C (zdec_at dm_X12_readTest 10 rfl) (by decide) ?_
    have h := h (zV Γ mu_X12_readTest (145, 0, 0) 42 [(0, zRf (zad Γ) 103), (1, zI r1), (2, zI r7)] [] M8) (fun h => by
      refine zr_aload_n C 0 rfl (zdec_at dm_X12_readTest 23 rfl) rfl ?_
      refine zr_dup C rfl (zdec_at dm_X12_readTest 24 rfl) ?_
      refine zr_geti C fk_RX12_143 fi_103_23 (zdec_at dm_X12_readTest 25 rfl) ?_
      refine zr_iconst C (zdec_at dm_X12_readTest 26 rfl) ?_
      refine zr_iadd C (zdec_at dm_X12_readTest 27 rfl) ?_
      obtain ⟨o17, h⟩ := h
      refine zr_puti C fk_RX12_143 fi_103_23 o17 (zdec_at dm_X12_readTest 28 rfl) (fun M18 e19 => ?_)
      have h := h M18 e19
      have hR20 : zRng M18 := by rw [e19]; exact hR9.set o17 _ _
      refine zr_aload_n C 0 rfl (zdec_at dm_X12_readTest 29 rfl) rfl ?_
      obtain ⟨g26, h⟩ := h
      refine zr_callV C [] hS_X12_readSum ck_RX12_443 iv_X12_readSum vc_X12 oc_103 rfl rfl (zdec_at dm_X12_readTest 30 rfl) ⟨rfl, rfl, rfl, rfl⟩ ⟨by decide, by decide⟩ (Nat.le_of_ble_eq_true rfl) zall_n ?_
      refine ⟨rfl, g26, fun r21 M22 p25 z24 hR23 => ?_⟩
      have h := h r21 M22 p25 z24 hR23
      show zV Γ mu_X12_readTest (145, 0, 0) 56 [(0, zRf (zad Γ) 103), (1, zI r1), (2, zI r7)] [zI r21] M22
      refine zr_istore_n (L1 := [(3, zI r21), (0, zRf (zad Γ) 103), (1, zI r1), (2, zI r7)]) C (zdec_at dm_X12_readTest 31 rfl) rfl (Nat.le_of_ble_eq_true rfl) rfl ?_
      refine zr_iload_n C 3 rfl (zdec_at dm_X12_readTest 32 rfl) rfl ?_
      refine zr_bipush C (zdec_at dm_X12_readTest 33 rfl) (by decide) ?_
      refine zr_icmp_ne C z10 (by decide) (zdec_at dm_X12_readTest 34 rfl) rfl (fun g27 => ?_) (fun g27 => ?_)
      · have h := h.1 g27
        refine zr_iload_n C 3 rfl (zdec_at dm_X12_readTest 42 rfl) rfl ?_
        refine zr_bipush C (zdec_at dm_X12_readTest 43 rfl) (by decide) ?_
        refine zr_icmp_ne C z10 (by decide) (zdec_at dm_X12_readTest 44 rfl) rfl (fun g28 => ?_) (fun g28 => ?_)
        · have h := h.1 g28
          refine zr_iload_n C 2 rfl (zdec_at dm_X12_readTest 52 rfl) rfl ?_
          refine zr_iload_n C 0 rfl (zdec_at dm_X12_readTest 53 rfl) rfl ?_
          refine zr_icmp_ne C z4 z24 (zdec_at dm_X12_readTest 54 rfl) rfl (fun g29 => ?_) (fun g29 => ?_)
          · have h := h.1 g29
            refine zr_iconst C (zdec_at dm_X12_readTest 57 rfl) ?_
            exact zr_zreturn C rfl (by decide) (zdec_at dm_X12_readTest 58 rfl) rfl ⟨(by decide), h⟩
          · have h := h.2 g29
            refine zr_iconst C (zdec_at dm_X12_readTest 55 rfl) ?_
            refine zr_goto C (zdec_at dm_X12_readTest 56 rfl) rfl ?_
            exact zr_zreturn C rfl (by decide) (zdec_at dm_X12_readTest 58 rfl) rfl ⟨(by decide), h⟩
        · have h := h.2 g28
          refine zr_iload_n C 2 rfl (zdec_at dm_X12_readTest 45 rfl) rfl ?_
          refine zr_iload_n C 0 rfl (zdec_at dm_X12_readTest 46 rfl) rfl ?_
          refine zr_icmp_le C z4 z24 (zdec_at dm_X12_readTest 47 rfl) rfl (fun g30 => ?_) (fun g30 => ?_)
          · have h := h.1 g30
            refine zr_iconst C (zdec_at dm_X12_readTest 50 rfl) ?_
            refine zr_goto C (zdec_at dm_X12_readTest 51 rfl) rfl ?_
            exact zr_zreturn C rfl (by decide) (zdec_at dm_X12_readTest 58 rfl) rfl ⟨(by decide), h⟩
          · have h := h.2 g30
            refine zr_iconst C (zdec_at dm_X12_readTest 48 rfl) ?_
            refine zr_goto C (zdec_at dm_X12_readTest 49 rfl) rfl ?_
            exact zr_zreturn C rfl (by decide) (zdec_at dm_X12_readTest 58 rfl) rfl ⟨(by decide), h⟩
      · have h := h.2 g27
        refine zr_iload_n C 2 rfl (zdec_at dm_X12_readTest 35 rfl) rfl ?_
        refine zr_iload_n C 0 rfl (zdec_at dm_X12_readTest 36 rfl) rfl ?_
        refine zr_icmp_ge C z4 z24 (zdec_at dm_X12_readTest 37 rfl) rfl (fun g31 => ?_) (fun g31 => ?_)
        · have h := h.1 g31
          refine zr_iconst C (zdec_at dm_X12_readTest 40 rfl) ?_
          refine zr_goto C (zdec_at dm_X12_readTest 41 rfl) rfl ?_
          exact zr_zreturn C rfl (by decide) (zdec_at dm_X12_readTest 58 rfl) rfl ⟨(by decide), h⟩
        · have h := h.2 g31
          refine zr_iconst C (zdec_at dm_X12_readTest 38 rfl) ?_
          refine zr_goto C (zdec_at dm_X12_readTest 39 rfl) rfl ?_
          exact zr_zreturn C rfl (by decide) (zdec_at dm_X12_readTest 58 rfl) rfl ⟨(by decide), h⟩)
    refine zr_icmp_eq C z10 (by decide) (zdec_at dm_X12_readTest 11 rfl) rfl (fun g32 => ?_) (fun g32 => ?_)
    · have h := h.1 g32
      exact zr_sub [2, 1, 0] rfl (h)
    · have h := h.2 g32
      refine zr_iload_n C 0 rfl (zdec_at dm_X12_readTest 12 rfl) rfl ?_
      refine zr_bipush C (zdec_at dm_X12_readTest 13 rfl) (by decide) ?_
      refine zr_icmp_eq C z10 (by decide) (zdec_at dm_X12_readTest 14 rfl) rfl (fun g33 => ?_) (fun g33 => ?_)
      · have h := h.1 g33
        exact zr_sub [2, 1, 0] rfl (h)
      · have h := h.2 g33
        refine zr_iload_n C 0 rfl (zdec_at dm_X12_readTest 15 rfl) rfl ?_
        refine zr_bipush C (zdec_at dm_X12_readTest 16 rfl) (by decide) ?_
        refine zr_icmp_eq C z10 (by decide) (zdec_at dm_X12_readTest 17 rfl) rfl (fun g34 => ?_) (fun g34 => ?_)
        · have h := h.1 g34
          exact zr_sub [2, 1, 0] rfl (h)
        · have h := h.2 g34
          refine zr_aload_n C 2 rfl (zdec_at dm_X12_readTest 18 rfl) rfl ?_
          refine zr_iconst C (zdec_at dm_X12_readTest 19 rfl) ?_
          refine zr_putz C fk_RX12_164 fi_103_24 (by decide) (by decide) (zdec_at dm_X12_readTest 20 rfl) (fun M35 e36 => ?_)
          have h := h M35 e36
          have hR37 : zRng M35 := by rw [e36]; exact hR9.set (by decide) _ _
          refine zr_iconst C (zdec_at dm_X12_readTest 21 rfl) ?_
          exact zr_zreturn C rfl (by decide) (zdec_at dm_X12_readTest 22 rfl) rfl ⟨(by decide), h⟩

set_option maxHeartbeats 400000 in
set_option maxRecDepth 100000 in
theorem sn_X12_topSign : zSnd zS 145 0 0 yX12_topSign cX12_topSign 1 (some .int) 0 [2] (fun xs P M => xs = [103] ∧ vc_X12_topSign P M) := by
  refine zSnd.of rfl (fun ad xs hz => Nat.le_trans (Nat.le_of_eq (zlen ad _ xs hz)) (by decide)) ?_
  intro Γ C _ _ xs M hz hF
  obtain ⟨rfl, h⟩ := hF
  refine zr_rng (fun hR => ?_)
  have C : zC Γ mu_X12_topSign := C
  change zV Γ mu_X12_topSign (145, 0, 0) 0 [(0, zRf (zad Γ) 103)] [] M
  change vc_X12_topSign _ M at h
  unfold vc_X12_topSign at h
  refine zr_aload_n C 0 rfl (zdec_at dm_X12_topSign 0 rfl) rfl ?_
  refine zr_geti C fk_RX12_446 fi_103_64 (zdec_at dm_X12_topSign 1 rfl) ?_
  refine zr_if_ne C (hR _ _) (zdec_at dm_X12_topSign 2 rfl) rfl (fun g1 => ?_) (fun g1 => ?_)
  · have h := h.1 g1
    refine zr_aload_n C 0 rfl (zdec_at dm_X12_topSign 5 rfl) rfl ?_
    refine zr_getr (q := 133) C fk_RX12_106 fi_103_63 (zdec_at dm_X12_topSign 6 rfl) ?_
    refine zr_aload_n C 0 rfl (zdec_at dm_X12_topSign 7 rfl) rfl ?_
    refine zr_geti C fk_RX12_446 fi_103_64 (zdec_at dm_X12_topSign 8 rfl) ?_
    refine zr_iconst C (zdec_at dm_X12_topSign 9 rfl) ?_
    refine zr_isub C (zdec_at dm_X12_topSign 10 rfl) ?_
    obtain ⟨o2, h⟩ := h
    refine zr_iald C ai_133 o2 (zdec_at dm_X12_topSign 11 rfl) ?_
    exact zr_ireturn C rfl (zdec_at dm_X12_topSign 12 rfl) rfl ⟨(hR _ _), h⟩
  · have h := h.2 g1
    refine zr_iconst C (zdec_at dm_X12_topSign 3 rfl) ?_
    refine zr_goto C (zdec_at dm_X12_topSign 4 rfl) rfl ?_
    exact zr_ireturn C rfl (zdec_at dm_X12_topSign 12 rfl) rfl ⟨(by decide), h⟩

set_option maxHeartbeats 400000 in
set_option maxRecDepth 100000 in
theorem sn_X12_testEnds {pr_X12_topSign : zM → Prop} {po_X12_topSign : zM → Int → zM → Prop} (hS_X12_topSign : zSnd zS 145 0 0 yX12_topSign cX12_topSign 1 (some .int) 0 [2] (F_X12_topSign pr_X12_topSign po_X12_topSign)) : zSnd zS 145 0 0 yX12_testEnds cX12_testEnds 1 none 1 [2] (fun xs P M => xs = [103] ∧ vc_X12_testEnds pr_X12_topSign po_X12_topSign P M) := by
  refine zSnd.of rfl (fun ad xs hz => Nat.le_trans (Nat.le_of_eq (zlen ad _ xs hz)) (by decide)) ?_
  intro Γ C _ _ xs M hz hF
  obtain ⟨rfl, h⟩ := hF
  refine zr_rng (fun hR => ?_)
  have C : zC Γ mu_X12_testEnds := C
  change zV Γ mu_X12_testEnds (145, 0, 0) 0 [(0, zRf (zad Γ) 103)] [] M
  change vc_X12_testEnds pr_X12_topSign po_X12_topSign _ M at h
  unfold vc_X12_testEnds at h
  obtain ⟨I0, ⟨n7, q8⟩, hI6⟩ := h
  have lp5 : ∀ (n3 : Nat) (M1 : zM), I0 M1 n3 → zRng M1 → zV Γ mu_X12_testEnds (145, 0, 0) 0 [(0, zRf (zad Γ) 103)] [] M1 := by
    intro n3
    induction n3 using Nat.strongRecOn with
    | _ n3 ih4 =>
    intro M1 q9 hR2
    have h := hI6 M1 n3 q9 hR2
    refine zr_aload_n C 0 rfl (zdec_at dm_X12_testEnds 0 rfl) rfl ?_
    obtain ⟨g15, h⟩ := h
    refine zr_callV C [] hS_X12_topSign ck_RX12_449 iv_X12_topSign vc_X12 oc_103 rfl rfl (zdec_at dm_X12_testEnds 1 rfl) ⟨rfl, rfl, rfl, rfl⟩ ⟨by decide, by decide⟩ (Nat.le_of_ble_eq_true rfl) zall_n ?_
    refine ⟨rfl, g15, fun r10 M11 p14 z13 hR12 => ?_⟩
    have h := h r10 M11 p14 z13 hR12
    show zV Γ mu_X12_testEnds (145, 0, 0) 4 [(0, zRf (zad Γ) 103)] [zI r10] M11
    refine zr_bipush C (zdec_at dm_X12_testEnds 2 rfl) (by decide) ?_
    refine zr_icmp_ne C z13 (by decide) (zdec_at dm_X12_testEnds 3 rfl) rfl (fun g16 => ?_) (fun g16 => ?_)
    · have h := h.1 g16
      exact zr_return C rfl rfl (zdec_at dm_X12_testEnds 29 rfl) rfl ⟨by decide, h⟩
    · have h := h.2 g16
      refine zr_aload_n C 0 rfl (zdec_at dm_X12_testEnds 4 rfl) rfl ?_
      refine zr_getr (q := 132) C fk_RX12_103 fi_103_61 (zdec_at dm_X12_testEnds 5 rfl) ?_
      refine zr_aload_n C 0 rfl (zdec_at dm_X12_testEnds 6 rfl) rfl ?_
      refine zr_geti C fk_RX12_452 fi_103_62 (zdec_at dm_X12_testEnds 7 rfl) ?_
      refine zr_iconst C (zdec_at dm_X12_testEnds 8 rfl) ?_
      refine zr_isub C (zdec_at dm_X12_testEnds 9 rfl) ?_
      refine zr_aload_n C 0 rfl (zdec_at dm_X12_testEnds 10 rfl) rfl ?_
      refine zr_getr (q := 132) C fk_RX12_103 fi_103_61 (zdec_at dm_X12_testEnds 11 rfl) ?_
      refine zr_aload_n C 0 rfl (zdec_at dm_X12_testEnds 12 rfl) rfl ?_
      refine zr_geti C fk_RX12_452 fi_103_62 (zdec_at dm_X12_testEnds 13 rfl) ?_
      refine zr_iconst C (zdec_at dm_X12_testEnds 14 rfl) ?_
      refine zr_isub C (zdec_at dm_X12_testEnds 15 rfl) ?_
      obtain ⟨o17, h⟩ := h
      refine zr_zald C ai_132 o17 (zdec_at dm_X12_testEnds 16 rfl) ?_
      refine zr_if_ne C (hR12 _ _) (zdec_at dm_X12_testEnds 17 rfl) rfl (fun g18 => ?_) (fun g18 => ?_)
      · have h := h.1 g18
        refine zr_iconst C (zdec_at dm_X12_testEnds 20 rfl) ?_
        refine zr_zast C ai_132 o17 (by decide) (by decide) rfl (zdec_at dm_X12_testEnds 21 rfl) (fun M19 e20 => ?_)
        have h := h M19 e20
        have hR21 : zRng M19 := by rw [e20]; exact hR12.set (by decide) _ _
        refine zr_aload_n C 0 rfl (zdec_at dm_X12_testEnds 22 rfl) rfl ?_
        refine zr_dup C rfl (zdec_at dm_X12_testEnds 23 rfl) ?_
        refine zr_geti C fk_RX12_446 fi_103_64 (zdec_at dm_X12_testEnds 24 rfl) ?_
        refine zr_iconst C (zdec_at dm_X12_testEnds 25 rfl) ?_
        refine zr_isub C (zdec_at dm_X12_testEnds 26 rfl) ?_
        obtain ⟨o22, h⟩ := h
        refine zr_puti C fk_RX12_446 fi_103_64 o22 (zdec_at dm_X12_testEnds 27 rfl) (fun M23 e24 => ?_)
        have h := h M23 e24
        have hR25 : zRng M23 := by rw [e24]; exact hR21.set o22 _ _
        refine zr_goto C (zdec_at dm_X12_testEnds 28 rfl) rfl ?_
        obtain ⟨n26, q27, q28⟩ := h
        exact zr_sub [0] rfl (ih4 n26 q27 _ q28 hR25)
      · have h := h.2 g18
        refine zr_iconst C (zdec_at dm_X12_testEnds 18 rfl) ?_
        refine zr_goto C (zdec_at dm_X12_testEnds 19 rfl) rfl ?_
        refine zr_zast C ai_132 o17 (by decide) (by decide) rfl (zdec_at dm_X12_testEnds 21 rfl) (fun M29 e30 => ?_)
        have h := h M29 e30
        have hR31 : zRng M29 := by rw [e30]; exact hR12.set (by decide) _ _
        refine zr_aload_n C 0 rfl (zdec_at dm_X12_testEnds 22 rfl) rfl ?_
        refine zr_dup C rfl (zdec_at dm_X12_testEnds 23 rfl) ?_
        refine zr_geti C fk_RX12_446 fi_103_64 (zdec_at dm_X12_testEnds 24 rfl) ?_
        refine zr_iconst C (zdec_at dm_X12_testEnds 25 rfl) ?_
        refine zr_isub C (zdec_at dm_X12_testEnds 26 rfl) ?_
        obtain ⟨o32, h⟩ := h
        refine zr_puti C fk_RX12_446 fi_103_64 o32 (zdec_at dm_X12_testEnds 27 rfl) (fun M33 e34 => ?_)
        have h := h M33 e34
        have hR35 : zRng M33 := by rw [e34]; exact hR31.set o32 _ _
        refine zr_goto C (zdec_at dm_X12_testEnds 28 rfl) rfl ?_
        obtain ⟨n36, q37, q38⟩ := h
        exact zr_sub [0] rfl (ih4 n36 q37 _ q38 hR35)
  exact zr_sub [0] rfl (lp5 n7 _ q8 hR)

set_option maxHeartbeats 400000 in
set_option maxRecDepth 100000 in
theorem sn_X12_join {pr_X12_topSign : zM → Prop} {po_X12_topSign : zM → Int → zM → Prop} (hS_X12_topSign : zSnd zS 145 0 0 yX12_topSign cX12_topSign 1 (some .int) 0 [2] (F_X12_topSign pr_X12_topSign po_X12_topSign)) : zSnd zS 145 0 0 yX12_join cX12_join 2 none 1 [2, 0] (fun xs P M => ∃ a1 : Int, xs = [103, a1] ∧ vc_X12_join pr_X12_topSign po_X12_topSign a1 P M) := by
  refine zSnd.of rfl (fun ad xs hz => Nat.le_trans (Nat.le_of_eq (zlen ad _ xs hz)) (by decide)) ?_
  intro Γ C _ _ xs M hz hF
  obtain ⟨a1, rfl, h⟩ := hF
  have zz_a1 := zall_h (zall_t hz) (by decide)
  refine zr_rng (fun hR => ?_)
  have C : zC Γ mu_X12_join := C
  change zV Γ mu_X12_join (145, 0, 0) 0 [(0, zRf (zad Γ) 103), (1, zI a1)] [] M
  change vc_X12_join pr_X12_topSign po_X12_topSign a1 _ M at h
  unfold vc_X12_join at h
  obtain ⟨I0, ⟨n7, q8⟩, hI6⟩ := h
  have lp5 : ∀ (n3 : Nat) (M1 : zM), I0 M1 n3 → zRng M1 → zV Γ mu_X12_join (145, 0, 0) 0 [(0, zRf (zad Γ) 103), (1, zI a1)] [] M1 := by
    intro n3
    induction n3 using Nat.strongRecOn with
    | _ n3 ih4 =>
    intro M1 q9 hR2
    have h := hI6 M1 n3 q9 hR2
    refine zr_aload_n C 0 rfl (zdec_at dm_X12_join 0 rfl) rfl ?_
    obtain ⟨g15, h⟩ := h
    refine zr_callV C [] hS_X12_topSign ck_RX12_449 iv_X12_topSign vc_X12 oc_103 rfl rfl (zdec_at dm_X12_join 1 rfl) ⟨rfl, rfl, rfl, rfl⟩ ⟨by decide, by decide⟩ (Nat.le_of_ble_eq_true rfl) zall_n ?_
    refine ⟨rfl, g15, fun r10 M11 p14 z13 hR12 => ?_⟩
    have h := h r10 M11 p14 z13 hR12
    show zV Γ mu_X12_join (145, 0, 0) 4 [(0, zRf (zad Γ) 103), (1, zI a1)] [zI r10] M11
    refine zr_iload_n C 1 rfl (zdec_at dm_X12_join 2 rfl) rfl ?_
    refine zr_icmp_ne C z13 zz_a1 (zdec_at dm_X12_join 3 rfl) rfl (fun g16 => ?_) (fun g16 => ?_)
    · have h := h.1 g16
      exact zr_return C rfl rfl (zdec_at dm_X12_join 62 rfl) rfl ⟨by decide, h⟩
    · have h := h.2 g16
      refine zr_aload_n C 0 rfl (zdec_at dm_X12_join 4 rfl) rfl ?_
      refine zr_dup C rfl (zdec_at dm_X12_join 5 rfl) ?_
      refine zr_geti C fk_RX12_452 fi_103_62 (zdec_at dm_X12_join 6 rfl) ?_
      refine zr_iconst C (zdec_at dm_X12_join 7 rfl) ?_
      refine zr_isub C (zdec_at dm_X12_join 8 rfl) ?_
      obtain ⟨o17, h⟩ := h
      refine zr_puti C fk_RX12_452 fi_103_62 o17 (zdec_at dm_X12_join 9 rfl) (fun M18 e19 => ?_)
      have h := h M18 e19
      have hR20 : zRng M18 := by rw [e19]; exact hR12.set o17 _ _
      refine zr_aload_n C 0 rfl (zdec_at dm_X12_join 10 rfl) rfl ?_
      refine zr_getr (q := 132) C fk_RX12_103 fi_103_61 (zdec_at dm_X12_join 11 rfl) ?_
      refine zr_aload_n C 0 rfl (zdec_at dm_X12_join 12 rfl) rfl ?_
      refine zr_geti C fk_RX12_452 fi_103_62 (zdec_at dm_X12_join 13 rfl) ?_
      refine zr_iconst C (zdec_at dm_X12_join 14 rfl) ?_
      refine zr_isub C (zdec_at dm_X12_join 15 rfl) ?_
      refine zr_iload_n C 1 rfl (zdec_at dm_X12_join 16 rfl) rfl ?_
      refine zr_bipush C (zdec_at dm_X12_join 17 rfl) (by decide) ?_
      refine zr_icmp_ne C zz_a1 (by decide) (zdec_at dm_X12_join 18 rfl) rfl (fun g21 => ?_) (fun g21 => ?_)
      · have h := h.1 g21
        refine zr_aload_n C 0 rfl (zdec_at dm_X12_join 37 rfl) rfl ?_
        refine zr_getr (q := 132) C fk_RX12_103 fi_103_61 (zdec_at dm_X12_join 38 rfl) ?_
        refine zr_aload_n C 0 rfl (zdec_at dm_X12_join 39 rfl) rfl ?_
        refine zr_geti C fk_RX12_452 fi_103_62 (zdec_at dm_X12_join 40 rfl) ?_
        refine zr_iconst C (zdec_at dm_X12_join 41 rfl) ?_
        refine zr_isub C (zdec_at dm_X12_join 42 rfl) ?_
        obtain ⟨o22, h⟩ := h
        refine zr_zald C ai_132 o22 (zdec_at dm_X12_join 43 rfl) ?_
        refine zr_if_ne C (hR20 _ _) (zdec_at dm_X12_join 44 rfl) rfl (fun g23 => ?_) (fun g23 => ?_)
        · have h := h.1 g23
          refine zr_iconst C (zdec_at dm_X12_join 51 rfl) ?_
          refine zr_goto C (zdec_at dm_X12_join 52 rfl) rfl ?_
          refine zr_zast C ai_132 o22 (by decide) (by decide) rfl (zdec_at dm_X12_join 54 rfl) (fun M24 e25 => ?_)
          have h := h M24 e25
          have hR26 : zRng M24 := by rw [e25]; exact hR20.set (by decide) _ _
          refine zr_aload_n C 0 rfl (zdec_at dm_X12_join 55 rfl) rfl ?_
          refine zr_dup C rfl (zdec_at dm_X12_join 56 rfl) ?_
          refine zr_geti C fk_RX12_446 fi_103_64 (zdec_at dm_X12_join 57 rfl) ?_
          refine zr_iconst C (zdec_at dm_X12_join 58 rfl) ?_
          refine zr_isub C (zdec_at dm_X12_join 59 rfl) ?_
          obtain ⟨o27, h⟩ := h
          refine zr_puti C fk_RX12_446 fi_103_64 o27 (zdec_at dm_X12_join 60 rfl) (fun M28 e29 => ?_)
          have h := h M28 e29
          have hR30 : zRng M28 := by rw [e29]; exact hR26.set o27 _ _
          refine zr_goto C (zdec_at dm_X12_join 61 rfl) rfl ?_
          obtain ⟨n31, q32, q33⟩ := h
          exact zr_sub [0, 1] rfl (ih4 n31 q32 _ q33 hR30)
        · have h := h.2 g23
          refine zr_aload_n C 0 rfl (zdec_at dm_X12_join 45 rfl) rfl ?_
          refine zr_getr (q := 132) C fk_RX12_103 fi_103_61 (zdec_at dm_X12_join 46 rfl) ?_
          refine zr_aload_n C 0 rfl (zdec_at dm_X12_join 47 rfl) rfl ?_
          refine zr_geti C fk_RX12_452 fi_103_62 (zdec_at dm_X12_join 48 rfl) ?_
          obtain ⟨o34, h⟩ := h
          refine zr_zald C ai_132 o34 (zdec_at dm_X12_join 49 rfl) ?_
          refine zr_if_eq C (hR20 _ _) (zdec_at dm_X12_join 50 rfl) rfl (fun g35 => ?_) (fun g35 => ?_)
          · have h := h.1 g35
            refine zr_iconst C (zdec_at dm_X12_join 53 rfl) ?_
            refine zr_zast C ai_132 o22 (by decide) (by decide) rfl (zdec_at dm_X12_join 54 rfl) (fun M36 e37 => ?_)
            have h := h M36 e37
            have hR38 : zRng M36 := by rw [e37]; exact hR20.set (by decide) _ _
            refine zr_aload_n C 0 rfl (zdec_at dm_X12_join 55 rfl) rfl ?_
            refine zr_dup C rfl (zdec_at dm_X12_join 56 rfl) ?_
            refine zr_geti C fk_RX12_446 fi_103_64 (zdec_at dm_X12_join 57 rfl) ?_
            refine zr_iconst C (zdec_at dm_X12_join 58 rfl) ?_
            refine zr_isub C (zdec_at dm_X12_join 59 rfl) ?_
            obtain ⟨o39, h⟩ := h
            refine zr_puti C fk_RX12_446 fi_103_64 o39 (zdec_at dm_X12_join 60 rfl) (fun M40 e41 => ?_)
            have h := h M40 e41
            have hR42 : zRng M40 := by rw [e41]; exact hR38.set o39 _ _
            refine zr_goto C (zdec_at dm_X12_join 61 rfl) rfl ?_
            obtain ⟨n43, q44, q45⟩ := h
            exact zr_sub [0, 1] rfl (ih4 n43 q44 _ q45 hR42)
          · have h := h.2 g35
            refine zr_iconst C (zdec_at dm_X12_join 51 rfl) ?_
            refine zr_goto C (zdec_at dm_X12_join 52 rfl) rfl ?_
            refine zr_zast C ai_132 o22 (by decide) (by decide) rfl (zdec_at dm_X12_join 54 rfl) (fun M46 e47 => ?_)
            have h := h M46 e47
            have hR48 : zRng M46 := by rw [e47]; exact hR20.set (by decide) _ _
            refine zr_aload_n C 0 rfl (zdec_at dm_X12_join 55 rfl) rfl ?_
            refine zr_dup C rfl (zdec_at dm_X12_join 56 rfl) ?_
            refine zr_geti C fk_RX12_446 fi_103_64 (zdec_at dm_X12_join 57 rfl) ?_
            refine zr_iconst C (zdec_at dm_X12_join 58 rfl) ?_
            refine zr_isub C (zdec_at dm_X12_join 59 rfl) ?_
            obtain ⟨o49, h⟩ := h
            refine zr_puti C fk_RX12_446 fi_103_64 o49 (zdec_at dm_X12_join 60 rfl) (fun M50 e51 => ?_)
            have h := h M50 e51
            have hR52 : zRng M50 := by rw [e51]; exact hR48.set o49 _ _
            refine zr_goto C (zdec_at dm_X12_join 61 rfl) rfl ?_
            obtain ⟨n53, q54, q55⟩ := h
            exact zr_sub [0, 1] rfl (ih4 n53 q54 _ q55 hR52)
      · have h := h.2 g21
        refine zr_aload_n C 0 rfl (zdec_at dm_X12_join 19 rfl) rfl ?_
        refine zr_getr (q := 132) C fk_RX12_103 fi_103_61 (zdec_at dm_X12_join 20 rfl) ?_
        refine zr_aload_n C 0 rfl (zdec_at dm_X12_join 21 rfl) rfl ?_
        refine zr_geti C fk_RX12_452 fi_103_62 (zdec_at dm_X12_join 22 rfl) ?_
        refine zr_iconst C (zdec_at dm_X12_join 23 rfl) ?_
        refine zr_isub C (zdec_at dm_X12_join 24 rfl) ?_
        obtain ⟨o56, h⟩ := h
        refine zr_zald C ai_132 o56 (zdec_at dm_X12_join 25 rfl) ?_
        refine zr_if_eq C (hR20 _ _) (zdec_at dm_X12_join 26 rfl) rfl (fun g57 => ?_) (fun g57 => ?_)
        · have h := h.1 g57
          refine zr_iconst C (zdec_at dm_X12_join 35 rfl) ?_
          refine zr_goto C (zdec_at dm_X12_join 36 rfl) rfl ?_
          refine zr_zast C ai_132 o56 (by decide) (by decide) rfl (zdec_at dm_X12_join 54 rfl) (fun M58 e59 => ?_)
          have h := h M58 e59
          have hR60 : zRng M58 := by rw [e59]; exact hR20.set (by decide) _ _
          refine zr_aload_n C 0 rfl (zdec_at dm_X12_join 55 rfl) rfl ?_
          refine zr_dup C rfl (zdec_at dm_X12_join 56 rfl) ?_
          refine zr_geti C fk_RX12_446 fi_103_64 (zdec_at dm_X12_join 57 rfl) ?_
          refine zr_iconst C (zdec_at dm_X12_join 58 rfl) ?_
          refine zr_isub C (zdec_at dm_X12_join 59 rfl) ?_
          obtain ⟨o61, h⟩ := h
          refine zr_puti C fk_RX12_446 fi_103_64 o61 (zdec_at dm_X12_join 60 rfl) (fun M62 e63 => ?_)
          have h := h M62 e63
          have hR64 : zRng M62 := by rw [e63]; exact hR60.set o61 _ _
          refine zr_goto C (zdec_at dm_X12_join 61 rfl) rfl ?_
          obtain ⟨n65, q66, q67⟩ := h
          exact zr_sub [0, 1] rfl (ih4 n65 q66 _ q67 hR64)
        · have h := h.2 g57
          refine zr_aload_n C 0 rfl (zdec_at dm_X12_join 27 rfl) rfl ?_
          refine zr_getr (q := 132) C fk_RX12_103 fi_103_61 (zdec_at dm_X12_join 28 rfl) ?_
          refine zr_aload_n C 0 rfl (zdec_at dm_X12_join 29 rfl) rfl ?_
          refine zr_geti C fk_RX12_452 fi_103_62 (zdec_at dm_X12_join 30 rfl) ?_
          obtain ⟨o68, h⟩ := h
          refine zr_zald C ai_132 o68 (zdec_at dm_X12_join 31 rfl) ?_
          refine zr_if_eq C (hR20 _ _) (zdec_at dm_X12_join 32 rfl) rfl (fun g69 => ?_) (fun g69 => ?_)
          · have h := h.1 g69
            refine zr_iconst C (zdec_at dm_X12_join 35 rfl) ?_
            refine zr_goto C (zdec_at dm_X12_join 36 rfl) rfl ?_
            refine zr_zast C ai_132 o56 (by decide) (by decide) rfl (zdec_at dm_X12_join 54 rfl) (fun M70 e71 => ?_)
            have h := h M70 e71
            have hR72 : zRng M70 := by rw [e71]; exact hR20.set (by decide) _ _
            refine zr_aload_n C 0 rfl (zdec_at dm_X12_join 55 rfl) rfl ?_
            refine zr_dup C rfl (zdec_at dm_X12_join 56 rfl) ?_
            refine zr_geti C fk_RX12_446 fi_103_64 (zdec_at dm_X12_join 57 rfl) ?_
            refine zr_iconst C (zdec_at dm_X12_join 58 rfl) ?_
            refine zr_isub C (zdec_at dm_X12_join 59 rfl) ?_
            obtain ⟨o73, h⟩ := h
            refine zr_puti C fk_RX12_446 fi_103_64 o73 (zdec_at dm_X12_join 60 rfl) (fun M74 e75 => ?_)
            have h := h M74 e75
            have hR76 : zRng M74 := by rw [e75]; exact hR72.set o73 _ _
            refine zr_goto C (zdec_at dm_X12_join 61 rfl) rfl ?_
            obtain ⟨n77, q78, q79⟩ := h
            exact zr_sub [0, 1] rfl (ih4 n77 q78 _ q79 hR76)
          · have h := h.2 g69
            refine zr_iconst C (zdec_at dm_X12_join 33 rfl) ?_
            refine zr_goto C (zdec_at dm_X12_join 34 rfl) rfl ?_
            refine zr_zast C ai_132 o56 (by decide) (by decide) rfl (zdec_at dm_X12_join 54 rfl) (fun M80 e81 => ?_)
            have h := h M80 e81
            have hR82 : zRng M80 := by rw [e81]; exact hR20.set (by decide) _ _
            refine zr_aload_n C 0 rfl (zdec_at dm_X12_join 55 rfl) rfl ?_
            refine zr_dup C rfl (zdec_at dm_X12_join 56 rfl) ?_
            refine zr_geti C fk_RX12_446 fi_103_64 (zdec_at dm_X12_join 57 rfl) ?_
            refine zr_iconst C (zdec_at dm_X12_join 58 rfl) ?_
            refine zr_isub C (zdec_at dm_X12_join 59 rfl) ?_
            obtain ⟨o83, h⟩ := h
            refine zr_puti C fk_RX12_446 fi_103_64 o83 (zdec_at dm_X12_join 60 rfl) (fun M84 e85 => ?_)
            have h := h M84 e85
            have hR86 : zRng M84 := by rw [e85]; exact hR82.set o83 _ _
            refine zr_goto C (zdec_at dm_X12_join 61 rfl) rfl ?_
            obtain ⟨n87, q88, q89⟩ := h
            exact zr_sub [0, 1] rfl (ih4 n87 q88 _ q89 hR86)
  exact zr_sub [0, 1] rfl (lp5 n7 _ q8 hR)

