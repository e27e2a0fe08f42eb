set_option maxHeartbeats 400000 in
set_option maxRecDepth 100000 in
theorem sn_X12_areNeighbours {pr_X12_beside : Int → Int → zM → Prop} {po_X12_beside : Int → Int → zM → Int → zM → Prop} (hS_X12_beside : zSnd zS 145 0 0 yX12_beside cX12_beside 5 (some .int) 1 [2, 0, 0] (F_X12_beside pr_X12_beside po_X12_beside)) : zSnd zS 145 0 0 yX12_areNeighbours cX12_areNeighbours 7 (some .boolean) 2 [2, 0, 0] (fun xs P M => ∃ a1 a2 : Int, xs = [103, a1, a2] ∧ vc_X12_areNeighbours pr_X12_beside po_X12_beside a1 a2 P M) := by
  refine zSnd.of rfl (fun ad xs hz => Nat.le_trans (Nat.le_of_eq (zlen ad _ xs hz)) (by decide)) ?_
  intro Γ C _ _ xs M hz hF
  obtain ⟨a1, a2, rfl, h⟩ := hF
  have zz_a1 := zall_h (zall_t hz) (by decide)
  have zz_a2 := zall_h (zall_t (zall_t hz)) (by decide)
  refine zr_rng (fun hR => ?_)
  have C : zC Γ mu_X12_areNeighbours := C
  change zV Γ mu_X12_areNeighbours (145, 0, 0) 0 [(0, zRf (zad Γ) 103), (1, zI a1), (2, zI a2)] [] M
  change vc_X12_areNeighbours pr_X12_beside po_X12_beside a1 a2 _ M at h
  unfold vc_X12_areNeighbours at h
  refine zr_iconst C (zdec_at dm_X12_areNeighbours 0 rfl) ?_
  refine zr_istore_n (L1 := [(3, zI 0), (0, zRf (zad Γ) 103), (1, zI a1), (2, zI a2)]) C (zdec_at dm_X12_areNeighbours 1 rfl) rfl (Nat.le_of_ble_eq_true rfl) rfl ?_
  refine zr_iconst C (zdec_at dm_X12_areNeighbours 2 rfl) ?_
  refine zr_istore (L1 := [(4, zI 0), (3, zI 0), (0, zRf (zad Γ) 103), (1, zI a1), (2, zI a2)]) C (zdec_at dm_X12_areNeighbours 3 rfl) (Nat.le_of_ble_eq_true rfl) rfl ?_
  obtain ⟨I5, ⟨n11, q12⟩, hI10⟩ := h
  have lp9 : ∀ (n7 : Nat) (v1 : Int) (v2 : Int) (M5 : zM), I5 v1 v2 M5 n7 → zin v1 → zin v2 → zRng M5 → zV Γ mu_X12_areNeighbours (145, 0, 0) 5 [(0, zRf (zad Γ) 103), (1, zI a1), (2, zI a2), (3, zI v1), (4, zI v2)] [] M5 := by
    intro n7
    induction n7 using Nat.strongRecOn with
    | _ n7 ih8 =>
    intro v1 v2 M5 q13 z3 z4 hR6
    have h := hI10 v1 v2 M5 n7 q13 z3 z4 hR6
    refine zr_iload C 4 rfl (zdec_at dm_X12_areNeighbours 4 rfl) ?_
    refine zr_sipush C (zdec_at dm_X12_areNeighbours 5 rfl) (by decide) ?_
    refine zr_icmp_ge C z4 (by decide) (zdec_at dm_X12_areNeighbours 6 rfl) rfl (fun g14 => ?_) (fun g14 => ?_)
    · have h := h.1 g14
      refine zr_iload_n C 3 rfl (zdec_at dm_X12_areNeighbours 41 rfl) rfl ?_
      obtain ⟨o15, h⟩ := h
      exact zr_zreturn C rfl o15 (zdec_at dm_X12_areNeighbours 42 rfl) rfl ⟨z3, h⟩
    · have h := h.2 g14
      refine zr_iconst C (zdec_at dm_X12_areNeighbours 7 rfl) ?_
      refine zr_istore (L1 := [(5, zI 0), (0, zRf (zad Γ) 103), (1, zI a1), (2, zI a2), (3, zI v1), (4, zI v2)]) C (zdec_at dm_X12_areNeighbours 8 rfl) (Nat.le_of_ble_eq_true rfl) rfl ?_
      obtain ⟨I16, ⟨n26, q27⟩, hI25⟩ := h
      have lp24 : ∀ (n22 : Nat) (v16 : Int) (v17 : Int) (M20 : zM), I16 v16 v17 M20 n22 → zin v16 → zin v17 → zRng M20 → zV Γ mu_X12_areNeighbours (145, 0, 0) 16 [(0, zRf (zad Γ) 103), (1, zI a1), (2, zI a2), (3, zI v16), (4, zI v2), (5, zI v17)] [] M20 := by
        intro n22
        induction n22 using Nat.strongRecOn with
        | _ n22 ih23 =>
        intro v16 v17 M20 q28 z18 z19 hR21
        have h := hI25 v16 v17 M20 n22 q28 z18 z19 hR21
        refine zr_iload C 5 rfl (zdec_at dm_X12_areNeighbours 9 rfl) ?_
        refine zr_iconst C (zdec_at dm_X12_areNeighbours 10 rfl) ?_
        refine zr_icmp_ge C z19 (by decide) (zdec_at dm_X12_areNeighbours 11 rfl) rfl (fun g29 => ?_) (fun g29 => ?_)
        · have h := h.1 g29
          refine zr_iinc (L1 := [(4, zI (v2 + 1)), (0, zRf (zad Γ) 103), (1, zI a1), (2, zI a2), (3, zI v16), (5, zI v17)]) C 4 rfl (zdec_at dm_X12_areNeighbours 39 rfl) (Nat.le_of_ble_eq_true rfl) rfl ?_
          refine zr_goto C (zdec_at dm_X12_areNeighbours 40 rfl) rfl ?_
          obtain ⟨o30, h⟩ := h
          obtain ⟨n31, q32, q33⟩ := h
          exact zr_sub [1, 2, 3, 4, 0] rfl (ih8 n31 q32 _ _ _ q33 z18 o30 hR21)
        · have h := h.2 g29
          refine zr_aload_n C 0 rfl (zdec_at dm_X12_areNeighbours 12 rfl) rfl ?_
          refine zr_getr (q := 115) C fk_RX12_51 fi_103_29 (zdec_at dm_X12_areNeighbours 13 rfl) ?_
          refine zr_iload C 4 rfl (zdec_at dm_X12_areNeighbours 14 rfl) ?_
          obtain ⟨o34, h⟩ := h
          refine zr_iald C ai_115 o34 (zdec_at dm_X12_areNeighbours 15 rfl) ?_
          refine zr_iload_n C 1 rfl (zdec_at dm_X12_areNeighbours 16 rfl) rfl ?_
          refine zr_icmp_ne C (hR21 _ _) zz_a1 (zdec_at dm_X12_areNeighbours 17 rfl) rfl (fun g35 => ?_) (fun g35 => ?_)
          · have h := h.1 g35
            refine zr_iinc (L1 := [(4, zI (v2 + 1)), (0, zRf (zad Γ) 103), (1, zI a1), (2, zI a2), (3, zI v16), (5, zI v17)]) C 4 rfl (zdec_at dm_X12_areNeighbours 39 rfl) (Nat.le_of_ble_eq_true rfl) rfl ?_
            refine zr_goto C (zdec_at dm_X12_areNeighbours 40 rfl) rfl ?_
            obtain ⟨o36, h⟩ := h
            obtain ⟨n37, q38, q39⟩ := h
            exact zr_sub [1, 2, 3, 4, 0] rfl (ih8 n37 q38 _ _ _ q39 z18 o36 hR21)
          · have h := h.2 g35
            refine zr_aload_n C 0 rfl (zdec_at dm_X12_areNeighbours 18 rfl) rfl ?_
            refine zr_iload C 4 rfl (zdec_at dm_X12_areNeighbours 19 rfl) ?_
            refine zr_iload C 5 rfl (zdec_at dm_X12_areNeighbours 20 rfl) ?_
            obtain ⟨g45, h⟩ := h
            refine zr_callV C [v2, v17] hS_X12_beside ck_RX12_236 iv_X12_beside vc_X12 oc_103 rfl rfl (zdec_at dm_X12_areNeighbours 21 rfl) ⟨rfl, rfl, rfl, rfl⟩ ⟨by decide, by decide⟩ (Nat.le_of_ble_eq_true rfl) (zall_0 z4 (zall_0 z19 zall_n)) ?_
            refine ⟨_, _, rfl, g45, fun r40 M41 p44 z43 hR42 => ?_⟩
            have h := h r40 M41 p44 z43 hR42
            show zV Γ mu_X12_areNeighbours (145, 0, 0) 41 [(0, zRf (zad Γ) 103), (1, zI a1), (2, zI a2), (3, zI v16), (4, zI v2), (5, zI v17)] [zI r40] M41
            refine zr_istore (L1 := [(6, zI r40), (0, zRf (zad Γ) 103), (1, zI a1), (2, zI a2), (3, zI v16), (4, zI v2), (5, zI v17)]) C (zdec_at dm_X12_areNeighbours 22 rfl) (Nat.le_of_ble_eq_true rfl) rfl ?_
            refine zr_iload_n C 4 rfl (zdec_at dm_X12_areNeighbours 23 rfl) rfl ?_
            refine zr_if_ne C z18 (zdec_at dm_X12_areNeighbours 24 rfl) rfl (fun g46 => ?_) (fun g46 => ?_)
            · have h := h.1 g46
              refine zr_iconst C (zdec_at dm_X12_areNeighbours 33 rfl) ?_
              refine zr_goto C (zdec_at dm_X12_areNeighbours 34 rfl) rfl ?_
              refine zr_istore_n (L1 := [(3, zI 1), (6, zI r40), (0, zRf (zad Γ) 103), (1, zI a1), (2, zI a2), (4, zI v2), (5, zI v17)]) C (zdec_at dm_X12_areNeighbours 36 rfl) rfl (Nat.le_of_ble_eq_true rfl) rfl ?_
              refine zr_iinc (L1 := [(5, zI (v17 + 1)), (3, zI 1), (6, zI r40), (0, zRf (zad Γ) 103), (1, zI a1), (2, zI a2), (4, zI v2)]) C 6 rfl (zdec_at dm_X12_areNeighbours 37 rfl) (Nat.le_of_ble_eq_true rfl) rfl ?_
              refine zr_goto C (zdec_at dm_X12_areNeighbours 38 rfl) rfl ?_
              obtain ⟨o47, h⟩ := h
              obtain ⟨n48, q49, q50⟩ := h
              exact zr_sub [3, 4, 5, 1, 6, 0] rfl (ih23 n48 q49 _ _ _ q50 (by decide) o47 hR42)
            · have h := h.2 g46
              refine zr_iload C 0 rfl (zdec_at dm_X12_areNeighbours 25 rfl) ?_
              refine zr_if_lt C z43 (zdec_at dm_X12_areNeighbours 26 rfl) rfl (fun g51 => ?_) (fun g51 => ?_)
              · have h := h.1 g51
                refine zr_iconst C (zdec_at dm_X12_areNeighbours 35 rfl) ?_
                refine zr_istore_n (L1 := [(3, zI 0), (6, zI r40), (0, zRf (zad Γ) 103), (1, zI a1), (2, zI a2), (4, zI v2), (5, zI v17)]) C (zdec_at dm_X12_areNeighbours 36 rfl) rfl (Nat.le_of_ble_eq_true rfl) rfl ?_
                refine zr_iinc (L1 := [(5, zI (v17 + 1)), (3, zI 0), (6, zI r40), (0, zRf (zad Γ) 103), (1, zI a1), (2, zI a2), (4, zI v2)]) C 6 rfl (zdec_at dm_X12_areNeighbours 37 rfl) (Nat.le_of_ble_eq_true rfl) rfl ?_
                refine zr_goto C (zdec_at dm_X12_areNeighbours 38 rfl) rfl ?_
                obtain ⟨o52, h⟩ := h
                obtain ⟨n53, q54, q55⟩ := h
                exact zr_sub [3, 4, 5, 1, 6, 0] rfl (ih23 n53 q54 _ _ _ q55 (by decide) o52 hR42)
              · have h := h.2 g51
                refine zr_aload_n C 1 rfl (zdec_at dm_X12_areNeighbours 27 rfl) rfl ?_
                refine zr_getr (q := 115) C fk_RX12_51 fi_103_29 (zdec_at dm_X12_areNeighbours 28 rfl) ?_
                refine zr_iload C 0 rfl (zdec_at dm_X12_areNeighbours 29 rfl) ?_
                obtain ⟨o56, h⟩ := h
                refine zr_iald C ai_115 o56 (zdec_at dm_X12_areNeighbours 30 rfl) ?_
                refine zr_iload_n C 3 rfl (zdec_at dm_X12_areNeighbours 31 rfl) rfl ?_
                refine zr_icmp_ne C (hR42 _ _) zz_a2 (zdec_at dm_X12_areNeighbours 32 rfl) rfl (fun g57 => ?_) (fun g57 => ?_)
                · have h := h.1 g57
                  refine zr_iconst C (zdec_at dm_X12_areNeighbours 35 rfl) ?_
                  refine zr_istore_n (L1 := [(3, zI 0), (6, zI r40), (0, zRf (zad Γ) 103), (1, zI a1), (2, zI a2), (4, zI v2), (5, zI v17)]) C (zdec_at dm_X12_areNeighbours 36 rfl) rfl (Nat.le_of_ble_eq_true rfl) rfl ?_
                  refine zr_iinc (L1 := [(5, zI (v17 + 1)), (3, zI 0), (6, zI r40), (0, zRf (zad Γ) 103), (1, zI a1), (2, zI a2), (4, zI v2)]) C 6 rfl (zdec_at dm_X12_areNeighbours 37 rfl) (Nat.le_of_ble_eq_true rfl) rfl ?_
                  refine zr_goto C (zdec_at dm_X12_areNeighbours 38 rfl) rfl ?_
                  obtain ⟨o58, h⟩ := h
                  obtain ⟨n59, q60, q61⟩ := h
                  exact zr_sub [3, 4, 5, 1, 6, 0] rfl (ih23 n59 q60 _ _ _ q61 (by decide) o58 hR42)
                · have h := h.2 g57
                  refine zr_iconst C (zdec_at dm_X12_areNeighbours 33 rfl) ?_
                  refine zr_goto C (zdec_at dm_X12_areNeighbours 34 rfl) rfl ?_
                  refine zr_istore_n (L1 := [(3, zI 1), (6, zI r40), (0, zRf (zad Γ) 103), (1, zI a1), (2, zI a2), (4, zI v2), (5, zI v17)]) C (zdec_at dm_X12_areNeighbours 36 rfl) rfl (Nat.le_of_ble_eq_true rfl) rfl ?_
                  refine zr_iinc (L1 := [(5, zI (v17 + 1)), (3, zI 1), (6, zI r40), (0, zRf (zad Γ) 103), (1, zI a1), (2, zI a2), (4, zI v2)]) C 6 rfl (zdec_at dm_X12_areNeighbours 37 rfl) (Nat.le_of_ble_eq_true rfl) rfl ?_
                  refine zr_goto C (zdec_at dm_X12_areNeighbours 38 rfl) rfl ?_
                  obtain ⟨o62, h⟩ := h
                  obtain ⟨n63, q64, q65⟩ := h
                  exact zr_sub [3, 4, 5, 1, 6, 0] rfl (ih23 n63 q64 _ _ _ q65 (by decide) o62 hR42)
      exact zr_sub [1, 2, 3, 4, 5, 0] rfl (lp24 n26 _ _ _ q27 z3 (by decide) hR6)
  exact zr_sub [2, 3, 4, 1, 0] rfl (lp9 n11 _ _ _ q12 (by decide) (by decide) hR)

set_option maxHeartbeats 400000 in
set_option maxRecDepth 100000 in
theorem sn_X12_neighboursOf {pr_X12_areNeighbours : Int → Int → zM → Prop} {po_X12_areNeighbours : Int → Int → zM → Int → zM → Prop} (hS_X12_areNeighbours : zSnd zS 145 0 0 yX12_areNeighbours cX12_areNeighbours 7 (some .boolean) 2 [2, 0, 0] (F_X12_areNeighbours pr_X12_areNeighbours po_X12_areNeighbours)) : zSnd zS 145 0 0 yX12_neighboursOf cX12_neighboursOf 4 (some .int) 3 [2, 0] (fun xs P M => ∃ a1 : Int, xs = [103, a1] ∧ vc_X12_neighboursOf pr_X12_areNeighbours po_X12_areNeighbours a1 P M) := by
  refine zSnd.of rfl (fun ad xs hz => Nat.le_trans (Nat.le_of_eq (zlen ad _ xs hz)) (by decide)) ?_
  intro Γ C _ _ xs M hz hF
  obtain ⟨a1, rfl, h⟩ := hF
  have zz_a1 := zall_h (zall_t hz) (by decide)
  refine zr_rng (fun hR => ?_)
  have C : zC Γ mu_X12_neighboursOf := C
  change zV Γ mu_X12_neighboursOf (145, 0, 0) 0 [(0, zRf (zad Γ) 103), (1, zI a1)] [] M
  change vc_X12_neighboursOf pr_X12_areNeighbours po_X12_areNeighbours a1 _ M at h
  unfold vc_X12_neighboursOf at h
  refine zr_iconst C (zdec_at dm_X12_neighboursOf 0 rfl) ?_
  refine zr_istore_n (L1 := [(2, zI 0), (0, zRf (zad Γ) 103), (1, zI a1)]) C (zdec_at dm_X12_neighboursOf 1 rfl) rfl (Nat.le_of_ble_eq_true rfl) rfl ?_
  refine zr_iconst C (zdec_at dm_X12_neighboursOf 2 rfl) ?_
  refine zr_istore_n (L1 := [(3, zI 0), (2, zI 0), (0, zRf (zad Γ) 103), (1, zI a1)]) C (zdec_at dm_X12_neighboursOf 3 rfl) rfl (Nat.le_of_ble_eq_true rfl) rfl ?_
  obtain ⟨I4, ⟨n11, q12⟩, hI10⟩ := h
  have lp9 : ∀ (n7 : Nat) (v1 : Int) (v2 : Int) (M5 : zM), I4 v1 v2 M5 n7 → zin v1 → zin v2 → zRng M5 → zV Γ mu_X12_neighboursOf (145, 0, 0) 4 [(0, zRf (zad Γ) 103), (1, zI a1), (2, zI v1), (3, zI v2)] [] M5 := by
    intro n7
    induction n7 using Nat.strongRecOn with
    | _ n7 ih8 =>
    intro v1 v2 M5 q13 z3 z4 hR6
    have h := hI10 v1 v2 M5 n7 q13 z3 z4 hR6
    refine zr_iload_n C 3 rfl (zdec_at dm_X12_neighboursOf 4 rfl) rfl ?_
    refine zr_aload_n C 0 rfl (zdec_at dm_X12_neighboursOf 5 rfl) rfl ?_
    refine zr_geti C fk_RX12_233 fi_103_30 (zdec_at dm_X12_neighboursOf 6 rfl) ?_
    refine zr_icmp_ge C z4 (hR6 _ _) (zdec_at dm_X12_neighboursOf 7 rfl) rfl (fun g14 => ?_) (fun g14 => ?_)
    · have h := h.1 g14
      refine zr_iload_n C 2 rfl (zdec_at dm_X12_neighboursOf 24 rfl) rfl ?_
      exact zr_ireturn C rfl (zdec_at dm_X12_neighboursOf 25 rfl) rfl ⟨z3, h⟩
    · have h := h.2 g14
      refine zr_iload_n C 2 rfl (zdec_at dm_X12_neighboursOf 8 rfl) rfl ?_
      refine zr_iload_n C 3 rfl (zdec_at dm_X12_neighboursOf 9 rfl) rfl ?_
      refine zr_iload_n C 1 rfl (zdec_at dm_X12_neighboursOf 10 rfl) rfl ?_
      refine zr_icmp_eq C z4 zz_a1 (zdec_at dm_X12_neighboursOf 11 rfl) rfl (fun g15 => ?_) (fun g15 => ?_)
      · have h := h.1 g15
        refine zr_iconst C (zdec_at dm_X12_neighboursOf 19 rfl) ?_
        refine zr_iadd C (zdec_at dm_X12_neighboursOf 20 rfl) ?_
        refine zr_istore_n (L1 := [(2, zI (v1 + 0)), (0, zRf (zad Γ) 103), (1, zI a1), (3, zI v2)]) C (zdec_at dm_X12_neighboursOf 21 rfl) rfl (Nat.le_of_ble_eq_true rfl) rfl ?_
        refine zr_iinc (L1 := [(3, zI (v2 + 1)), (2, zI (v1 + 0)), (0, zRf (zad Γ) 103), (1, zI a1)]) C 3 rfl (zdec_at dm_X12_neighboursOf 22 rfl) (Nat.le_of_ble_eq_true rfl) rfl ?_
        refine zr_goto C (zdec_at dm_X12_neighboursOf 23 rfl) rfl ?_
        obtain ⟨o16, h⟩ := h
        obtain ⟨o17, h⟩ := h
        obtain ⟨n18, q19, q20⟩ := h
        exact zr_sub [2, 3, 1, 0] rfl (ih8 n18 q19 _ _ _ q20 o16 o17 hR6)
      · have h := h.2 g15
        refine zr_aload_n C 0 rfl (zdec_at dm_X12_neighboursOf 12 rfl) rfl ?_
        refine zr_iload_n C 1 rfl (zdec_at dm_X12_neighboursOf 13 rfl) rfl ?_
        refine zr_iload_n C 3 rfl (zdec_at dm_X12_neighboursOf 14 rfl) rfl ?_
        obtain ⟨g26, h⟩ := h
        refine zr_callV C [a1, v2] hS_X12_areNeighbours ck_RX12_276 iv_X12_areNeighbours vc_X12 oc_103 rfl rfl (zdec_at dm_X12_neighboursOf 15 rfl) ⟨rfl, rfl, rfl, rfl⟩ ⟨by decide, by decide⟩ (Nat.le_of_ble_eq_true rfl) (zall_0 zz_a1 (zall_0 z4 zall_n)) ?_
        refine ⟨_, _, rfl, g26, fun r21 M22 p25 z24 hR23 => ?_⟩
        have h := h r21 M22 p25 z24 hR23
        show zV Γ mu_X12_neighboursOf (145, 0, 0) 24 [(0, zRf (zad Γ) 103), (1, zI a1), (2, zI v1), (3, zI v2)] [zI r21, zI v1] M22
        refine zr_if_eq C z24 (zdec_at dm_X12_neighboursOf 16 rfl) rfl (fun g27 => ?_) (fun g27 => ?_)
        · have h := h.1 g27
          refine zr_iconst C (zdec_at dm_X12_neighboursOf 19 rfl) ?_
          refine zr_iadd C (zdec_at dm_X12_neighboursOf 20 rfl) ?_
          refine zr_istore_n (L1 := [(2, zI (v1 + 0)), (0, zRf (zad Γ) 103), (1, zI a1), (3, zI v2)]) C (zdec_at dm_X12_neighboursOf 21 rfl) rfl (Nat.le_of_ble_eq_true rfl) rfl ?_
          refine zr_iinc (L1 := [(3, zI (v2 + 1)), (2, zI (v1 + 0)), (0, zRf (zad Γ) 103), (1, zI a1)]) C 3 rfl (zdec_at dm_X12_neighboursOf 22 rfl) (Nat.le_of_ble_eq_true rfl) rfl ?_
          refine zr_goto C (zdec_at dm_X12_neighboursOf 23 rfl) rfl ?_
          obtain ⟨o28, h⟩ := h
          obtain ⟨o29, h⟩ := h
          obtain ⟨n30, q31, q32⟩ := h
          exact zr_sub [2, 3, 1, 0] rfl (ih8 n30 q31 _ _ _ q32 o28 o29 hR23)
        · have h := h.2 g27
          refine zr_iconst C (zdec_at dm_X12_neighboursOf 17 rfl) ?_
          refine zr_goto C (zdec_at dm_X12_neighboursOf 18 rfl) rfl ?_
          refine zr_iadd C (zdec_at dm_X12_neighboursOf 20 rfl) ?_
          refine zr_istore_n (L1 := [(2, zI (v1 + 1)), (0, zRf (zad Γ) 103), (1, zI a1), (3, zI v2)]) C (zdec_at dm_X12_neighboursOf 21 rfl) rfl (Nat.le_of_ble_eq_true rfl) rfl ?_
          refine zr_iinc (L1 := [(3, zI (v2 + 1)), (2, zI (v1 + 1)), (0, zRf (zad Γ) 103), (1, zI a1)]) C 3 rfl (zdec_at dm_X12_neighboursOf 22 rfl) (Nat.le_of_ble_eq_true rfl) rfl ?_
          refine zr_goto C (zdec_at dm_X12_neighboursOf 23 rfl) rfl ?_
          obtain ⟨o33, h⟩ := h
          obtain ⟨o34, h⟩ := h
          obtain ⟨n35, q36, q37⟩ := h
          exact zr_sub [2, 3, 1, 0] rfl (ih8 n35 q36 _ _ _ q37 o33 o34 hR23)
  exact zr_sub [2, 3, 1, 0] rfl (lp9 n11 _ _ _ q12 (by decide) (by decide) hR)

set_option maxHeartbeats 400000 in
set_option maxRecDepth 100000 in
theorem sn_X12_faceOf {pr_X12_findFaces : zM → Prop} {po_X12_findFaces : zM → zM → Prop} {pr_X12_isDot : Int → zM → Prop} {po_X12_isDot : Int → zM → Int → zM → Prop} (hS_X12_findFaces : zSnd zS 145 0 0 yX12_findFaces cX12_findFaces 6 none 2 [2] (F_X12_findFaces pr_X12_findFaces po_X12_findFaces)) (hS_X12_isDot : zSnd zS 145 0 0 yX12_isDot cX12_isDot 2 (some .boolean) 0 [2, 0] (F_X12_isDot pr_X12_isDot po_X12_isDot)) : zSnd zS 145 0 0 yX12_faceOf cX12_faceOf 2 (some .int) 3 [2, 0] (fun xs P M => ∃ a1 : Int, xs = [103, a1] ∧ vc_X12_faceOf pr_X12_findFaces po_X12_findFaces pr_X12_isDot po_X12_isDot a1 P M) := by
  refine zSnd.of rfl (fun ad xs hz => Nat.le_trans (Nat.le_of_eq (zlen ad _ xs hz)) (by decide)) ?_
  intro Γ C _ _ xs M hz hF
  obtain ⟨a1, rfl, h⟩ := hF
  have zz_a1 := zall_h (zall_t hz) (by decide)
  refine zr_rng (fun hR => ?_)
  have C : zC Γ mu_X12_faceOf := C
  change zV Γ mu_X12_faceOf (145, 0, 0) 0 [(0, zRf (zad Γ) 103), (1, zI a1)] [] M
  change vc_X12_faceOf pr_X12_findFaces po_X12_findFaces pr_X12_isDot po_X12_isDot a1 _ M at h
  unfold vc_X12_faceOf at h
  refine zr_aload_n C 0 rfl (zdec_at dm_X12_faceOf 0 rfl) rfl ?_
  refine zr_iconst C (zdec_at dm_X12_faceOf 1 rfl) ?_
  refine zr_puti C fk_RX12_140 fi_103_0 (by decide) (zdec_at dm_X12_faceOf 2 rfl) (fun M1 e2 => ?_)
  have h := h M1 e2
  have hR3 : zRng M1 := by rw [e2]; exact hR.set (by decide) _ _
  refine zr_aload_n C 0 rfl (zdec_at dm_X12_faceOf 3 rfl) rfl ?_
  obtain ⟨g8, h⟩ := h
  refine zr_callV C [] hS_X12_findFaces ck_RX12_240 iv_X12_findFaces vc_X12 oc_103 rfl rfl (zdec_at dm_X12_faceOf 4 rfl) ⟨rfl, rfl, rfl, rfl⟩ ⟨by decide, by decide⟩ (Nat.le_of_ble_eq_true rfl) zall_n ?_
  refine ⟨rfl, g8, fun M4 p7 _ hR5 => ?_⟩
  have h := h M4 p7 hR5
  show zV Γ mu_X12_faceOf (145, 0, 0) 9 [(0, zRf (zad Γ) 103), (1, zI a1)] [] M4
  refine zr_aload_n C 0 rfl (zdec_at dm_X12_faceOf 5 rfl) rfl ?_
  refine zr_iload_n C 1 rfl (zdec_at dm_X12_faceOf 6 rfl) rfl ?_
  obtain ⟨g14, h⟩ := h
  refine zr_callV C [a1] hS_X12_isDot ck_RX12_202 iv_X12_isDot vc_X12 oc_103 rfl rfl (zdec_at dm_X12_faceOf 7 rfl) ⟨rfl, rfl, rfl, rfl⟩ ⟨by decide, by decide⟩ (Nat.le_of_ble_eq_true rfl) (zall_0 zz_a1 zall_n) ?_
  refine ⟨_, rfl, g14, fun r9 M10 p13 z12 hR11 => ?_⟩
  have h := h r9 M10 p13 z12 hR11
  show zV Γ mu_X12_faceOf (145, 0, 0) 14 [(0, zRf (zad Γ) 103), (1, zI a1)] [zI r9] M10
  refine zr_if_eq C z12 (zdec_at dm_X12_faceOf 8 rfl) rfl (fun g15 => ?_) (fun g15 => ?_)
  · have h := h.1 g15
    refine zr_iconst C (zdec_at dm_X12_faceOf 14 rfl) ?_
    exact zr_ireturn C rfl (zdec_at dm_X12_faceOf 15 rfl) rfl ⟨(by decide), h⟩
  · have h := h.2 g15
    refine zr_aload_n C 0 rfl (zdec_at dm_X12_faceOf 9 rfl) rfl ?_
    refine zr_getr (q := 115) C fk_RX12_51 fi_103_29 (zdec_at dm_X12_faceOf 10 rfl) ?_
    refine zr_iload_n C 1 rfl (zdec_at dm_X12_faceOf 11 rfl) rfl ?_
    obtain ⟨o16, h⟩ := h
    refine zr_iald C ai_115 o16 (zdec_at dm_X12_faceOf 12 rfl) ?_
    refine zr_goto C (zdec_at dm_X12_faceOf 13 rfl) rfl ?_
    exact zr_ireturn C rfl (zdec_at dm_X12_faceOf 15 rfl) rfl ⟨(hR11 _ _), h⟩

set_option maxHeartbeats 400000 in
set_option maxRecDepth 100000 in
theorem sn_X12_fieldOf {pr_X12_sizeOf : Int → zM → Prop} {po_X12_sizeOf : Int → zM → Int → zM → Prop} {pr_X12_findBox : Int → zM → Prop} {po_X12_findBox : Int → zM → zM → Prop} {pr_X12_findHoles : Int → zM → Prop} {po_X12_findHoles : Int → zM → zM → Prop} {pr_X12_neighboursOf : Int → zM → Prop} {po_X12_neighboursOf : Int → zM → Int → zM → Prop} {pr_X12_depthOf : Int → zM → Prop} {po_X12_depthOf : Int → zM → Int → zM → Prop} {pr_X12_greatestOf : Int → zM → Prop} {po_X12_greatestOf : Int → zM → Int → zM → Prop} {pr_X12_findBorder : Int → zM → Prop} {po_X12_findBorder : Int → zM → zM → Prop} (hS_X12_sizeOf : zSnd zS 145 0 0 yX12_sizeOf cX12_sizeOf 4 (some .int) 0 [2, 0] (F_X12_sizeOf pr_X12_sizeOf po_X12_sizeOf)) (hS_X12_findBox : zSnd zS 145 0 0 yX12_findBox cX12_findBox 5 none 0 [2, 0] (F_X12_findBox pr_X12_findBox po_X12_findBox)) (hS_X12_findHoles : zSnd zS 145 0 0 yX12_findHoles cX12_findHoles 11 none 2 [2, 0] (F_X12_findHoles pr_X12_findHoles po_X12_findHoles)) (hS_X12_neighboursOf : zSnd zS 145 0 0 yX12_neighboursOf cX12_neighboursOf 4 (some .int) 3 [2, 0] (F_X12_neighboursOf pr_X12_neighboursOf po_X12_neighboursOf)) (hS_X12_depthOf : zSnd zS 145 0 0 yX12_depthOf cX12_depthOf 4 (some .int) 3 [2, 0] (F_X12_depthOf pr_X12_depthOf po_X12_depthOf)) (hS_X12_greatestOf : zSnd zS 145 0 0 yX12_greatestOf cX12_greatestOf 6 (some .int) 2 [2, 0] (F_X12_greatestOf pr_X12_greatestOf po_X12_greatestOf)) (hS_X12_findBorder : zSnd zS 145 0 0 yX12_findBorder cX12_findBorder 8 none 2 [2, 0] (F_X12_findBorder pr_X12_findBorder po_X12_findBorder)) : zSnd zS 145 0 0 yX12_fieldOf cX12_fieldOf 3 (some .int) 4 [2, 0, 0] (fun xs P M => ∃ a1 a2 : Int, xs = [103, a1, a2] ∧ vc_X12_fieldOf pr_X12_sizeOf po_X12_sizeOf pr_X12_findBox po_X12_findBox pr_X12_findHoles po_X12_findHoles pr_X12_neighboursOf po_X12_neighboursOf pr_X12_depthOf po_X12_depthOf pr_X12_greatestOf po_X12_greatestOf pr_X12_findBorder po_X12_findBorder a1 a2 P M) := by
  refine zSnd.of rfl (fun ad xs hz => Nat.le_trans (Nat.le_of_eq (zlen ad _ xs hz)) (by decide)) ?_
  intro Γ C _ _ xs M hz hF
  obtain ⟨a1, a2, rfl, h⟩ := hF
  have zz_a1 := zall_h (zall_t hz) (by decide)
  have zz_a2 := zall_h (zall_t (zall_t hz)) (by decide)
  refine zr_rng (fun hR => ?_)
  have C : zC Γ mu_X12_fieldOf := C
  change zV Γ mu_X12_fieldOf (145, 0, 0) 0 [(0, zRf (zad Γ) 103), (1, zI a1), (2, zI a2)] [] M
  change vc_X12_fieldOf pr_X12_sizeOf po_X12_sizeOf pr_X12_findBox po_X12_findBox pr_X12_findHoles po_X12_findHoles pr_X12_neighboursOf po_X12_neighboursOf pr_X12_depthOf po_X12_depthOf pr_X12_greatestOf po_X12_greatestOf pr_X12_findBorder po_X12_findBorder a1 a2 _ M at h
  unfold vc_X12_fieldOf at h
  refine zr_iload_n C 2 rfl (zdec_at dm_X12_fieldOf 0 rfl) rfl ?_
  by_cases g1_0 : a2 = 0
  · have h := h.1 g1_0
    refine zr_tsin C 0 (g1_0.trans (by decide)) zz_a2 (by decide) (zdec_at dm_X12_fieldOf 1 rfl) rfl rfl ?_
    refine zr_aload_n C 0 rfl (zdec_at dm_X12_fieldOf 2 rfl) rfl ?_
    refine zr_iload_n C 1 rfl (zdec_at dm_X12_fieldOf 3 rfl) rfl ?_
    obtain ⟨g6, h⟩ := h
    refine zr_callV C [a1] hS_X12_sizeOf ck_RX12_279 iv_X12_sizeOf vc_X12 oc_103 rfl rfl (zdec_at dm_X12_fieldOf 4 rfl) ⟨rfl, rfl, rfl, rfl⟩ ⟨by decide, by decide⟩ (Nat.le_of_ble_eq_true rfl) (zall_0 zz_a1 zall_n) ?_
    refine ⟨_, rfl, g6, fun r1 M2 p5 z4 hR3 => ?_⟩
    have h := h r1 M2 p5 z4 hR3
    show zV Γ mu_X12_fieldOf (145, 0, 0) 65 [(0, zRf (zad Γ) 103), (1, zI a1), (2, zI a2)] [zI r1] M2
    exact zr_ireturn C rfl (zdec_at dm_X12_fieldOf 5 rfl) rfl ⟨z4, h⟩
  · have h := h.2 g1_0
    by_cases g1_1 : a2 = 1
    · have h := h.1 g1_1
      refine zr_tsin C 1 (g1_1.trans (by decide)) zz_a2 (by decide) (zdec_at dm_X12_fieldOf 1 rfl) rfl rfl ?_
      refine zr_aload_n C 0 rfl (zdec_at dm_X12_fieldOf 6 rfl) rfl ?_
      refine zr_getr (q := 104) C fk_RX12_16 fi_103_3 (zdec_at dm_X12_fieldOf 7 rfl) ?_
      refine zr_aload_n C 0 rfl (zdec_at dm_X12_fieldOf 8 rfl) rfl ?_
      refine zr_getr (q := 116) C fk_RX12_54 fi_103_31 (zdec_at dm_X12_fieldOf 9 rfl) ?_
      refine zr_iload_n C 1 rfl (zdec_at dm_X12_fieldOf 10 rfl) rfl ?_
      obtain ⟨o7, h⟩ := h
      refine zr_iald C ai_116 o7 (zdec_at dm_X12_fieldOf 11 rfl) ?_
      obtain ⟨o8, h⟩ := h
      refine zr_iald C ai_104 o8 (zdec_at dm_X12_fieldOf 12 rfl) ?_
      exact zr_ireturn C rfl (zdec_at dm_X12_fieldOf 13 rfl) rfl ⟨(hR _ _), h⟩
    · have h := h.2 g1_1
      by_cases g1_2 : a2 = 2
      · have h := h.1 g1_2
        refine zr_tsin C 2 (g1_2.trans (by decide)) zz_a2 (by decide) (zdec_at dm_X12_fieldOf 1 rfl) rfl rfl ?_
        refine zr_aload_n C 0 rfl (zdec_at dm_X12_fieldOf 14 rfl) rfl ?_
        refine zr_getr (q := 116) C fk_RX12_54 fi_103_31 (zdec_at dm_X12_fieldOf 15 rfl) ?_
        refine zr_iload_n C 1 rfl (zdec_at dm_X12_fieldOf 16 rfl) rfl ?_
        obtain ⟨o9, h⟩ := h
        refine zr_iald C ai_116 o9 (zdec_at dm_X12_fieldOf 17 rfl) ?_
        exact zr_ireturn C rfl (zdec_at dm_X12_fieldOf 18 rfl) rfl ⟨(hR _ _), h⟩
      · have h := h.2 g1_2
        by_cases g1_3 : a2 = 3
        · have h := h.1 g1_3
          refine zr_tsin C 3 (g1_3.trans (by decide)) zz_a2 (by decide) (zdec_at dm_X12_fieldOf 1 rfl) rfl rfl ?_
          refine zr_aload_n C 0 rfl (zdec_at dm_X12_fieldOf 19 rfl) rfl ?_
          refine zr_iload_n C 1 rfl (zdec_at dm_X12_fieldOf 20 rfl) rfl ?_
          obtain ⟨g14, h⟩ := h
          refine zr_callV C [a1] hS_X12_findBox ck_RX12_282 iv_X12_findBox vc_X12 oc_103 rfl rfl (zdec_at dm_X12_fieldOf 21 rfl) ⟨rfl, rfl, rfl, rfl⟩ ⟨by decide, by decide⟩ (Nat.le_of_ble_eq_true rfl) (zall_0 zz_a1 zall_n) ?_
          refine ⟨_, rfl, g14, fun M10 p13 _ hR11 => ?_⟩
          have h := h M10 p13 hR11
          show zV Γ mu_X12_fieldOf (145, 0, 0) 90 [(0, zRf (zad Γ) 103), (1, zI a1), (2, zI a2)] [] M10
          refine zr_iload_n C 2 rfl (zdec_at dm_X12_fieldOf 22 rfl) rfl ?_
          refine zr_iconst C (zdec_at dm_X12_fieldOf 23 rfl) ?_
          refine zr_icmp_ne C zz_a2 (by decide) (zdec_at dm_X12_fieldOf 24 rfl) rfl (fun g15 => ?_) (fun g15 => ?_)
          · have h := h.1 g15
            refine zr_iload_n C 2 rfl (zdec_at dm_X12_fieldOf 28 rfl) rfl ?_
            refine zr_iconst C (zdec_at dm_X12_fieldOf 29 rfl) ?_
            refine zr_icmp_ne C zz_a2 (by decide) (zdec_at dm_X12_fieldOf 30 rfl) rfl (fun g16 => ?_) (fun g16 => ?_)
            · have h := h.1 g16
              refine zr_iload_n C 2 rfl (zdec_at dm_X12_fieldOf 34 rfl) rfl ?_
              refine zr_iconst C (zdec_at dm_X12_fieldOf 35 rfl) ?_
              refine zr_icmp_ne C zz_a2 (by decide) (zdec_at dm_X12_fieldOf 36 rfl) rfl (fun g17 => ?_) (fun g17 => ?_)
              · have h := h.1 g17
                refine zr_aload_n C 0 rfl (zdec_at dm_X12_fieldOf 40 rfl) rfl ?_
                refine zr_geti C fk_RX12_252 fi_103_35 (zdec_at dm_X12_fieldOf 41 rfl) ?_
                exact zr_ireturn C rfl (zdec_at dm_X12_fieldOf 42 rfl) rfl ⟨(hR11 _ _), h⟩
              · have h := h.2 g17
                refine zr_aload_n C 0 rfl (zdec_at dm_X12_fieldOf 37 rfl) rfl ?_
                refine zr_geti C fk_RX12_249 fi_103_34 (zdec_at dm_X12_fieldOf 38 rfl) ?_
                refine zr_goto C (zdec_at dm_X12_fieldOf 39 rfl) rfl ?_
                exact zr_ireturn C rfl (zdec_at dm_X12_fieldOf 42 rfl) rfl ⟨(hR11 _ _), h⟩
            · have h := h.2 g16
              refine zr_aload_n C 0 rfl (zdec_at dm_X12_fieldOf 31 rfl) rfl ?_
              refine zr_geti C fk_RX12_246 fi_103_33 (zdec_at dm_X12_fieldOf 32 rfl) ?_
              refine zr_goto C (zdec_at dm_X12_fieldOf 33 rfl) rfl ?_
              exact zr_ireturn C rfl (zdec_at dm_X12_fieldOf 42 rfl) rfl ⟨(hR11 _ _), h⟩
          · have h := h.2 g15
            refine zr_aload_n C 0 rfl (zdec_at dm_X12_fieldOf 25 rfl) rfl ?_
            refine zr_geti C fk_RX12_243 fi_103_32 (zdec_at dm_X12_fieldOf 26 rfl) ?_
            refine zr_goto C (zdec_at dm_X12_fieldOf 27 rfl) rfl ?_
            exact zr_ireturn C rfl (zdec_at dm_X12_fieldOf 42 rfl) rfl ⟨(hR11 _ _), h⟩
        · have h := h.2 g1_3
          by_cases g1_4 : a2 = 4
          · have h := h.1 g1_4
            refine zr_tsin C 4 (g1_4.trans (by decide)) zz_a2 (by decide) (zdec_at dm_X12_fieldOf 1 rfl) rfl rfl ?_
            refine zr_aload_n C 0 rfl (zdec_at dm_X12_fieldOf 19 rfl) rfl ?_
            refine zr_iload_n C 1 rfl (zdec_at dm_X12_fieldOf 20 rfl) rfl ?_
            obtain ⟨g22, h⟩ := h
            refine zr_callV C [a1] hS_X12_findBox ck_RX12_282 iv_X12_findBox vc_X12 oc_103 rfl rfl (zdec_at dm_X12_fieldOf 21 rfl) ⟨rfl, rfl, rfl, rfl⟩ ⟨by decide, by decide⟩ (Nat.le_of_ble_eq_true rfl) (zall_0 zz_a1 zall_n) ?_
            refine ⟨_, rfl, g22, fun M18 p21 _ hR19 => ?_⟩
            have h := h M18 p21 hR19
            show zV Γ mu_X12_fieldOf (145, 0, 0) 90 [(0, zRf (zad Γ) 103), (1, zI a1), (2, zI a2)] [] M18
            refine zr_iload_n C 2 rfl (zdec_at dm_X12_fieldOf 22 rfl) rfl ?_
            refine zr_iconst C (zdec_at dm_X12_fieldOf 23 rfl) ?_
            refine zr_icmp_ne C zz_a2 (by decide) (zdec_at dm_X12_fieldOf 24 rfl) rfl (fun g23 => ?_) (fun g23 => ?_)
            · have h := h.1 g23
              refine zr_iload_n C 2 rfl (zdec_at dm_X12_fieldOf 28 rfl) rfl ?_
              refine zr_iconst C (zdec_at dm_X12_fieldOf 29 rfl) ?_
              refine zr_icmp_ne C zz_a2 (by decide) (zdec_at dm_X12_fieldOf 30 rfl) rfl (fun g24 => ?_) (fun g24 => ?_)
              · have h := h.1 g24
                refine zr_iload_n C 2 rfl (zdec_at dm_X12_fieldOf 34 rfl) rfl ?_
                refine zr_iconst C (zdec_at dm_X12_fieldOf 35 rfl) ?_
                refine zr_icmp_ne C zz_a2 (by decide) (zdec_at dm_X12_fieldOf 36 rfl) rfl (fun g25 => ?_) (fun g25 => ?_)
                · have h := h.1 g25
                  refine zr_aload_n C 0 rfl (zdec_at dm_X12_fieldOf 40 rfl) rfl ?_
                  refine zr_geti C fk_RX12_252 fi_103_35 (zdec_at dm_X12_fieldOf 41 rfl) ?_
                  exact zr_ireturn C rfl (zdec_at dm_X12_fieldOf 42 rfl) rfl ⟨(hR19 _ _), h⟩
                · have h := h.2 g25
                  refine zr_aload_n C 0 rfl (zdec_at dm_X12_fieldOf 37 rfl) rfl ?_
                  refine zr_geti C fk_RX12_249 fi_103_34 (zdec_at dm_X12_fieldOf 38 rfl) ?_
                  refine zr_goto C (zdec_at dm_X12_fieldOf 39 rfl) rfl ?_
                  exact zr_ireturn C rfl (zdec_at dm_X12_fieldOf 42 rfl) rfl ⟨(hR19 _ _), h⟩
              · have h := h.2 g24
                refine zr_aload_n C 0 rfl (zdec_at dm_X12_fieldOf 31 rfl) rfl ?_
                refine zr_geti C fk_RX12_246 fi_103_33 (zdec_at dm_X12_fieldOf 32 rfl) ?_
                refine zr_goto C (zdec_at dm_X12_fieldOf 33 rfl) rfl ?_
                exact zr_ireturn C rfl (zdec_at dm_X12_fieldOf 42 rfl) rfl ⟨(hR19 _ _), h⟩
            · have h := h.2 g23
              refine zr_aload_n C 0 rfl (zdec_at dm_X12_fieldOf 25 rfl) rfl ?_
              refine zr_geti C fk_RX12_243 fi_103_32 (zdec_at dm_X12_fieldOf 26 rfl) ?_
              refine zr_goto C (zdec_at dm_X12_fieldOf 27 rfl) rfl ?_
              exact zr_ireturn C rfl (zdec_at dm_X12_fieldOf 42 rfl) rfl ⟨(hR19 _ _), h⟩
          · have h := h.2 g1_4
            by_cases g1_5 : a2 = 5
            · have h := h.1 g1_5
              refine zr_tsin C 5 (g1_5.trans (by decide)) zz_a2 (by decide) (zdec_at dm_X12_fieldOf 1 rfl) rfl rfl ?_
              refine zr_aload_n C 0 rfl (zdec_at dm_X12_fieldOf 19 rfl) rfl ?_
              refine zr_iload_n C 1 rfl (zdec_at dm_X12_fieldOf 20 rfl) rfl ?_
              obtain ⟨g30, h⟩ := h
              refine zr_callV C [a1] hS_X12_findBox ck_RX12_282 iv_X12_findBox vc_X12 oc_103 rfl rfl (zdec_at dm_X12_fieldOf 21 rfl) ⟨rfl, rfl, rfl, rfl⟩ ⟨by decide, by decide⟩ (Nat.le_of_ble_eq_true rfl) (zall_0 zz_a1 zall_n) ?_
              refine ⟨_, rfl, g30, fun M26 p29 _ hR27 => ?_⟩
              have h := h M26 p29 hR27
              show zV Γ mu_X12_fieldOf (145, 0, 0) 90 [(0, zRf (zad Γ) 103), (1, zI a1), (2, zI a2)] [] M26
              refine zr_iload_n C 2 rfl (zdec_at dm_X12_fieldOf 22 rfl) rfl ?_
              refine zr_iconst C (zdec_at dm_X12_fieldOf 23 rfl) ?_
              refine zr_icmp_ne C zz_a2 (by decide) (zdec_at dm_X12_fieldOf 24 rfl) rfl (fun g31 => ?_) (fun g31 => ?_)
              · have h := h.1 g31
                refine zr_iload_n C 2 rfl (zdec_at dm_X12_fieldOf 28 rfl) rfl ?_
                refine zr_iconst C (zdec_at dm_X12_fieldOf 29 rfl) ?_
                refine zr_icmp_ne C zz_a2 (by decide) (zdec_at dm_X12_fieldOf 30 rfl) rfl (fun g32 => ?_) (fun g32 => ?_)
                · have h := h.1 g32
                  refine zr_iload_n C 2 rfl (zdec_at dm_X12_fieldOf 34 rfl) rfl ?_
                  refine zr_iconst C (zdec_at dm_X12_fieldOf 35 rfl) ?_
                  refine zr_icmp_ne C zz_a2 (by decide) (zdec_at dm_X12_fieldOf 36 rfl) rfl (fun g33 => ?_) (fun g33 => ?_)
                  · have h := h.1 g33
                    refine zr_aload_n C 0 rfl (zdec_at dm_X12_fieldOf 40 rfl) rfl ?_
                    refine zr_geti C fk_RX12_252 fi_103_35 (zdec_at dm_X12_fieldOf 41 rfl) ?_
                    exact zr_ireturn C rfl (zdec_at dm_X12_fieldOf 42 rfl) rfl ⟨(hR27 _ _), h⟩
                  · have h := h.2 g33
                    refine zr_aload_n C 0 rfl (zdec_at dm_X12_fieldOf 37 rfl) rfl ?_
                    refine zr_geti C fk_RX12_249 fi_103_34 (zdec_at dm_X12_fieldOf 38 rfl) ?_
                    refine zr_goto C (zdec_at dm_X12_fieldOf 39 rfl) rfl ?_
                    exact zr_ireturn C rfl (zdec_at dm_X12_fieldOf 42 rfl) rfl ⟨(hR27 _ _), h⟩
                · have h := h.2 g32
                  refine zr_aload_n C 0 rfl (zdec_at dm_X12_fieldOf 31 rfl) rfl ?_
                  refine zr_geti C fk_RX12_246 fi_103_33 (zdec_at dm_X12_fieldOf 32 rfl) ?_
                  refine zr_goto C (zdec_at dm_X12_fieldOf 33 rfl) rfl ?_
                  exact zr_ireturn C rfl (zdec_at dm_X12_fieldOf 42 rfl) rfl ⟨(hR27 _ _), h⟩
              · have h := h.2 g31
                refine zr_aload_n C 0 rfl (zdec_at dm_X12_fieldOf 25 rfl) rfl ?_
                refine zr_geti C fk_RX12_243 fi_103_32 (zdec_at dm_X12_fieldOf 26 rfl) ?_
                refine zr_goto C (zdec_at dm_X12_fieldOf 27 rfl) rfl ?_
                exact zr_ireturn C rfl (zdec_at dm_X12_fieldOf 42 rfl) rfl ⟨(hR27 _ _), h⟩
            · have h := h.2 g1_5
              by_cases g1_6 : a2 = 6
              · have h := h.1 g1_6
                refine zr_tsin C 6 (g1_6.trans (by decide)) zz_a2 (by decide) (zdec_at dm_X12_fieldOf 1 rfl) rfl rfl ?_
                refine zr_aload_n C 0 rfl (zdec_at dm_X12_fieldOf 19 rfl) rfl ?_
                refine zr_iload_n C 1 rfl (zdec_at dm_X12_fieldOf 20 rfl) rfl ?_
                obtain ⟨g38, h⟩ := h
                refine zr_callV C [a1] hS_X12_findBox ck_RX12_282 iv_X12_findBox vc_X12 oc_103 rfl rfl (zdec_at dm_X12_fieldOf 21 rfl) ⟨rfl, rfl, rfl, rfl⟩ ⟨by decide, by decide⟩ (Nat.le_of_ble_eq_true rfl) (zall_0 zz_a1 zall_n) ?_
                refine ⟨_, rfl, g38, fun M34 p37 _ hR35 => ?_⟩
                have h := h M34 p37 hR35
                show zV Γ mu_X12_fieldOf (145, 0, 0) 90 [(0, zRf (zad Γ) 103), (1, zI a1), (2, zI a2)] [] M34
                refine zr_iload_n C 2 rfl (zdec_at dm_X12_fieldOf 22 rfl) rfl ?_
                refine zr_iconst C (zdec_at dm_X12_fieldOf 23 rfl) ?_
                refine zr_icmp_ne C zz_a2 (by decide) (zdec_at dm_X12_fieldOf 24 rfl) rfl (fun g39 => ?_) (fun g39 => ?_)
                · have h := h.1 g39
                  refine zr_iload_n C 2 rfl (zdec_at dm_X12_fieldOf 28 rfl) rfl ?_
                  refine zr_iconst C (zdec_at dm_X12_fieldOf 29 rfl) ?_
                  refine zr_icmp_ne C zz_a2 (by decide) (zdec_at dm_X12_fieldOf 30 rfl) rfl (fun g40 => ?_) (fun g40 => ?_)
                  · have h := h.1 g40
                    refine zr_iload_n C 2 rfl (zdec_at dm_X12_fieldOf 34 rfl) rfl ?_
                    refine zr_iconst C (zdec_at dm_X12_fieldOf 35 rfl) ?_
                    refine zr_icmp_ne C zz_a2 (by decide) (zdec_at dm_X12_fieldOf 36 rfl) rfl (fun g41 => ?_) (fun g41 => ?_)
                    · have h := h.1 g41
                      refine zr_aload_n C 0 rfl (zdec_at dm_X12_fieldOf 40 rfl) rfl ?_
                      refine zr_geti C fk_RX12_252 fi_103_35 (zdec_at dm_X12_fieldOf 41 rfl) ?_
                      exact zr_ireturn C rfl (zdec_at dm_X12_fieldOf 42 rfl) rfl ⟨(hR35 _ _), h⟩
                    · have h := h.2 g41
                      refine zr_aload_n C 0 rfl (zdec_at dm_X12_fieldOf 37 rfl) rfl ?_
                      refine zr_geti C fk_RX12_249 fi_103_34 (zdec_at dm_X12_fieldOf 38 rfl) ?_
                      refine zr_goto C (zdec_at dm_X12_fieldOf 39 rfl) rfl ?_
                      exact zr_ireturn C rfl (zdec_at dm_X12_fieldOf 42 rfl) rfl ⟨(hR35 _ _), h⟩
                  · have h := h.2 g40
                    refine zr_aload_n C 0 rfl (zdec_at dm_X12_fieldOf 31 rfl) rfl ?_
                    refine zr_geti C fk_RX12_246 fi_103_33 (zdec_at dm_X12_fieldOf 32 rfl) ?_
                    refine zr_goto C (zdec_at dm_X12_fieldOf 33 rfl) rfl ?_
                    exact zr_ireturn C rfl (zdec_at dm_X12_fieldOf 42 rfl) rfl ⟨(hR35 _ _), h⟩
                · have h := h.2 g39
                  refine zr_aload_n C 0 rfl (zdec_at dm_X12_fieldOf 25 rfl) rfl ?_
                  refine zr_geti C fk_RX12_243 fi_103_32 (zdec_at dm_X12_fieldOf 26 rfl) ?_
                  refine zr_goto C (zdec_at dm_X12_fieldOf 27 rfl) rfl ?_
                  exact zr_ireturn C rfl (zdec_at dm_X12_fieldOf 42 rfl) rfl ⟨(hR35 _ _), h⟩
              · have h := h.2 g1_6
                by_cases g1_7 : a2 = 7
                · have h := h.1 g1_7
                  refine zr_tsin C 7 (g1_7.trans (by decide)) zz_a2 (by decide) (zdec_at dm_X12_fieldOf 1 rfl) rfl rfl ?_
                  refine zr_aload_n C 0 rfl (zdec_at dm_X12_fieldOf 43 rfl) rfl ?_
                  refine zr_iload_n C 1 rfl (zdec_at dm_X12_fieldOf 44 rfl) rfl ?_
                  obtain ⟨g46, h⟩ := h
                  refine zr_callV C [a1] hS_X12_findHoles ck_RX12_269 iv_X12_findHoles vc_X12 oc_103 rfl rfl (zdec_at dm_X12_fieldOf 45 rfl) ⟨rfl, rfl, rfl, rfl⟩ ⟨by decide, by decide⟩ (Nat.le_of_ble_eq_true rfl) (zall_0 zz_a1 zall_n) ?_
                  refine ⟨_, rfl, g46, fun M42 p45 _ hR43 => ?_⟩
                  have h := h M42 p45 hR43
                  show zV Γ mu_X12_fieldOf (145, 0, 0) 136 [(0, zRf (zad Γ) 103), (1, zI a1), (2, zI a2)] [] M42
                  refine zr_aload_n C 0 rfl (zdec_at dm_X12_fieldOf 46 rfl) rfl ?_
                  refine zr_geti C fk_RX12_259 fi_103_37 (zdec_at dm_X12_fieldOf 47 rfl) ?_
                  refine zr_iconst C (zdec_at dm_X12_fieldOf 48 rfl) ?_
                  refine zr_isub C (zdec_at dm_X12_fieldOf 49 rfl) ?_
                  obtain ⟨o47, h⟩ := h
                  exact zr_ireturn C rfl (zdec_at dm_X12_fieldOf 50 rfl) rfl ⟨o47, h⟩
                · have h := h.2 g1_7
                  by_cases g1_8 : a2 = 8
                  · have h := h.1 g1_8
                    refine zr_tsin C 8 (g1_8.trans (by decide)) zz_a2 (by decide) (zdec_at dm_X12_fieldOf 1 rfl) rfl rfl ?_
                    refine zr_aload_n C 0 rfl (zdec_at dm_X12_fieldOf 51 rfl) rfl ?_
                    refine zr_iload_n C 1 rfl (zdec_at dm_X12_fieldOf 52 rfl) rfl ?_
                    obtain ⟨g53, h⟩ := h
                    refine zr_callV C [a1] hS_X12_neighboursOf ck_RX12_285 iv_X12_neighboursOf vc_X12 oc_103 rfl rfl (zdec_at dm_X12_fieldOf 53 rfl) ⟨rfl, rfl, rfl, rfl⟩ ⟨by decide, by decide⟩ (Nat.le_of_ble_eq_true rfl) (zall_0 zz_a1 zall_n) ?_
                    refine ⟨_, rfl, g53, fun r48 M49 p52 z51 hR50 => ?_⟩
                    have h := h r48 M49 p52 z51 hR50
                    show zV Γ mu_X12_fieldOf (145, 0, 0) 148 [(0, zRf (zad Γ) 103), (1, zI a1), (2, zI a2)] [zI r48] M49
                    exact zr_ireturn C rfl (zdec_at dm_X12_fieldOf 54 rfl) rfl ⟨z51, h⟩
                  · have h := h.2 g1_8
                    by_cases g1_9 : a2 = 9
                    · have h := h.1 g1_9
                      refine zr_tsin C 9 (g1_9.trans (by decide)) zz_a2 (by decide) (zdec_at dm_X12_fieldOf 1 rfl) rfl rfl ?_
                      refine zr_aload_n C 0 rfl (zdec_at dm_X12_fieldOf 55 rfl) rfl ?_
                      refine zr_iload_n C 1 rfl (zdec_at dm_X12_fieldOf 56 rfl) rfl ?_
                      obtain ⟨g59, h⟩ := h
                      refine zr_callV C [a1] hS_X12_depthOf ck_RX12_288 iv_X12_depthOf vc_X12 oc_103 rfl rfl (zdec_at dm_X12_fieldOf 57 rfl) ⟨rfl, rfl, rfl, rfl⟩ ⟨by decide, by decide⟩ (Nat.le_of_ble_eq_true rfl) (zall_0 zz_a1 zall_n) ?_
                      refine ⟨_, rfl, g59, fun r54 M55 p58 z57 hR56 => ?_⟩
                      have h := h r54 M55 p58 z57 hR56
                      show zV Γ mu_X12_fieldOf (145, 0, 0) 154 [(0, zRf (zad Γ) 103), (1, zI a1), (2, zI a2)] [zI r54] M55
                      exact zr_ireturn C rfl (zdec_at dm_X12_fieldOf 58 rfl) rfl ⟨z57, h⟩
                    · have h := h.2 g1_9
                      by_cases g1_10 : a2 = 10
                      · have h := h.1 g1_10
                        refine zr_tsin C 10 (g1_10.trans (by decide)) zz_a2 (by decide) (zdec_at dm_X12_fieldOf 1 rfl) rfl rfl ?_
                        refine zr_aload_n C 0 rfl (zdec_at dm_X12_fieldOf 59 rfl) rfl ?_
                        refine zr_iload_n C 1 rfl (zdec_at dm_X12_fieldOf 60 rfl) rfl ?_
                        obtain ⟨g65, h⟩ := h
                        refine zr_callV C [a1] hS_X12_greatestOf ck_RX12_291 iv_X12_greatestOf vc_X12 oc_103 rfl rfl (zdec_at dm_X12_fieldOf 61 rfl) ⟨rfl, rfl, rfl, rfl⟩ ⟨by decide, by decide⟩ (Nat.le_of_ble_eq_true rfl) (zall_0 zz_a1 zall_n) ?_
                        refine ⟨_, rfl, g65, fun r60 M61 p64 z63 hR62 => ?_⟩
                        have h := h r60 M61 p64 z63 hR62
                        show zV Γ mu_X12_fieldOf (145, 0, 0) 160 [(0, zRf (zad Γ) 103), (1, zI a1), (2, zI a2)] [zI r60] M61
                        exact zr_ireturn C rfl (zdec_at dm_X12_fieldOf 62 rfl) rfl ⟨z63, h⟩
                      · have h := h.2 g1_10
                        refine zr_tsout C (zts_s 11 (zts_s 10 (zts_s 9 (zts_s 8 (zts_s 7 (zts_s 6 (zts_s 5 (zts_s 4 (zts_s 3 (zts_s 2 (zts_s 1 (zts_0 a2 0) g1_0) g1_1) g1_2) g1_3) g1_4) g1_5) g1_6) g1_7) g1_8) g1_9) g1_10) zz_a2 (zdec_at dm_X12_fieldOf 1 rfl) rfl ?_
                        refine zr_aload_n C 0 rfl (zdec_at dm_X12_fieldOf 63 rfl) rfl ?_
                        refine zr_iload_n C 1 rfl (zdec_at dm_X12_fieldOf 64 rfl) rfl ?_
                        obtain ⟨g70, h⟩ := h
                        refine zr_callV C [a1] hS_X12_findBorder ck_RX12_294 iv_X12_findBorder vc_X12 oc_103 rfl rfl (zdec_at dm_X12_fieldOf 65 rfl) ⟨rfl, rfl, rfl, rfl⟩ ⟨by decide, by decide⟩ (Nat.le_of_ble_eq_true rfl) (zall_0 zz_a1 zall_n) ?_
                        refine ⟨_, rfl, g70, fun M66 p69 _ hR67 => ?_⟩
                        have h := h M66 p69 hR67
                        show zV Γ mu_X12_fieldOf (145, 0, 0) 166 [(0, zRf (zad Γ) 103), (1, zI a1), (2, zI a2)] [] M66
                        refine zr_aload_n C 0 rfl (zdec_at dm_X12_fieldOf 66 rfl) rfl ?_
                        refine zr_geti C fk_RX12_297 fi_103_38 (zdec_at dm_X12_fieldOf 67 rfl) ?_
                        exact zr_ireturn C rfl (zdec_at dm_X12_fieldOf 68 rfl) rfl ⟨(hR67 _ _), h⟩

set_option maxHeartbeats 400000 in
set_option maxRecDepth 100000 in
theorem sn_X12_face {pr_X12_isFace : Int → zM → Prop} {po_X12_isFace : Int → zM → Int → zM → Prop} {pr_X12_in : Int → Int → Int → zM → Prop} {po_X12_in : Int → Int → Int → zM → Int → zM → Prop} {pr_X12_fieldOf : Int → Int → zM → Prop} {po_X12_fieldOf : Int → Int → zM → Int → zM → Prop} (hS_X12_isFace : zSnd zS 145 0 0 yX12_isFace cX12_isFace 2 (some .boolean) 3 [2, 0] (F_X12_isFace pr_X12_isFace po_X12_isFace)) (hS_X12_in : zSnd zS 145 0 0 yX12_in cX12_in 6 (some .boolean) 0 [1, 1, 1] (F_X12_in pr_X12_in po_X12_in)) (hS_X12_fieldOf : zSnd zS 145 0 0 yX12_fieldOf cX12_fieldOf 3 (some .int) 4 [2, 0, 0] (F_X12_fieldOf pr_X12_fieldOf po_X12_fieldOf)) : zSnd zS 145 0 0 yX12_face cX12_face 3 (some .int) 5 [2, 0, 0] (fun xs P M => ∃ a1 a2 : Int, xs = [103, a1, a2] ∧ vc_X12_face pr_X12_isFace po_X12_isFace pr_X12_in po_X12_in pr_X12_fieldOf po_X12_fieldOf a1 a2 P M) := by
  refine zSnd.of rfl (fun ad xs hz => Nat.le_trans (Nat.le_of_eq (zlen ad _ xs hz)) (by decide)) ?_
  intro Γ C _ _ xs M hz hF
  obtain ⟨a1, a2, rfl, h⟩ := hF
  have zz_a1 := zall_h (zall_t hz) (by decide)
  have zz_a2 := zall_h (zall_t (zall_t hz)) (by decide)
  refine zr_rng (fun hR => ?_)
  have C : zC Γ mu_X12_face := C
  change zV Γ mu_X12_face (145, 0, 0) 0 [(0, zRf (zad Γ) 103), (1, zI a1), (2, zI a2)] [] M
  change vc_X12_face pr_X12_isFace po_X12_isFace pr_X12_in po_X12_in pr_X12_fieldOf po_X12_fieldOf a1 a2 _ M at h
  unfold vc_X12_face at h
  refine zr_aload_n C 0 rfl (zdec_at dm_X12_face 0 rfl) rfl ?_
  refine zr_iconst C (zdec_at dm_X12_face 1 rfl) ?_
  refine zr_puti C fk_RX12_140 fi_103_0 (by decide) (zdec_at dm_X12_face 2 rfl) (fun M1 e2 => ?_)
  have h := h M1 e2
  have hR3 : zRng M1 := by rw [e2]; exact hR.set (by decide) _ _
  refine zr_aload_n C 0 rfl (zdec_at dm_X12_face 3 rfl) rfl ?_
  refine zr_iload_n C 1 rfl (zdec_at dm_X12_face 4 rfl) rfl ?_
  obtain ⟨g9, h⟩ := h
  refine zr_callV C [a1] hS_X12_isFace ck_RX12_300 iv_X12_isFace vc_X12 oc_103 rfl rfl (zdec_at dm_X12_face 5 rfl) ⟨rfl, rfl, rfl, rfl⟩ ⟨by decide, by decide⟩ (Nat.le_of_ble_eq_true rfl) (zall_0 zz_a1 zall_n) ?_
  refine ⟨_, rfl, g9, fun r4 M5 p8 z7 hR6 => ?_⟩
  have h := h r4 M5 p8 z7 hR6
  show zV Γ mu_X12_face (145, 0, 0) 10 [(0, zRf (zad Γ) 103), (1, zI a1), (2, zI a2)] [zI r4] M5
  refine zr_if_eq C z7 (zdec_at dm_X12_face 6 rfl) rfl (fun g10 => ?_) (fun g10 => ?_)
  · have h := h.1 g10
    refine zr_iconst C (zdec_at dm_X12_face 18 rfl) ?_
    exact zr_ireturn C rfl (zdec_at dm_X12_face 19 rfl) rfl ⟨(by decide), h⟩
  · have h := h.2 g10
    refine zr_iload_n C 2 rfl (zdec_at dm_X12_face 7 rfl) rfl ?_
    refine zr_i2l C zz_a2 (zdec_at dm_X12_face 8 rfl) ?_
    refine zr_lconst (v := 0) C (zdec_at dm_X12_face 9 rfl) rfl ?_
    refine zr_ldc2 C (zdec_at dm_X12_face 10 rfl) kc_RX12_303 ?_
    obtain ⟨g16, h⟩ := h
    refine zr_callS C [a2, 0, 11] hS_X12_in ck_RX12_156 sv_X12_in rfl rfl (zdec_at dm_X12_face 11 rfl) ⟨rfl, rfl, rfl, rfl⟩ ⟨by decide, by decide⟩ (Nat.le_of_ble_eq_true rfl) (zall_1 zz_a2 (zall_1 (by decide) (zall_1 (by decide) zall_n))) ?_
    refine ⟨_, _, _, rfl, g16, fun r11 M12 p15 z14 hR13 => ?_⟩
    have h := h r11 M12 p15 z14 hR13
    show zV Γ mu_X12_face (145, 0, 0) 22 [(0, zRf (zad Γ) 103), (1, zI a1), (2, zI a2)] [zI r11] M12
    refine zr_if_eq C z14 (zdec_at dm_X12_face 12 rfl) rfl (fun g17 => ?_) (fun g17 => ?_)
    · have h := h.1 g17
      refine zr_iconst C (zdec_at dm_X12_face 18 rfl) ?_
      exact zr_ireturn C rfl (zdec_at dm_X12_face 19 rfl) rfl ⟨(by decide), h⟩
    · have h := h.2 g17
      refine zr_aload_n C 0 rfl (zdec_at dm_X12_face 13 rfl) rfl ?_
      refine zr_iload_n C 1 rfl (zdec_at dm_X12_face 14 rfl) rfl ?_
      refine zr_iload_n C 2 rfl (zdec_at dm_X12_face 15 rfl) rfl ?_
      obtain ⟨g23, h⟩ := h
      refine zr_callV C [a1, a2] hS_X12_fieldOf ck_RX12_305 iv_X12_fieldOf vc_X12 oc_103 rfl rfl (zdec_at dm_X12_face 16 rfl) ⟨rfl, rfl, rfl, rfl⟩ ⟨by decide, by decide⟩ (Nat.le_of_ble_eq_true rfl) (zall_0 zz_a1 (zall_0 zz_a2 zall_n)) ?_
      refine ⟨_, _, rfl, g23, fun r18 M19 p22 z21 hR20 => ?_⟩
      have h := h r18 M19 p22 z21 hR20
      show zV Γ mu_X12_face (145, 0, 0) 31 [(0, zRf (zad Γ) 103), (1, zI a1), (2, zI a2)] [zI r18] M19
      refine zr_goto C (zdec_at dm_X12_face 17 rfl) rfl ?_
      exact zr_ireturn C rfl (zdec_at dm_X12_face 19 rfl) rfl ⟨z21, h⟩

set_option maxHeartbeats 400000 in
set_option maxRecDepth 100000 in
theorem sn_X12_pair {pr_X12_isFace : Int → zM → Prop} {po_X12_isFace : Int → zM → Int → zM → Prop} {pr_X12_in : Int → Int → Int → zM → Prop} {po_X12_in : Int → Int → Int → zM → Int → zM → Prop} {pr_X12_findHoles : Int → zM → Prop} {po_X12_findHoles : Int → zM → zM → Prop} {pr_X12_liesIn : Int → zM → Prop} {po_X12_liesIn : Int → zM → Int → zM → Prop} {pr_X12_areNeighbours : Int → Int → zM → Prop} {po_X12_areNeighbours : Int → Int → zM → Int → zM → Prop} (hS_X12_isFace : zSnd zS 145 0 0 yX12_isFace cX12_isFace 2 (some .boolean) 3 [2, 0] (F_X12_isFace pr_X12_isFace po_X12_isFace)) (hS_X12_in : zSnd zS 145 0 0 yX12_in cX12_in 6 (some .boolean) 0 [1, 1, 1] (F_X12_in pr_X12_in po_X12_in)) (hS_X12_findHoles : zSnd zS 145 0 0 yX12_findHoles cX12_findHoles 11 none 2 [2, 0] (F_X12_findHoles pr_X12_findHoles po_X12_findHoles)) (hS_X12_liesIn : zSnd zS 145 0 0 yX12_liesIn cX12_liesIn 5 (some .boolean) 1 [2, 0] (F_X12_liesIn pr_X12_liesIn po_X12_liesIn)) (hS_X12_areNeighbours : zSnd zS 145 0 0 yX12_areNeighbours cX12_areNeighbours 7 (some .boolean) 2 [2, 0, 0] (F_X12_areNeighbours pr_X12_areNeighbours po_X12_areNeighbours)) : zSnd zS 145 0 0 yX12_pair cX12_pair 4 (some .int) 4 [2, 0, 0, 0] (fun xs P M => ∃ a1 a2 a3 : Int, xs = [103, a1, a2, a3] ∧ vc_X12_pair pr_X12_isFace po_X12_isFace pr_X12_in po_X12_in pr_X12_findHoles po_X12_findHoles pr_X12_liesIn po_X12_liesIn pr_X12_areNeighbours po_X12_areNeighbours a1 a2 a3 P M) := by
  refine zSnd.of rfl (fun ad xs hz => Nat.le_trans (Nat.le_of_eq (zlen ad _ xs hz)) (by decide)) ?_
  intro Γ C _ _ xs M hz hF
  obtain ⟨a1, a2, a3, rfl, h⟩ := hF
  have zz_a1 := zall_h (zall_t hz) (by decide)
  have zz_a2 := zall_h (zall_t (zall_t hz)) (by decide)
  have zz_a3 := zall_h (zall_t (zall_t (zall_t hz))) (by decide)
  refine zr_rng (fun hR => ?_)
  have C : zC Γ mu_X12_pair := C
  change zV Γ mu_X12_pair (145, 0, 0) 0 [(0, zRf (zad Γ) 103), (1, zI a1), (2, zI a2), (3, zI a3)] [] M
  change vc_X12_pair pr_X12_isFace po_X12_isFace pr_X12_in po_X12_in pr_X12_findHoles po_X12_findHoles pr_X12_liesIn po_X12_liesIn pr_X12_areNeighbours po_X12_areNeighbours a1 a2 a3 _ M at h
  unfold vc_X12_pair at h
  refine zr_aload_n C 0 rfl (zdec_at dm_X12_pair 0 rfl) rfl ?_
  refine zr_iconst C (zdec_at dm_X12_pair 1 rfl) ?_
  refine zr_puti C fk_RX12_140 fi_103_0 (by decide) (zdec_at dm_X12_pair 2 rfl) (fun M1 e2 => ?_)
  have h := h M1 e2
  have hR3 : zRng M1 := by rw [e2]; exact hR.set (by decide) _ _
  refine zr_aload_n C 0 rfl (zdec_at dm_X12_pair 3 rfl) rfl ?_
  refine zr_iload_n C 1 rfl (zdec_at dm_X12_pair 4 rfl) rfl ?_
  obtain ⟨g9, h⟩ := h
  refine zr_callV C [a1] hS_X12_isFace ck_RX12_300 iv_X12_isFace vc_X12 oc_103 rfl rfl (zdec_at dm_X12_pair 5 rfl) ⟨rfl, rfl, rfl, rfl⟩ ⟨by decide, by decide⟩ (Nat.le_of_ble_eq_true rfl) (zall_0 zz_a1 zall_n) ?_
  refine ⟨_, rfl, g9, fun r4 M5 p8 z7 hR6 => ?_⟩
  have h := h r4 M5 p8 z7 hR6
  show zV Γ mu_X12_pair (145, 0, 0) 10 [(0, zRf (zad Γ) 103), (1, zI a1), (2, zI a2), (3, zI a3)] [zI r4] M5
  refine zr_if_eq C z7 (zdec_at dm_X12_pair 6 rfl) rfl (fun g10 => ?_) (fun g10 => ?_)
  · have h := h.1 g10
    refine zr_iconst C (zdec_at dm_X12_pair 20 rfl) ?_
    exact zr_ireturn C rfl (zdec_at dm_X12_pair 21 rfl) rfl ⟨(by decide), h⟩
  · have h := h.2 g10
    refine zr_aload_n C 0 rfl (zdec_at dm_X12_pair 7 rfl) rfl ?_
    refine zr_iload_n C 2 rfl (zdec_at dm_X12_pair 8 rfl) rfl ?_
    obtain ⟨g16, h⟩ := h
    refine zr_callV C [a2] hS_X12_isFace ck_RX12_300 iv_X12_isFace vc_X12 oc_103 rfl rfl (zdec_at dm_X12_pair 9 rfl) ⟨rfl, rfl, rfl, rfl⟩ ⟨by decide, by decide⟩ (Nat.le_of_ble_eq_true rfl) (zall_0 zz_a2 zall_n) ?_
    refine ⟨_, rfl, g16, fun r11 M12 p15 z14 hR13 => ?_⟩
    have h := h r11 M12 p15 z14 hR13
    show zV Γ mu_X12_pair (145, 0, 0) 18 [(0, zRf (zad Γ) 103), (1, zI a1), (2, zI a2), (3, zI a3)] [zI r11] M12
    refine zr_if_eq C z14 (zdec_at dm_X12_pair 10 rfl) rfl (fun g17 => ?_) (fun g17 => ?_)
    · have h := h.1 g17
      refine zr_iconst C (zdec_at dm_X12_pair 20 rfl) ?_
      exact zr_ireturn C rfl (zdec_at dm_X12_pair 21 rfl) rfl ⟨(by decide), h⟩
    · have h := h.2 g17
      refine zr_iload_n C 1 rfl (zdec_at dm_X12_pair 11 rfl) rfl ?_
      refine zr_iload_n C 2 rfl (zdec_at dm_X12_pair 12 rfl) rfl ?_
      refine zr_icmp_eq C zz_a1 zz_a2 (zdec_at dm_X12_pair 13 rfl) rfl (fun g18 => ?_) (fun g18 => ?_)
      · have h := h.1 g18
        refine zr_iconst C (zdec_at dm_X12_pair 20 rfl) ?_
        exact zr_ireturn C rfl (zdec_at dm_X12_pair 21 rfl) rfl ⟨(by decide), h⟩
      · have h := h.2 g18
        refine zr_iload_n C 3 rfl (zdec_at dm_X12_pair 14 rfl) rfl ?_
        refine zr_i2l C zz_a3 (zdec_at dm_X12_pair 15 rfl) ?_
        refine zr_lconst (v := 0) C (zdec_at dm_X12_pair 16 rfl) rfl ?_
        refine zr_lconst (v := 1) C (zdec_at dm_X12_pair 17 rfl) rfl ?_
        obtain ⟨g24, h⟩ := h
        refine zr_callS C [a3, 0, 1] hS_X12_in ck_RX12_156 sv_X12_in rfl rfl (zdec_at dm_X12_pair 18 rfl) ⟨rfl, rfl, rfl, rfl⟩ ⟨by decide, by decide⟩ (Nat.le_of_ble_eq_true rfl) (zall_1 zz_a3 (zall_1 (by decide) (zall_1 (by decide) zall_n))) ?_
        refine ⟨_, _, _, rfl, g24, fun r19 M20 p23 z22 hR21 => ?_⟩
        have h := h r19 M20 p23 z22 hR21
        show zV Γ mu_X12_pair (145, 0, 0) 33 [(0, zRf (zad Γ) 103), (1, zI a1), (2, zI a2), (3, zI a3)] [zI r19] M20
        refine zr_if_ne C z22 (zdec_at dm_X12_pair 19 rfl) rfl (fun g25 => ?_) (fun g25 => ?_)
        · have h := h.1 g25
          refine zr_iload_n C 3 rfl (zdec_at dm_X12_pair 22 rfl) rfl ?_
          refine zr_if_ne C zz_a3 (zdec_at dm_X12_pair 23 rfl) rfl (fun g26 => ?_) (fun g26 => ?_)
          · have h := h.1 g26
            refine zr_aload_n C 0 rfl (zdec_at dm_X12_pair 33 rfl) rfl ?_
            refine zr_iload_n C 2 rfl (zdec_at dm_X12_pair 34 rfl) rfl ?_
            obtain ⟨g31, h⟩ := h
            refine zr_callV C [a2] hS_X12_findHoles ck_RX12_269 iv_X12_findHoles vc_X12 oc_103 rfl rfl (zdec_at dm_X12_pair 35 rfl) ⟨rfl, rfl, rfl, rfl⟩ ⟨by decide, by decide⟩ (Nat.le_of_ble_eq_true rfl) (zall_0 zz_a2 zall_n) ?_
            refine ⟨_, rfl, g31, fun M27 p30 _ hR28 => ?_⟩
            have h := h M27 p30 hR28
            show zV Γ mu_X12_pair (145, 0, 0) 62 [(0, zRf (zad Γ) 103), (1, zI a1), (2, zI a2), (3, zI a3)] [] M27
            refine zr_aload_n C 0 rfl (zdec_at dm_X12_pair 36 rfl) rfl ?_
            refine zr_iload_n C 1 rfl (zdec_at dm_X12_pair 37 rfl) rfl ?_
            obtain ⟨g37, h⟩ := h
            refine zr_callV C [a1] hS_X12_liesIn ck_RX12_273 iv_X12_liesIn vc_X12 oc_103 rfl rfl (zdec_at dm_X12_pair 38 rfl) ⟨rfl, rfl, rfl, rfl⟩ ⟨by decide, by decide⟩ (Nat.le_of_ble_eq_true rfl) (zall_0 zz_a1 zall_n) ?_
            refine ⟨_, rfl, g37, fun r32 M33 p36 z35 hR34 => ?_⟩
            have h := h r32 M33 p36 z35 hR34
            show zV Γ mu_X12_pair (145, 0, 0) 67 [(0, zRf (zad Γ) 103), (1, zI a1), (2, zI a2), (3, zI a3)] [zI r32] M33
            refine zr_if_eq C z35 (zdec_at dm_X12_pair 39 rfl) rfl (fun g38 => ?_) (fun g38 => ?_)
            · have h := h.1 g38
              refine zr_iconst C (zdec_at dm_X12_pair 42 rfl) ?_
              exact zr_ireturn C rfl (zdec_at dm_X12_pair 43 rfl) rfl ⟨(by decide), h⟩
            · have h := h.2 g38
              refine zr_iconst C (zdec_at dm_X12_pair 40 rfl) ?_
              refine zr_goto C (zdec_at dm_X12_pair 41 rfl) rfl ?_
              exact zr_ireturn C rfl (zdec_at dm_X12_pair 43 rfl) rfl ⟨(by decide), h⟩
          · have h := h.2 g26
            refine zr_aload_n C 0 rfl (zdec_at dm_X12_pair 24 rfl) rfl ?_
            refine zr_iload_n C 1 rfl (zdec_at dm_X12_pair 25 rfl) rfl ?_
            refine zr_iload_n C 2 rfl (zdec_at dm_X12_pair 26 rfl) rfl ?_
            obtain ⟨g44, h⟩ := h
            refine zr_callV C [a1, a2] hS_X12_areNeighbours ck_RX12_276 iv_X12_areNeighbours vc_X12 oc_103 rfl rfl (zdec_at dm_X12_pair 27 rfl) ⟨rfl, rfl, rfl, rfl⟩ ⟨by decide, by decide⟩ (Nat.le_of_ble_eq_true rfl) (zall_0 zz_a1 (zall_0 zz_a2 zall_n)) ?_
            refine ⟨_, _, rfl, g44, fun r39 M40 p43 z42 hR41 => ?_⟩
            have h := h r39 M40 p43 z42 hR41
            show zV Γ mu_X12_pair (145, 0, 0) 48 [(0, zRf (zad Γ) 103), (1, zI a1), (2, zI a2), (3, zI a3)] [zI r39] M40
            refine zr_if_eq C z42 (zdec_at dm_X12_pair 28 rfl) rfl (fun g45 => ?_) (fun g45 => ?_)
            · have h := h.1 g45
              refine zr_iconst C (zdec_at dm_X12_pair 31 rfl) ?_
              exact zr_ireturn C rfl (zdec_at dm_X12_pair 32 rfl) rfl ⟨(by decide), h⟩
            · have h := h.2 g45
              refine zr_iconst C (zdec_at dm_X12_pair 29 rfl) ?_
              refine zr_goto C (zdec_at dm_X12_pair 30 rfl) rfl ?_
              exact zr_ireturn C rfl (zdec_at dm_X12_pair 32 rfl) rfl ⟨(by decide), h⟩
        · have h := h.2 g25
          refine zr_iconst C (zdec_at dm_X12_pair 20 rfl) ?_
          exact zr_ireturn C rfl (zdec_at dm_X12_pair 21 rfl) rfl ⟨(by decide), h⟩

set_option maxHeartbeats 400000 in
set_option maxRecDepth 100000 in
theorem sn_X12_clean {pr_X12_in : Int → Int → Int → zM → Prop} {po_X12_in : Int → Int → Int → zM → Int → zM → Prop} {pr_X12_findFaces : zM → Prop} {po_X12_findFaces : zM → zM → Prop} {pr_X12_copyDots : zM → Prop} {po_X12_copyDots : zM → zM → Prop} {pr_X12_change : zM → Prop} {po_X12_change : zM → Int → zM → Prop} {pr_X12_sizeOf : Int → zM → Prop} {po_X12_sizeOf : Int → zM → Int → zM → Prop} {pr_X12_mostBeside : Int → zM → Prop} {po_X12_mostBeside : Int → zM → Int → zM → Prop} (hS_X12_in : zSnd zS 145 0 0 yX12_in cX12_in 6 (some .boolean) 0 [1, 1, 1] (F_X12_in pr_X12_in po_X12_in)) (hS_X12_findFaces : zSnd zS 145 0 0 yX12_findFaces cX12_findFaces 6 none 2 [2] (F_X12_findFaces pr_X12_findFaces po_X12_findFaces)) (hS_X12_copyDots : zSnd zS 145 0 0 yX12_copyDots cX12_copyDots 2 none 0 [2] (F_X12_copyDots pr_X12_copyDots po_X12_copyDots)) (hS_X12_change : zSnd zS 145 0 0 yX12_change cX12_change 3 (some .int) 0 [2] (F_X12_change pr_X12_change po_X12_change)) (hS_X12_sizeOf : zSnd zS 145 0 0 yX12_sizeOf cX12_sizeOf 4 (some .int) 0 [2, 0] (F_X12_sizeOf pr_X12_sizeOf po_X12_sizeOf)) (hS_X12_mostBeside : zSnd zS 145 0 0 yX12_mostBeside cX12_mostBeside 9 (some .int) 2 [2, 0] (F_X12_mostBeside pr_X12_mostBeside po_X12_mostBeside)) : zSnd zS 145 0 0 yX12_clean cX12_clean 5 (some .int) 3 [2, 0] (fun xs P M => ∃ a1 : Int, xs = [103, a1] ∧ vc_X12_clean pr_X12_in po_X12_in pr_X12_findFaces po_X12_findFaces pr_X12_copyDots po_X12_copyDots pr_X12_change po_X12_change pr_X12_sizeOf po_X12_sizeOf pr_X12_mostBeside po_X12_mostBeside a1 P M) := by
  refine zSnd.of rfl (fun ad xs hz => Nat.le_trans (Nat.le_of_eq (zlen ad _ xs hz)) (by decide)) ?_
  intro Γ C _ _ xs M hz hF
  obtain ⟨a1, rfl, h⟩ := hF
  have zz_a1 := zall_h (zall_t hz) (by decide)
  refine zr_rng (fun hR => ?_)
  have C : zC Γ mu_X12_clean := C
  change zV Γ mu_X12_clean (145, 0, 0) 0 [(0, zRf (zad Γ) 103), (1, zI a1)] [] M
  change vc_X12_clean pr_X12_in po_X12_in pr_X12_findFaces po_X12_findFaces pr_X12_copyDots po_X12_copyDots pr_X12_change po_X12_change pr_X12_sizeOf po_X12_sizeOf pr_X12_mostBeside po_X12_mostBeside a1 _ M at h
  unfold vc_X12_clean at h
  refine zr_aload_n C 0 rfl (zdec_at dm_X12_clean 0 rfl) rfl ?_
  refine zr_iconst C (zdec_at dm_X12_clean 1 rfl) ?_
  refine zr_puti C fk_RX12_140 fi_103_0 (by decide) (zdec_at dm_X12_clean 2 rfl) (fun M1 e2 => ?_)
  have h := h M1 e2
  have hR3 : zRng M1 := by rw [e2]; exact hR.set (by decide) _ _
  refine zr_iload_n C 1 rfl (zdec_at dm_X12_clean 3 rfl) rfl ?_
  refine zr_i2l C zz_a1 (zdec_at dm_X12_clean 4 rfl) ?_
  refine zr_lconst (v := 1) C (zdec_at dm_X12_clean 5 rfl) rfl ?_
  refine zr_ldc2 C (zdec_at dm_X12_clean 6 rfl) kc_RX12_308 ?_
  obtain ⟨g9, h⟩ := h
  refine zr_callS C [a1, 1, 20] hS_X12_in ck_RX12_156 sv_X12_in rfl rfl (zdec_at dm_X12_clean 7 rfl) ⟨rfl, rfl, rfl, rfl⟩ ⟨by decide, by decide⟩ (Nat.le_of_ble_eq_true rfl) (zall_1 zz_a1 (zall_1 (by decide) (zall_1 (by decide) zall_n))) ?_
  refine ⟨_, _, _, rfl, g9, fun r4 M5 p8 z7 hR6 => ?_⟩
  have h := h r4 M5 p8 z7 hR6
  show zV Γ mu_X12_clean (145, 0, 0) 14 [(0, zRf (zad Γ) 103), (1, zI a1)] [zI r4] M5
  refine zr_if_ne C z7 (zdec_at dm_X12_clean 8 rfl) rfl (fun g10 => ?_) (fun g10 => ?_)
  · have h := h.1 g10
    refine zr_aload_n C 0 rfl (zdec_at dm_X12_clean 11 rfl) rfl ?_
    obtain ⟨g15, h⟩ := h
    refine zr_callV C [] hS_X12_findFaces ck_RX12_240 iv_X12_findFaces vc_X12 oc_103 rfl rfl (zdec_at dm_X12_clean 12 rfl) ⟨rfl, rfl, rfl, rfl⟩ ⟨by decide, by decide⟩ (Nat.le_of_ble_eq_true rfl) zall_n ?_
    refine ⟨rfl, g15, fun M11 p14 _ hR12 => ?_⟩
    have h := h M11 p14 hR12
    show zV Γ mu_X12_clean (145, 0, 0) 23 [(0, zRf (zad Γ) 103), (1, zI a1)] [] M11
    refine zr_aload_n C 0 rfl (zdec_at dm_X12_clean 13 rfl) rfl ?_
    obtain ⟨g20, h⟩ := h
    refine zr_callV C [] hS_X12_copyDots ck_RX12_216 iv_X12_copyDots vc_X12 oc_103 rfl rfl (zdec_at dm_X12_clean 14 rfl) ⟨rfl, rfl, rfl, rfl⟩ ⟨by decide, by decide⟩ (Nat.le_of_ble_eq_true rfl) zall_n ?_
    refine ⟨rfl, g20, fun M16 p19 _ hR17 => ?_⟩
    have h := h M16 p19 hR17
    show zV Γ mu_X12_clean (145, 0, 0) 27 [(0, zRf (zad Γ) 103), (1, zI a1)] [] M16
    refine zr_iconst C (zdec_at dm_X12_clean 15 rfl) ?_
    refine zr_istore_n (L1 := [(2, zI 0), (0, zRf (zad Γ) 103), (1, zI a1)]) C (zdec_at dm_X12_clean 16 rfl) rfl (Nat.le_of_ble_eq_true rfl) rfl ?_
    obtain ⟨I29, ⟨n29, q30⟩, hI28⟩ := h
    have lp27 : ∀ (n25 : Nat) (v21 : Int) (M23 : zM), I29 v21 M23 n25 → zin v21 → zRng M23 → zV Γ mu_X12_clean (145, 0, 0) 29 [(0, zRf (zad Γ) 103), (1, zI a1), (2, zI v21)] [] M23 := by
      intro n25
      induction n25 using Nat.strongRecOn with
      | _ n25 ih26 =>
      intro v21 M23 q31 z22 hR24
      have h := hI28 v21 M23 n25 q31 z22 hR24
      refine zr_iload_n C 2 rfl (zdec_at dm_X12_clean 17 rfl) rfl ?_
      refine zr_aload_n C 0 rfl (zdec_at dm_X12_clean 18 rfl) rfl ?_
      refine zr_geti C fk_RX12_233 fi_103_30 (zdec_at dm_X12_clean 19 rfl) ?_
      refine zr_icmp_ge C z22 (hR24 _ _) (zdec_at dm_X12_clean 20 rfl) rfl (fun g32 => ?_) (fun g32 => ?_)
      · have h := h.1 g32
        refine zr_aload_n C 0 rfl (zdec_at dm_X12_clean 59 rfl) rfl ?_
        obtain ⟨g38, h⟩ := h
        refine zr_callV C [] hS_X12_change ck_RX12_219 iv_X12_change vc_X12 oc_103 rfl rfl (zdec_at dm_X12_clean 60 rfl) ⟨rfl, rfl, rfl, rfl⟩ ⟨by decide, by decide⟩ (Nat.le_of_ble_eq_true rfl) zall_n ?_
        refine ⟨rfl, g38, fun r33 M34 p37 z36 hR35 => ?_⟩
        have h := h r33 M34 p37 z36 hR35
        show zV Γ mu_X12_clean (145, 0, 0) 116 [(0, zRf (zad Γ) 103), (1, zI a1), (2, zI v21)] [zI r33] M34
        exact zr_ireturn C rfl (zdec_at dm_X12_clean 61 rfl) rfl ⟨z36, h⟩
      · have h := h.2 g32
        refine zr_aload_n C 0 rfl (zdec_at dm_X12_clean 21 rfl) rfl ?_
        refine zr_iload_n C 2 rfl (zdec_at dm_X12_clean 22 rfl) rfl ?_
        obtain ⟨g44, h⟩ := h
        refine zr_callV C [v21] hS_X12_sizeOf ck_RX12_279 iv_X12_sizeOf vc_X12 oc_103 rfl rfl (zdec_at dm_X12_clean 23 rfl) ⟨rfl, rfl, rfl, rfl⟩ ⟨by decide, by decide⟩ (Nat.le_of_ble_eq_true rfl) (zall_0 z22 zall_n) ?_
        refine ⟨_, rfl, g44, fun r39 M40 p43 z42 hR41 => ?_⟩
        have h := h r39 M40 p43 z42 hR41
        show zV Γ mu_X12_clean (145, 0, 0) 42 [(0, zRf (zad Γ) 103), (1, zI a1), (2, zI v21)] [zI r39] M40
        refine zr_iload_n C 1 rfl (zdec_at dm_X12_clean 24 rfl) rfl ?_
        refine zr_icmp_gt C z42 zz_a1 (zdec_at dm_X12_clean 25 rfl) rfl (fun g45 => ?_) (fun g45 => ?_)
        · have h := h.1 g45
          refine zr_iconst C (zdec_at dm_X12_clean 30 rfl) ?_
          refine zr_istore_n (L1 := [(3, zI (-1)), (0, zRf (zad Γ) 103), (1, zI a1), (2, zI v21)]) C (zdec_at dm_X12_clean 31 rfl) rfl (Nat.le_of_ble_eq_true rfl) rfl ?_
          refine zr_iconst C (zdec_at dm_X12_clean 32 rfl) ?_
          refine zr_istore (L1 := [(4, zI 0), (3, zI (-1)), (0, zRf (zad Γ) 103), (1, zI a1), (2, zI v21)]) C (zdec_at dm_X12_clean 33 rfl) (Nat.le_of_ble_eq_true rfl) rfl ?_
          obtain ⟨I59, ⟨n54, q55⟩, hI53⟩ := h
          have lp52 : ∀ (n50 : Nat) (v46 : Int) (M48 : zM), I59 v46 M48 n50 → zin v46 → zRng M48 → zV Γ mu_X12_clean (145, 0, 0) 59 [(0, zRf (zad Γ) 103), (1, zI a1), (2, zI v21), (3, zI (-1)), (4, zI v46)] [] M48 := by
            intro n50
            induction n50 using Nat.strongRecOn with
            | _ n50 ih51 =>
            intro v46 M48 q56 z47 hR49
            have h := hI53 v46 M48 n50 q56 z47 hR49
            refine zr_iload C 4 rfl (zdec_at dm_X12_clean 34 rfl) ?_
            refine zr_sipush C (zdec_at dm_X12_clean 35 rfl) (by decide) ?_
            refine zr_icmp_ge C z47 (by decide) (zdec_at dm_X12_clean 36 rfl) rfl (fun g57 => ?_) (fun g57 => ?_)
            · have h := h.1 g57
              refine zr_iinc (L1 := [(2, zI (v21 + 1)), (0, zRf (zad Γ) 103), (1, zI a1), (3, zI (-1)), (4, zI v46)]) C 2 rfl (zdec_at dm_X12_clean 57 rfl) (Nat.le_of_ble_eq_true rfl) rfl ?_
              refine zr_goto C (zdec_at dm_X12_clean 58 rfl) rfl ?_
              obtain ⟨o58, h⟩ := h
              obtain ⟨n59, q60, q61⟩ := h
              exact zr_sub [1, 2, 0] rfl (ih26 n59 q60 _ _ q61 o58 hR49)
            · have h := h.2 g57
              refine zr_iload_n C 3 rfl (zdec_at dm_X12_clean 37 rfl) rfl ?_
              refine zr_if_lt C (by decide) (zdec_at dm_X12_clean 38 rfl) rfl (fun g62 => ?_) (fun g62 => ?_)
              · have h := h.1 g62
                refine zr_iinc (L1 := [(2, zI (v21 + 1)), (0, zRf (zad Γ) 103), (1, zI a1), (3, zI (-1)), (4, zI v46)]) C 2 rfl (zdec_at dm_X12_clean 57 rfl) (Nat.le_of_ble_eq_true rfl) rfl ?_
                refine zr_goto C (zdec_at dm_X12_clean 58 rfl) rfl ?_
                obtain ⟨o63, h⟩ := h
                obtain ⟨n64, q65, q66⟩ := h
                exact zr_sub [1, 2, 0] rfl (ih26 n64 q65 _ _ q66 o63 hR49)
              · have h := h.2 g62
                refine zr_aload_n C 0 rfl (zdec_at dm_X12_clean 39 rfl) rfl ?_
                refine zr_getr (q := 114) C fk_RX12_48 fi_103_28 (zdec_at dm_X12_clean 40 rfl) ?_
                refine zr_iload C 4 rfl (zdec_at dm_X12_clean 41 rfl) ?_
                refine zr_aload_n C 0 rfl (zdec_at dm_X12_clean 42 rfl) rfl ?_
                refine zr_getr (q := 115) C fk_RX12_51 fi_103_29 (zdec_at dm_X12_clean 43 rfl) ?_
                refine zr_iload C 4 rfl (zdec_at dm_X12_clean 44 rfl) ?_
                obtain ⟨o67, h⟩ := h
                refine zr_iald C ai_115 o67 (zdec_at dm_X12_clean 45 rfl) ?_
                refine zr_iload_n C 2 rfl (zdec_at dm_X12_clean 46 rfl) rfl ?_
                refine zr_icmp_ne C (hR49 _ _) z22 (zdec_at dm_X12_clean 47 rfl) rfl (fun g68 => ?_) (fun g68 => ?_)
                · have h := h.1 g68
                  refine zr_aload_n C 0 rfl (zdec_at dm_X12_clean 50 rfl) rfl ?_
                  refine zr_getr (q := 114) C fk_RX12_48 fi_103_28 (zdec_at dm_X12_clean 51 rfl) ?_
                  refine zr_iload C 4 rfl (zdec_at dm_X12_clean 52 rfl) ?_
                  refine zr_iald C ai_114 o67 (zdec_at dm_X12_clean 53 rfl) ?_
                  refine zr_iast C ai_114 o67 (hR49 _ _) (zdec_at dm_X12_clean 54 rfl) (fun M69 e70 => ?_)
                  have h := h M69 e70
                  have hR71 : zRng M69 := by rw [e70]; exact hR49.set (hR49 _ _) _ _
                  refine zr_iinc (L1 := [(4, zI (v46 + 1)), (0, zRf (zad Γ) 103), (1, zI a1), (2, zI v21), (3, zI (-1))]) C 4 rfl (zdec_at dm_X12_clean 55 rfl) (Nat.le_of_ble_eq_true rfl) rfl ?_
                  refine zr_goto C (zdec_at dm_X12_clean 56 rfl) rfl ?_
                  obtain ⟨o72, h⟩ := h
                  obtain ⟨n73, q74, q75⟩ := h
                  exact zr_sub [1, 2, 3, 4, 0] rfl (ih51 n73 q74 _ _ q75 o72 hR71)
                · have h := h.2 g68
                  refine zr_iload_n C 3 rfl (zdec_at dm_X12_clean 48 rfl) rfl ?_
                  refine zr_goto C (zdec_at dm_X12_clean 49 rfl) rfl ?_
                  refine zr_iast C ai_114 o67 (by decide) (zdec_at dm_X12_clean 54 rfl) (fun M76 e77 => ?_)
                  have h := h M76 e77
                  have hR78 : zRng M76 := by rw [e77]; exact hR49.set (by decide) _ _
                  refine zr_iinc (L1 := [(4, zI (v46 + 1)), (0, zRf (zad Γ) 103), (1, zI a1), (2, zI v21), (3, zI (-1))]) C 4 rfl (zdec_at dm_X12_clean 55 rfl) (Nat.le_of_ble_eq_true rfl) rfl ?_
                  refine zr_goto C (zdec_at dm_X12_clean 56 rfl) rfl ?_
                  obtain ⟨o79, h⟩ := h
                  obtain ⟨n80, q81, q82⟩ := h
                  exact zr_sub [1, 2, 3, 4, 0] rfl (ih51 n80 q81 _ _ q82 o79 hR78)
          exact zr_sub [2, 3, 4, 1, 0] rfl (lp52 n54 _ _ q55 (by decide) hR41)
        · have h := h.2 g45
          refine zr_aload_n C 0 rfl (zdec_at dm_X12_clean 26 rfl) rfl ?_
          refine zr_iload_n C 2 rfl (zdec_at dm_X12_clean 27 rfl) rfl ?_
          obtain ⟨g88, h⟩ := h
          refine zr_callV C [v21] hS_X12_mostBeside ck_RX12_310 iv_X12_mostBeside vc_X12 oc_103 rfl rfl (zdec_at dm_X12_clean 28 rfl) ⟨rfl, rfl, rfl, rfl⟩ ⟨by decide, by decide⟩ (Nat.le_of_ble_eq_true rfl) (zall_0 z22 zall_n) ?_
          refine ⟨_, rfl, g88, fun r83 M84 p87 z86 hR85 => ?_⟩
          have h := h r83 M84 p87 z86 hR85
          show zV Γ mu_X12_clean (145, 0, 0) 51 [(0, zRf (zad Γ) 103), (1, zI a1), (2, zI v21)] [zI r83] M84
          refine zr_goto C (zdec_at dm_X12_clean 29 rfl) rfl ?_
          refine zr_istore_n (L1 := [(3, zI r83), (0, zRf (zad Γ) 103), (1, zI a1), (2, zI v21)]) C (zdec_at dm_X12_clean 31 rfl) rfl (Nat.le_of_ble_eq_true rfl) rfl ?_
          refine zr_iconst C (zdec_at dm_X12_clean 32 rfl) ?_
          refine zr_istore (L1 := [(4, zI 0), (3, zI r83), (0, zRf (zad Γ) 103), (1, zI a1), (2, zI v21)]) C (zdec_at dm_X12_clean 33 rfl) (Nat.le_of_ble_eq_true rfl) rfl ?_
          obtain ⟨I59, ⟨n97, q98⟩, hI96⟩ := h
          have lp95 : ∀ (n93 : Nat) (v89 : Int) (M91 : zM), I59 v89 M91 n93 → zin v89 → zRng M91 → zV Γ mu_X12_clean (145, 0, 0) 59 [(0, zRf (zad Γ) 103), (1, zI a1), (2, zI v21), (3, zI r83), (4, zI v89)] [] M91 := by
            intro n93
            induction n93 using Nat.strongRecOn with
            | _ n93 ih94 =>
            intro v89 M91 q99 z90 hR92
            have h := hI96 v89 M91 n93 q99 z90 hR92
            refine zr_iload C 4 rfl (zdec_at dm_X12_clean 34 rfl) ?_
            refine zr_sipush C (zdec_at dm_X12_clean 35 rfl) (by decide) ?_
            refine zr_icmp_ge C z90 (by decide) (zdec_at dm_X12_clean 36 rfl) rfl (fun g100 => ?_) (fun g100 => ?_)
            · have h := h.1 g100
              refine zr_iinc (L1 := [(2, zI (v21 + 1)), (0, zRf (zad Γ) 103), (1, zI a1), (3, zI r83), (4, zI v89)]) C 2 rfl (zdec_at dm_X12_clean 57 rfl) (Nat.le_of_ble_eq_true rfl) rfl ?_
              refine zr_goto C (zdec_at dm_X12_clean 58 rfl) rfl ?_
              obtain ⟨o101, h⟩ := h
              obtain ⟨n102, q103, q104⟩ := h
              exact zr_sub [1, 2, 0] rfl (ih26 n102 q103 _ _ q104 o101 hR92)
            · have h := h.2 g100
              refine zr_iload_n C 3 rfl (zdec_at dm_X12_clean 37 rfl) rfl ?_
              refine zr_if_lt C z86 (zdec_at dm_X12_clean 38 rfl) rfl (fun g105 => ?_) (fun g105 => ?_)
              · have h := h.1 g105
                refine zr_iinc (L1 := [(2, zI (v21 + 1)), (0, zRf (zad Γ) 103), (1, zI a1), (3, zI r83), (4, zI v89)]) C 2 rfl (zdec_at dm_X12_clean 57 rfl) (Nat.le_of_ble_eq_true rfl) rfl ?_
                refine zr_goto C (zdec_at dm_X12_clean 58 rfl) rfl ?_
                obtain ⟨o106, h⟩ := h
                obtain ⟨n107, q108, q109⟩ := h
                exact zr_sub [1, 2, 0] rfl (ih26 n107 q108 _ _ q109 o106 hR92)
              · have h := h.2 g105
                refine zr_aload_n C 0 rfl (zdec_at dm_X12_clean 39 rfl) rfl ?_
                refine zr_getr (q := 114) C fk_RX12_48 fi_103_28 (zdec_at dm_X12_clean 40 rfl) ?_
                refine zr_iload C 4 rfl (zdec_at dm_X12_clean 41 rfl) ?_
                refine zr_aload_n C 0 rfl (zdec_at dm_X12_clean 42 rfl) rfl ?_
                refine zr_getr (q := 115) C fk_RX12_51 fi_103_29 (zdec_at dm_X12_clean 43 rfl) ?_
                refine zr_iload C 4 rfl (zdec_at dm_X12_clean 44 rfl) ?_
                obtain ⟨o110, h⟩ := h
                refine zr_iald C ai_115 o110 (zdec_at dm_X12_clean 45 rfl) ?_
                refine zr_iload_n C 2 rfl (zdec_at dm_X12_clean 46 rfl) rfl ?_
                refine zr_icmp_ne C (hR92 _ _) z22 (zdec_at dm_X12_clean 47 rfl) rfl (fun g111 => ?_) (fun g111 => ?_)
                · have h := h.1 g111
                  refine zr_aload_n C 0 rfl (zdec_at dm_X12_clean 50 rfl) rfl ?_
                  refine zr_getr (q := 114) C fk_RX12_48 fi_103_28 (zdec_at dm_X12_clean 51 rfl) ?_
                  refine zr_iload C 4 rfl (zdec_at dm_X12_clean 52 rfl) ?_
                  refine zr_iald C ai_114 o110 (zdec_at dm_X12_clean 53 rfl) ?_
                  refine zr_iast C ai_114 o110 (hR92 _ _) (zdec_at dm_X12_clean 54 rfl) (fun M112 e113 => ?_)
                  have h := h M112 e113
                  have hR114 : zRng M112 := by rw [e113]; exact hR92.set (hR92 _ _) _ _
                  refine zr_iinc (L1 := [(4, zI (v89 + 1)), (0, zRf (zad Γ) 103), (1, zI a1), (2, zI v21), (3, zI r83)]) C 4 rfl (zdec_at dm_X12_clean 55 rfl) (Nat.le_of_ble_eq_true rfl) rfl ?_
                  refine zr_goto C (zdec_at dm_X12_clean 56 rfl) rfl ?_
                  obtain ⟨o115, h⟩ := h
                  obtain ⟨n116, q117, q118⟩ := h
                  exact zr_sub [1, 2, 3, 4, 0] rfl (ih94 n116 q117 _ _ q118 o115 hR114)
                · have h := h.2 g111
                  refine zr_iload_n C 3 rfl (zdec_at dm_X12_clean 48 rfl) rfl ?_
                  refine zr_goto C (zdec_at dm_X12_clean 49 rfl) rfl ?_
                  refine zr_iast C ai_114 o110 z86 (zdec_at dm_X12_clean 54 rfl) (fun M119 e120 => ?_)
                  have h := h M119 e120
                  have hR121 : zRng M119 := by rw [e120]; exact hR92.set z86 _ _
                  refine zr_iinc (L1 := [(4, zI (v89 + 1)), (0, zRf (zad Γ) 103), (1, zI a1), (2, zI v21), (3, zI r83)]) C 4 rfl (zdec_at dm_X12_clean 55 rfl) (Nat.le_of_ble_eq_true rfl) rfl ?_
                  refine zr_goto C (zdec_at dm_X12_clean 56 rfl) rfl ?_
                  obtain ⟨o122, h⟩ := h
                  obtain ⟨n123, q124, q125⟩ := h
                  exact zr_sub [1, 2, 3, 4, 0] rfl (ih94 n123 q124 _ _ q125 o122 hR121)
          exact zr_sub [2, 3, 4, 1, 0] rfl (lp95 n97 _ _ q98 (by decide) hR85)
    exact zr_sub [1, 2, 0] rfl (lp27 n29 _ _ q30 (by decide) hR17)
  · have h := h.2 g10
    refine zr_iconst C (zdec_at dm_X12_clean 9 rfl) ?_
    exact zr_ireturn C rfl (zdec_at dm_X12_clean 10 rfl) rfl ⟨(by decide), h⟩

set_option maxHeartbeats 400000 in
set_option maxRecDepth 100000 in
theorem sn_X12_mostBeside {pr_X12_beside : Int → Int → zM → Prop} {po_X12_beside : Int → Int → zM → Int → zM → Prop} (hS_X12_beside : zSnd zS 145 0 0 yX12_beside cX12_beside 5 (some .int) 1 [2, 0, 0] (F_X12_beside pr_X12_beside po_X12_beside)) : zSnd zS 145 0 0 yX12_mostBeside cX12_mostBeside 9 (some .int) 2 [2, 0] (fun xs P M => ∃ a1 : Int, xs = [103, a1] ∧ vc_X12_mostBeside pr_X12_beside po_X12_beside a1 P M) := by
  refine zSnd.of rfl (fun ad xs hz => Nat.le_trans (Nat.le_of_eq (zlen ad _ xs hz)) (by decide)) ?_
  intro Γ C _ _ xs M hz hF
  obtain ⟨a1, rfl, h⟩ := hF
  have zz_a1 := zall_h (zall_t hz) (by decide)
  refine zr_rng (fun hR => ?_)
  have C : zC Γ mu_X12_mostBeside := C
  change zV Γ mu_X12_mostBeside (145, 0, 0) 0 [(0, zRf (zad Γ) 103), (1, zI a1)] [] M
  change vc_X12_mostBeside pr_X12_beside po_X12_beside a1 _ M at h
  unfold vc_X12_mostBeside at h
  refine zr_iconst C (zdec_at dm_X12_mostBeside 0 rfl) ?_
  refine zr_istore_n (L1 := [(2, zI (-1)), (0, zRf (zad Γ) 103), (1, zI a1)]) C (zdec_at dm_X12_mostBeside 1 rfl) rfl (Nat.le_of_ble_eq_true rfl) rfl ?_
  refine zr_iconst C (zdec_at dm_X12_mostBeside 2 rfl) ?_
  refine zr_istore_n (L1 := [(3, zI 0), (2, zI (-1)), (0, zRf (zad Γ) 103), (1, zI a1)]) C (zdec_at dm_X12_mostBeside 3 rfl) rfl (Nat.le_of_ble_eq_true rfl) rfl ?_
  refine zr_iconst C (zdec_at dm_X12_mostBeside 4 rfl) ?_
  refine zr_istore (L1 := [(4, zI 0), (3, zI 0), (2, zI (-1)), (0, zRf (zad Γ) 103), (1, zI a1)]) C (zdec_at dm_X12_mostBeside 5 rfl) (Nat.le_of_ble_eq_true rfl) rfl ?_
  obtain ⟨I7, ⟨n13, q14⟩, hI12⟩ := h
  have lp11 : ∀ (n9 : Nat) (v1 : Int) (v2 : Int) (v3 : Int) (M7 : zM), I7 v1 v2 v3 M7 n9 → zin v1 → zin v2 → zin v3 → zRng M7 → zV Γ mu_X12_mostBeside (145, 0, 0) 7 [(0, zRf (zad Γ) 103), (1, zI a1), (2, zI v1), (3, zI v2), (4, zI v3)] [] M7 := by
    intro n9
    induction n9 using Nat.strongRecOn with
    | _ n9 ih10 =>
    intro v1 v2 v3 M7 q15 z4 z5 z6 hR8
    have h := hI12 v1 v2 v3 M7 n9 q15 z4 z5 z6 hR8
    refine zr_iload C 4 rfl (zdec_at dm_X12_mostBeside 6 rfl) ?_
    refine zr_bipush C (zdec_at dm_X12_mostBeside 7 rfl) (by decide) ?_
    refine zr_icmp_ge C z6 (by decide) (zdec_at dm_X12_mostBeside 8 rfl) rfl (fun g16 => ?_) (fun g16 => ?_)
    · have h := h.1 g16
      refine zr_iload_n C 2 rfl (zdec_at dm_X12_mostBeside 72 rfl) rfl ?_
      exact zr_ireturn C rfl (zdec_at dm_X12_mostBeside 73 rfl) rfl ⟨z4, h⟩
    · have h := h.2 g16
      refine zr_iconst C (zdec_at dm_X12_mostBeside 9 rfl) ?_
      refine zr_istore (L1 := [(5, zI 0), (0, zRf (zad Γ) 103), (1, zI a1), (2, zI v1), (3, zI v2), (4, zI v3)]) C (zdec_at dm_X12_mostBeside 10 rfl) (Nat.le_of_ble_eq_true rfl) rfl ?_
      refine zr_iconst C (zdec_at dm_X12_mostBeside 11 rfl) ?_
      refine zr_istore (L1 := [(6, zI 0), (5, zI 0), (0, zRf (zad Γ) 103), (1, zI a1), (2, zI v1), (3, zI v2), (4, zI v3)]) C (zdec_at dm_X12_mostBeside 12 rfl) (Nat.le_of_ble_eq_true rfl) rfl ?_
      obtain ⟨I20, ⟨n27, q28⟩, hI26⟩ := h
      have lp25 : ∀ (n23 : Nat) (v17 : Int) (v18 : Int) (M21 : zM), I20 v17 v18 M21 n23 → zin v17 → zin v18 → zRng M21 → zV Γ mu_X12_mostBeside (145, 0, 0) 20 [(0, zRf (zad Γ) 103), (1, zI a1), (2, zI v1), (3, zI v2), (4, zI v3), (5, zI v17), (6, zI v18)] [] M21 := by
        intro n23
        induction n23 using Nat.strongRecOn with
        | _ n23 ih24 =>
        intro v17 v18 M21 q29 z19 z20 hR22
        have h := hI26 v17 v18 M21 n23 q29 z19 z20 hR22
        refine zr_iload C 6 rfl (zdec_at dm_X12_mostBeside 13 rfl) ?_
        refine zr_sipush C (zdec_at dm_X12_mostBeside 14 rfl) (by decide) ?_
        refine zr_icmp_ge C z20 (by decide) (zdec_at dm_X12_mostBeside 15 rfl) rfl (fun g30 => ?_) (fun g30 => ?_)
        · have h := h.1 g30
          refine zr_iload C 5 rfl (zdec_at dm_X12_mostBeside 56 rfl) ?_
          refine zr_iload_n C 3 rfl (zdec_at dm_X12_mostBeside 57 rfl) rfl ?_
          have h := h (fun v31 => zin v31 → zV Γ mu_X12_mostBeside (145, 0, 0) 120 [(0, zRf (zad Γ) 103), (1, zI a1), (3, zI v2), (4, zI v3), (5, zI v17)] [zI v31] M21) (fun v31 h z32 => by
            have h := h z32
            refine zr_istore_n (L1 := [(2, zI v31), (0, zRf (zad Γ) 103), (1, zI a1), (3, zI v2), (4, zI v3), (5, zI v17)]) C (zdec_at dm_X12_mostBeside 62 rfl) rfl (Nat.le_of_ble_eq_true rfl) rfl ?_
            refine zr_iload C 5 rfl (zdec_at dm_X12_mostBeside 63 rfl) ?_
            refine zr_iload_n C 3 rfl (zdec_at dm_X12_mostBeside 64 rfl) rfl ?_
            refine zr_icmp_le C z19 z5 (zdec_at dm_X12_mostBeside 65 rfl) rfl (fun g33 => ?_) (fun g33 => ?_)
            · have h := h.1 g33
              refine zr_iload_n C 3 rfl (zdec_at dm_X12_mostBeside 68 rfl) rfl ?_
              refine zr_istore_n (L1 := [(3, zI v2), (2, zI v31), (0, zRf (zad Γ) 103), (1, zI a1), (4, zI v3), (5, zI v17)]) C (zdec_at dm_X12_mostBeside 69 rfl) rfl (Nat.le_of_ble_eq_true rfl) rfl ?_
              refine zr_iinc (L1 := [(4, zI (v3 + 1)), (3, zI v2), (2, zI v31), (0, zRf (zad Γ) 103), (1, zI a1), (5, zI v17)]) C 4 rfl (zdec_at dm_X12_mostBeside 70 rfl) (Nat.le_of_ble_eq_true rfl) rfl ?_
              refine zr_goto C (zdec_at dm_X12_mostBeside 71 rfl) rfl ?_
              obtain ⟨o34, h⟩ := h
              obtain ⟨n35, q36, q37⟩ := h
              exact zr_sub [3, 4, 2, 1, 0] rfl (ih10 n35 q36 _ _ _ _ q37 z32 z5 o34 hR22)
            · have h := h.2 g33
              refine zr_iload C 5 rfl (zdec_at dm_X12_mostBeside 66 rfl) ?_
              refine zr_goto C (zdec_at dm_X12_mostBeside 67 rfl) rfl ?_
              refine zr_istore_n (L1 := [(3, zI v17), (2, zI v31), (0, zRf (zad Γ) 103), (1, zI a1), (4, zI v3), (5, zI v17)]) C (zdec_at dm_X12_mostBeside 69 rfl) rfl (Nat.le_of_ble_eq_true rfl) rfl ?_
              refine zr_iinc (L1 := [(4, zI (v3 + 1)), (3, zI v17), (2, zI v31), (0, zRf (zad Γ) 103), (1, zI a1), (5, zI v17)]) C 4 rfl (zdec_at dm_X12_mostBeside 70 rfl) (Nat.le_of_ble_eq_true rfl) rfl ?_
              refine zr_goto C (zdec_at dm_X12_mostBeside 71 rfl) rfl ?_
              obtain ⟨o38, h⟩ := h
              obtain ⟨n39, q40, q41⟩ := h
              exact zr_sub [3, 4, 2, 1, 0] rfl (ih10 n39 q40 _ _ _ _ q41 z32 z19 o38 hR22))
          refine zr_icmp_le C z19 z5 (zdec_at dm_X12_mostBeside 58 rfl) rfl (fun g42 => ?_) (fun g42 => ?_)
          · have h := h.1 g42
            refine zr_iload_n C 2 rfl (zdec_at dm_X12_mostBeside 61 rfl) rfl ?_
            exact zr_sub [0, 1, 3, 4, 5] rfl (h z4)
          · have h := h.2 g42
            refine zr_iload C 4 rfl (zdec_at dm_X12_mostBeside 59 rfl) ?_
            refine zr_goto C (zdec_at dm_X12_mostBeside 60 rfl) rfl ?_
            exact zr_sub [0, 1, 3, 4, 5] rfl (h z6)
        · have h := h.2 g30
          refine zr_iconst C (zdec_at dm_X12_mostBeside 16 rfl) ?_
          refine zr_istore (L1 := [(7, zI 0), (0, zRf (zad Γ) 103), (1, zI a1), (2, zI v1), (3, zI v2), (4, zI v3), (5, zI v17), (6, zI v18)]) C (zdec_at dm_X12_mostBeside 17 rfl) (Nat.le_of_ble_eq_true rfl) rfl ?_
          obtain ⟨I31, ⟨n53, q54⟩, hI52⟩ := h
          have lp51 : ∀ (n49 : Nat) (v43 : Int) (v44 : Int) (M47 : zM), I31 v43 v44 M47 n49 → zin v43 → zin v44 → zRng M47 → zV Γ mu_X12_mostBeside (145, 0, 0) 31 [(0, zRf (zad Γ) 103), (1, zI a1), (2, zI v1), (3, zI v2), (4, zI v3), (5, zI v43), (6, zI v18), (7, zI v44)] [] M47 := by
            intro n49
            induction n49 using Nat.strongRecOn with
            | _ n49 ih50 =>
            intro v43 v44 M47 q55 z45 z46 hR48
            have h := hI52 v43 v44 M47 n49 q55 z45 z46 hR48
            refine zr_iload C 7 rfl (zdec_at dm_X12_mostBeside 18 rfl) ?_
            refine zr_iconst C (zdec_at dm_X12_mostBeside 19 rfl) ?_
            refine zr_icmp_ge C z46 (by decide) (zdec_at dm_X12_mostBeside 20 rfl) rfl (fun g56 => ?_) (fun g56 => ?_)
            · have h := h.1 g56
              refine zr_iinc (L1 := [(6, zI (v18 + 1)), (0, zRf (zad Γ) 103), (1, zI a1), (2, zI v1), (3, zI v2), (4, zI v3), (5, zI v43), (7, zI v44)]) C 6 rfl (zdec_at dm_X12_mostBeside 54 rfl) (Nat.le_of_ble_eq_true rfl) rfl ?_
              refine zr_goto C (zdec_at dm_X12_mostBeside 55 rfl) rfl ?_
              obtain ⟨o57, h⟩ := h
              obtain ⟨n58, q59, q60⟩ := h
              exact zr_sub [1, 2, 3, 4, 5, 6, 0] rfl (ih24 n58 q59 _ _ _ q60 z45 o57 hR48)
            · have h := h.2 g56
              refine zr_aload_n C 0 rfl (zdec_at dm_X12_mostBeside 21 rfl) rfl ?_
              refine zr_getr (q := 115) C fk_RX12_51 fi_103_29 (zdec_at dm_X12_mostBeside 22 rfl) ?_
              refine zr_iload C 6 rfl (zdec_at dm_X12_mostBeside 23 rfl) ?_
              obtain ⟨o61, h⟩ := h
              refine zr_iald C ai_115 o61 (zdec_at dm_X12_mostBeside 24 rfl) ?_
              refine zr_iload_n C 1 rfl (zdec_at dm_X12_mostBeside 25 rfl) rfl ?_
              refine zr_icmp_ne C (hR48 _ _) zz_a1 (zdec_at dm_X12_mostBeside 26 rfl) rfl (fun g62 => ?_) (fun g62 => ?_)
              · have h := h.1 g62
                refine zr_iinc (L1 := [(6, zI (v18 + 1)), (0, zRf (zad Γ) 103), (1, zI a1), (2, zI v1), (3, zI v2), (4, zI v3), (5, zI v43), (7, zI v44)]) C 6 rfl (zdec_at dm_X12_mostBeside 54 rfl) (Nat.le_of_ble_eq_true rfl) rfl ?_
                refine zr_goto C (zdec_at dm_X12_mostBeside 55 rfl) rfl ?_
                obtain ⟨o63, h⟩ := h
                obtain ⟨n64, q65, q66⟩ := h
                exact zr_sub [1, 2, 3, 4, 5, 6, 0] rfl (ih24 n64 q65 _ _ _ q66 z45 o63 hR48)
              · have h := h.2 g62
                refine zr_aload_n C 0 rfl (zdec_at dm_X12_mostBeside 27 rfl) rfl ?_
                refine zr_iload C 6 rfl (zdec_at dm_X12_mostBeside 28 rfl) ?_
                refine zr_iload C 7 rfl (zdec_at dm_X12_mostBeside 29 rfl) ?_
                obtain ⟨g72, h⟩ := h
                refine zr_callV C [v18, v44] hS_X12_beside ck_RX12_236 iv_X12_beside vc_X12 oc_103 rfl rfl (zdec_at dm_X12_mostBeside 30 rfl) ⟨rfl, rfl, rfl, rfl⟩ ⟨by decide, by decide⟩ (Nat.le_of_ble_eq_true rfl) (zall_0 z20 (zall_0 z46 zall_n)) ?_
                refine ⟨_, _, rfl, g72, fun r67 M68 p71 z70 hR69 => ?_⟩
                have h := h r67 M68 p71 z70 hR69
                show zV Γ mu_X12_mostBeside (145, 0, 0) 56 [(0, zRf (zad Γ) 103), (1, zI a1), (2, zI v1), (3, zI v2), (4, zI v3), (5, zI v43), (6, zI v18), (7, zI v44)] [zI r67] M68
                refine zr_istore (L1 := [(8, zI r67), (0, zRf (zad Γ) 103), (1, zI a1), (2, zI v1), (3, zI v2), (4, zI v3), (5, zI v43), (6, zI v18), (7, zI v44)]) C (zdec_at dm_X12_mostBeside 31 rfl) (Nat.le_of_ble_eq_true rfl) rfl ?_
                refine zr_iload C 6 rfl (zdec_at dm_X12_mostBeside 32 rfl) ?_
                refine zr_iload C 0 rfl (zdec_at dm_X12_mostBeside 33 rfl) ?_
                refine zr_if_lt C z70 (zdec_at dm_X12_mostBeside 34 rfl) rfl (fun g73 => ?_) (fun g73 => ?_)
                · have h := h.1 g73
                  refine zr_iconst C (zdec_at dm_X12_mostBeside 49 rfl) ?_
                  refine zr_iadd C (zdec_at dm_X12_mostBeside 50 rfl) ?_
                  refine zr_istore (L1 := [(5, zI (v43 + 0)), (8, zI r67), (0, zRf (zad Γ) 103), (1, zI a1), (2, zI v1), (3, zI v2), (4, zI v3), (6, zI v18), (7, zI v44)]) C (zdec_at dm_X12_mostBeside 51 rfl) (Nat.le_of_ble_eq_true rfl) rfl ?_
                  refine zr_iinc (L1 := [(7, zI (v44 + 1)), (5, zI (v43 + 0)), (8, zI r67), (0, zRf (zad Γ) 103), (1, zI a1), (2, zI v1), (3, zI v2), (4, zI v3), (6, zI v18)]) C 8 rfl (zdec_at dm_X12_mostBeside 52 rfl) (Nat.le_of_ble_eq_true rfl) rfl ?_
                  refine zr_goto C (zdec_at dm_X12_mostBeside 53 rfl) rfl ?_
                  obtain ⟨o74, h⟩ := h
                  obtain ⟨o75, h⟩ := h
                  obtain ⟨n76, q77, q78⟩ := h
                  exact zr_sub [3, 4, 5, 6, 7, 1, 8, 0] rfl (ih50 n76 q77 _ _ _ q78 o74 o75 hR69)
                · have h := h.2 g73
                  refine zr_aload_n C 1 rfl (zdec_at dm_X12_mostBeside 35 rfl) rfl ?_
                  refine zr_getr (q := 115) C fk_RX12_51 fi_103_29 (zdec_at dm_X12_mostBeside 36 rfl) ?_
                  refine zr_iload C 0 rfl (zdec_at dm_X12_mostBeside 37 rfl) ?_
                  obtain ⟨o79, h⟩ := h
                  refine zr_iald C ai_115 o79 (zdec_at dm_X12_mostBeside 38 rfl) ?_
                  refine zr_iload_n C 2 rfl (zdec_at dm_X12_mostBeside 39 rfl) rfl ?_
                  refine zr_icmp_eq C (hR69 _ _) zz_a1 (zdec_at dm_X12_mostBeside 40 rfl) rfl (fun g80 => ?_) (fun g80 => ?_)
                  · have h := h.1 g80
                    refine zr_iconst C (zdec_at dm_X12_mostBeside 49 rfl) ?_
                    refine zr_iadd C (zdec_at dm_X12_mostBeside 50 rfl) ?_
                    refine zr_istore (L1 := [(5, zI (v43 + 0)), (8, zI r67), (0, zRf (zad Γ) 103), (1, zI a1), (2, zI v1), (3, zI v2), (4, zI v3), (6, zI v18), (7, zI v44)]) C (zdec_at dm_X12_mostBeside 51 rfl) (Nat.le_of_ble_eq_true rfl) rfl ?_
                    refine zr_iinc (L1 := [(7, zI (v44 + 1)), (5, zI (v43 + 0)), (8, zI r67), (0, zRf (zad Γ) 103), (1, zI a1), (2, zI v1), (3, zI v2), (4, zI v3), (6, zI v18)]) C 8 rfl (zdec_at dm_X12_mostBeside 52 rfl) (Nat.le_of_ble_eq_true rfl) rfl ?_
                    refine zr_goto C (zdec_at dm_X12_mostBeside 53 rfl) rfl ?_
                    obtain ⟨o81, h⟩ := h
                    obtain ⟨o82, h⟩ := h
                    obtain ⟨n83, q84, q85⟩ := h
                    exact zr_sub [3, 4, 5, 6, 7, 1, 8, 0] rfl (ih50 n83 q84 _ _ _ q85 o81 o82 hR69)
                  · have h := h.2 g80
                    refine zr_aload_n C 1 rfl (zdec_at dm_X12_mostBeside 41 rfl) rfl ?_
                    refine zr_getr (q := 104) C fk_RX12_16 fi_103_3 (zdec_at dm_X12_mostBeside 42 rfl) ?_
                    refine zr_iload C 0 rfl (zdec_at dm_X12_mostBeside 43 rfl) ?_
                    refine zr_iald C ai_104 o79 (zdec_at dm_X12_mostBeside 44 rfl) ?_
                    refine zr_iload C 5 rfl (zdec_at dm_X12_mostBeside 45 rfl) ?_
                    refine zr_icmp_ne C (hR69 _ _) z6 (zdec_at dm_X12_mostBeside 46 rfl) rfl (fun g86 => ?_) (fun g86 => ?_)
                    · have h := h.1 g86
                      refine zr_iconst C (zdec_at dm_X12_mostBeside 49 rfl) ?_
                      refine zr_iadd C (zdec_at dm_X12_mostBeside 50 rfl) ?_
                      refine zr_istore (L1 := [(5, zI (v43 + 0)), (8, zI r67), (0, zRf (zad Γ) 103), (1, zI a1), (2, zI v1), (3, zI v2), (4, zI v3), (6, zI v18), (7, zI v44)]) C (zdec_at dm_X12_mostBeside 51 rfl) (Nat.le_of_ble_eq_true rfl) rfl ?_
                      refine zr_iinc (L1 := [(7, zI (v44 + 1)), (5, zI (v43 + 0)), (8, zI r67), (0, zRf (zad Γ) 103), (1, zI a1), (2, zI v1), (3, zI v2), (4, zI v3), (6, zI v18)]) C 8 rfl (zdec_at dm_X12_mostBeside 52 rfl) (Nat.le_of_ble_eq_true rfl) rfl ?_
                      refine zr_goto C (zdec_at dm_X12_mostBeside 53 rfl) rfl ?_
                      obtain ⟨o87, h⟩ := h
                      obtain ⟨o88, h⟩ := h
                      obtain ⟨n89, q90, q91⟩ := h
                      exact zr_sub [3, 4, 5, 6, 7, 1, 8, 0] rfl (ih50 n89 q90 _ _ _ q91 o87 o88 hR69)
                    · have h := h.2 g86
                      refine zr_iconst C (zdec_at dm_X12_mostBeside 47 rfl) ?_
                      refine zr_goto C (zdec_at dm_X12_mostBeside 48 rfl) rfl ?_
                      refine zr_iadd C (zdec_at dm_X12_mostBeside 50 rfl) ?_
                      refine zr_istore (L1 := [(5, zI (v43 + 1)), (8, zI r67), (0, zRf (zad Γ) 103), (1, zI a1), (2, zI v1), (3, zI v2), (4, zI v3), (6, zI v18), (7, zI v44)]) C (zdec_at dm_X12_mostBeside 51 rfl) (Nat.le_of_ble_eq_true rfl) rfl ?_
                      refine zr_iinc (L1 := [(7, zI (v44 + 1)), (5, zI (v43 + 1)), (8, zI r67), (0, zRf (zad Γ) 103), (1, zI a1), (2, zI v1), (3, zI v2), (4, zI v3), (6, zI v18)]) C 8 rfl (zdec_at dm_X12_mostBeside 52 rfl) (Nat.le_of_ble_eq_true rfl) rfl ?_
                      refine zr_goto C (zdec_at dm_X12_mostBeside 53 rfl) rfl ?_
                      obtain ⟨o92, h⟩ := h
                      obtain ⟨o93, h⟩ := h
                      obtain ⟨n94, q95, q96⟩ := h
                      exact zr_sub [3, 4, 5, 6, 7, 1, 8, 0] rfl (ih50 n94 q95 _ _ _ q96 o92 o93 hR69)
          exact zr_sub [1, 2, 3, 4, 5, 6, 7, 0] rfl (lp51 n53 _ _ _ q54 z19 (by decide) hR22)
      exact zr_sub [2, 3, 4, 5, 6, 1, 0] rfl (lp25 n27 _ _ _ q28 (by decide) (by decide) hR8)
  exact zr_sub [3, 4, 2, 1, 0] rfl (lp11 n13 _ _ _ _ q14 (by decide) (by decide) (by decide) hR)

set_option maxHeartbeats 400000 in
set_option maxRecDepth 100000 in
theorem sn_X12_isEdge {pr_X12_isOf : Int → Int → Int → zM → Prop} {po_X12_isOf : Int → Int → Int → zM → Int → zM → Prop} (hS_X12_isOf : zSnd zS 145 0 0 yX12_isOf cX12_isOf 4 (some .boolean) 0 [2, 0, 0, 0] (F_X12_isOf pr_X12_isOf po_X12_isOf)) : zSnd zS 145 0 0 yX12_isEdge cX12_isEdge 9 (some .boolean) 1 [2, 0, 0, 0, 0] (fun xs P M => ∃ a1 a2 a3 a4 : Int, xs = [103, a1, a2, a3, a4] ∧ vc_X12_isEdge pr_X12_isOf po_X12_isOf a1 a2 a3 a4 P M) := by
  refine zSnd.of rfl (fun ad xs hz => Nat.le_trans (Nat.le_of_eq (zlen ad _ xs hz)) (by decide)) ?_
  intro Γ C _ _ xs M hz hF
  obtain ⟨a1, a2, a3, a4, rfl, h⟩ := hF
  have zz_a1 := zall_h (zall_t hz) (by decide)
  have zz_a2 := zall_h (zall_t (zall_t hz)) (by decide)
  have zz_a3 := zall_h (zall_t (zall_t (zall_t hz))) (by decide)
  have zz_a4 := zall_h (zall_t (zall_t (zall_t (zall_t hz)))) (by decide)
  refine zr_rng (fun hR => ?_)
  have C : zC Γ mu_X12_isEdge := C
  change zV Γ mu_X12_isEdge (145, 0, 0) 0 [(0, zRf (zad Γ) 103), (1, zI a1), (2, zI a2), (3, zI a3), (4, zI a4)] [] M
  change vc_X12_isEdge pr_X12_isOf po_X12_isOf a1 a2 a3 a4 _ M at h
  unfold vc_X12_isEdge at h
  refine zr_iload C 4 rfl (zdec_at dm_X12_isEdge 0 rfl) ?_
  have h := h (fun v1 => zin v1 → zV Γ mu_X12_isEdge (145, 0, 0) 18 [(0, zRf (zad Γ) 103), (1, zI a1), (2, zI a2), (3, zI a3), (4, zI a4)] [zI v1] M) (fun v1 h z2 => by
    have h := h z2
    refine zr_istore (L1 := [(5, zI v1), (0, zRf (zad Γ) 103), (1, zI a1), (2, zI a2), (3, zI a3), (4, zI a4)]) C (zdec_at dm_X12_isEdge 10 rfl) (Nat.le_of_ble_eq_true rfl) rfl ?_
    refine zr_iload C 5 rfl (zdec_at dm_X12_isEdge 11 rfl) ?_
    have h := h (fun v3 => zin v3 → zV Γ mu_X12_isEdge (145, 0, 0) 38 [(0, zRf (zad Γ) 103), (1, zI a1), (2, zI a2), (3, zI a3), (4, zI a4), (5, zI v1)] [zI v3] M) (fun v3 h z4 => by
      have h := h z4
      refine zr_istore (L1 := [(6, zI v3), (0, zRf (zad Γ) 103), (1, zI a1), (2, zI a2), (3, zI a3), (4, zI a4), (5, zI v1)]) C (zdec_at dm_X12_isEdge 21 rfl) (Nat.le_of_ble_eq_true rfl) rfl ?_
      refine zr_iload C 5 rfl (zdec_at dm_X12_isEdge 22 rfl) ?_
      have h := h (fun v5 => zin v5 → zV Γ mu_X12_isEdge (145, 0, 0) 58 [(0, zRf (zad Γ) 103), (1, zI a1), (3, zI a3), (4, zI a4), (5, zI v1), (6, zI v3)] [zI v5] M) (fun v5 h z6 => by
        have h := h z6
        refine zr_istore (L1 := [(7, zI v5), (0, zRf (zad Γ) 103), (1, zI a1), (3, zI a3), (4, zI a4), (5, zI v1), (6, zI v3)]) C (zdec_at dm_X12_isEdge 32 rfl) (Nat.le_of_ble_eq_true rfl) rfl ?_
        refine zr_iload C 4 rfl (zdec_at dm_X12_isEdge 33 rfl) ?_
        refine zr_iconst C (zdec_at dm_X12_isEdge 34 rfl) ?_
        have h := h (fun v7 => zin v7 → zV Γ mu_X12_isEdge (145, 0, 0) 79 [(0, zRf (zad Γ) 103), (1, zI a1), (5, zI v1), (6, zI v3), (7, zI v5)] [zI v7] M) (fun v7 h z8 => by
          have h := h z8
          refine zr_istore (L1 := [(8, zI v7), (0, zRf (zad Γ) 103), (1, zI a1), (5, zI v1), (6, zI v3), (7, zI v5)]) C (zdec_at dm_X12_isEdge 44 rfl) (Nat.le_of_ble_eq_true rfl) rfl ?_
          refine zr_aload_n C 1 rfl (zdec_at dm_X12_isEdge 45 rfl) rfl ?_
          refine zr_iload_n C 2 rfl (zdec_at dm_X12_isEdge 46 rfl) rfl ?_
          refine zr_iload C 3 rfl (zdec_at dm_X12_isEdge 47 rfl) ?_
          refine zr_iload C 4 rfl (zdec_at dm_X12_isEdge 48 rfl) ?_
          obtain ⟨g14, h⟩ := h
          refine zr_callV C [a1, v1, v3] hS_X12_isOf ck_RX12_255 iv_X12_isOf vc_X12 oc_103 rfl rfl (zdec_at dm_X12_isEdge 49 rfl) ⟨rfl, rfl, rfl, rfl⟩ ⟨by decide, by decide⟩ (Nat.le_of_ble_eq_true rfl) (zall_0 zz_a1 (zall_0 z2 (zall_0 z4 zall_n))) ?_
          refine ⟨_, _, _, rfl, g14, fun r9 M10 p13 z12 hR11 => ?_⟩
          have h := h r9 M10 p13 z12 hR11
          show zV Γ mu_X12_isEdge (145, 0, 0) 90 [(8, zI v7), (0, zRf (zad Γ) 103), (1, zI a1), (5, zI v1), (6, zI v3), (7, zI v5)] [zI r9] M10
          refine zr_if_eq C z12 (zdec_at dm_X12_isEdge 50 rfl) rfl (fun g15 => ?_) (fun g15 => ?_)
          · have h := h.1 g15
            refine zr_iconst C (zdec_at dm_X12_isEdge 59 rfl) ?_
            exact zr_zreturn C rfl (by decide) (zdec_at dm_X12_isEdge 60 rfl) rfl ⟨(by decide), h⟩
          · have h := h.2 g15
            refine zr_aload_n C 1 rfl (zdec_at dm_X12_isEdge 51 rfl) rfl ?_
            refine zr_iload_n C 2 rfl (zdec_at dm_X12_isEdge 52 rfl) rfl ?_
            refine zr_iload C 5 rfl (zdec_at dm_X12_isEdge 53 rfl) ?_
            refine zr_iload C 0 rfl (zdec_at dm_X12_isEdge 54 rfl) ?_
            obtain ⟨g21, h⟩ := h
            refine zr_callV C [a1, v5, v7] hS_X12_isOf ck_RX12_255 iv_X12_isOf vc_X12 oc_103 rfl rfl (zdec_at dm_X12_isEdge 55 rfl) ⟨rfl, rfl, rfl, rfl⟩ ⟨by decide, by decide⟩ (Nat.le_of_ble_eq_true rfl) (zall_0 zz_a1 (zall_0 z6 (zall_0 z8 zall_n))) ?_
            refine ⟨_, _, _, rfl, g21, fun r16 M17 p20 z19 hR18 => ?_⟩
            have h := h r16 M17 p20 z19 hR18
            show zV Γ mu_X12_isEdge (145, 0, 0) 102 [(8, zI v7), (0, zRf (zad Γ) 103), (1, zI a1), (5, zI v1), (6, zI v3), (7, zI v5)] [zI r16] M17
            refine zr_if_ne C z19 (zdec_at dm_X12_isEdge 56 rfl) rfl (fun g22 => ?_) (fun g22 => ?_)
            · have h := h.1 g22
              refine zr_iconst C (zdec_at dm_X12_isEdge 59 rfl) ?_
              exact zr_zreturn C rfl (by decide) (zdec_at dm_X12_isEdge 60 rfl) rfl ⟨(by decide), h⟩
            · have h := h.2 g22
              refine zr_iconst C (zdec_at dm_X12_isEdge 57 rfl) ?_
              refine zr_goto C (zdec_at dm_X12_isEdge 58 rfl) rfl ?_
              exact zr_zreturn C rfl (by decide) (zdec_at dm_X12_isEdge 60 rfl) rfl ⟨(by decide), h⟩)
        have h := h (zV Γ mu_X12_isEdge (145, 0, 0) 72 [(0, zRf (zad Γ) 103), (1, zI a1), (3, zI a3), (5, zI v1), (6, zI v3), (7, zI v5)] [] M) (fun h => by
          refine zr_iload_n C 2 rfl (zdec_at dm_X12_isEdge 39 rfl) rfl ?_
          refine zr_goto C (zdec_at dm_X12_isEdge 40 rfl) rfl ?_
          exact zr_sub [0, 1, 3, 4, 5] rfl (h zz_a3))
        refine zr_icmp_eq C zz_a4 (by decide) (zdec_at dm_X12_isEdge 35 rfl) rfl (fun g23 => ?_) (fun g23 => ?_)
        · have h := h.1 g23
          exact zr_sub [1, 2, 3, 5, 6, 0] rfl (h)
        · have h := h.2 g23
          refine zr_iload C 4 rfl (zdec_at dm_X12_isEdge 36 rfl) ?_
          refine zr_iconst C (zdec_at dm_X12_isEdge 37 rfl) ?_
          refine zr_icmp_ne C zz_a4 (by decide) (zdec_at dm_X12_isEdge 38 rfl) rfl (fun g24 => ?_) (fun g24 => ?_)
          · have h := h.1 g24
            refine zr_iload_n C 3 rfl (zdec_at dm_X12_isEdge 41 rfl) rfl ?_
            refine zr_iconst C (zdec_at dm_X12_isEdge 42 rfl) ?_
            refine zr_isub C (zdec_at dm_X12_isEdge 43 rfl) ?_
            obtain ⟨o25, h⟩ := h
            exact zr_sub [1, 2, 5, 6, 0] rfl (h o25)
          · have h := h.2 g24
            exact zr_sub [1, 2, 3, 5, 6, 0] rfl (h))
      have h := h (zV Γ mu_X12_isEdge (145, 0, 0) 51 [(0, zRf (zad Γ) 103), (1, zI a1), (2, zI a2), (3, zI a3), (4, zI a4), (5, zI v1), (6, zI v3)] [] M) (fun h => by
        refine zr_iload_n C 2 rfl (zdec_at dm_X12_isEdge 27 rfl) rfl ?_
        refine zr_goto C (zdec_at dm_X12_isEdge 28 rfl) rfl ?_
        exact zr_sub [0, 1, 3, 4, 5, 6] rfl (h zz_a2))
      refine zr_if_eq C zz_a4 (zdec_at dm_X12_isEdge 23 rfl) rfl (fun g26 => ?_) (fun g26 => ?_)
      · have h := h.1 g26
        exact zr_sub [1, 2, 3, 4, 5, 6, 0] rfl (h)
      · have h := h.2 g26
        refine zr_iload C 5 rfl (zdec_at dm_X12_isEdge 24 rfl) ?_
        refine zr_iconst C (zdec_at dm_X12_isEdge 25 rfl) ?_
        refine zr_icmp_ne C zz_a4 (by decide) (zdec_at dm_X12_isEdge 26 rfl) rfl (fun g27 => ?_) (fun g27 => ?_)
        · have h := h.1 g27
          refine zr_iload_n C 3 rfl (zdec_at dm_X12_isEdge 29 rfl) rfl ?_
          refine zr_iconst C (zdec_at dm_X12_isEdge 30 rfl) ?_
          refine zr_isub C (zdec_at dm_X12_isEdge 31 rfl) ?_
          obtain ⟨o28, h⟩ := h
          exact zr_sub [1, 2, 4, 5, 6, 0] rfl (h o28)
        · have h := h.2 g27
          exact zr_sub [1, 2, 3, 4, 5, 6, 0] rfl (h))
    have h := h (zV Γ mu_X12_isEdge (145, 0, 0) 31 [(0, zRf (zad Γ) 103), (1, zI a1), (2, zI a2), (3, zI a3), (4, zI a4), (5, zI v1)] [] M) (fun h => by
      refine zr_iload_n C 3 rfl (zdec_at dm_X12_isEdge 16 rfl) rfl ?_
      refine zr_goto C (zdec_at dm_X12_isEdge 17 rfl) rfl ?_
      exact zr_sub [0, 1, 2, 3, 4, 5] rfl (h zz_a3))
    refine zr_if_eq C zz_a4 (zdec_at dm_X12_isEdge 12 rfl) rfl (fun g29 => ?_) (fun g29 => ?_)
    · have h := h.1 g29
      exact zr_sub [1, 2, 3, 4, 5, 0] rfl (h)
    · have h := h.2 g29
      refine zr_iload C 5 rfl (zdec_at dm_X12_isEdge 13 rfl) ?_
      refine zr_iconst C (zdec_at dm_X12_isEdge 14 rfl) ?_
      refine zr_icmp_ne C zz_a4 (by decide) (zdec_at dm_X12_isEdge 15 rfl) rfl (fun g30 => ?_) (fun g30 => ?_)
      · have h := h.1 g30
        refine zr_iload_n C 4 rfl (zdec_at dm_X12_isEdge 18 rfl) rfl ?_
        refine zr_iconst C (zdec_at dm_X12_isEdge 19 rfl) ?_
        refine zr_isub C (zdec_at dm_X12_isEdge 20 rfl) ?_
        obtain ⟨o31, h⟩ := h
        exact zr_sub [1, 2, 3, 4, 5, 0] rfl (h o31)
      · have h := h.2 g30
        exact zr_sub [1, 2, 3, 4, 5, 0] rfl (h))
  have h := h (zV Γ mu_X12_isEdge (145, 0, 0) 11 [(0, zRf (zad Γ) 103), (1, zI a1), (2, zI a2), (3, zI a3), (4, zI a4)] [] M) (fun h => by
    refine zr_iload_n C 2 rfl (zdec_at dm_X12_isEdge 5 rfl) rfl ?_
    refine zr_goto C (zdec_at dm_X12_isEdge 6 rfl) rfl ?_
    exact zr_sub [0, 1, 2, 3, 4] rfl (h zz_a2))
  refine zr_if_eq C zz_a4 (zdec_at dm_X12_isEdge 1 rfl) rfl (fun g32 => ?_) (fun g32 => ?_)
  · have h := h.1 g32
    exact zr_sub [0, 1, 2, 3, 4] rfl (h)
  · have h := h.2 g32
    refine zr_iload C 4 rfl (zdec_at dm_X12_isEdge 2 rfl) ?_
    refine zr_iconst C (zdec_at dm_X12_isEdge 3 rfl) ?_
    refine zr_icmp_ne C zz_a4 (by decide) (zdec_at dm_X12_isEdge 4 rfl) rfl (fun g33 => ?_) (fun g33 => ?_)
    · have h := h.1 g33
      refine zr_iload_n C 2 rfl (zdec_at dm_X12_isEdge 7 rfl) rfl ?_
      refine zr_iconst C (zdec_at dm_X12_isEdge 8 rfl) ?_
      refine zr_isub C (zdec_at dm_X12_isEdge 9 rfl) ?_
      obtain ⟨o34, h⟩ := h
      exact zr_sub [0, 1, 2, 3, 4] rfl (h o34)
    · have h := h.2 g33
      exact zr_sub [0, 1, 2, 3, 4] rfl (h)

set_option maxHeartbeats 400000 in
set_option maxRecDepth 100000 in
theorem sn_X12_findBorder {pr_X12_isEdge : Int → Int → Int → Int → zM → Prop} {po_X12_isEdge : Int → Int → Int → Int → zM → Int → zM → Prop} (hS_X12_isEdge : zSnd zS 145 0 0 yX12_isEdge cX12_isEdge 9 (some .boolean) 1 [2, 0, 0, 0, 0] (F_X12_isEdge pr_X12_isEdge po_X12_isEdge)) : zSnd zS 145 0 0 yX12_findBorder cX12_findBorder 8 none 2 [2, 0] (fun xs P M => ∃ a1 : Int, xs = [103, a1] ∧ vc_X12_findBorder pr_X12_isEdge po_X12_isEdge a1 P M) := by
  refine zSnd.of rfl (fun ad xs hz => Nat.le_trans (Nat.le_of_eq (zlen ad _ xs hz)) (by decide)) ?_
  intro Γ C _ _ xs M hz hF
  obtain ⟨a1, rfl, h⟩ := hF
  have zz_a1 := zall_h (zall_t hz) (by decide)
  refine zr_rng (fun hR => ?_)
  have C : zC Γ mu_X12_findBorder := C
  change zV Γ mu_X12_findBorder (145, 0, 0) 0 [(0, zRf (zad Γ) 103), (1, zI a1)] [] M
  change vc_X12_findBorder pr_X12_isEdge po_X12_isEdge a1 _ M at h
  unfold vc_X12_findBorder at h
  refine zr_aload_n C 0 rfl (zdec_at dm_X12_findBorder 0 rfl) rfl ?_
  refine zr_getr (q := 116) C fk_RX12_54 fi_103_31 (zdec_at dm_X12_findBorder 1 rfl) ?_
  refine zr_iload_n C 1 rfl (zdec_at dm_X12_findBorder 2 rfl) rfl ?_
  obtain ⟨o1, h⟩ := h
  refine zr_iald C ai_116 o1 (zdec_at dm_X12_findBorder 3 rfl) ?_
  refine zr_bipush C (zdec_at dm_X12_findBorder 4 rfl) (by decide) ?_
  obtain ⟨o2, h⟩ := h
  refine zr_irem C (hR _ _) (by decide) ⟨o2, by decide⟩ (zdec_at dm_X12_findBorder 5 rfl) ?_
  refine zr_istore_n (L1 := [(2, zI ((M 116 a1) % 16)), (0, zRf (zad Γ) 103), (1, zI a1)]) C (zdec_at dm_X12_findBorder 6 rfl) rfl (Nat.le_of_ble_eq_true rfl) rfl ?_
  refine zr_aload_n C 1 rfl (zdec_at dm_X12_findBorder 7 rfl) rfl ?_
  refine zr_getr (q := 116) C fk_RX12_54 fi_103_31 (zdec_at dm_X12_findBorder 8 rfl) ?_
  refine zr_iload_n C 2 rfl (zdec_at dm_X12_findBorder 9 rfl) rfl ?_
  refine zr_iald C ai_116 o1 (zdec_at dm_X12_findBorder 10 rfl) ?_
  refine zr_bipush C (zdec_at dm_X12_findBorder 11 rfl) (by decide) ?_
  refine zr_idiv C (hR _ _) (by decide) ⟨o2, by decide⟩ (zdec_at dm_X12_findBorder 12 rfl) ?_
  refine zr_istore_n (L1 := [(3, zI ((M 116 a1) / 16)), (2, zI ((M 116 a1) % 16)), (0, zRf (zad Γ) 103), (1, zI a1)]) C (zdec_at dm_X12_findBorder 13 rfl) rfl (Nat.le_of_ble_eq_true rfl) rfl ?_
  refine zr_iconst C (zdec_at dm_X12_findBorder 14 rfl) ?_
  refine zr_istore (L1 := [(4, zI 0), (3, zI ((M 116 a1) / 16)), (2, zI ((M 116 a1) % 16)), (0, zRf (zad Γ) 103), (1, zI a1)]) C (zdec_at dm_X12_findBorder 15 rfl) (Nat.le_of_ble_eq_true rfl) rfl ?_
  refine zr_aload_n C 3 rfl (zdec_at dm_X12_findBorder 16 rfl) rfl ?_
  refine zr_iconst C (zdec_at dm_X12_findBorder 17 rfl) ?_
  refine zr_puti C fk_RX12_297 fi_103_38 (by decide) (zdec_at dm_X12_findBorder 18 rfl) (fun M3 e4 => ?_)
  have h := h M3 e4
  have hR5 : zRng M3 := by rw [e4]; exact hR.set (by decide) _ _
  refine zr_iconst C (zdec_at dm_X12_findBorder 19 rfl) ?_
  refine zr_istore (L1 := [(5, zI 1), (4, zI 0), (3, zI ((M 116 a1) / 16)), (2, zI ((M 116 a1) % 16)), (0, zRf (zad Γ) 103), (1, zI a1)]) C (zdec_at dm_X12_findBorder 20 rfl) (Nat.le_of_ble_eq_true rfl) rfl ?_
  obtain ⟨I31, ⟨n20, q21⟩, hI19⟩ := h
  have lp18 : ∀ (n16 : Nat) (v6 : Int) (v7 : Int) (v8 : Int) (v9 : Int) (M14 : zM), I31 v6 v7 v8 v9 M14 n16 → zin v6 → zin v7 → zin v8 → zin v9 → zRng M14 → zV Γ mu_X12_findBorder (145, 0, 0) 31 [(0, zRf (zad Γ) 103), (1, zI a1), (2, zI v6), (3, zI v7), (4, zI v8), (5, zI v9)] [] M14 := by
    intro n16
    induction n16 using Nat.strongRecOn with
    | _ n16 ih17 =>
    intro v6 v7 v8 v9 M14 q22 z10 z11 z12 z13 hR15
    have h := hI19 v6 v7 v8 v9 M14 n16 q22 z10 z11 z12 z13 hR15
    refine zr_iload C 5 rfl (zdec_at dm_X12_findBorder 21 rfl) ?_
    refine zr_if_eq C z13 (zdec_at dm_X12_findBorder 22 rfl) rfl (fun g23 => ?_) (fun g23 => ?_)
    · have h := h.1 g23
      refine zr_aload_n C 0 rfl (zdec_at dm_X12_findBorder 143 rfl) rfl ?_
      refine zr_getr (q := 119) C fk_RX12_63 fi_103_40 (zdec_at dm_X12_findBorder 144 rfl) ?_
      refine zr_aload_n C 0 rfl (zdec_at dm_X12_findBorder 145 rfl) rfl ?_
      refine zr_geti C fk_RX12_297 fi_103_38 (zdec_at dm_X12_findBorder 146 rfl) ?_
      refine zr_aload_n C 0 rfl (zdec_at dm_X12_findBorder 147 rfl) rfl ?_
      refine zr_getr (q := 119) C fk_RX12_63 fi_103_40 (zdec_at dm_X12_findBorder 148 rfl) ?_
      refine zr_iconst C (zdec_at dm_X12_findBorder 149 rfl) ?_
      refine zr_iald C ai_119 ⟨by decide, by decide⟩ (zdec_at dm_X12_findBorder 150 rfl) ?_
      obtain ⟨o24, h⟩ := h
      refine zr_iast C ai_119 o24 (hR15 _ _) (zdec_at dm_X12_findBorder 151 rfl) (fun M25 e26 => ?_)
      have h := h M25 e26
      have hR27 : zRng M25 := by rw [e26]; exact hR15.set (hR15 _ _) _ _
      refine zr_aload_n C 0 rfl (zdec_at dm_X12_findBorder 152 rfl) rfl ?_
      refine zr_getr (q := 120) C fk_RX12_66 fi_103_41 (zdec_at dm_X12_findBorder 153 rfl) ?_
      refine zr_aload_n C 0 rfl (zdec_at dm_X12_findBorder 154 rfl) rfl ?_
      refine zr_geti C fk_RX12_297 fi_103_38 (zdec_at dm_X12_findBorder 155 rfl) ?_
      refine zr_aload_n C 0 rfl (zdec_at dm_X12_findBorder 156 rfl) rfl ?_
      refine zr_getr (q := 120) C fk_RX12_66 fi_103_41 (zdec_at dm_X12_findBorder 157 rfl) ?_
      refine zr_iconst C (zdec_at dm_X12_findBorder 158 rfl) ?_
      refine zr_iald C ai_120 ⟨by decide, by decide⟩ (zdec_at dm_X12_findBorder 159 rfl) ?_
      obtain ⟨o28, h⟩ := h
      refine zr_iast C ai_120 o28 (hR27 _ _) (zdec_at dm_X12_findBorder 160 rfl) (fun M29 e30 => ?_)
      have h := h M29 e30
      have hR31 : zRng M29 := by rw [e30]; exact hR27.set (hR27 _ _) _ _
      exact zr_return C rfl rfl (zdec_at dm_X12_findBorder 161 rfl) rfl ⟨by decide, h⟩
    · have h := h.2 g23
      refine zr_aload_n C 0 rfl (zdec_at dm_X12_findBorder 23 rfl) rfl ?_
      refine zr_getr (q := 118) C fk_RX12_60 fi_103_39 (zdec_at dm_X12_findBorder 24 rfl) ?_
      refine zr_aload_n C 0 rfl (zdec_at dm_X12_findBorder 25 rfl) rfl ?_
      refine zr_geti C fk_RX12_297 fi_103_38 (zdec_at dm_X12_findBorder 26 rfl) ?_
      refine zr_iload C 4 rfl (zdec_at dm_X12_findBorder 27 rfl) ?_
      obtain ⟨o32, h⟩ := h
      refine zr_iast C ai_118 o32 z12 (zdec_at dm_X12_findBorder 28 rfl) (fun M33 e34 => ?_)
      have h := h M33 e34
      have hR35 : zRng M33 := by rw [e34]; exact hR15.set z12 _ _
      refine zr_aload_n C 0 rfl (zdec_at dm_X12_findBorder 29 rfl) rfl ?_
      refine zr_getr (q := 119) C fk_RX12_63 fi_103_40 (zdec_at dm_X12_findBorder 30 rfl) ?_
      refine zr_aload_n C 0 rfl (zdec_at dm_X12_findBorder 31 rfl) rfl ?_
      refine zr_geti C fk_RX12_297 fi_103_38 (zdec_at dm_X12_findBorder 32 rfl) ?_
      refine zr_iload_n C 2 rfl (zdec_at dm_X12_findBorder 33 rfl) rfl ?_
      obtain ⟨o36, h⟩ := h
      refine zr_iast C ai_119 o36 z10 (zdec_at dm_X12_findBorder 34 rfl) (fun M37 e38 => ?_)
      have h := h M37 e38
      have hR39 : zRng M37 := by rw [e38]; exact hR35.set z10 _ _
      refine zr_aload_n C 0 rfl (zdec_at dm_X12_findBorder 35 rfl) rfl ?_
      refine zr_getr (q := 120) C fk_RX12_66 fi_103_41 (zdec_at dm_X12_findBorder 36 rfl) ?_
      refine zr_aload_n C 0 rfl (zdec_at dm_X12_findBorder 37 rfl) rfl ?_
      refine zr_geti C fk_RX12_297 fi_103_38 (zdec_at dm_X12_findBorder 38 rfl) ?_
      refine zr_iload_n C 3 rfl (zdec_at dm_X12_findBorder 39 rfl) rfl ?_
      obtain ⟨o40, h⟩ := h
      refine zr_iast C ai_120 o40 z11 (zdec_at dm_X12_findBorder 40 rfl) (fun M41 e42 => ?_)
      have h := h M41 e42
      have hR43 : zRng M41 := by rw [e42]; exact hR39.set z11 _ _
      refine zr_aload_n C 0 rfl (zdec_at dm_X12_findBorder 41 rfl) rfl ?_
      refine zr_dup C rfl (zdec_at dm_X12_findBorder 42 rfl) ?_
      refine zr_geti C fk_RX12_297 fi_103_38 (zdec_at dm_X12_findBorder 43 rfl) ?_
      refine zr_iconst C (zdec_at dm_X12_findBorder 44 rfl) ?_
      refine zr_iadd C (zdec_at dm_X12_findBorder 45 rfl) ?_
      obtain ⟨o44, h⟩ := h
      refine zr_puti C fk_RX12_297 fi_103_38 o44 (zdec_at dm_X12_findBorder 46 rfl) (fun M45 e46 => ?_)
      have h := h M45 e46
      have hR47 : zRng M45 := by rw [e46]; exact hR43.set o44 _ _
      refine zr_iload_n C 2 rfl (zdec_at dm_X12_findBorder 47 rfl) rfl ?_
      refine zr_iload C 4 rfl (zdec_at dm_X12_findBorder 48 rfl) ?_
      have h := h (fun v48 => zin v48 → zV Γ mu_X12_findBorder (145, 0, 0) 98 [(0, zRf (zad Γ) 103), (1, zI a1), (3, zI v7), (4, zI v8)] [zI v48, zI v6] M45) (fun v48 h z49 => by
        have h := h z49
        refine zr_iadd C (zdec_at dm_X12_findBorder 58 rfl) ?_
        refine zr_istore_n (L1 := [(2, zI (v6 + v48)), (0, zRf (zad Γ) 103), (1, zI a1), (3, zI v7), (4, zI v8)]) C (zdec_at dm_X12_findBorder 59 rfl) rfl (Nat.le_of_ble_eq_true rfl) rfl ?_
        refine zr_iload_n C 3 rfl (zdec_at dm_X12_findBorder 60 rfl) rfl ?_
        refine zr_iload C 4 rfl (zdec_at dm_X12_findBorder 61 rfl) ?_
        refine zr_iconst C (zdec_at dm_X12_findBorder 62 rfl) ?_
        have h := h (fun v50 => zin v50 → zV Γ mu_X12_findBorder (145, 0, 0) 122 [(0, zRf (zad Γ) 103), (1, zI a1), (2, zI (v6 + v48)), (4, zI v8)] [zI v50, zI v7] M45) (fun v50 h z51 => by
          have h := h z51
          refine zr_iadd C (zdec_at dm_X12_findBorder 72 rfl) ?_
          refine zr_istore_n (L1 := [(3, zI (v7 + v50)), (0, zRf (zad Γ) 103), (1, zI a1), (2, zI (v6 + v48)), (4, zI v8)]) C (zdec_at dm_X12_findBorder 73 rfl) rfl (Nat.le_of_ble_eq_true rfl) rfl ?_
          refine zr_aload_n C 1 rfl (zdec_at dm_X12_findBorder 74 rfl) rfl ?_
          refine zr_geti C fk_RX12_224 fi_103_5 (zdec_at dm_X12_findBorder 75 rfl) ?_
          have h := h (fun v52 => zin v52 → zV Γ mu_X12_findBorder (145, 0, 0) 146 [(0, zRf (zad Γ) 103), (1, zI a1), (2, zI (v6 + v48)), (3, zI (v7 + v50)), (4, zI v8)] [zI v52] M45) (fun v52 h z53 => by
            have h := h z53
            refine zr_istore (L1 := [(6, zI v52), (0, zRf (zad Γ) 103), (1, zI a1), (2, zI (v6 + v48)), (3, zI (v7 + v50)), (4, zI v8)]) C (zdec_at dm_X12_findBorder 88 rfl) (Nat.le_of_ble_eq_true rfl) rfl ?_
            refine zr_aload_n C 1 rfl (zdec_at dm_X12_findBorder 89 rfl) rfl ?_
            refine zr_geti C fk_RX12_224 fi_103_5 (zdec_at dm_X12_findBorder 90 rfl) ?_
            have h := h (fun v54 => zin v54 → zV Γ mu_X12_findBorder (145, 0, 0) 170 [(0, zRf (zad Γ) 103), (1, zI a1), (2, zI (v6 + v48)), (3, zI (v7 + v50)), (4, zI v8), (6, zI v52)] [zI v54] M45) (fun v54 h z55 => by
              have h := h z55
              refine zr_istore (L1 := [(7, zI v54), (0, zRf (zad Γ) 103), (1, zI a1), (2, zI (v6 + v48)), (3, zI (v7 + v50)), (4, zI v8), (6, zI v52)]) C (zdec_at dm_X12_findBorder 103 rfl) (Nat.le_of_ble_eq_true rfl) rfl ?_
              refine zr_aload_n C 1 rfl (zdec_at dm_X12_findBorder 104 rfl) rfl ?_
              refine zr_iload_n C 2 rfl (zdec_at dm_X12_findBorder 105 rfl) rfl ?_
              refine zr_iload_n C 3 rfl (zdec_at dm_X12_findBorder 106 rfl) rfl ?_
              refine zr_iload_n C 4 rfl (zdec_at dm_X12_findBorder 107 rfl) rfl ?_
              refine zr_iload C 6 rfl (zdec_at dm_X12_findBorder 108 rfl) ?_
              obtain ⟨o56, h⟩ := h
              obtain ⟨o57, h⟩ := h
              obtain ⟨g63, h⟩ := h
              refine zr_callV C [a1, (v6 + v48), (v7 + v50), v52] hS_X12_isEdge ck_RX12_313 iv_X12_isEdge vc_X12 oc_103 rfl rfl (zdec_at dm_X12_findBorder 109 rfl) ⟨rfl, rfl, rfl, rfl⟩ ⟨by decide, by decide⟩ (Nat.le_of_ble_eq_true rfl) (zall_0 zz_a1 (zall_0 o57 (zall_0 o56 (zall_0 z53 zall_n)))) ?_
              refine ⟨_, _, _, _, rfl, g63, fun r58 M59 p62 z61 hR60 => ?_⟩
              have h := h r58 M59 p62 z61 hR60
              show zV Γ mu_X12_findBorder (145, 0, 0) 181 [(7, zI v54), (0, zRf (zad Γ) 103), (1, zI a1), (2, zI (v6 + v48)), (3, zI (v7 + v50)), (4, zI v8), (6, zI v52)] [zI r58] M59
              have h := h (fun v64 M66 => zin v64 → zRng M66 → zV Γ mu_X12_findBorder (145, 0, 0) 208 [(0, zRf (zad Γ) 103), (1, zI a1), (2, zI (v6 + v48)), (3, zI (v7 + v50))] [zI v64] M66) (fun v64 M66 h z65 hR67 => by
                have h := h z65 hR67
                refine zr_istore (L1 := [(4, zI v64), (0, zRf (zad Γ) 103), (1, zI a1), (2, zI (v6 + v48)), (3, zI (v7 + v50))]) C (zdec_at dm_X12_findBorder 123 rfl) (Nat.le_of_ble_eq_true rfl) rfl ?_
                refine zr_iload_n C 3 rfl (zdec_at dm_X12_findBorder 124 rfl) rfl ?_
                refine zr_aload_n C 1 rfl (zdec_at dm_X12_findBorder 125 rfl) rfl ?_
                refine zr_getr (q := 119) C fk_RX12_63 fi_103_40 (zdec_at dm_X12_findBorder 126 rfl) ?_
                refine zr_iconst C (zdec_at dm_X12_findBorder 127 rfl) ?_
                refine zr_iald C ai_119 ⟨by decide, by decide⟩ (zdec_at dm_X12_findBorder 128 rfl) ?_
                refine zr_icmp_ne C o57 (hR67 _ _) (zdec_at dm_X12_findBorder 129 rfl) rfl (fun g68 => ?_) (fun g68 => ?_)
                · have h := h.1 g68
                  refine zr_iconst C (zdec_at dm_X12_findBorder 138 rfl) ?_
                  refine zr_goto C (zdec_at dm_X12_findBorder 139 rfl) rfl ?_
                  refine zr_istore (L1 := [(5, zI 1), (4, zI v64), (0, zRf (zad Γ) 103), (1, zI a1), (2, zI (v6 + v48)), (3, zI (v7 + v50))]) C (zdec_at dm_X12_findBorder 141 rfl) (Nat.le_of_ble_eq_true rfl) rfl ?_
                  refine zr_goto C (zdec_at dm_X12_findBorder 142 rfl) rfl ?_
                  obtain ⟨n69, q70, q71⟩ := h
                  exact zr_sub [2, 3, 4, 5, 1, 0] rfl (ih17 n69 q70 _ _ _ _ _ q71 o57 o56 z65 (by decide) hR67)
                · have h := h.2 g68
                  refine zr_iload_n C 4 rfl (zdec_at dm_X12_findBorder 130 rfl) rfl ?_
                  refine zr_aload_n C 1 rfl (zdec_at dm_X12_findBorder 131 rfl) rfl ?_
                  refine zr_getr (q := 120) C fk_RX12_66 fi_103_41 (zdec_at dm_X12_findBorder 132 rfl) ?_
                  refine zr_iconst C (zdec_at dm_X12_findBorder 133 rfl) ?_
                  refine zr_iald C ai_120 ⟨by decide, by decide⟩ (zdec_at dm_X12_findBorder 134 rfl) ?_
                  refine zr_icmp_ne C o56 (hR67 _ _) (zdec_at dm_X12_findBorder 135 rfl) rfl (fun g72 => ?_) (fun g72 => ?_)
                  · have h := h.1 g72
                    refine zr_iconst C (zdec_at dm_X12_findBorder 138 rfl) ?_
                    refine zr_goto C (zdec_at dm_X12_findBorder 139 rfl) rfl ?_
                    refine zr_istore (L1 := [(5, zI 1), (4, zI v64), (0, zRf (zad Γ) 103), (1, zI a1), (2, zI (v6 + v48)), (3, zI (v7 + v50))]) C (zdec_at dm_X12_findBorder 141 rfl) (Nat.le_of_ble_eq_true rfl) rfl ?_
                    refine zr_goto C (zdec_at dm_X12_findBorder 142 rfl) rfl ?_
                    obtain ⟨n73, q74, q75⟩ := h
                    exact zr_sub [2, 3, 4, 5, 1, 0] rfl (ih17 n73 q74 _ _ _ _ _ q75 o57 o56 z65 (by decide) hR67)
                  · have h := h.2 g72
                    refine zr_iload C 0 rfl (zdec_at dm_X12_findBorder 136 rfl) ?_
                    refine zr_if_eq C z65 (zdec_at dm_X12_findBorder 137 rfl) rfl (fun g76 => ?_) (fun g76 => ?_)
                    · have h := h.1 g76
                      refine zr_iconst C (zdec_at dm_X12_findBorder 140 rfl) ?_
                      refine zr_istore (L1 := [(5, zI 0), (4, zI v64), (0, zRf (zad Γ) 103), (1, zI a1), (2, zI (v6 + v48)), (3, zI (v7 + v50))]) C (zdec_at dm_X12_findBorder 141 rfl) (Nat.le_of_ble_eq_true rfl) rfl ?_
                      refine zr_goto C (zdec_at dm_X12_findBorder 142 rfl) rfl ?_
                      obtain ⟨n77, q78, q79⟩ := h
                      exact zr_sub [2, 3, 4, 5, 1, 0] rfl (ih17 n77 q78 _ _ _ _ _ q79 o57 o56 z65 (by decide) hR67)
                    · have h := h.2 g76
                      refine zr_iconst C (zdec_at dm_X12_findBorder 138 rfl) ?_
                      refine zr_goto C (zdec_at dm_X12_findBorder 139 rfl) rfl ?_
                      refine zr_istore (L1 := [(5, zI 1), (4, zI v64), (0, zRf (zad Γ) 103), (1, zI a1), (2, zI (v6 + v48)), (3, zI (v7 + v50))]) C (zdec_at dm_X12_findBorder 141 rfl) (Nat.le_of_ble_eq_true rfl) rfl ?_
                      refine zr_goto C (zdec_at dm_X12_findBorder 142 rfl) rfl ?_
                      obtain ⟨n80, q81, q82⟩ := h
                      exact zr_sub [2, 3, 4, 5, 1, 0] rfl (ih17 n80 q81 _ _ _ _ _ q82 o57 o56 z65 (by decide) hR67))
              refine zr_if_eq C z61 (zdec_at dm_X12_findBorder 110 rfl) rfl (fun g83 => ?_) (fun g83 => ?_)
              · have h := h.1 g83
                refine zr_aload_n C 1 rfl (zdec_at dm_X12_findBorder 113 rfl) rfl ?_
                refine zr_iload_n C 2 rfl (zdec_at dm_X12_findBorder 114 rfl) rfl ?_
                refine zr_iload_n C 3 rfl (zdec_at dm_X12_findBorder 115 rfl) rfl ?_
                refine zr_iload_n C 4 rfl (zdec_at dm_X12_findBorder 116 rfl) rfl ?_
                refine zr_iload C 5 rfl (zdec_at dm_X12_findBorder 117 rfl) ?_
                obtain ⟨g89, h⟩ := h
                refine zr_callV C [a1, (v6 + v48), (v7 + v50), v8] hS_X12_isEdge ck_RX12_313 iv_X12_isEdge vc_X12 oc_103 rfl rfl (zdec_at dm_X12_findBorder 118 rfl) ⟨rfl, rfl, rfl, rfl⟩ ⟨by decide, by decide⟩ (Nat.le_of_ble_eq_true rfl) (zall_0 zz_a1 (zall_0 o57 (zall_0 o56 (zall_0 z12 zall_n)))) ?_
                refine ⟨_, _, _, _, rfl, g89, fun r84 M85 p88 z87 hR86 => ?_⟩
                have h := h r84 M85 p88 z87 hR86
                show zV Γ mu_X12_findBorder (145, 0, 0) 198 [(7, zI v54), (0, zRf (zad Γ) 103), (1, zI a1), (2, zI (v6 + v48)), (3, zI (v7 + v50)), (4, zI v8), (6, zI v52)] [zI r84] M85
                refine zr_if_eq C z87 (zdec_at dm_X12_findBorder 119 rfl) rfl (fun g90 => ?_) (fun g90 => ?_)
                · have h := h.1 g90
                  refine zr_iload C 0 rfl (zdec_at dm_X12_findBorder 122 rfl) ?_
                  exact zr_sub [1, 2, 3, 4] rfl (h z55 hR86)
                · have h := h.2 g90
                  refine zr_iload C 5 rfl (zdec_at dm_X12_findBorder 120 rfl) ?_
                  refine zr_goto C (zdec_at dm_X12_findBorder 121 rfl) rfl ?_
                  exact zr_sub [1, 2, 3, 4] rfl (h z12 hR86)
              · have h := h.2 g83
                refine zr_iload C 6 rfl (zdec_at dm_X12_findBorder 111 rfl) ?_
                refine zr_goto C (zdec_at dm_X12_findBorder 112 rfl) rfl ?_
                exact zr_sub [1, 2, 3, 4] rfl (h z53 hR60))
            refine zr_if_ne C (hR47 _ _) (zdec_at dm_X12_findBorder 91 rfl) rfl (fun g91 => ?_) (fun g91 => ?_)
            · have h := h.1 g91
              refine zr_iload C 5 rfl (zdec_at dm_X12_findBorder 98 rfl) ?_
              refine zr_iconst C (zdec_at dm_X12_findBorder 99 rfl) ?_
              refine zr_iadd C (zdec_at dm_X12_findBorder 100 rfl) ?_
              refine zr_iconst C (zdec_at dm_X12_findBorder 101 rfl) ?_
              obtain ⟨o92, h⟩ := h
              obtain ⟨o93, h⟩ := h
              refine zr_irem C o92 (by decide) ⟨o93, by decide⟩ (zdec_at dm_X12_findBorder 102 rfl) ?_
              exact zr_sub [1, 2, 3, 4, 5, 0] rfl (h (z_rz (a := (v8 + 1)) (b := 4) ⟨o93, by decide⟩ (by decide)))
            · have h := h.2 g91
              refine zr_iload C 5 rfl (zdec_at dm_X12_findBorder 92 rfl) ?_
              refine zr_iconst C (zdec_at dm_X12_findBorder 93 rfl) ?_
              refine zr_iadd C (zdec_at dm_X12_findBorder 94 rfl) ?_
              refine zr_iconst C (zdec_at dm_X12_findBorder 95 rfl) ?_
              obtain ⟨o94, h⟩ := h
              obtain ⟨o95, h⟩ := h
              refine zr_irem C o94 (by decide) ⟨o95, by decide⟩ (zdec_at dm_X12_findBorder 96 rfl) ?_
              refine zr_goto C (zdec_at dm_X12_findBorder 97 rfl) rfl ?_
              exact zr_sub [1, 2, 3, 4, 5, 0] rfl (h (z_rz (a := (v8 + 3)) (b := 4) ⟨o95, by decide⟩ (by decide))))
          refine zr_if_ne C (hR47 _ _) (zdec_at dm_X12_findBorder 76 rfl) rfl (fun g96 => ?_) (fun g96 => ?_)
          · have h := h.1 g96
            refine zr_iload C 4 rfl (zdec_at dm_X12_findBorder 83 rfl) ?_
            refine zr_iconst C (zdec_at dm_X12_findBorder 84 rfl) ?_
            refine zr_iadd C (zdec_at dm_X12_findBorder 85 rfl) ?_
            refine zr_iconst C (zdec_at dm_X12_findBorder 86 rfl) ?_
            obtain ⟨o97, h⟩ := h
            obtain ⟨o98, h⟩ := h
            refine zr_irem C o97 (by decide) ⟨o98, by decide⟩ (zdec_at dm_X12_findBorder 87 rfl) ?_
            exact zr_sub [1, 2, 3, 0, 4] rfl (h (z_rz (a := (v8 + 3)) (b := 4) ⟨o98, by decide⟩ (by decide)))
          · have h := h.2 g96
            refine zr_iload C 4 rfl (zdec_at dm_X12_findBorder 77 rfl) ?_
            refine zr_iconst C (zdec_at dm_X12_findBorder 78 rfl) ?_
            refine zr_iadd C (zdec_at dm_X12_findBorder 79 rfl) ?_
            refine zr_iconst C (zdec_at dm_X12_findBorder 80 rfl) ?_
            obtain ⟨o99, h⟩ := h
            obtain ⟨o100, h⟩ := h
            refine zr_irem C o99 (by decide) ⟨o100, by decide⟩ (zdec_at dm_X12_findBorder 81 rfl) ?_
            refine zr_goto C (zdec_at dm_X12_findBorder 82 rfl) rfl ?_
            exact zr_sub [1, 2, 3, 0, 4] rfl (h (z_rz (a := (v8 + 1)) (b := 4) ⟨o100, by decide⟩ (by decide))))
        refine zr_icmp_ne C z12 (by decide) (zdec_at dm_X12_findBorder 63 rfl) rfl (fun g101 => ?_) (fun g101 => ?_)
        · have h := h.1 g101
          refine zr_iload C 4 rfl (zdec_at dm_X12_findBorder 66 rfl) ?_
          refine zr_iconst C (zdec_at dm_X12_findBorder 67 rfl) ?_
          refine zr_icmp_ne C z12 (by decide) (zdec_at dm_X12_findBorder 68 rfl) rfl (fun g102 => ?_) (fun g102 => ?_)
          · have h := h.1 g102
            refine zr_iconst C (zdec_at dm_X12_findBorder 71 rfl) ?_
            exact zr_sub [1, 2, 0, 4] rfl (h (by decide))
          · have h := h.2 g102
            refine zr_iconst C (zdec_at dm_X12_findBorder 69 rfl) ?_
            refine zr_goto C (zdec_at dm_X12_findBorder 70 rfl) rfl ?_
            exact zr_sub [1, 2, 0, 4] rfl (h (by decide))
        · have h := h.2 g101
          refine zr_iconst C (zdec_at dm_X12_findBorder 64 rfl) ?_
          refine zr_goto C (zdec_at dm_X12_findBorder 65 rfl) rfl ?_
          exact zr_sub [1, 2, 0, 4] rfl (h (by decide)))
      refine zr_if_ne C z12 (zdec_at dm_X12_findBorder 49 rfl) rfl (fun g103 => ?_) (fun g103 => ?_)
      · have h := h.1 g103
        refine zr_iload C 4 rfl (zdec_at dm_X12_findBorder 52 rfl) ?_
        refine zr_iconst C (zdec_at dm_X12_findBorder 53 rfl) ?_
        refine zr_icmp_ne C z12 (by decide) (zdec_at dm_X12_findBorder 54 rfl) rfl (fun g104 => ?_) (fun g104 => ?_)
        · have h := h.1 g104
          refine zr_iconst C (zdec_at dm_X12_findBorder 57 rfl) ?_
          exact zr_sub [0, 1, 3, 4] rfl (h (by decide))
        · have h := h.2 g104
          refine zr_iconst C (zdec_at dm_X12_findBorder 55 rfl) ?_
          refine zr_goto C (zdec_at dm_X12_findBorder 56 rfl) rfl ?_
          exact zr_sub [0, 1, 3, 4] rfl (h (by decide))
      · have h := h.2 g103
        refine zr_iconst C (zdec_at dm_X12_findBorder 50 rfl) ?_
        refine zr_goto C (zdec_at dm_X12_findBorder 51 rfl) rfl ?_
        exact zr_sub [0, 1, 3, 4] rfl (h (by decide))
  exact zr_sub [4, 5, 3, 2, 1, 0] rfl (lp18 n20 _ _ _ _ _ q21 (z_rz (a := (M 116 a1)) (b := 16) ⟨o2, by decide⟩ (by decide)) (z_dz2 (a := (M 116 a1)) (b := 16) ⟨o2, by decide⟩ (hR _ _)) (by decide) (by decide) hR5)

set_option maxHeartbeats 400000 in
set_option maxRecDepth 100000 in
theorem sn_X12_turnAt : zSnd zS 145 0 0 yX12_turnAt cX12_turnAt 3 (some .int) 0 [2, 0] (fun xs P M => ∃ a1 : Int, xs = [103, a1] ∧ vc_X12_turnAt a1 P M) := by
  refine zSnd.of rfl (fun ad xs hz => Nat.le_trans (Nat.le_of_eq (zlen ad _ xs hz)) (by decide)) ?_
  intro Γ C _ _ xs M hz hF
  obtain ⟨a1, rfl, h⟩ := hF
  have zz_a1 := zall_h (zall_t hz) (by decide)
  refine zr_rng (fun hR => ?_)
  have C : zC Γ mu_X12_turnAt := C
  change zV Γ mu_X12_turnAt (145, 0, 0) 0 [(0, zRf (zad Γ) 103), (1, zI a1)] [] M
  change vc_X12_turnAt a1 _ M at h
  unfold vc_X12_turnAt at h
  refine zr_aload_n C 0 rfl (zdec_at dm_X12_turnAt 0 rfl) rfl ?_
  refine zr_getr (q := 118) C fk_RX12_60 fi_103_39 (zdec_at dm_X12_turnAt 1 rfl) ?_
  refine zr_iload_n C 1 rfl (zdec_at dm_X12_turnAt 2 rfl) rfl ?_
  obtain ⟨o1, h⟩ := h
  refine zr_iald C ai_118 o1 (zdec_at dm_X12_turnAt 3 rfl) ?_
  refine zr_aload_n C 0 rfl (zdec_at dm_X12_turnAt 4 rfl) rfl ?_
  refine zr_getr (q := 118) C fk_RX12_60 fi_103_39 (zdec_at dm_X12_turnAt 5 rfl) ?_
  refine zr_iload_n C 1 rfl (zdec_at dm_X12_turnAt 6 rfl) rfl ?_
  have h := h (fun v2 => zin v2 → zV Γ mu_X12_turnAt (145, 0, 0) 26 [] [zI v2, zRf (zad Γ) 118, zI (M 118 a1)] M) (fun v2 h z3 => by
    have h := h z3
    obtain ⟨o4, h⟩ := h
    refine zr_iald C ai_118 o4 (zdec_at dm_X12_turnAt 16 rfl) ?_
    refine zr_isub C (zdec_at dm_X12_turnAt 17 rfl) ?_
    refine zr_iconst C (zdec_at dm_X12_turnAt 18 rfl) ?_
    refine zr_iadd C (zdec_at dm_X12_turnAt 19 rfl) ?_
    refine zr_iconst C (zdec_at dm_X12_turnAt 20 rfl) ?_
    obtain ⟨o5, h⟩ := h
    obtain ⟨o6, h⟩ := h
    refine zr_irem C o5 (by decide) ⟨o6, by decide⟩ (zdec_at dm_X12_turnAt 21 rfl) ?_
    refine zr_istore_n (L1 := [(2, zI ((((M 118 a1) - (M 118 v2)) + 4) % 4))]) C (zdec_at dm_X12_turnAt 22 rfl) rfl (Nat.le_of_ble_eq_true rfl) rfl ?_
    refine zr_iload_n C 0 rfl (zdec_at dm_X12_turnAt 23 rfl) rfl ?_
    refine zr_iconst C (zdec_at dm_X12_turnAt 24 rfl) ?_
    refine zr_icmp_ne C (z_rz (a := (((M 118 a1) - (M 118 v2)) + 4)) (b := 4) ⟨o6, by decide⟩ (by decide)) (by decide) (zdec_at dm_X12_turnAt 25 rfl) rfl (fun g7 => ?_) (fun g7 => ?_)
    · have h := h.1 g7
      refine zr_iload_n C 0 rfl (zdec_at dm_X12_turnAt 28 rfl) rfl ?_
      refine zr_iconst C (zdec_at dm_X12_turnAt 29 rfl) ?_
      refine zr_icmp_ne C (z_rz (a := (((M 118 a1) - (M 118 v2)) + 4)) (b := 4) ⟨o6, by decide⟩ (by decide)) (by decide) (zdec_at dm_X12_turnAt 30 rfl) rfl (fun g8 => ?_) (fun g8 => ?_)
      · have h := h.1 g8
        refine zr_iconst C (zdec_at dm_X12_turnAt 33 rfl) ?_
        exact zr_ireturn C rfl (zdec_at dm_X12_turnAt 34 rfl) rfl ⟨(by decide), h⟩
      · have h := h.2 g8
        refine zr_iconst C (zdec_at dm_X12_turnAt 31 rfl) ?_
        refine zr_goto C (zdec_at dm_X12_turnAt 32 rfl) rfl ?_
        exact zr_ireturn C rfl (zdec_at dm_X12_turnAt 34 rfl) rfl ⟨(by decide), h⟩
    · have h := h.2 g7
      refine zr_iconst C (zdec_at dm_X12_turnAt 26 rfl) ?_
      refine zr_goto C (zdec_at dm_X12_turnAt 27 rfl) rfl ?_
      exact zr_ireturn C rfl (zdec_at dm_X12_turnAt 34 rfl) rfl ⟨(by decide), h⟩)
  refine zr_if_ne C zz_a1 (zdec_at dm_X12_turnAt 7 rfl) rfl (fun g9 => ?_) (fun g9 => ?_)
  · have h := h.1 g9
    refine zr_iload_n C 1 rfl (zdec_at dm_X12_turnAt 13 rfl) rfl ?_
    refine zr_iconst C (zdec_at dm_X12_turnAt 14 rfl) ?_
    refine zr_isub C (zdec_at dm_X12_turnAt 15 rfl) ?_
    obtain ⟨o10, h⟩ := h
    exact zr_sub [] rfl (h o10)
  · have h := h.2 g9
    refine zr_aload_n C 0 rfl (zdec_at dm_X12_turnAt 8 rfl) rfl ?_
    refine zr_geti C fk_RX12_297 fi_103_38 (zdec_at dm_X12_turnAt 9 rfl) ?_
    refine zr_iconst C (zdec_at dm_X12_turnAt 10 rfl) ?_
    refine zr_isub C (zdec_at dm_X12_turnAt 11 rfl) ?_
    refine zr_goto C (zdec_at dm_X12_turnAt 12 rfl) rfl ?_
    obtain ⟨o11, h⟩ := h
    exact zr_sub [] rfl (h o11)

set_option maxHeartbeats 400000 in
set_option maxRecDepth 100000 in
theorem sn_X12_step {pr_X12_isFace : Int → zM → Prop} {po_X12_isFace : Int → zM → Int → zM → Prop} {pr_X12_in : Int → Int → Int → zM → Prop} {po_X12_in : Int → Int → Int → zM → Int → zM → Prop} {pr_X12_findBorder : Int → zM → Prop} {po_X12_findBorder : Int → zM → zM → Prop} {pr_X12_turnAt : Int → zM → Prop} {po_X12_turnAt : Int → zM → Int → zM → Prop} (hS_X12_isFace : zSnd zS 145 0 0 yX12_isFace cX12_isFace 2 (some .boolean) 3 [2, 0] (F_X12_isFace pr_X12_isFace po_X12_isFace)) (hS_X12_in : zSnd zS 145 0 0 yX12_in cX12_in 6 (some .boolean) 0 [1, 1, 1] (F_X12_in pr_X12_in po_X12_in)) (hS_X12_findBorder : zSnd zS 145 0 0 yX12_findBorder cX12_findBorder 8 none 2 [2, 0] (F_X12_findBorder pr_X12_findBorder po_X12_findBorder)) (hS_X12_turnAt : zSnd zS 145 0 0 yX12_turnAt cX12_turnAt 3 (some .int) 0 [2, 0] (F_X12_turnAt pr_X12_turnAt po_X12_turnAt)) : zSnd zS 145 0 0 yX12_step cX12_step 4 (some .int) 4 [2, 0, 0, 0] (fun xs P M => ∃ a1 a2 a3 : Int, xs = [103, a1, a2, a3] ∧ vc_X12_step pr_X12_isFace po_X12_isFace pr_X12_in po_X12_in pr_X12_findBorder po_X12_findBorder pr_X12_turnAt po_X12_turnAt a1 a2 a3 P M) := by
  refine zSnd.of rfl (fun ad xs hz => Nat.le_trans (Nat.le_of_eq (zlen ad _ xs hz)) (by decide)) ?_
  intro Γ C _ _ xs M hz hF
  obtain ⟨a1, a2, a3, rfl, h⟩ := hF
  have zz_a1 := zall_h (zall_t hz) (by decide)
  have zz_a2 := zall_h (zall_t (zall_t hz)) (by decide)
  have zz_a3 := zall_h (zall_t (zall_t (zall_t hz))) (by decide)
  refine zr_rng (fun hR => ?_)
  have C : zC Γ mu_X12_step := C
  change zV Γ mu_X12_step (145, 0, 0) 0 [(0, zRf (zad Γ) 103), (1, zI a1), (2, zI a2), (3, zI a3)] [] M
  change vc_X12_step pr_X12_isFace po_X12_isFace pr_X12_in po_X12_in pr_X12_findBorder po_X12_findBorder pr_X12_turnAt po_X12_turnAt a1 a2 a3 _ M at h
  unfold vc_X12_step at h
  refine zr_aload_n C 0 rfl (zdec_at dm_X12_step 0 rfl) rfl ?_
  refine zr_iconst C (zdec_at dm_X12_step 1 rfl) ?_
  refine zr_puti C fk_RX12_140 fi_103_0 (by decide) (zdec_at dm_X12_step 2 rfl) (fun M1 e2 => ?_)
  have h := h M1 e2
  have hR3 : zRng M1 := by rw [e2]; exact hR.set (by decide) _ _
  refine zr_aload_n C 0 rfl (zdec_at dm_X12_step 3 rfl) rfl ?_
  refine zr_iload_n C 1 rfl (zdec_at dm_X12_step 4 rfl) rfl ?_
  obtain ⟨g9, h⟩ := h
  refine zr_callV C [a1] hS_X12_isFace ck_RX12_300 iv_X12_isFace vc_X12 oc_103 rfl rfl (zdec_at dm_X12_step 5 rfl) ⟨rfl, rfl, rfl, rfl⟩ ⟨by decide, by decide⟩ (Nat.le_of_ble_eq_true rfl) (zall_0 zz_a1 zall_n) ?_
  refine ⟨_, rfl, g9, fun r4 M5 p8 z7 hR6 => ?_⟩
  have h := h r4 M5 p8 z7 hR6
  show zV Γ mu_X12_step (145, 0, 0) 10 [(0, zRf (zad Γ) 103), (1, zI a1), (2, zI a2), (3, zI a3)] [zI r4] M5
  refine zr_if_eq C z7 (zdec_at dm_X12_step 6 rfl) rfl (fun g10 => ?_) (fun g10 => ?_)
  · have h := h.1 g10
    refine zr_iconst C (zdec_at dm_X12_step 13 rfl) ?_
    exact zr_ireturn C rfl (zdec_at dm_X12_step 14 rfl) rfl ⟨(by decide), h⟩
  · have h := h.2 g10
    refine zr_iload_n C 3 rfl (zdec_at dm_X12_step 7 rfl) rfl ?_
    refine zr_i2l C zz_a3 (zdec_at dm_X12_step 8 rfl) ?_
    refine zr_lconst (v := 0) C (zdec_at dm_X12_step 9 rfl) rfl ?_
    refine zr_ldc2 C (zdec_at dm_X12_step 10 rfl) kc_RX12_317 ?_
    obtain ⟨g16, h⟩ := h
    refine zr_callS C [a3, 0, 3] hS_X12_in ck_RX12_156 sv_X12_in rfl rfl (zdec_at dm_X12_step 11 rfl) ⟨rfl, rfl, rfl, rfl⟩ ⟨by decide, by decide⟩ (Nat.le_of_ble_eq_true rfl) (zall_1 zz_a3 (zall_1 (by decide) (zall_1 (by decide) zall_n))) ?_
    refine ⟨_, _, _, rfl, g16, fun r11 M12 p15 z14 hR13 => ?_⟩
    have h := h r11 M12 p15 z14 hR13
    show zV Γ mu_X12_step (145, 0, 0) 22 [(0, zRf (zad Γ) 103), (1, zI a1), (2, zI a2), (3, zI a3)] [zI r11] M12
    refine zr_if_ne C z14 (zdec_at dm_X12_step 12 rfl) rfl (fun g17 => ?_) (fun g17 => ?_)
    · have h := h.1 g17
      refine zr_aload_n C 0 rfl (zdec_at dm_X12_step 15 rfl) rfl ?_
      refine zr_iload_n C 1 rfl (zdec_at dm_X12_step 16 rfl) rfl ?_
      obtain ⟨g22, h⟩ := h
      refine zr_callV C [a1] hS_X12_findBorder ck_RX12_294 iv_X12_findBorder vc_X12 oc_103 rfl rfl (zdec_at dm_X12_step 17 rfl) ⟨rfl, rfl, rfl, rfl⟩ ⟨by decide, by decide⟩ (Nat.le_of_ble_eq_true rfl) (zall_0 zz_a1 zall_n) ?_
      refine ⟨_, rfl, g22, fun M18 p21 _ hR19 => ?_⟩
      have h := h M18 p21 hR19
      show zV Γ mu_X12_step (145, 0, 0) 32 [(0, zRf (zad Γ) 103), (1, zI a1), (2, zI a2), (3, zI a3)] [] M18
      refine zr_iload_n C 2 rfl (zdec_at dm_X12_step 18 rfl) rfl ?_
      refine zr_i2l C zz_a2 (zdec_at dm_X12_step 19 rfl) ?_
      refine zr_lconst (v := 0) C (zdec_at dm_X12_step 20 rfl) rfl ?_
      refine zr_aload_n C 0 rfl (zdec_at dm_X12_step 21 rfl) rfl ?_
      refine zr_geti C fk_RX12_297 fi_103_38 (zdec_at dm_X12_step 22 rfl) ?_
      refine zr_iconst C (zdec_at dm_X12_step 23 rfl) ?_
      refine zr_isub C (zdec_at dm_X12_step 24 rfl) ?_
      obtain ⟨o23, h⟩ := h
      refine zr_i2l C o23 (zdec_at dm_X12_step 25 rfl) ?_
      obtain ⟨g29, h⟩ := h
      refine zr_callS C [a2, 0, ((M18 103 38) - 1)] hS_X12_in ck_RX12_156 sv_X12_in rfl rfl (zdec_at dm_X12_step 26 rfl) ⟨rfl, rfl, rfl, rfl⟩ ⟨by decide, by decide⟩ (Nat.le_of_ble_eq_true rfl) (zall_1 zz_a2 (zall_1 (by decide) (zall_1 o23 zall_n))) ?_
      refine ⟨_, _, _, rfl, g29, fun r24 M25 p28 z27 hR26 => ?_⟩
      have h := h r24 M25 p28 z27 hR26
      show zV Γ mu_X12_step (145, 0, 0) 45 [(0, zRf (zad Γ) 103), (1, zI a1), (2, zI a2), (3, zI a3)] [zI r24] M25
      refine zr_if_ne C z27 (zdec_at dm_X12_step 27 rfl) rfl (fun g30 => ?_) (fun g30 => ?_)
      · have h := h.1 g30
        refine zr_iload_n C 3 rfl (zdec_at dm_X12_step 30 rfl) rfl ?_
        refine zr_if_ne C zz_a3 (zdec_at dm_X12_step 31 rfl) rfl (fun g31 => ?_) (fun g31 => ?_)
        · have h := h.1 g31
          refine zr_iload_n C 3 rfl (zdec_at dm_X12_step 37 rfl) rfl ?_
          refine zr_iconst C (zdec_at dm_X12_step 38 rfl) ?_
          refine zr_icmp_ne C zz_a3 (by decide) (zdec_at dm_X12_step 39 rfl) rfl (fun g32 => ?_) (fun g32 => ?_)
          · have h := h.1 g32
            refine zr_iload_n C 3 rfl (zdec_at dm_X12_step 45 rfl) rfl ?_
            refine zr_iconst C (zdec_at dm_X12_step 46 rfl) ?_
            refine zr_icmp_ne C zz_a3 (by decide) (zdec_at dm_X12_step 47 rfl) rfl (fun g33 => ?_) (fun g33 => ?_)
            · have h := h.1 g33
              refine zr_aload_n C 0 rfl (zdec_at dm_X12_step 53 rfl) rfl ?_
              refine zr_iload_n C 2 rfl (zdec_at dm_X12_step 54 rfl) rfl ?_
              obtain ⟨g39, h⟩ := h
              refine zr_callV C [a2] hS_X12_turnAt ck_RX12_319 iv_X12_turnAt vc_X12 oc_103 rfl rfl (zdec_at dm_X12_step 55 rfl) ⟨rfl, rfl, rfl, rfl⟩ ⟨by decide, by decide⟩ (Nat.le_of_ble_eq_true rfl) (zall_0 zz_a2 zall_n) ?_
              refine ⟨_, rfl, g39, fun r34 M35 p38 z37 hR36 => ?_⟩
              have h := h r34 M35 p38 z37 hR36
              show zV Γ mu_X12_step (145, 0, 0) 96 [(0, zRf (zad Γ) 103), (1, zI a1), (2, zI a2), (3, zI a3)] [zI r34] M35
              refine zr_iconst C (zdec_at dm_X12_step 56 rfl) ?_
              refine zr_iadd C (zdec_at dm_X12_step 57 rfl) ?_
              obtain ⟨o40, h⟩ := h
              exact zr_ireturn C rfl (zdec_at dm_X12_step 58 rfl) rfl ⟨o40, h⟩
            · have h := h.2 g33
              refine zr_aload_n C 0 rfl (zdec_at dm_X12_step 48 rfl) rfl ?_
              refine zr_getr (q := 120) C fk_RX12_66 fi_103_41 (zdec_at dm_X12_step 49 rfl) ?_
              refine zr_iload_n C 2 rfl (zdec_at dm_X12_step 50 rfl) rfl ?_
              obtain ⟨o41, h⟩ := h
              refine zr_iald C ai_120 o41 (zdec_at dm_X12_step 51 rfl) ?_
              refine zr_goto C (zdec_at dm_X12_step 52 rfl) rfl ?_
              exact zr_ireturn C rfl (zdec_at dm_X12_step 58 rfl) rfl ⟨(hR26 _ _), h⟩
          · have h := h.2 g32
            refine zr_aload_n C 0 rfl (zdec_at dm_X12_step 40 rfl) rfl ?_
            refine zr_getr (q := 119) C fk_RX12_63 fi_103_40 (zdec_at dm_X12_step 41 rfl) ?_
            refine zr_iload_n C 2 rfl (zdec_at dm_X12_step 42 rfl) rfl ?_
            obtain ⟨o42, h⟩ := h
            refine zr_iald C ai_119 o42 (zdec_at dm_X12_step 43 rfl) ?_
            refine zr_goto C (zdec_at dm_X12_step 44 rfl) rfl ?_
            exact zr_ireturn C rfl (zdec_at dm_X12_step 58 rfl) rfl ⟨(hR26 _ _), h⟩
        · have h := h.2 g31
          refine zr_aload_n C 0 rfl (zdec_at dm_X12_step 32 rfl) rfl ?_
          refine zr_getr (q := 118) C fk_RX12_60 fi_103_39 (zdec_at dm_X12_step 33 rfl) ?_
          refine zr_iload_n C 2 rfl (zdec_at dm_X12_step 34 rfl) rfl ?_
          obtain ⟨o43, h⟩ := h
          refine zr_iald C ai_118 o43 (zdec_at dm_X12_step 35 rfl) ?_
          refine zr_goto C (zdec_at dm_X12_step 36 rfl) rfl ?_
          exact zr_ireturn C rfl (zdec_at dm_X12_step 58 rfl) rfl ⟨(hR26 _ _), h⟩
      · have h := h.2 g30
        refine zr_iconst C (zdec_at dm_X12_step 28 rfl) ?_
        exact zr_ireturn C rfl (zdec_at dm_X12_step 29 rfl) rfl ⟨(by decide), h⟩
    · have h := h.2 g17
      refine zr_iconst C (zdec_at dm_X12_step 13 rfl) ?_
      exact zr_ireturn C rfl (zdec_at dm_X12_step 14 rfl) rfl ⟨(by decide), h⟩

set_option maxHeartbeats 400000 in
set_option maxRecDepth 100000 in
theorem sn_X12_findTurns {pr_X12_turnAt : Int → zM → Prop} {po_X12_turnAt : Int → zM → Int → zM → Prop} (hS_X12_turnAt : zSnd zS 145 0 0 yX12_turnAt cX12_turnAt 3 (some .int) 0 [2, 0] (F_X12_turnAt pr_X12_turnAt po_X12_turnAt)) : zSnd zS 145 0 0 yX12_findTurns cX12_findTurns 2 none 1 [2] (fun xs P M => xs = [103] ∧ vc_X12_findTurns pr_X12_turnAt po_X12_turnAt P M) := by
  refine zSnd.of rfl (fun ad xs hz => Nat.le_trans (Nat.le_of_eq (zlen ad _ xs hz)) (by decide)) ?_
  intro Γ C _ _ xs M hz hF
  obtain ⟨rfl, h⟩ := hF
  refine zr_rng (fun hR => ?_)
  have C : zC Γ mu_X12_findTurns := C
  change zV Γ mu_X12_findTurns (145, 0, 0) 0 [(0, zRf (zad Γ) 103)] [] M
  change vc_X12_findTurns pr_X12_turnAt po_X12_turnAt _ M at h
  unfold vc_X12_findTurns at h
  refine zr_aload_n C 0 rfl (zdec_at dm_X12_findTurns 0 rfl) rfl ?_
  refine zr_iconst C (zdec_at dm_X12_findTurns 1 rfl) ?_
  refine zr_puti C fk_RX12_322 fi_103_42 (by decide) (zdec_at dm_X12_findTurns 2 rfl) (fun M1 e2 => ?_)
  have h := h M1 e2
  have hR3 : zRng M1 := by rw [e2]; exact hR.set (by decide) _ _
  refine zr_iconst C (zdec_at dm_X12_findTurns 3 rfl) ?_
  refine zr_istore_n (L1 := [(1, zI 0), (0, zRf (zad Γ) 103)]) C (zdec_at dm_X12_findTurns 4 rfl) rfl (Nat.le_of_ble_eq_true rfl) rfl ?_
  obtain ⟨I7, ⟨n12, q13⟩, hI11⟩ := h
  have lp10 : ∀ (n8 : Nat) (v4 : Int) (M6 : zM), I7 v4 M6 n8 → zin v4 → zRng M6 → zV Γ mu_X12_findTurns (145, 0, 0) 7 [(0, zRf (zad Γ) 103), (1, zI v4)] [] M6 := by
    intro n8
    induction n8 using Nat.strongRecOn with
    | _ n8 ih9 =>
    intro v4 M6 q14 z5 hR7
    have h := hI11 v4 M6 n8 q14 z5 hR7
    refine zr_iload_n C 1 rfl (zdec_at dm_X12_findTurns 5 rfl) rfl ?_
    refine zr_aload_n C 0 rfl (zdec_at dm_X12_findTurns 6 rfl) rfl ?_
    refine zr_geti C fk_RX12_297 fi_103_38 (zdec_at dm_X12_findTurns 7 rfl) ?_
    refine zr_icmp_ge C z5 (hR7 _ _) (zdec_at dm_X12_findTurns 8 rfl) rfl (fun g15 => ?_) (fun g15 => ?_)
    · have h := h.1 g15
      exact zr_return C rfl rfl (zdec_at dm_X12_findTurns 35 rfl) rfl ⟨by decide, h⟩
    · have h := h.2 g15
      refine zr_aload_n C 0 rfl (zdec_at dm_X12_findTurns 9 rfl) rfl ?_
      refine zr_iload_n C 1 rfl (zdec_at dm_X12_findTurns 10 rfl) rfl ?_
      obtain ⟨g21, h⟩ := h
      refine zr_callV C [v4] hS_X12_turnAt ck_RX12_319 iv_X12_turnAt vc_X12 oc_103 rfl rfl (zdec_at dm_X12_findTurns 11 rfl) ⟨rfl, rfl, rfl, rfl⟩ ⟨by decide, by decide⟩ (Nat.le_of_ble_eq_true rfl) (zall_0 z5 zall_n) ?_
      refine ⟨_, rfl, g21, fun r16 M17 p20 z19 hR18 => ?_⟩
      have h := h r16 M17 p20 z19 hR18
      show zV Γ mu_X12_findTurns (145, 0, 0) 20 [(0, zRf (zad Γ) 103), (1, zI v4)] [zI r16] M17
      refine zr_if_eq C z19 (zdec_at dm_X12_findTurns 12 rfl) rfl (fun g22 => ?_) (fun g22 => ?_)
      · have h := h.1 g22
        refine zr_iinc (L1 := [(1, zI (v4 + 1)), (0, zRf (zad Γ) 103)]) C 1 rfl (zdec_at dm_X12_findTurns 33 rfl) (Nat.le_of_ble_eq_true rfl) rfl ?_
        refine zr_goto C (zdec_at dm_X12_findTurns 34 rfl) rfl ?_
        obtain ⟨o23, h⟩ := h
        obtain ⟨n24, q25, q26⟩ := h
        exact zr_sub [1, 0] rfl (ih9 n24 q25 _ _ q26 o23 hR18)
      · have h := h.2 g22
        refine zr_aload_n C 0 rfl (zdec_at dm_X12_findTurns 13 rfl) rfl ?_
        refine zr_getr (q := 121) C fk_RX12_69 fi_103_43 (zdec_at dm_X12_findTurns 14 rfl) ?_
        refine zr_aload_n C 0 rfl (zdec_at dm_X12_findTurns 15 rfl) rfl ?_
        refine zr_geti C fk_RX12_322 fi_103_42 (zdec_at dm_X12_findTurns 16 rfl) ?_
        refine zr_iload_n C 1 rfl (zdec_at dm_X12_findTurns 17 rfl) rfl ?_
        obtain ⟨o27, h⟩ := h
        refine zr_iast C ai_121 o27 z5 (zdec_at dm_X12_findTurns 18 rfl) (fun M28 e29 => ?_)
        have h := h M28 e29
        have hR30 : zRng M28 := by rw [e29]; exact hR18.set z5 _ _
        refine zr_aload_n C 0 rfl (zdec_at dm_X12_findTurns 19 rfl) rfl ?_
        refine zr_getr (q := 122) C fk_RX12_72 fi_103_44 (zdec_at dm_X12_findTurns 20 rfl) ?_
        refine zr_aload_n C 0 rfl (zdec_at dm_X12_findTurns 21 rfl) rfl ?_
        refine zr_geti C fk_RX12_322 fi_103_42 (zdec_at dm_X12_findTurns 22 rfl) ?_
        refine zr_aload_n C 0 rfl (zdec_at dm_X12_findTurns 23 rfl) rfl ?_
        refine zr_iload_n C 1 rfl (zdec_at dm_X12_findTurns 24 rfl) rfl ?_
        obtain ⟨g36, h⟩ := h
        refine zr_callV C [v4] hS_X12_turnAt ck_RX12_319 iv_X12_turnAt vc_X12 oc_103 rfl rfl (zdec_at dm_X12_findTurns 25 rfl) ⟨rfl, rfl, rfl, rfl⟩ ⟨by decide, by decide⟩ (Nat.le_of_ble_eq_true rfl) (zall_0 z5 zall_n) ?_
        refine ⟨_, rfl, g36, fun r31 M32 p35 z34 hR33 => ?_⟩
        have h := h r31 M32 p35 z34 hR33
        show zV Γ mu_X12_findTurns (145, 0, 0) 46 [(0, zRf (zad Γ) 103), (1, zI v4)] [zI r31, zI (M28 103 42), zRf (zad Γ) 122] M32
        obtain ⟨o37, h⟩ := h
        refine zr_iast C ai_122 o37 z34 (zdec_at dm_X12_findTurns 26 rfl) (fun M38 e39 => ?_)
        have h := h M38 e39
        have hR40 : zRng M38 := by rw [e39]; exact hR33.set z34 _ _
        refine zr_aload_n C 0 rfl (zdec_at dm_X12_findTurns 27 rfl) rfl ?_
        refine zr_dup C rfl (zdec_at dm_X12_findTurns 28 rfl) ?_
        refine zr_geti C fk_RX12_322 fi_103_42 (zdec_at dm_X12_findTurns 29 rfl) ?_
        refine zr_iconst C (zdec_at dm_X12_findTurns 30 rfl) ?_
        refine zr_iadd C (zdec_at dm_X12_findTurns 31 rfl) ?_
        obtain ⟨o41, h⟩ := h
        refine zr_puti C fk_RX12_322 fi_103_42 o41 (zdec_at dm_X12_findTurns 32 rfl) (fun M42 e43 => ?_)
        have h := h M42 e43
        have hR44 : zRng M42 := by rw [e43]; exact hR40.set o41 _ _
        refine zr_iinc (L1 := [(1, zI (v4 + 1)), (0, zRf (zad Γ) 103)]) C 1 rfl (zdec_at dm_X12_findTurns 33 rfl) (Nat.le_of_ble_eq_true rfl) rfl ?_
        refine zr_goto C (zdec_at dm_X12_findTurns 34 rfl) rfl ?_
        obtain ⟨o45, h⟩ := h
        obtain ⟨n46, q47, q48⟩ := h
        exact zr_sub [1, 0] rfl (ih9 n46 q47 _ _ q48 o45 hR44)
  exact zr_sub [1, 0] rfl (lp10 n12 _ _ q13 (by decide) hR3)

set_option maxHeartbeats 400000 in
set_option maxRecDepth 100000 in
theorem sn_X12_costOf : zSnd zS 145 0 0 yX12_costOf cX12_costOf 5 (some .int) 0 [2, 0, 0, 0, 0] (fun xs P M => ∃ a1 a2 a3 a4 : Int, xs = [103, a1, a2, a3, a4] ∧ vc_X12_costOf a1 a2 a3 a4 P M) := by
  refine zSnd.of rfl (fun ad xs hz => Nat.le_trans (Nat.le_of_eq (zlen ad _ xs hz)) (by decide)) ?_
  intro Γ C _ _ xs M hz hF
  obtain ⟨a1, a2, a3, a4, rfl, h⟩ := hF
  have zz_a1 := zall_h (zall_t hz) (by decide)
  have zz_a2 := zall_h (zall_t (zall_t hz)) (by decide)
  have zz_a3 := zall_h (zall_t (zall_t (zall_t hz))) (by decide)
  have zz_a4 := zall_h (zall_t (zall_t (zall_t (zall_t hz)))) (by decide)
  refine zr_rng (fun hR => ?_)
  have C : zC Γ mu_X12_costOf := C
  change zV Γ mu_X12_costOf (145, 0, 0) 0 [(0, zRf (zad Γ) 103), (1, zI a1), (2, zI a2), (3, zI a3), (4, zI a4)] [] M
  change vc_X12_costOf a1 a2 a3 a4 _ M at h
  unfold vc_X12_costOf at h
  refine zr_iload_n C 2 rfl (zdec_at dm_X12_costOf 0 rfl) rfl ?_
  refine zr_iconst C (zdec_at dm_X12_costOf 1 rfl) ?_
  refine zr_icmp_ne C zz_a2 (by decide) (zdec_at dm_X12_costOf 2 rfl) rfl (fun g1 => ?_) (fun g1 => ?_)
  · have h := h.1 g1
    refine zr_bipush C (zdec_at dm_X12_costOf 10 rfl) (by decide) ?_
    refine zr_iload_n C 3 rfl (zdec_at dm_X12_costOf 11 rfl) rfl ?_
    refine zr_if_ne C zz_a3 (zdec_at dm_X12_costOf 12 rfl) rfl (fun g2 => ?_) (fun g2 => ?_)
    · have h := h.1 g2
      refine zr_iconst C (zdec_at dm_X12_costOf 29 rfl) ?_
      refine zr_iadd C (zdec_at dm_X12_costOf 30 rfl) ?_
      obtain ⟨o3, h⟩ := h
      exact zr_ireturn C rfl (zdec_at dm_X12_costOf 31 rfl) rfl ⟨o3, h⟩
    · have h := h.2 g2
      refine zr_aload_n C 0 rfl (zdec_at dm_X12_costOf 13 rfl) rfl ?_
      refine zr_getr (q := 122) C fk_RX12_72 fi_103_44 (zdec_at dm_X12_costOf 14 rfl) ?_
      refine zr_iload_n C 1 rfl (zdec_at dm_X12_costOf 15 rfl) rfl ?_
      obtain ⟨o4, h⟩ := h
      refine zr_iald C ai_122 o4 (zdec_at dm_X12_costOf 16 rfl) ?_
      refine zr_aload_n C 0 rfl (zdec_at dm_X12_costOf 17 rfl) rfl ?_
      refine zr_getr (q := 122) C fk_RX12_72 fi_103_44 (zdec_at dm_X12_costOf 18 rfl) ?_
      refine zr_iload_n C 1 rfl (zdec_at dm_X12_costOf 19 rfl) rfl ?_
      refine zr_iconst C (zdec_at dm_X12_costOf 20 rfl) ?_
      refine zr_iadd C (zdec_at dm_X12_costOf 21 rfl) ?_
      refine zr_aload_n C 0 rfl (zdec_at dm_X12_costOf 22 rfl) rfl ?_
      refine zr_geti C fk_RX12_322 fi_103_42 (zdec_at dm_X12_costOf 23 rfl) ?_
      obtain ⟨o5, h⟩ := h
      obtain ⟨o6, h⟩ := h
      refine zr_irem C o5 (hR _ _) o6 (zdec_at dm_X12_costOf 24 rfl) ?_
      obtain ⟨o7, h⟩ := h
      refine zr_iald C ai_122 o7 (zdec_at dm_X12_costOf 25 rfl) ?_
      refine zr_icmp_ne C (hR _ _) (hR _ _) (zdec_at dm_X12_costOf 26 rfl) rfl (fun g8 => ?_) (fun g8 => ?_)
      · have h := h.1 g8
        refine zr_iconst C (zdec_at dm_X12_costOf 29 rfl) ?_
        refine zr_iadd C (zdec_at dm_X12_costOf 30 rfl) ?_
        obtain ⟨o9, h⟩ := h
        exact zr_ireturn C rfl (zdec_at dm_X12_costOf 31 rfl) rfl ⟨o9, h⟩
      · have h := h.2 g8
        refine zr_bipush C (zdec_at dm_X12_costOf 27 rfl) (by decide) ?_
        refine zr_goto C (zdec_at dm_X12_costOf 28 rfl) rfl ?_
        refine zr_iadd C (zdec_at dm_X12_costOf 30 rfl) ?_
        obtain ⟨o10, h⟩ := h
        exact zr_ireturn C rfl (zdec_at dm_X12_costOf 31 rfl) rfl ⟨o10, h⟩
  · have h := h.2 g1
    refine zr_iload_n C 3 rfl (zdec_at dm_X12_costOf 3 rfl) rfl ?_
    refine zr_iconst C (zdec_at dm_X12_costOf 4 rfl) ?_
    refine zr_icmp_ne C zz_a3 (by decide) (zdec_at dm_X12_costOf 5 rfl) rfl (fun g11 => ?_) (fun g11 => ?_)
    · have h := h.1 g11
      refine zr_iload C 4 rfl (zdec_at dm_X12_costOf 8 rfl) ?_
      exact zr_ireturn C rfl (zdec_at dm_X12_costOf 9 rfl) rfl ⟨zz_a4, h⟩
    · have h := h.2 g11
      refine zr_ldcw C (zdec_at dm_X12_costOf 6 rfl) kc_RX12_325 ?_
      refine zr_goto C (zdec_at dm_X12_costOf 7 rfl) rfl ?_
      exact zr_ireturn C rfl (zdec_at dm_X12_costOf 9 rfl) rfl ⟨(by decide), h⟩

set_option maxHeartbeats 400000 in
set_option maxRecDepth 100000 in
theorem sn_X12_findLeast {pr_X12_costOf : Int → Int → Int → Int → zM → Prop} {po_X12_costOf : Int → Int → Int → Int → zM → Int → zM → Prop} (hS_X12_costOf : zSnd zS 145 0 0 yX12_costOf cX12_costOf 5 (some .int) 0 [2, 0, 0, 0, 0] (F_X12_costOf pr_X12_costOf po_X12_costOf)) : zSnd zS 145 0 0 yX12_findLeast cX12_findLeast 9 none 1 [2, 0, 0] (fun xs P M => ∃ a1 a2 : Int, xs = [103, a1, a2] ∧ vc_X12_findLeast pr_X12_costOf po_X12_costOf a1 a2 P M) := by
  refine zSnd.of rfl (fun ad xs hz => Nat.le_trans (Nat.le_of_eq (zlen ad _ xs hz)) (by decide)) ?_
  intro Γ C _ _ xs M hz hF
  obtain ⟨a1, a2, rfl, h⟩ := hF
  have zz_a1 := zall_h (zall_t hz) (by decide)
  have zz_a2 := zall_h (zall_t (zall_t hz)) (by decide)
  refine zr_rng (fun hR => ?_)
  have C : zC Γ mu_X12_findLeast := C
  change zV Γ mu_X12_findLeast (145, 0, 0) 0 [(0, zRf (zad Γ) 103), (1, zI a1), (2, zI a2)] [] M
  change vc_X12_findLeast pr_X12_costOf po_X12_costOf a1 a2 _ M at h
  unfold vc_X12_findLeast at h
  refine zr_aload_n C 0 rfl (zdec_at dm_X12_findLeast 0 rfl) rfl ?_
  refine zr_geti C fk_RX12_322 fi_103_42 (zdec_at dm_X12_findLeast 1 rfl) ?_
  refine zr_iconst C (zdec_at dm_X12_findLeast 2 rfl) ?_
  refine zr_isub C (zdec_at dm_X12_findLeast 3 rfl) ?_
  refine zr_istore_n (L1 := [(3, zI ((M 103 42) - 1)), (0, zRf (zad Γ) 103), (1, zI a1), (2, zI a2)]) C (zdec_at dm_X12_findLeast 4 rfl) rfl (Nat.le_of_ble_eq_true rfl) rfl ?_
  obtain ⟨o2, h⟩ := h
  obtain ⟨I7, ⟨n10, q11⟩, hI9⟩ := h
  have lp8 : ∀ (n6 : Nat) (v1 : Int) (M4 : zM), I7 v1 M4 n6 → zin v1 → zRng M4 → zV Γ mu_X12_findLeast (145, 0, 0) 7 [(0, zRf (zad Γ) 103), (1, zI a1), (2, zI a2), (3, zI v1)] [] M4 := by
    intro n6
    induction n6 using Nat.strongRecOn with
    | _ n6 ih7 =>
    intro v1 M4 q12 z3 hR5
    have h := hI9 v1 M4 n6 q12 z3 hR5
    refine zr_iload_n C 3 rfl (zdec_at dm_X12_findLeast 5 rfl) rfl ?_
    refine zr_if_lt C z3 (zdec_at dm_X12_findLeast 6 rfl) rfl (fun g13 => ?_) (fun g13 => ?_)
    · have h := h.1 g13
      exact zr_return C rfl rfl (zdec_at dm_X12_findLeast 74 rfl) rfl ⟨by decide, h⟩
    · have h := h.2 g13
      refine zr_iconst C (zdec_at dm_X12_findLeast 7 rfl) ?_
      refine zr_istore (L1 := [(4, zI 0), (0, zRf (zad Γ) 103), (1, zI a1), (2, zI a2), (3, zI v1)]) C (zdec_at dm_X12_findLeast 8 rfl) (Nat.le_of_ble_eq_true rfl) rfl ?_
      obtain ⟨I14, ⟨n22, q23⟩, hI21⟩ := h
      have lp20 : ∀ (n18 : Nat) (v14 : Int) (M16 : zM), I14 v14 M16 n18 → zin v14 → zRng M16 → zV Γ mu_X12_findLeast (145, 0, 0) 14 [(0, zRf (zad Γ) 103), (1, zI a1), (2, zI a2), (3, zI v1), (4, zI v14)] [] M16 := by
        intro n18
        induction n18 using Nat.strongRecOn with
        | _ n18 ih19 =>
        intro v14 M16 q24 z15 hR17
        have h := hI21 v14 M16 n18 q24 z15 hR17
        refine zr_iload C 4 rfl (zdec_at dm_X12_findLeast 9 rfl) ?_
        refine zr_iconst C (zdec_at dm_X12_findLeast 10 rfl) ?_
        refine zr_icmp_ge C z15 (by decide) (zdec_at dm_X12_findLeast 11 rfl) rfl (fun g25 => ?_) (fun g25 => ?_)
        · have h := h.1 g25
          refine zr_iinc (L1 := [(3, zI (v1 + (-1))), (0, zRf (zad Γ) 103), (1, zI a1), (2, zI a2), (4, zI v14)]) C 3 rfl (zdec_at dm_X12_findLeast 72 rfl) (Nat.le_of_ble_eq_true rfl) rfl ?_
          refine zr_goto C (zdec_at dm_X12_findLeast 73 rfl) rfl ?_
          obtain ⟨o26, h⟩ := h
          obtain ⟨n27, q28, q29⟩ := h
          exact zr_sub [1, 2, 3, 0] rfl (ih7 n27 q28 _ _ q29 o26 hR17)
        · have h := h.2 g25
          refine zr_ldcw C (zdec_at dm_X12_findLeast 12 rfl) kc_RX12_325 ?_
          refine zr_istore (L1 := [(5, zI 1000000), (0, zRf (zad Γ) 103), (1, zI a1), (2, zI a2), (3, zI v1), (4, zI v14)]) C (zdec_at dm_X12_findLeast 13 rfl) (Nat.le_of_ble_eq_true rfl) rfl ?_
          refine zr_iconst C (zdec_at dm_X12_findLeast 14 rfl) ?_
          refine zr_istore (L1 := [(6, zI 0), (5, zI 1000000), (0, zRf (zad Γ) 103), (1, zI a1), (2, zI a2), (3, zI v1), (4, zI v14)]) C (zdec_at dm_X12_findLeast 15 rfl) (Nat.le_of_ble_eq_true rfl) rfl ?_
          obtain ⟨I28, ⟨n40, q41⟩, hI39⟩ := h
          have lp38 : ∀ (n36 : Nat) (v30 : Int) (v31 : Int) (M34 : zM), I28 v30 v31 M34 n36 → zin v30 → zin v31 → zRng M34 → zV Γ mu_X12_findLeast (145, 0, 0) 28 [(0, zRf (zad Γ) 103), (1, zI a1), (2, zI a2), (3, zI v1), (4, zI v14), (5, zI v30), (6, zI v31)] [] M34 := by
            intro n36
            induction n36 using Nat.strongRecOn with
            | _ n36 ih37 =>
            intro v30 v31 M34 q42 z32 z33 hR35
            have h := hI39 v30 v31 M34 n36 q42 z32 z33 hR35
            refine zr_iload C 6 rfl (zdec_at dm_X12_findLeast 16 rfl) ?_
            refine zr_iconst C (zdec_at dm_X12_findLeast 17 rfl) ?_
            refine zr_icmp_ge C z33 (by decide) (zdec_at dm_X12_findLeast 18 rfl) rfl (fun g43 => ?_) (fun g43 => ?_)
            · have h := h.1 g43
              refine zr_aload_n C 0 rfl (zdec_at dm_X12_findLeast 61 rfl) rfl ?_
              refine zr_getr (q := 123) C fk_RX12_75 fi_103_45 (zdec_at dm_X12_findLeast 62 rfl) ?_
              refine zr_iconst C (zdec_at dm_X12_findLeast 63 rfl) ?_
              refine zr_iload_n C 3 rfl (zdec_at dm_X12_findLeast 64 rfl) rfl ?_
              refine zr_imul C (zdec_at dm_X12_findLeast 65 rfl) ?_
              refine zr_iload C 4 rfl (zdec_at dm_X12_findLeast 66 rfl) ?_
              refine zr_iadd C (zdec_at dm_X12_findLeast 67 rfl) ?_
              refine zr_iload C 5 rfl (zdec_at dm_X12_findLeast 68 rfl) ?_
              obtain ⟨o44, h⟩ := h
              refine zr_iast C ai_123 o44 z32 (zdec_at dm_X12_findLeast 69 rfl) (fun M45 e46 => ?_)
              have h := h M45 e46
              have hR47 : zRng M45 := by rw [e46]; exact hR35.set z32 _ _
              refine zr_iinc (L1 := [(4, zI (v14 + 1)), (0, zRf (zad Γ) 103), (1, zI a1), (2, zI a2), (3, zI v1), (5, zI v30), (6, zI v31)]) C 4 rfl (zdec_at dm_X12_findLeast 70 rfl) (Nat.le_of_ble_eq_true rfl) rfl ?_
              refine zr_goto C (zdec_at dm_X12_findLeast 71 rfl) rfl ?_
              obtain ⟨o48, h⟩ := h
              obtain ⟨n49, q50, q51⟩ := h
              exact zr_sub [1, 2, 3, 4, 0] rfl (ih19 n49 q50 _ _ q51 o48 hR47)
            · have h := h.2 g43
              refine zr_iload_n C 3 rfl (zdec_at dm_X12_findLeast 19 rfl) rfl ?_
              refine zr_aload_n C 0 rfl (zdec_at dm_X12_findLeast 20 rfl) rfl ?_
              refine zr_geti C fk_RX12_322 fi_103_42 (zdec_at dm_X12_findLeast 21 rfl) ?_
              refine zr_iconst C (zdec_at dm_X12_findLeast 22 rfl) ?_
              refine zr_isub C (zdec_at dm_X12_findLeast 23 rfl) ?_
              have h := h (fun v52 => zin v52 → zV Γ mu_X12_findLeast (145, 0, 0) 73 [(0, zRf (zad Γ) 103), (1, zI a1), (2, zI a2), (3, zI v1), (4, zI v14), (5, zI v30), (6, zI v31)] [zI v52] M34) (fun v52 h z53 => by
                have h := h z53
                refine zr_istore (L1 := [(7, zI v52), (0, zRf (zad Γ) 103), (1, zI a1), (2, zI a2), (3, zI v1), (4, zI v14), (5, zI v30), (6, zI v31)]) C (zdec_at dm_X12_findLeast 42 rfl) (Nat.le_of_ble_eq_true rfl) rfl ?_
                refine zr_aload_n C 1 rfl (zdec_at dm_X12_findLeast 43 rfl) rfl ?_
                refine zr_iload_n C 4 rfl (zdec_at dm_X12_findLeast 44 rfl) rfl ?_
                refine zr_iload C 5 rfl (zdec_at dm_X12_findLeast 45 rfl) ?_
                refine zr_iload C 7 rfl (zdec_at dm_X12_findLeast 46 rfl) ?_
                refine zr_iload_n C 3 rfl (zdec_at dm_X12_findLeast 47 rfl) rfl ?_
                obtain ⟨g59, h⟩ := h
                refine zr_callV C [v1, v14, v31, a2] hS_X12_costOf ck_RX12_326 iv_X12_costOf vc_X12 oc_103 rfl rfl (zdec_at dm_X12_findLeast 48 rfl) ⟨rfl, rfl, rfl, rfl⟩ ⟨by decide, by decide⟩ (Nat.le_of_ble_eq_true rfl) (zall_0 z3 (zall_0 z15 (zall_0 z33 (zall_0 zz_a2 zall_n)))) ?_
                refine ⟨_, _, _, _, rfl, g59, fun r54 M55 p58 z57 hR56 => ?_⟩
                have h := h r54 M55 p58 z57 hR56
                show zV Γ mu_X12_findLeast (145, 0, 0) 85 [(7, zI v52), (0, zRf (zad Γ) 103), (1, zI a1), (2, zI a2), (3, zI v1), (4, zI v14), (5, zI v30), (6, zI v31)] [zI r54] M55
                refine zr_iload C 0 rfl (zdec_at dm_X12_findLeast 49 rfl) ?_
                refine zr_iadd C (zdec_at dm_X12_findLeast 50 rfl) ?_
                refine zr_istore (L1 := [(8, zI (r54 + v52)), (7, zI v52), (0, zRf (zad Γ) 103), (1, zI a1), (2, zI a2), (3, zI v1), (4, zI v14), (5, zI v30), (6, zI v31)]) C (zdec_at dm_X12_findLeast 51 rfl) (Nat.le_of_ble_eq_true rfl) rfl ?_
                refine zr_iload C 0 rfl (zdec_at dm_X12_findLeast 52 rfl) ?_
                refine zr_iload C 7 rfl (zdec_at dm_X12_findLeast 53 rfl) ?_
                obtain ⟨o60, h⟩ := h
                refine zr_icmp_ge C o60 z32 (zdec_at dm_X12_findLeast 54 rfl) rfl (fun g61 => ?_) (fun g61 => ?_)
                · have h := h.1 g61
                  refine zr_iload C 7 rfl (zdec_at dm_X12_findLeast 57 rfl) ?_
                  refine zr_istore (L1 := [(5, zI v30), (8, zI (r54 + v52)), (7, zI v52), (0, zRf (zad Γ) 103), (1, zI a1), (2, zI a2), (3, zI v1), (4, zI v14), (6, zI v31)]) C (zdec_at dm_X12_findLeast 58 rfl) (Nat.le_of_ble_eq_true rfl) rfl ?_
                  refine zr_iinc (L1 := [(6, zI (v31 + 1)), (5, zI v30), (8, zI (r54 + v52)), (7, zI v52), (0, zRf (zad Γ) 103), (1, zI a1), (2, zI a2), (3, zI v1), (4, zI v14)]) C 8 rfl (zdec_at dm_X12_findLeast 59 rfl) (Nat.le_of_ble_eq_true rfl) rfl ?_
                  refine zr_goto C (zdec_at dm_X12_findLeast 60 rfl) rfl ?_
                  obtain ⟨o62, h⟩ := h
                  obtain ⟨n63, q64, q65⟩ := h
                  exact zr_sub [4, 5, 6, 7, 8, 1, 0] rfl (ih37 n63 q64 _ _ _ q65 z32 o62 hR56)
                · have h := h.2 g61
                  refine zr_iload C 0 rfl (zdec_at dm_X12_findLeast 55 rfl) ?_
                  refine zr_goto C (zdec_at dm_X12_findLeast 56 rfl) rfl ?_
                  refine zr_istore (L1 := [(5, zI (r54 + v52)), (8, zI (r54 + v52)), (7, zI v52), (0, zRf (zad Γ) 103), (1, zI a1), (2, zI a2), (3, zI v1), (4, zI v14), (6, zI v31)]) C (zdec_at dm_X12_findLeast 58 rfl) (Nat.le_of_ble_eq_true rfl) rfl ?_
                  refine zr_iinc (L1 := [(6, zI (v31 + 1)), (5, zI (r54 + v52)), (8, zI (r54 + v52)), (7, zI v52), (0, zRf (zad Γ) 103), (1, zI a1), (2, zI a2), (3, zI v1), (4, zI v14)]) C 8 rfl (zdec_at dm_X12_findLeast 59 rfl) (Nat.le_of_ble_eq_true rfl) rfl ?_
                  refine zr_goto C (zdec_at dm_X12_findLeast 60 rfl) rfl ?_
                  obtain ⟨o66, h⟩ := h
                  obtain ⟨n67, q68, q69⟩ := h
                  exact zr_sub [4, 5, 6, 7, 8, 1, 0] rfl (ih37 n67 q68 _ _ _ q69 o60 o66 hR56))
              obtain ⟨o70, h⟩ := h
              refine zr_icmp_ne C z3 o70 (zdec_at dm_X12_findLeast 24 rfl) rfl (fun g71 => ?_) (fun g71 => ?_)
              · have h := h.1 g71
                refine zr_aload_n C 0 rfl (zdec_at dm_X12_findLeast 32 rfl) rfl ?_
                refine zr_getr (q := 123) C fk_RX12_75 fi_103_45 (zdec_at dm_X12_findLeast 33 rfl) ?_
                refine zr_iconst C (zdec_at dm_X12_findLeast 34 rfl) ?_
                refine zr_iload_n C 3 rfl (zdec_at dm_X12_findLeast 35 rfl) rfl ?_
                refine zr_imul C (zdec_at dm_X12_findLeast 36 rfl) ?_
                refine zr_iconst C (zdec_at dm_X12_findLeast 37 rfl) ?_
                refine zr_iadd C (zdec_at dm_X12_findLeast 38 rfl) ?_
                refine zr_iload C 6 rfl (zdec_at dm_X12_findLeast 39 rfl) ?_
                refine zr_iadd C (zdec_at dm_X12_findLeast 40 rfl) ?_
                obtain ⟨o72, h⟩ := h
                refine zr_iald C ai_123 o72 (zdec_at dm_X12_findLeast 41 rfl) ?_
                exact zr_sub [0, 1, 2, 3, 4, 5, 6] rfl (h (hR35 _ _))
              · have h := h.2 g71
                refine zr_iload C 6 rfl (zdec_at dm_X12_findLeast 25 rfl) ?_
                refine zr_iload_n C 1 rfl (zdec_at dm_X12_findLeast 26 rfl) rfl ?_
                refine zr_icmp_ne C z33 zz_a1 (zdec_at dm_X12_findLeast 27 rfl) rfl (fun g73 => ?_) (fun g73 => ?_)
                · have h := h.1 g73
                  refine zr_ldcw C (zdec_at dm_X12_findLeast 30 rfl) kc_RX12_325 ?_
                  refine zr_goto C (zdec_at dm_X12_findLeast 31 rfl) rfl ?_
                  exact zr_sub [0, 1, 2, 3, 4, 5, 6] rfl (h (by decide))
                · have h := h.2 g73
                  refine zr_iconst C (zdec_at dm_X12_findLeast 28 rfl) ?_
                  refine zr_goto C (zdec_at dm_X12_findLeast 29 rfl) rfl ?_
                  exact zr_sub [0, 1, 2, 3, 4, 5, 6] rfl (h (by decide))
          exact zr_sub [2, 3, 4, 5, 6, 1, 0] rfl (lp38 n40 _ _ _ q41 (by decide) (by decide) hR17)
      exact zr_sub [1, 2, 3, 4, 0] rfl (lp20 n22 _ _ q23 (by decide) hR5)
  exact zr_sub [1, 2, 3, 0] rfl (lp8 n10 _ _ q11 o2 hR)

set_option maxHeartbeats 400000 in
set_option maxRecDepth 100000 in
theorem sn_X12_findCorners {pr_X12_findTurns : zM → Prop} {po_X12_findTurns : zM → zM → Prop} {pr_X12_findLeast : Int → Int → zM → Prop} {po_X12_findLeast : Int → Int → zM → zM → Prop} {pr_X12_costOf : Int → Int → Int → Int → zM → Prop} {po_X12_costOf : Int → Int → Int → Int → zM → Int → zM → Prop} (hS_X12_findTurns : zSnd zS 145 0 0 yX12_findTurns cX12_findTurns 2 none 1 [2] (F_X12_findTurns pr_X12_findTurns po_X12_findTurns)) (hS_X12_findLeast : zSnd zS 145 0 0 yX12_findLeast cX12_findLeast 9 none 1 [2, 0, 0] (F_X12_findLeast pr_X12_findLeast po_X12_findLeast)) (hS_X12_costOf : zSnd zS 145 0 0 yX12_costOf cX12_costOf 5 (some .int) 0 [2, 0, 0, 0, 0] (F_X12_costOf pr_X12_costOf po_X12_costOf)) : zSnd zS 145 0 0 yX12_findCorners cX12_findCorners 7 (some .int) 2 [2, 0] (fun xs P M => ∃ a1 : Int, xs = [103, a1] ∧ vc_X12_findCorners pr_X12_findTurns po_X12_findTurns pr_X12_findLeast po_X12_findLeast pr_X12_costOf po_X12_costOf a1 P M) := by
  refine zSnd.of rfl (fun ad xs hz => Nat.le_trans (Nat.le_of_eq (zlen ad _ xs hz)) (by decide)) ?_
  intro Γ C _ _ xs M hz hF
  obtain ⟨a1, rfl, h⟩ := hF
  have zz_a1 := zall_h (zall_t hz) (by decide)
  refine zr_rng (fun hR => ?_)
  have C : zC Γ mu_X12_findCorners := C
  change zV Γ mu_X12_findCorners (145, 0, 0) 0 [(0, zRf (zad Γ) 103), (1, zI a1)] [] M
  change vc_X12_findCorners pr_X12_findTurns po_X12_findTurns pr_X12_findLeast po_X12_findLeast pr_X12_costOf po_X12_costOf a1 _ M at h
  unfold vc_X12_findCorners at h
  refine zr_aload_n C 0 rfl (zdec_at dm_X12_findCorners 0 rfl) rfl ?_
  obtain ⟨g5, h⟩ := h
  refine zr_callV C [] hS_X12_findTurns ck_RX12_330 iv_X12_findTurns vc_X12 oc_103 rfl rfl (zdec_at dm_X12_findCorners 1 rfl) ⟨rfl, rfl, rfl, rfl⟩ ⟨by decide, by decide⟩ (Nat.le_of_ble_eq_true rfl) zall_n ?_
  refine ⟨rfl, g5, fun M1 p4 _ hR2 => ?_⟩
  have h := h M1 p4 hR2
  show zV Γ mu_X12_findCorners (145, 0, 0) 4 [(0, zRf (zad Γ) 103), (1, zI a1)] [] M1
  refine zr_aload_n C 0 rfl (zdec_at dm_X12_findCorners 2 rfl) rfl ?_
  refine zr_iconst C (zdec_at dm_X12_findCorners 3 rfl) ?_
  refine zr_iload_n C 1 rfl (zdec_at dm_X12_findCorners 4 rfl) rfl ?_
  obtain ⟨g10, h⟩ := h
  refine zr_callV C [1, a1] hS_X12_findLeast ck_RX12_333 iv_X12_findLeast vc_X12 oc_103 rfl rfl (zdec_at dm_X12_findCorners 5 rfl) ⟨rfl, rfl, rfl, rfl⟩ ⟨by decide, by decide⟩ (Nat.le_of_ble_eq_true rfl) (zall_0 (by decide) (zall_0 zz_a1 zall_n)) ?_
  refine ⟨_, _, rfl, g10, fun M6 p9 _ hR7 => ?_⟩
  have h := h M6 p9 hR7
  show zV Γ mu_X12_findCorners (145, 0, 0) 10 [(0, zRf (zad Γ) 103), (1, zI a1)] [] M6
  refine zr_aload_n C 0 rfl (zdec_at dm_X12_findCorners 6 rfl) rfl ?_
  refine zr_getr (q := 123) C fk_RX12_75 fi_103_45 (zdec_at dm_X12_findCorners 7 rfl) ?_
  refine zr_iconst C (zdec_at dm_X12_findCorners 8 rfl) ?_
  refine zr_iald C ai_123 ⟨by decide, by decide⟩ (zdec_at dm_X12_findCorners 9 rfl) ?_
  refine zr_istore_n (L1 := [(2, zI (M6 123 1)), (0, zRf (zad Γ) 103), (1, zI a1)]) C (zdec_at dm_X12_findCorners 10 rfl) rfl (Nat.le_of_ble_eq_true rfl) rfl ?_
  refine zr_aload_n C 1 rfl (zdec_at dm_X12_findCorners 11 rfl) rfl ?_
  refine zr_iconst C (zdec_at dm_X12_findCorners 12 rfl) ?_
  refine zr_iload_n C 2 rfl (zdec_at dm_X12_findCorners 13 rfl) rfl ?_
  obtain ⟨g15, h⟩ := h
  refine zr_callV C [0, a1] hS_X12_findLeast ck_RX12_333 iv_X12_findLeast vc_X12 oc_103 rfl rfl (zdec_at dm_X12_findCorners 14 rfl) ⟨rfl, rfl, rfl, rfl⟩ ⟨by decide, by decide⟩ (Nat.le_of_ble_eq_true rfl) (zall_0 (by decide) (zall_0 zz_a1 zall_n)) ?_
  refine ⟨_, _, rfl, g15, fun M11 p14 _ hR12 => ?_⟩
  have h := h M11 p14 hR12
  show zV Γ mu_X12_findCorners (145, 0, 0) 23 [(2, zI (M6 123 1)), (0, zRf (zad Γ) 103), (1, zI a1)] [] M11
  refine zr_iload_n C 0 rfl (zdec_at dm_X12_findCorners 15 rfl) rfl ?_
  refine zr_aload_n C 1 rfl (zdec_at dm_X12_findCorners 16 rfl) rfl ?_
  refine zr_getr (q := 123) C fk_RX12_75 fi_103_45 (zdec_at dm_X12_findCorners 17 rfl) ?_
  refine zr_iconst C (zdec_at dm_X12_findCorners 18 rfl) ?_
  refine zr_iald C ai_123 ⟨by decide, by decide⟩ (zdec_at dm_X12_findCorners 19 rfl) ?_
  have h := h (fun v16 => zin v16 → zV Γ mu_X12_findCorners (145, 0, 0) 38 [(0, zRf (zad Γ) 103), (1, zI a1)] [zI v16] M11) (fun v16 h z17 => by
    have h := h z17
    refine zr_istore_n (L1 := [(3, zI v16), (0, zRf (zad Γ) 103), (1, zI a1)]) C (zdec_at dm_X12_findCorners 24 rfl) rfl (Nat.le_of_ble_eq_true rfl) rfl ?_
    refine zr_iload_n C 0 rfl (zdec_at dm_X12_findCorners 25 rfl) rfl ?_
    refine zr_iconst C (zdec_at dm_X12_findCorners 26 rfl) ?_
    refine zr_icmp_ne C z17 (by decide) (zdec_at dm_X12_findCorners 27 rfl) rfl (fun g18 => ?_) (fun g18 => ?_)
    · have h := h.1 g18
      refine zr_aload_n C 1 rfl (zdec_at dm_X12_findCorners 32 rfl) rfl ?_
      refine zr_getr (q := 123) C fk_RX12_75 fi_103_45 (zdec_at dm_X12_findCorners 33 rfl) ?_
      refine zr_iload_n C 0 rfl (zdec_at dm_X12_findCorners 34 rfl) rfl ?_
      obtain ⟨o19, h⟩ := h
      refine zr_iald C ai_123 o19 (zdec_at dm_X12_findCorners 35 rfl) ?_
      refine zr_istore (L1 := [(4, zI (M11 123 v16)), (3, zI v16), (0, zRf (zad Γ) 103), (1, zI a1)]) C (zdec_at dm_X12_findCorners 36 rfl) (Nat.le_of_ble_eq_true rfl) rfl ?_
      refine zr_iload_n C 1 rfl (zdec_at dm_X12_findCorners 37 rfl) rfl ?_
      refine zr_istore (L1 := [(5, zI v16), (4, zI (M11 123 v16)), (3, zI v16), (0, zRf (zad Γ) 103), (1, zI a1)]) C (zdec_at dm_X12_findCorners 38 rfl) (Nat.le_of_ble_eq_true rfl) rfl ?_
      refine zr_iconst C (zdec_at dm_X12_findCorners 39 rfl) ?_
      refine zr_istore (L1 := [(6, zI 0), (5, zI v16), (4, zI (M11 123 v16)), (3, zI v16), (0, zRf (zad Γ) 103), (1, zI a1)]) C (zdec_at dm_X12_findCorners 40 rfl) (Nat.le_of_ble_eq_true rfl) rfl ?_
      obtain ⟨I64, ⟨n28, q29⟩, hI27⟩ := h
      have lp26 : ∀ (n24 : Nat) (v20 : Int) (M22 : zM), I64 v20 M22 n24 → zin v20 → zRng M22 → zV Γ mu_X12_findCorners (145, 0, 0) 64 [(0, zRf (zad Γ) 103), (1, zI a1), (4, zI (M11 123 v16)), (5, zI v16), (6, zI v20)] [] M22 := by
        intro n24
        induction n24 using Nat.strongRecOn with
        | _ n24 ih25 =>
        intro v20 M22 q30 z21 hR23
        have h := hI27 v20 M22 n24 q30 z21 hR23
        refine zr_iload C 4 rfl (zdec_at dm_X12_findCorners 41 rfl) ?_
        refine zr_aload_n C 0 rfl (zdec_at dm_X12_findCorners 42 rfl) rfl ?_
        refine zr_geti C fk_RX12_297 fi_103_38 (zdec_at dm_X12_findCorners 43 rfl) ?_
        refine zr_icmp_ge C z21 (hR23 _ _) (zdec_at dm_X12_findCorners 44 rfl) rfl (fun g31 => ?_) (fun g31 => ?_)
        · have h := h.1 g31
          refine zr_iconst C (zdec_at dm_X12_findCorners 52 rfl) ?_
          refine zr_istore (L1 := [(6, zI 0), (0, zRf (zad Γ) 103), (1, zI a1), (4, zI (M11 123 v16)), (5, zI v16)]) C (zdec_at dm_X12_findCorners 53 rfl) (Nat.le_of_ble_eq_true rfl) rfl ?_
          obtain ⟨I90, ⟨n42, q43⟩, hI41⟩ := h
          have lp40 : ∀ (n38 : Nat) (v32 : Int) (v33 : Int) (M36 : zM), I90 v32 v33 M36 n38 → zin v32 → zin v33 → zRng M36 → zV Γ mu_X12_findCorners (145, 0, 0) 90 [(0, zRf (zad Γ) 103), (1, zI a1), (4, zI (M11 123 v16)), (5, zI v32), (6, zI v33)] [] M36 := by
            intro n38
            induction n38 using Nat.strongRecOn with
            | _ n38 ih39 =>
            intro v32 v33 M36 q44 z34 z35 hR37
            have h := hI41 v32 v33 M36 n38 q44 z34 z35 hR37
            refine zr_iload C 4 rfl (zdec_at dm_X12_findCorners 54 rfl) ?_
            refine zr_aload_n C 0 rfl (zdec_at dm_X12_findCorners 55 rfl) rfl ?_
            refine zr_geti C fk_RX12_322 fi_103_42 (zdec_at dm_X12_findCorners 56 rfl) ?_
            refine zr_icmp_ge C z35 (hR37 _ _) (zdec_at dm_X12_findCorners 57 rfl) rfl (fun g45 => ?_) (fun g45 => ?_)
            · have h := h.1 g45
              refine zr_iload C 2 rfl (zdec_at dm_X12_findCorners 107 rfl) ?_
              exact zr_ireturn C rfl (zdec_at dm_X12_findCorners 108 rfl) rfl ⟨(hR12 _ _), h⟩
            · have h := h.2 g45
              refine zr_aload_n C 0 rfl (zdec_at dm_X12_findCorners 58 rfl) rfl ?_
              refine zr_getr (q := 124) C fk_RX12_78 fi_103_46 (zdec_at dm_X12_findCorners 59 rfl) ?_
              refine zr_aload_n C 0 rfl (zdec_at dm_X12_findCorners 60 rfl) rfl ?_
              refine zr_getr (q := 121) C fk_RX12_69 fi_103_43 (zdec_at dm_X12_findCorners 61 rfl) ?_
              refine zr_iload C 4 rfl (zdec_at dm_X12_findCorners 62 rfl) ?_
              obtain ⟨o46, h⟩ := h
              refine zr_iald C ai_121 o46 (zdec_at dm_X12_findCorners 63 rfl) ?_
              refine zr_iload C 3 rfl (zdec_at dm_X12_findCorners 64 rfl) ?_
              refine zr_iconst C (zdec_at dm_X12_findCorners 65 rfl) ?_
              have h := h (fun v47 => zin v47 → zV Γ mu_X12_findCorners (145, 0, 0) 121 [(0, zRf (zad Γ) 103), (1, zI a1), (4, zI (M11 123 v16)), (5, zI v32), (6, zI v33)] [zI v47, zI (M36 121 v33), zRf (zad Γ) 124] M36) (fun v47 h z48 => by
                have h := h z48
                obtain ⟨o49, h⟩ := h
                obtain ⟨o50, h⟩ := h
                refine zr_zast C ai_124 o49 z48 o50 rfl (zdec_at dm_X12_findCorners 70 rfl) (fun M51 e52 => ?_)
                have h := h M51 e52
                have hR53 : zRng M51 := by rw [e52]; exact hR37.set z48 _ _
                refine zr_iload C 4 rfl (zdec_at dm_X12_findCorners 71 rfl) ?_
                refine zr_aload_n C 0 rfl (zdec_at dm_X12_findCorners 72 rfl) rfl ?_
                refine zr_geti C fk_RX12_322 fi_103_42 (zdec_at dm_X12_findCorners 73 rfl) ?_
                refine zr_iconst C (zdec_at dm_X12_findCorners 74 rfl) ?_
                refine zr_isub C (zdec_at dm_X12_findCorners 75 rfl) ?_
                obtain ⟨o54, h⟩ := h
                refine zr_icmp_ge C z35 o54 (zdec_at dm_X12_findCorners 76 rfl) rfl (fun g55 => ?_) (fun g55 => ?_)
                · have h := h.1 g55
                  refine zr_iinc (L1 := [(6, zI (v33 + 1)), (0, zRf (zad Γ) 103), (1, zI a1), (4, zI (M11 123 v16)), (5, zI v32)]) C 4 rfl (zdec_at dm_X12_findCorners 105 rfl) (Nat.le_of_ble_eq_true rfl) rfl ?_
                  refine zr_goto C (zdec_at dm_X12_findCorners 106 rfl) rfl ?_
                  obtain ⟨o56, h⟩ := h
                  obtain ⟨n57, q58, q59⟩ := h
                  exact zr_sub [1, 2, 3, 4, 0] rfl (ih39 n57 q58 _ _ _ q59 z34 o56 hR53)
                · have h := h.2 g55
                  refine zr_aload_n C 0 rfl (zdec_at dm_X12_findCorners 77 rfl) rfl ?_
                  refine zr_iload C 4 rfl (zdec_at dm_X12_findCorners 78 rfl) ?_
                  refine zr_iload C 3 rfl (zdec_at dm_X12_findCorners 79 rfl) ?_
                  refine zr_iconst C (zdec_at dm_X12_findCorners 80 rfl) ?_
                  refine zr_iload_n C 1 rfl (zdec_at dm_X12_findCorners 81 rfl) rfl ?_
                  obtain ⟨g65, h⟩ := h
                  refine zr_callV C [v33, v32, 0, a1] hS_X12_costOf ck_RX12_326 iv_X12_costOf vc_X12 oc_103 rfl rfl (zdec_at dm_X12_findCorners 82 rfl) ⟨rfl, rfl, rfl, rfl⟩ ⟨by decide, by decide⟩ (Nat.le_of_ble_eq_true rfl) (zall_0 z35 (zall_0 z34 (zall_0 (by decide) (zall_0 zz_a1 zall_n)))) ?_
                  refine ⟨_, _, _, _, rfl, g65, fun r60 M61 p64 z63 hR62 => ?_⟩
                  have h := h r60 M61 p64 z63 hR62
                  show zV Γ mu_X12_findCorners (145, 0, 0) 143 [(0, zRf (zad Γ) 103), (1, zI a1), (4, zI (M11 123 v16)), (5, zI v32), (6, zI v33)] [zI r60] M61
                  refine zr_aload_n C 0 rfl (zdec_at dm_X12_findCorners 83 rfl) rfl ?_
                  refine zr_getr (q := 123) C fk_RX12_75 fi_103_45 (zdec_at dm_X12_findCorners 84 rfl) ?_
                  refine zr_iconst C (zdec_at dm_X12_findCorners 85 rfl) ?_
                  refine zr_iload C 4 rfl (zdec_at dm_X12_findCorners 86 rfl) ?_
                  refine zr_imul C (zdec_at dm_X12_findCorners 87 rfl) ?_
                  refine zr_iconst C (zdec_at dm_X12_findCorners 88 rfl) ?_
                  refine zr_iadd C (zdec_at dm_X12_findCorners 89 rfl) ?_
                  obtain ⟨o66, h⟩ := h
                  refine zr_iald C ai_123 o66 (zdec_at dm_X12_findCorners 90 rfl) ?_
                  refine zr_iadd C (zdec_at dm_X12_findCorners 91 rfl) ?_
                  refine zr_aload_n C 0 rfl (zdec_at dm_X12_findCorners 92 rfl) rfl ?_
                  refine zr_getr (q := 123) C fk_RX12_75 fi_103_45 (zdec_at dm_X12_findCorners 93 rfl) ?_
                  refine zr_iconst C (zdec_at dm_X12_findCorners 94 rfl) ?_
                  refine zr_iload C 4 rfl (zdec_at dm_X12_findCorners 95 rfl) ?_
                  refine zr_imul C (zdec_at dm_X12_findCorners 96 rfl) ?_
                  refine zr_iload C 3 rfl (zdec_at dm_X12_findCorners 97 rfl) ?_
                  refine zr_iadd C (zdec_at dm_X12_findCorners 98 rfl) ?_
                  obtain ⟨o67, h⟩ := h
                  refine zr_iald C ai_123 o67 (zdec_at dm_X12_findCorners 99 rfl) ?_
                  obtain ⟨o68, h⟩ := h
                  refine zr_icmp_ne C o68 (hR62 _ _) (zdec_at dm_X12_findCorners 100 rfl) rfl (fun g69 => ?_) (fun g69 => ?_)
                  · have h := h.1 g69
                    refine zr_iconst C (zdec_at dm_X12_findCorners 103 rfl) ?_
                    refine zr_istore (L1 := [(5, zI 1), (0, zRf (zad Γ) 103), (1, zI a1), (4, zI (M11 123 v16)), (6, zI v33)]) C (zdec_at dm_X12_findCorners 104 rfl) (Nat.le_of_ble_eq_true rfl) rfl ?_
                    refine zr_iinc (L1 := [(6, zI (v33 + 1)), (5, zI 1), (0, zRf (zad Γ) 103), (1, zI a1), (4, zI (M11 123 v16))]) C 4 rfl (zdec_at dm_X12_findCorners 105 rfl) (Nat.le_of_ble_eq_true rfl) rfl ?_
                    refine zr_goto C (zdec_at dm_X12_findCorners 106 rfl) rfl ?_
                    obtain ⟨o70, h⟩ := h
                    obtain ⟨n71, q72, q73⟩ := h
                    exact zr_sub [2, 3, 4, 1, 0] rfl (ih39 n71 q72 _ _ _ q73 (by decide) o70 hR62)
                  · have h := h.2 g69
                    refine zr_iconst C (zdec_at dm_X12_findCorners 101 rfl) ?_
                    refine zr_goto C (zdec_at dm_X12_findCorners 102 rfl) rfl ?_
                    refine zr_istore (L1 := [(5, zI 0), (0, zRf (zad Γ) 103), (1, zI a1), (4, zI (M11 123 v16)), (6, zI v33)]) C (zdec_at dm_X12_findCorners 104 rfl) (Nat.le_of_ble_eq_true rfl) rfl ?_
                    refine zr_iinc (L1 := [(6, zI (v33 + 1)), (5, zI 0), (0, zRf (zad Γ) 103), (1, zI a1), (4, zI (M11 123 v16))]) C 4 rfl (zdec_at dm_X12_findCorners 105 rfl) (Nat.le_of_ble_eq_true rfl) rfl ?_
                    refine zr_goto C (zdec_at dm_X12_findCorners 106 rfl) rfl ?_
                    obtain ⟨o74, h⟩ := h
                    obtain ⟨n75, q76, q77⟩ := h
                    exact zr_sub [2, 3, 4, 1, 0] rfl (ih39 n75 q76 _ _ _ q77 (by decide) o74 hR62))
              refine zr_icmp_ne C z34 (by decide) (zdec_at dm_X12_findCorners 66 rfl) rfl (fun g78 => ?_) (fun g78 => ?_)
              · have h := h.1 g78
                refine zr_iconst C (zdec_at dm_X12_findCorners 69 rfl) ?_
                exact zr_sub [0, 1, 2, 3, 4] rfl (h (by decide))
              · have h := h.2 g78
                refine zr_iconst C (zdec_at dm_X12_findCorners 67 rfl) ?_
                refine zr_goto C (zdec_at dm_X12_findCorners 68 rfl) rfl ?_
                exact zr_sub [0, 1, 2, 3, 4] rfl (h (by decide))
          exact zr_sub [1, 2, 3, 4, 0] rfl (lp40 n42 _ _ _ q43 z17 (by decide) hR23)
        · have h := h.2 g31
          refine zr_aload_n C 0 rfl (zdec_at dm_X12_findCorners 45 rfl) rfl ?_
          refine zr_getr (q := 124) C fk_RX12_78 fi_103_46 (zdec_at dm_X12_findCorners 46 rfl) ?_
          refine zr_iload C 4 rfl (zdec_at dm_X12_findCorners 47 rfl) ?_
          refine zr_iconst C (zdec_at dm_X12_findCorners 48 rfl) ?_
          obtain ⟨o79, h⟩ := h
          refine zr_zast C ai_124 o79 (by decide) (by decide) rfl (zdec_at dm_X12_findCorners 49 rfl) (fun M80 e81 => ?_)
          have h := h M80 e81
          have hR82 : zRng M80 := by rw [e81]; exact hR23.set (by decide) _ _
          refine zr_iinc (L1 := [(6, zI (v20 + 1)), (0, zRf (zad Γ) 103), (1, zI a1), (4, zI (M11 123 v16)), (5, zI v16)]) C 4 rfl (zdec_at dm_X12_findCorners 50 rfl) (Nat.le_of_ble_eq_true rfl) rfl ?_
          refine zr_goto C (zdec_at dm_X12_findCorners 51 rfl) rfl ?_
          obtain ⟨o83, h⟩ := h
          obtain ⟨n84, q85, q86⟩ := h
          exact zr_sub [1, 2, 3, 4, 0] rfl (ih25 n84 q85 _ _ q86 o83 hR82)
      exact zr_sub [4, 5, 2, 1, 0] rfl (lp26 n28 _ _ q29 (by decide) hR12)
    · have h := h.2 g18
      refine zr_aload_n C 1 rfl (zdec_at dm_X12_findCorners 28 rfl) rfl ?_
      refine zr_iconst C (zdec_at dm_X12_findCorners 29 rfl) ?_
      refine zr_iload_n C 2 rfl (zdec_at dm_X12_findCorners 30 rfl) rfl ?_
      obtain ⟨g91, h⟩ := h
      refine zr_callV C [1, a1] hS_X12_findLeast ck_RX12_333 iv_X12_findLeast vc_X12 oc_103 rfl rfl (zdec_at dm_X12_findCorners 31 rfl) ⟨rfl, rfl, rfl, rfl⟩ ⟨by decide, by decide⟩ (Nat.le_of_ble_eq_true rfl) (zall_0 (by decide) (zall_0 zz_a1 zall_n)) ?_
      refine ⟨_, _, rfl, g91, fun M87 p90 _ hR88 => ?_⟩
      have h := h M87 p90 hR88
      show zV Γ mu_X12_findCorners (145, 0, 0) 50 [(3, zI v16), (0, zRf (zad Γ) 103), (1, zI a1)] [] M87
      refine zr_aload_n C 1 rfl (zdec_at dm_X12_findCorners 32 rfl) rfl ?_
      refine zr_getr (q := 123) C fk_RX12_75 fi_103_45 (zdec_at dm_X12_findCorners 33 rfl) ?_
      refine zr_iload_n C 0 rfl (zdec_at dm_X12_findCorners 34 rfl) rfl ?_
      obtain ⟨o92, h⟩ := h
      refine zr_iald C ai_123 o92 (zdec_at dm_X12_findCorners 35 rfl) ?_
      refine zr_istore (L1 := [(4, zI (M87 123 v16)), (3, zI v16), (0, zRf (zad Γ) 103), (1, zI a1)]) C (zdec_at dm_X12_findCorners 36 rfl) (Nat.le_of_ble_eq_true rfl) rfl ?_
      refine zr_iload_n C 1 rfl (zdec_at dm_X12_findCorners 37 rfl) rfl ?_
      refine zr_istore (L1 := [(5, zI v16), (4, zI (M87 123 v16)), (3, zI v16), (0, zRf (zad Γ) 103), (1, zI a1)]) C (zdec_at dm_X12_findCorners 38 rfl) (Nat.le_of_ble_eq_true rfl) rfl ?_
      refine zr_iconst C (zdec_at dm_X12_findCorners 39 rfl) ?_
      refine zr_istore (L1 := [(6, zI 0), (5, zI v16), (4, zI (M87 123 v16)), (3, zI v16), (0, zRf (zad Γ) 103), (1, zI a1)]) C (zdec_at dm_X12_findCorners 40 rfl) (Nat.le_of_ble_eq_true rfl) rfl ?_
      obtain ⟨I64, ⟨n101, q102⟩, hI100⟩ := h
      have lp99 : ∀ (n97 : Nat) (v93 : Int) (M95 : zM), I64 v93 M95 n97 → zin v93 → zRng M95 → zV Γ mu_X12_findCorners (145, 0, 0) 64 [(0, zRf (zad Γ) 103), (1, zI a1), (4, zI (M87 123 v16)), (5, zI v16), (6, zI v93)] [] M95 := by
        intro n97
        induction n97 using Nat.strongRecOn with
        | _ n97 ih98 =>
        intro v93 M95 q103 z94 hR96
        have h := hI100 v93 M95 n97 q103 z94 hR96
        refine zr_iload C 4 rfl (zdec_at dm_X12_findCorners 41 rfl) ?_
        refine zr_aload_n C 0 rfl (zdec_at dm_X12_findCorners 42 rfl) rfl ?_
        refine zr_geti C fk_RX12_297 fi_103_38 (zdec_at dm_X12_findCorners 43 rfl) ?_
        refine zr_icmp_ge C z94 (hR96 _ _) (zdec_at dm_X12_findCorners 44 rfl) rfl (fun g104 => ?_) (fun g104 => ?_)
        · have h := h.1 g104
          refine zr_iconst C (zdec_at dm_X12_findCorners 52 rfl) ?_
          refine zr_istore (L1 := [(6, zI 0), (0, zRf (zad Γ) 103), (1, zI a1), (4, zI (M87 123 v16)), (5, zI v16)]) C (zdec_at dm_X12_findCorners 53 rfl) (Nat.le_of_ble_eq_true rfl) rfl ?_
          obtain ⟨I90, ⟨n115, q116⟩, hI114⟩ := h
          have lp113 : ∀ (n111 : Nat) (v105 : Int) (v106 : Int) (M109 : zM), I90 v105 v106 M109 n111 → zin v105 → zin v106 → zRng M109 → zV Γ mu_X12_findCorners (145, 0, 0) 90 [(0, zRf (zad Γ) 103), (1, zI a1), (4, zI (M87 123 v16)), (5, zI v105), (6, zI v106)] [] M109 := by
            intro n111
            induction n111 using Nat.strongRecOn with
            | _ n111 ih112 =>
            intro v105 v106 M109 q117 z107 z108 hR110
            have h := hI114 v105 v106 M109 n111 q117 z107 z108 hR110
            refine zr_iload C 4 rfl (zdec_at dm_X12_findCorners 54 rfl) ?_
            refine zr_aload_n C 0 rfl (zdec_at dm_X12_findCorners 55 rfl) rfl ?_
            refine zr_geti C fk_RX12_322 fi_103_42 (zdec_at dm_X12_findCorners 56 rfl) ?_
            refine zr_icmp_ge C z108 (hR110 _ _) (zdec_at dm_X12_findCorners 57 rfl) rfl (fun g118 => ?_) (fun g118 => ?_)
            · have h := h.1 g118
              refine zr_iload C 2 rfl (zdec_at dm_X12_findCorners 107 rfl) ?_
              exact zr_ireturn C rfl (zdec_at dm_X12_findCorners 108 rfl) rfl ⟨(hR88 _ _), h⟩
            · have h := h.2 g118
              refine zr_aload_n C 0 rfl (zdec_at dm_X12_findCorners 58 rfl) rfl ?_
              refine zr_getr (q := 124) C fk_RX12_78 fi_103_46 (zdec_at dm_X12_findCorners 59 rfl) ?_
              refine zr_aload_n C 0 rfl (zdec_at dm_X12_findCorners 60 rfl) rfl ?_
              refine zr_getr (q := 121) C fk_RX12_69 fi_103_43 (zdec_at dm_X12_findCorners 61 rfl) ?_
              refine zr_iload C 4 rfl (zdec_at dm_X12_findCorners 62 rfl) ?_
              obtain ⟨o119, h⟩ := h
              refine zr_iald C ai_121 o119 (zdec_at dm_X12_findCorners 63 rfl) ?_
              refine zr_iload C 3 rfl (zdec_at dm_X12_findCorners 64 rfl) ?_
              refine zr_iconst C (zdec_at dm_X12_findCorners 65 rfl) ?_
              have h := h (fun v120 => zin v120 → zV Γ mu_X12_findCorners (145, 0, 0) 121 [(0, zRf (zad Γ) 103), (1, zI a1), (4, zI (M87 123 v16)), (5, zI v105), (6, zI v106)] [zI v120, zI (M109 121 v106), zRf (zad Γ) 124] M109) (fun v120 h z121 => by
                have h := h z121
                obtain ⟨o122, h⟩ := h
                obtain ⟨o123, h⟩ := h
                refine zr_zast C ai_124 o122 z121 o123 rfl (zdec_at dm_X12_findCorners 70 rfl) (fun M124 e125 => ?_)
                have h := h M124 e125
                have hR126 : zRng M124 := by rw [e125]; exact hR110.set z121 _ _
                refine zr_iload C 4 rfl (zdec_at dm_X12_findCorners 71 rfl) ?_
                refine zr_aload_n C 0 rfl (zdec_at dm_X12_findCorners 72 rfl) rfl ?_
                refine zr_geti C fk_RX12_322 fi_103_42 (zdec_at dm_X12_findCorners 73 rfl) ?_
                refine zr_iconst C (zdec_at dm_X12_findCorners 74 rfl) ?_
                refine zr_isub C (zdec_at dm_X12_findCorners 75 rfl) ?_
                obtain ⟨o127, h⟩ := h
                refine zr_icmp_ge C z108 o127 (zdec_at dm_X12_findCorners 76 rfl) rfl (fun g128 => ?_) (fun g128 => ?_)
                · have h := h.1 g128
                  refine zr_iinc (L1 := [(6, zI (v106 + 1)), (0, zRf (zad Γ) 103), (1, zI a1), (4, zI (M87 123 v16)), (5, zI v105)]) C 4 rfl (zdec_at dm_X12_findCorners 105 rfl) (Nat.le_of_ble_eq_true rfl) rfl ?_
                  refine zr_goto C (zdec_at dm_X12_findCorners 106 rfl) rfl ?_
                  obtain ⟨o129, h⟩ := h
                  obtain ⟨n130, q131, q132⟩ := h
                  exact zr_sub [1, 2, 3, 4, 0] rfl (ih112 n130 q131 _ _ _ q132 z107 o129 hR126)
                · have h := h.2 g128
                  refine zr_aload_n C 0 rfl (zdec_at dm_X12_findCorners 77 rfl) rfl ?_
                  refine zr_iload C 4 rfl (zdec_at dm_X12_findCorners 78 rfl) ?_
                  refine zr_iload C 3 rfl (zdec_at dm_X12_findCorners 79 rfl) ?_
                  refine zr_iconst C (zdec_at dm_X12_findCorners 80 rfl) ?_
                  refine zr_iload_n C 1 rfl (zdec_at dm_X12_findCorners 81 rfl) rfl ?_
                  obtain ⟨g138, h⟩ := h
                  refine zr_callV C [v106, v105, 0, a1] hS_X12_costOf ck_RX12_326 iv_X12_costOf vc_X12 oc_103 rfl rfl (zdec_at dm_X12_findCorners 82 rfl) ⟨rfl, rfl, rfl, rfl⟩ ⟨by decide, by decide⟩ (Nat.le_of_ble_eq_true rfl) (zall_0 z108 (zall_0 z107 (zall_0 (by decide) (zall_0 zz_a1 zall_n)))) ?_
                  refine ⟨_, _, _, _, rfl, g138, fun r133 M134 p137 z136 hR135 => ?_⟩
                  have h := h r133 M134 p137 z136 hR135
                  show zV Γ mu_X12_findCorners (145, 0, 0) 143 [(0, zRf (zad Γ) 103), (1, zI a1), (4, zI (M87 123 v16)), (5, zI v105), (6, zI v106)] [zI r133] M134
                  refine zr_aload_n C 0 rfl (zdec_at dm_X12_findCorners 83 rfl) rfl ?_
                  refine zr_getr (q := 123) C fk_RX12_75 fi_103_45 (zdec_at dm_X12_findCorners 84 rfl) ?_
                  refine zr_iconst C (zdec_at dm_X12_findCorners 85 rfl) ?_
                  refine zr_iload C 4 rfl (zdec_at dm_X12_findCorners 86 rfl) ?_
                  refine zr_imul C (zdec_at dm_X12_findCorners 87 rfl) ?_
                  refine zr_iconst C (zdec_at dm_X12_findCorners 88 rfl) ?_
                  refine zr_iadd C (zdec_at dm_X12_findCorners 89 rfl) ?_
                  obtain ⟨o139, h⟩ := h
                  refine zr_iald C ai_123 o139 (zdec_at dm_X12_findCorners 90 rfl) ?_
                  refine zr_iadd C (zdec_at dm_X12_findCorners 91 rfl) ?_
                  refine zr_aload_n C 0 rfl (zdec_at dm_X12_findCorners 92 rfl) rfl ?_
                  refine zr_getr (q := 123) C fk_RX12_75 fi_103_45 (zdec_at dm_X12_findCorners 93 rfl) ?_
                  refine zr_iconst C (zdec_at dm_X12_findCorners 94 rfl) ?_
                  refine zr_iload C 4 rfl (zdec_at dm_X12_findCorners 95 rfl) ?_
                  refine zr_imul C (zdec_at dm_X12_findCorners 96 rfl) ?_
                  refine zr_iload C 3 rfl (zdec_at dm_X12_findCorners 97 rfl) ?_
                  refine zr_iadd C (zdec_at dm_X12_findCorners 98 rfl) ?_
                  obtain ⟨o140, h⟩ := h
                  refine zr_iald C ai_123 o140 (zdec_at dm_X12_findCorners 99 rfl) ?_
                  obtain ⟨o141, h⟩ := h
                  refine zr_icmp_ne C o141 (hR135 _ _) (zdec_at dm_X12_findCorners 100 rfl) rfl (fun g142 => ?_) (fun g142 => ?_)
                  · have h := h.1 g142
                    refine zr_iconst C (zdec_at dm_X12_findCorners 103 rfl) ?_
                    refine zr_istore (L1 := [(5, zI 1), (0, zRf (zad Γ) 103), (1, zI a1), (4, zI (M87 123 v16)), (6, zI v106)]) C (zdec_at dm_X12_findCorners 104 rfl) (Nat.le_of_ble_eq_true rfl) rfl ?_
                    refine zr_iinc (L1 := [(6, zI (v106 + 1)), (5, zI 1), (0, zRf (zad Γ) 103), (1, zI a1), (4, zI (M87 123 v16))]) C 4 rfl (zdec_at dm_X12_findCorners 105 rfl) (Nat.le_of_ble_eq_true rfl) rfl ?_
                    refine zr_goto C (zdec_at dm_X12_findCorners 106 rfl) rfl ?_
                    obtain ⟨o143, h⟩ := h
                    obtain ⟨n144, q145, q146⟩ := h
                    exact zr_sub [2, 3, 4, 1, 0] rfl (ih112 n144 q145 _ _ _ q146 (by decide) o143 hR135)
                  · have h := h.2 g142
                    refine zr_iconst C (zdec_at dm_X12_findCorners 101 rfl) ?_
                    refine zr_goto C (zdec_at dm_X12_findCorners 102 rfl) rfl ?_
                    refine zr_istore (L1 := [(5, zI 0), (0, zRf (zad Γ) 103), (1, zI a1), (4, zI (M87 123 v16)), (6, zI v106)]) C (zdec_at dm_X12_findCorners 104 rfl) (Nat.le_of_ble_eq_true rfl) rfl ?_
                    refine zr_iinc (L1 := [(6, zI (v106 + 1)), (5, zI 0), (0, zRf (zad Γ) 103), (1, zI a1), (4, zI (M87 123 v16))]) C 4 rfl (zdec_at dm_X12_findCorners 105 rfl) (Nat.le_of_ble_eq_true rfl) rfl ?_
                    refine zr_goto C (zdec_at dm_X12_findCorners 106 rfl) rfl ?_
                    obtain ⟨o147, h⟩ := h
                    obtain ⟨n148, q149, q150⟩ := h
                    exact zr_sub [2, 3, 4, 1, 0] rfl (ih112 n148 q149 _ _ _ q150 (by decide) o147 hR135))
              refine zr_icmp_ne C z107 (by decide) (zdec_at dm_X12_findCorners 66 rfl) rfl (fun g151 => ?_) (fun g151 => ?_)
              · have h := h.1 g151
                refine zr_iconst C (zdec_at dm_X12_findCorners 69 rfl) ?_
                exact zr_sub [0, 1, 2, 3, 4] rfl (h (by decide))
              · have h := h.2 g151
                refine zr_iconst C (zdec_at dm_X12_findCorners 67 rfl) ?_
                refine zr_goto C (zdec_at dm_X12_findCorners 68 rfl) rfl ?_
                exact zr_sub [0, 1, 2, 3, 4] rfl (h (by decide))
          exact zr_sub [1, 2, 3, 4, 0] rfl (lp113 n115 _ _ _ q116 z17 (by decide) hR96)
        · have h := h.2 g104
          refine zr_aload_n C 0 rfl (zdec_at dm_X12_findCorners 45 rfl) rfl ?_
          refine zr_getr (q := 124) C fk_RX12_78 fi_103_46 (zdec_at dm_X12_findCorners 46 rfl) ?_
          refine zr_iload C 4 rfl (zdec_at dm_X12_findCorners 47 rfl) ?_
          refine zr_iconst C (zdec_at dm_X12_findCorners 48 rfl) ?_
          obtain ⟨o152, h⟩ := h
          refine zr_zast C ai_124 o152 (by decide) (by decide) rfl (zdec_at dm_X12_findCorners 49 rfl) (fun M153 e154 => ?_)
          have h := h M153 e154
          have hR155 : zRng M153 := by rw [e154]; exact hR96.set (by decide) _ _
          refine zr_iinc (L1 := [(6, zI (v93 + 1)), (0, zRf (zad Γ) 103), (1, zI a1), (4, zI (M87 123 v16)), (5, zI v16)]) C 4 rfl (zdec_at dm_X12_findCorners 50 rfl) (Nat.le_of_ble_eq_true rfl) rfl ?_
          refine zr_goto C (zdec_at dm_X12_findCorners 51 rfl) rfl ?_
          obtain ⟨o156, h⟩ := h
          obtain ⟨n157, q158, q159⟩ := h
          exact zr_sub [1, 2, 3, 4, 0] rfl (ih98 n157 q158 _ _ q159 o156 hR155)
      exact zr_sub [4, 5, 2, 1, 0] rfl (lp99 n101 _ _ q102 (by decide) hR88))
  refine zr_icmp_ge C (hR7 _ _) (hR12 _ _) (zdec_at dm_X12_findCorners 20 rfl) rfl (fun g160 => ?_) (fun g160 => ?_)
  · have h := h.1 g160
    refine zr_iconst C (zdec_at dm_X12_findCorners 23 rfl) ?_
    exact zr_sub [1, 2] rfl (h (by decide))
  · have h := h.2 g160
    refine zr_iconst C (zdec_at dm_X12_findCorners 21 rfl) ?_
    refine zr_goto C (zdec_at dm_X12_findCorners 22 rfl) rfl ?_
    exact zr_sub [1, 2] rfl (h (by decide))

set_option maxHeartbeats 400000 in
set_option maxRecDepth 100000 in
theorem sn_X12_corners {pr_X12_isFace : Int → zM → Prop} {po_X12_isFace : Int → zM → Int → zM → Prop} {pr_X12_in : Int → Int → Int → zM → Prop} {po_X12_in : Int → Int → Int → zM → Int → zM → Prop} {pr_X12_findBorder : Int → zM → Prop} {po_X12_findBorder : Int → zM → zM → Prop} {pr_X12_findCorners : Int → zM → Prop} {po_X12_findCorners : Int → zM → Int → zM → Prop} (hS_X12_isFace : zSnd zS 145 0 0 yX12_isFace cX12_isFace 2 (some .boolean) 3 [2, 0] (F_X12_isFace pr_X12_isFace po_X12_isFace)) (hS_X12_in : zSnd zS 145 0 0 yX12_in cX12_in 6 (some .boolean) 0 [1, 1, 1] (F_X12_in pr_X12_in po_X12_in)) (hS_X12_findBorder : zSnd zS 145 0 0 yX12_findBorder cX12_findBorder 8 none 2 [2, 0] (F_X12_findBorder pr_X12_findBorder po_X12_findBorder)) (hS_X12_findCorners : zSnd zS 145 0 0 yX12_findCorners cX12_findCorners 7 (some .int) 2 [2, 0] (F_X12_findCorners pr_X12_findCorners po_X12_findCorners)) : zSnd zS 145 0 0 yX12_corners cX12_corners 3 (some .int) 4 [2, 0, 0] (fun xs P M => ∃ a1 a2 : Int, xs = [103, a1, a2] ∧ vc_X12_corners pr_X12_isFace po_X12_isFace pr_X12_in po_X12_in pr_X12_findBorder po_X12_findBorder pr_X12_findCorners po_X12_findCorners a1 a2 P M) := by
  refine zSnd.of rfl (fun ad xs hz => Nat.le_trans (Nat.le_of_eq (zlen ad _ xs hz)) (by decide)) ?_
  intro Γ C _ _ xs M hz hF
  obtain ⟨a1, a2, rfl, h⟩ := hF
  have zz_a1 := zall_h (zall_t hz) (by decide)
  have zz_a2 := zall_h (zall_t (zall_t hz)) (by decide)
  refine zr_rng (fun hR => ?_)
  have C : zC Γ mu_X12_corners := C
  change zV Γ mu_X12_corners (145, 0, 0) 0 [(0, zRf (zad Γ) 103), (1, zI a1), (2, zI a2)] [] M
  change vc_X12_corners pr_X12_isFace po_X12_isFace pr_X12_in po_X12_in pr_X12_findBorder po_X12_findBorder pr_X12_findCorners po_X12_findCorners a1 a2 _ M at h
  unfold vc_X12_corners at h
  refine zr_aload_n C 0 rfl (zdec_at dm_X12_corners 0 rfl) rfl ?_
  refine zr_iconst C (zdec_at dm_X12_corners 1 rfl) ?_
  refine zr_puti C fk_RX12_140 fi_103_0 (by decide) (zdec_at dm_X12_corners 2 rfl) (fun M1 e2 => ?_)
  have h := h M1 e2
  have hR3 : zRng M1 := by rw [e2]; exact hR.set (by decide) _ _
  refine zr_aload_n C 0 rfl (zdec_at dm_X12_corners 3 rfl) rfl ?_
  refine zr_iload_n C 1 rfl (zdec_at dm_X12_corners 4 rfl) rfl ?_
  obtain ⟨g9, h⟩ := h
  refine zr_callV C [a1] hS_X12_isFace ck_RX12_300 iv_X12_isFace vc_X12 oc_103 rfl rfl (zdec_at dm_X12_corners 5 rfl) ⟨rfl, rfl, rfl, rfl⟩ ⟨by decide, by decide⟩ (Nat.le_of_ble_eq_true rfl) (zall_0 zz_a1 zall_n) ?_
  refine ⟨_, rfl, g9, fun r4 M5 p8 z7 hR6 => ?_⟩
  have h := h r4 M5 p8 z7 hR6
  show zV Γ mu_X12_corners (145, 0, 0) 10 [(0, zRf (zad Γ) 103), (1, zI a1), (2, zI a2)] [zI r4] M5
  refine zr_if_eq C z7 (zdec_at dm_X12_corners 6 rfl) rfl (fun g10 => ?_) (fun g10 => ?_)
  · have h := h.1 g10
    refine zr_iconst C (zdec_at dm_X12_corners 13 rfl) ?_
    exact zr_ireturn C rfl (zdec_at dm_X12_corners 14 rfl) rfl ⟨(by decide), h⟩
  · have h := h.2 g10
    refine zr_iload_n C 2 rfl (zdec_at dm_X12_corners 7 rfl) rfl ?_
    refine zr_i2l C zz_a2 (zdec_at dm_X12_corners 8 rfl) ?_
    refine zr_lconst (v := 0) C (zdec_at dm_X12_corners 9 rfl) rfl ?_
    refine zr_ldc2 C (zdec_at dm_X12_corners 10 rfl) kc_RX12_337 ?_
    obtain ⟨g16, h⟩ := h
    refine zr_callS C [a2, 0, 99] hS_X12_in ck_RX12_156 sv_X12_in rfl rfl (zdec_at dm_X12_corners 11 rfl) ⟨rfl, rfl, rfl, rfl⟩ ⟨by decide, by decide⟩ (Nat.le_of_ble_eq_true rfl) (zall_1 zz_a2 (zall_1 (by decide) (zall_1 (by decide) zall_n))) ?_
    refine ⟨_, _, _, rfl, g16, fun r11 M12 p15 z14 hR13 => ?_⟩
    have h := h r11 M12 p15 z14 hR13
    show zV Γ mu_X12_corners (145, 0, 0) 22 [(0, zRf (zad Γ) 103), (1, zI a1), (2, zI a2)] [zI r11] M12
    refine zr_if_ne C z14 (zdec_at dm_X12_corners 12 rfl) rfl (fun g17 => ?_) (fun g17 => ?_)
    · have h := h.1 g17
      refine zr_aload_n C 0 rfl (zdec_at dm_X12_corners 15 rfl) rfl ?_
      refine zr_iload_n C 1 rfl (zdec_at dm_X12_corners 16 rfl) rfl ?_
      obtain ⟨g22, h⟩ := h
      refine zr_callV C [a1] hS_X12_findBorder ck_RX12_294 iv_X12_findBorder vc_X12 oc_103 rfl rfl (zdec_at dm_X12_corners 17 rfl) ⟨rfl, rfl, rfl, rfl⟩ ⟨by decide, by decide⟩ (Nat.le_of_ble_eq_true rfl) (zall_0 zz_a1 zall_n) ?_
      refine ⟨_, rfl, g22, fun M18 p21 _ hR19 => ?_⟩
      have h := h M18 p21 hR19
      show zV Γ mu_X12_corners (145, 0, 0) 32 [(0, zRf (zad Γ) 103), (1, zI a1), (2, zI a2)] [] M18
      refine zr_aload_n C 0 rfl (zdec_at dm_X12_corners 18 rfl) rfl ?_
      refine zr_iload_n C 2 rfl (zdec_at dm_X12_corners 19 rfl) rfl ?_
      obtain ⟨g28, h⟩ := h
      refine zr_callV C [a2] hS_X12_findCorners ck_RX12_339 iv_X12_findCorners vc_X12 oc_103 rfl rfl (zdec_at dm_X12_corners 20 rfl) ⟨rfl, rfl, rfl, rfl⟩ ⟨by decide, by decide⟩ (Nat.le_of_ble_eq_true rfl) (zall_0 zz_a2 zall_n) ?_
      refine ⟨_, rfl, g28, fun r23 M24 p27 z26 hR25 => ?_⟩
      have h := h r23 M24 p27 z26 hR25
      show zV Γ mu_X12_corners (145, 0, 0) 37 [(0, zRf (zad Γ) 103), (1, zI a1), (2, zI a2)] [zI r23] M24
      exact zr_ireturn C rfl (zdec_at dm_X12_corners 21 rfl) rfl ⟨z26, h⟩
    · have h := h.2 g17
      refine zr_iconst C (zdec_at dm_X12_corners 13 rfl) ?_
      exact zr_ireturn C rfl (zdec_at dm_X12_corners 14 rfl) rfl ⟨(by decide), h⟩

set_option maxHeartbeats 400000 in
set_option maxRecDepth 100000 in
theorem sn_X12_cornered {pr_X12_isFace : Int → zM → Prop} {po_X12_isFace : Int → zM → Int → zM → Prop} {pr_X12_in : Int → Int → Int → zM → Prop} {po_X12_in : Int → Int → Int → zM → Int → zM → Prop} {pr_X12_findBorder : Int → zM → Prop} {po_X12_findBorder : Int → zM → zM → Prop} {pr_X12_findCorners : Int → zM → Prop} {po_X12_findCorners : Int → zM → Int → zM → Prop} (hS_X12_isFace : zSnd zS 145 0 0 yX12_isFace cX12_isFace 2 (some .boolean) 3 [2, 0] (F_X12_isFace pr_X12_isFace po_X12_isFace)) (hS_X12_in : zSnd zS 145 0 0 yX12_in cX12_in 6 (some .boolean) 0 [1, 1, 1] (F_X12_in pr_X12_in po_X12_in)) (hS_X12_findBorder : zSnd zS 145 0 0 yX12_findBorder cX12_findBorder 8 none 2 [2, 0] (F_X12_findBorder pr_X12_findBorder po_X12_findBorder)) (hS_X12_findCorners : zSnd zS 145 0 0 yX12_findCorners cX12_findCorners 7 (some .int) 2 [2, 0] (F_X12_findCorners pr_X12_findCorners po_X12_findCorners)) : zSnd zS 145 0 0 yX12_cornered cX12_cornered 4 (some .int) 4 [2, 0, 0, 0] (fun xs P M => ∃ a1 a2 a3 : Int, xs = [103, a1, a2, a3] ∧ vc_X12_cornered pr_X12_isFace po_X12_isFace pr_X12_in po_X12_in pr_X12_findBorder po_X12_findBorder pr_X12_findCorners po_X12_findCorners a1 a2 a3 P M) := by
  refine zSnd.of rfl (fun ad xs hz => Nat.le_trans (Nat.le_of_eq (zlen ad _ xs hz)) (by decide)) ?_
  intro Γ C _ _ xs M hz hF
  obtain ⟨a1, a2, a3, rfl, h⟩ := hF
  have zz_a1 := zall_h (zall_t hz) (by decide)
  have zz_a2 := zall_h (zall_t (zall_t hz)) (by decide)
  have zz_a3 := zall_h (zall_t (zall_t (zall_t hz))) (by decide)
  refine zr_rng (fun hR => ?_)
  have C : zC Γ mu_X12_cornered := C
  change zV Γ mu_X12_cornered (145, 0, 0) 0 [(0, zRf (zad Γ) 103), (1, zI a1), (2, zI a2), (3, zI a3)] [] M
  change vc_X12_cornered pr_X12_isFace po_X12_isFace pr_X12_in po_X12_in pr_X12_findBorder po_X12_findBorder pr_X12_findCorners po_X12_findCorners a1 a2 a3 _ M at h
  unfold vc_X12_cornered at h
  refine zr_aload_n C 0 rfl (zdec_at dm_X12_cornered 0 rfl) rfl ?_
  refine zr_iconst C (zdec_at dm_X12_cornered 1 rfl) ?_
  refine zr_puti C fk_RX12_140 fi_103_0 (by decide) (zdec_at dm_X12_cornered 2 rfl) (fun M1 e2 => ?_)
  have h := h M1 e2
  have hR3 : zRng M1 := by rw [e2]; exact hR.set (by decide) _ _
  refine zr_aload_n C 0 rfl (zdec_at dm_X12_cornered 3 rfl) rfl ?_
  refine zr_iload_n C 1 rfl (zdec_at dm_X12_cornered 4 rfl) rfl ?_
  obtain ⟨g9, h⟩ := h
  refine zr_callV C [a1] hS_X12_isFace ck_RX12_300 iv_X12_isFace vc_X12 oc_103 rfl rfl (zdec_at dm_X12_cornered 5 rfl) ⟨rfl, rfl, rfl, rfl⟩ ⟨by decide, by decide⟩ (Nat.le_of_ble_eq_true rfl) (zall_0 zz_a1 zall_n) ?_
  refine ⟨_, rfl, g9, fun r4 M5 p8 z7 hR6 => ?_⟩
  have h := h r4 M5 p8 z7 hR6
  show zV Γ mu_X12_cornered (145, 0, 0) 10 [(0, zRf (zad Γ) 103), (1, zI a1), (2, zI a2), (3, zI a3)] [zI r4] M5
  refine zr_if_eq C z7 (zdec_at dm_X12_cornered 6 rfl) rfl (fun g10 => ?_) (fun g10 => ?_)
  · have h := h.1 g10
    refine zr_iconst C (zdec_at dm_X12_cornered 13 rfl) ?_
    exact zr_ireturn C rfl (zdec_at dm_X12_cornered 14 rfl) rfl ⟨(by decide), h⟩
  · have h := h.2 g10
    refine zr_iload_n C 2 rfl (zdec_at dm_X12_cornered 7 rfl) rfl ?_
    refine zr_i2l C zz_a2 (zdec_at dm_X12_cornered 8 rfl) ?_
    refine zr_lconst (v := 0) C (zdec_at dm_X12_cornered 9 rfl) rfl ?_
    refine zr_ldc2 C (zdec_at dm_X12_cornered 10 rfl) kc_RX12_337 ?_
    obtain ⟨g16, h⟩ := h
    refine zr_callS C [a2, 0, 99] hS_X12_in ck_RX12_156 sv_X12_in rfl rfl (zdec_at dm_X12_cornered 11 rfl) ⟨rfl, rfl, rfl, rfl⟩ ⟨by decide, by decide⟩ (Nat.le_of_ble_eq_true rfl) (zall_1 zz_a2 (zall_1 (by decide) (zall_1 (by decide) zall_n))) ?_
    refine ⟨_, _, _, rfl, g16, fun r11 M12 p15 z14 hR13 => ?_⟩
    have h := h r11 M12 p15 z14 hR13
    show zV Γ mu_X12_cornered (145, 0, 0) 22 [(0, zRf (zad Γ) 103), (1, zI a1), (2, zI a2), (3, zI a3)] [zI r11] M12
    refine zr_if_ne C z14 (zdec_at dm_X12_cornered 12 rfl) rfl (fun g17 => ?_) (fun g17 => ?_)
    · have h := h.1 g17
      refine zr_aload_n C 0 rfl (zdec_at dm_X12_cornered 15 rfl) rfl ?_
      refine zr_iload_n C 1 rfl (zdec_at dm_X12_cornered 16 rfl) rfl ?_
      obtain ⟨g22, h⟩ := h
      refine zr_callV C [a1] hS_X12_findBorder ck_RX12_294 iv_X12_findBorder vc_X12 oc_103 rfl rfl (zdec_at dm_X12_cornered 17 rfl) ⟨rfl, rfl, rfl, rfl⟩ ⟨by decide, by decide⟩ (Nat.le_of_ble_eq_true rfl) (zall_0 zz_a1 zall_n) ?_
      refine ⟨_, rfl, g22, fun M18 p21 _ hR19 => ?_⟩
      have h := h M18 p21 hR19
      show zV Γ mu_X12_cornered (145, 0, 0) 32 [(0, zRf (zad Γ) 103), (1, zI a1), (2, zI a2), (3, zI a3)] [] M18
      refine zr_iload_n C 3 rfl (zdec_at dm_X12_cornered 18 rfl) rfl ?_
      refine zr_i2l C zz_a3 (zdec_at dm_X12_cornered 19 rfl) ?_
      refine zr_lconst (v := 0) C (zdec_at dm_X12_cornered 20 rfl) rfl ?_
      refine zr_aload_n C 0 rfl (zdec_at dm_X12_cornered 21 rfl) rfl ?_
      refine zr_geti C fk_RX12_297 fi_103_38 (zdec_at dm_X12_cornered 22 rfl) ?_
      refine zr_iconst C (zdec_at dm_X12_cornered 23 rfl) ?_
      refine zr_isub C (zdec_at dm_X12_cornered 24 rfl) ?_
      obtain ⟨o23, h⟩ := h
      refine zr_i2l C o23 (zdec_at dm_X12_cornered 25 rfl) ?_
      obtain ⟨g29, h⟩ := h
      refine zr_callS C [a3, 0, ((M18 103 38) - 1)] hS_X12_in ck_RX12_156 sv_X12_in rfl rfl (zdec_at dm_X12_cornered 26 rfl) ⟨rfl, rfl, rfl, rfl⟩ ⟨by decide, by decide⟩ (Nat.le_of_ble_eq_true rfl) (zall_1 zz_a3 (zall_1 (by decide) (zall_1 o23 zall_n))) ?_
      refine ⟨_, _, _, rfl, g29, fun r24 M25 p28 z27 hR26 => ?_⟩
      have h := h r24 M25 p28 z27 hR26
      show zV Γ mu_X12_cornered (145, 0, 0) 45 [(0, zRf (zad Γ) 103), (1, zI a1), (2, zI a2), (3, zI a3)] [zI r24] M25
      refine zr_if_ne C z27 (zdec_at dm_X12_cornered 27 rfl) rfl (fun g30 => ?_) (fun g30 => ?_)
      · have h := h.1 g30
        refine zr_aload_n C 0 rfl (zdec_at dm_X12_cornered 30 rfl) rfl ?_
        refine zr_iload_n C 2 rfl (zdec_at dm_X12_cornered 31 rfl) rfl ?_
        obtain ⟨g36, h⟩ := h
        refine zr_callV C [a2] hS_X12_findCorners ck_RX12_339 iv_X12_findCorners vc_X12 oc_103 rfl rfl (zdec_at dm_X12_cornered 32 rfl) ⟨rfl, rfl, rfl, rfl⟩ ⟨by decide, by decide⟩ (Nat.le_of_ble_eq_true rfl) (zall_0 zz_a2 zall_n) ?_
        refine ⟨_, rfl, g36, fun r31 M32 p35 z34 hR33 => ?_⟩
        have h := h r31 M32 p35 z34 hR33
        show zV Γ mu_X12_cornered (145, 0, 0) 55 [(0, zRf (zad Γ) 103), (1, zI a1), (2, zI a2), (3, zI a3)] [zI r31] M32
        refine zr_pop C rfl (zdec_at dm_X12_cornered 33 rfl) ?_
        refine zr_aload_n C 0 rfl (zdec_at dm_X12_cornered 34 rfl) rfl ?_
        refine zr_getr (q := 124) C fk_RX12_78 fi_103_46 (zdec_at dm_X12_cornered 35 rfl) ?_
        refine zr_iload_n C 3 rfl (zdec_at dm_X12_cornered 36 rfl) rfl ?_
        obtain ⟨o37, h⟩ := h
        refine zr_zald C ai_124 o37 (zdec_at dm_X12_cornered 37 rfl) ?_
        refine zr_if_eq C (hR33 _ _) (zdec_at dm_X12_cornered 38 rfl) rfl (fun g38 => ?_) (fun g38 => ?_)
        · have h := h.1 g38
          refine zr_iconst C (zdec_at dm_X12_cornered 41 rfl) ?_
          exact zr_ireturn C rfl (zdec_at dm_X12_cornered 42 rfl) rfl ⟨(by decide), h⟩
        · have h := h.2 g38
          refine zr_iconst C (zdec_at dm_X12_cornered 39 rfl) ?_
          refine zr_goto C (zdec_at dm_X12_cornered 40 rfl) rfl ?_
          exact zr_ireturn C rfl (zdec_at dm_X12_cornered 42 rfl) rfl ⟨(by decide), h⟩
      · have h := h.2 g30
        refine zr_iconst C (zdec_at dm_X12_cornered 28 rfl) ?_
        exact zr_ireturn C rfl (zdec_at dm_X12_cornered 29 rfl) rfl ⟨(by decide), h⟩
    · have h := h.2 g17
      refine zr_iconst C (zdec_at dm_X12_cornered 13 rfl) ?_
      exact zr_ireturn C rfl (zdec_at dm_X12_cornered 14 rfl) rfl ⟨(by decide), h⟩

set_option maxHeartbeats 400000 in
set_option maxRecDepth 100000 in
theorem sn_X12_isNear : zSnd zS 145 0 0 yX12_isNear cX12_isNear 13 (some .boolean) 0 [1, 1, 1, 1, 0] (fun xs P M => ∃ a0 a1 a2 a3 a4 : Int, xs = [a0, a1, a2, a3, a4] ∧ vc_X12_isNear a0 a1 a2 a3 a4 P M) := by
  refine zSnd.of rfl (fun ad xs hz => Nat.le_trans (Nat.le_of_eq (zlen ad _ xs hz)) (by decide)) ?_
  intro Γ C _ _ xs M hz hF
  obtain ⟨a0, a1, a2, a3, a4, rfl, h⟩ := hF
  have zz_a0 := zall_h hz (by decide)
  have zz_a1 := zall_h (zall_t hz) (by decide)
  have zz_a2 := zall_h (zall_t (zall_t hz)) (by decide)
  have zz_a3 := zall_h (zall_t (zall_t (zall_t hz))) (by decide)
  have zz_a4 := zall_h (zall_t (zall_t (zall_t (zall_t hz)))) (by decide)
  refine zr_rng (fun hR => ?_)
  have C : zC Γ mu_X12_isNear := C
  change zV Γ mu_X12_isNear (145, 0, 0) 0 [(0, zJ a0), (2, zJ a1), (4, zJ a2), (6, zJ a3), (8, zI a4)] [] M
  change vc_X12_isNear a0 a1 a2 a3 a4 _ M at h
  unfold vc_X12_isNear at h
  refine zr_lload C 2 rfl (zdec_at dm_X12_isNear 0 rfl) ?_
  refine zr_lload C 2 rfl (zdec_at dm_X12_isNear 1 rfl) ?_
  refine zr_lmul C (zdec_at dm_X12_isNear 2 rfl) ?_
  refine zr_lload C 3 rfl (zdec_at dm_X12_isNear 3 rfl) ?_
  refine zr_lload C 3 rfl (zdec_at dm_X12_isNear 4 rfl) ?_
  refine zr_lmul C (zdec_at dm_X12_isNear 5 rfl) ?_
  refine zr_ladd C (zdec_at dm_X12_isNear 6 rfl) ?_
  refine zr_lstore (L1 := [(9, zJ ((a2 * a2) + (a3 * a3))), (0, zJ a0), (2, zJ a1), (4, zJ a2), (6, zJ a3), (8, zI a4)]) C (zdec_at dm_X12_isNear 7 rfl) (Nat.le_of_ble_eq_true rfl) rfl ?_
  refine zr_lload C 0 rfl (zdec_at dm_X12_isNear 8 rfl) ?_
  refine zr_lconst (v := 0) C (zdec_at dm_X12_isNear 9 rfl) rfl ?_
  obtain ⟨o1, h⟩ := h
  refine zr_lcmp_ne C o1 (by decide) (zdec_at dm_X12_isNear 10 rfl) (zdec_at dm_X12_isNear 11 rfl) rfl (fun g2 => ?_) (fun g2 => ?_)
  · have h := h.1 g2
    refine zr_lload_n C 1 rfl (zdec_at dm_X12_isNear 32 rfl) rfl ?_
    refine zr_lload C 4 rfl (zdec_at dm_X12_isNear 33 rfl) ?_
    refine zr_lmul C (zdec_at dm_X12_isNear 34 rfl) ?_
    refine zr_lload_n C 2 rfl (zdec_at dm_X12_isNear 35 rfl) rfl ?_
    refine zr_lload C 3 rfl (zdec_at dm_X12_isNear 36 rfl) ?_
    refine zr_lmul C (zdec_at dm_X12_isNear 37 rfl) ?_
    refine zr_lsub C (zdec_at dm_X12_isNear 38 rfl) ?_
    refine zr_lstore (L1 := [(11, zJ ((a0 * a3) - (a1 * a2))), (9, zJ ((a2 * a2) + (a3 * a3))), (0, zJ a0), (2, zJ a1), (4, zJ a2), (6, zJ a3), (8, zI a4)]) C (zdec_at dm_X12_isNear 39 rfl) (Nat.le_of_ble_eq_true rfl) rfl ?_
    refine zr_lload C 0 rfl (zdec_at dm_X12_isNear 40 rfl) ?_
    refine zr_lload C 0 rfl (zdec_at dm_X12_isNear 41 rfl) ?_
    refine zr_lmul C (zdec_at dm_X12_isNear 42 rfl) ?_
    refine zr_ldc2 C (zdec_at dm_X12_isNear 43 rfl) kc_RX12_342 ?_
    refine zr_lmul C (zdec_at dm_X12_isNear 44 rfl) ?_
    refine zr_iload C 6 rfl (zdec_at dm_X12_isNear 45 rfl) ?_
    refine zr_i2l C zz_a4 (zdec_at dm_X12_isNear 46 rfl) ?_
    refine zr_iload C 6 rfl (zdec_at dm_X12_isNear 47 rfl) ?_
    refine zr_i2l C zz_a4 (zdec_at dm_X12_isNear 48 rfl) ?_
    refine zr_lmul C (zdec_at dm_X12_isNear 49 rfl) ?_
    refine zr_lload C 1 rfl (zdec_at dm_X12_isNear 50 rfl) ?_
    refine zr_lmul C (zdec_at dm_X12_isNear 51 rfl) ?_
    obtain ⟨o3, h⟩ := h
    obtain ⟨o4, h⟩ := h
    refine zr_lcmp_gt C o3 o4 (zdec_at dm_X12_isNear 52 rfl) (zdec_at dm_X12_isNear 53 rfl) rfl (fun g5 => ?_) (fun g5 => ?_)
    · have h := h.1 g5
      refine zr_iconst C (zdec_at dm_X12_isNear 56 rfl) ?_
      exact zr_zreturn C rfl (by decide) (zdec_at dm_X12_isNear 57 rfl) rfl ⟨(by decide), h⟩
    · have h := h.2 g5
      refine zr_iconst C (zdec_at dm_X12_isNear 54 rfl) ?_
      refine zr_goto C (zdec_at dm_X12_isNear 55 rfl) rfl ?_
      exact zr_zreturn C rfl (by decide) (zdec_at dm_X12_isNear 57 rfl) rfl ⟨(by decide), h⟩
  · have h := h.2 g2
    refine zr_lload_n C 1 rfl (zdec_at dm_X12_isNear 12 rfl) rfl ?_
    refine zr_lload_n C 1 rfl (zdec_at dm_X12_isNear 13 rfl) rfl ?_
    refine zr_lmul C (zdec_at dm_X12_isNear 14 rfl) ?_
    refine zr_lload_n C 2 rfl (zdec_at dm_X12_isNear 15 rfl) rfl ?_
    refine zr_lload_n C 2 rfl (zdec_at dm_X12_isNear 16 rfl) rfl ?_
    refine zr_lmul C (zdec_at dm_X12_isNear 17 rfl) ?_
    refine zr_ladd C (zdec_at dm_X12_isNear 18 rfl) ?_
    refine zr_ldc2 C (zdec_at dm_X12_isNear 19 rfl) kc_RX12_342 ?_
    refine zr_lmul C (zdec_at dm_X12_isNear 20 rfl) ?_
    refine zr_iload C 5 rfl (zdec_at dm_X12_isNear 21 rfl) ?_
    refine zr_i2l C zz_a4 (zdec_at dm_X12_isNear 22 rfl) ?_
    refine zr_iload C 5 rfl (zdec_at dm_X12_isNear 23 rfl) ?_
    refine zr_i2l C zz_a4 (zdec_at dm_X12_isNear 24 rfl) ?_
    refine zr_lmul C (zdec_at dm_X12_isNear 25 rfl) ?_
    obtain ⟨o6, h⟩ := h
    obtain ⟨o7, h⟩ := h
    refine zr_lcmp_gt C o6 o7 (zdec_at dm_X12_isNear 26 rfl) (zdec_at dm_X12_isNear 27 rfl) rfl (fun g8 => ?_) (fun g8 => ?_)
    · have h := h.1 g8
      refine zr_iconst C (zdec_at dm_X12_isNear 30 rfl) ?_
      exact zr_zreturn C rfl (by decide) (zdec_at dm_X12_isNear 31 rfl) rfl ⟨(by decide), h⟩
    · have h := h.2 g8
      refine zr_iconst C (zdec_at dm_X12_isNear 28 rfl) ?_
      refine zr_goto C (zdec_at dm_X12_isNear 29 rfl) rfl ?_
      exact zr_zreturn C rfl (by decide) (zdec_at dm_X12_isNear 31 rfl) rfl ⟨(by decide), h⟩

set_option maxHeartbeats 400000 in
set_option maxRecDepth 100000 in
theorem sn_X12_isStraight {pr_X12_isNear : Int → Int → Int → Int → Int → zM → Prop} {po_X12_isNear : Int → Int → Int → Int → Int → zM → Int → zM → Prop} (hS_X12_isNear : zSnd zS 145 0 0 yX12_isNear cX12_isNear 13 (some .boolean) 0 [1, 1, 1, 1, 0] (F_X12_isNear pr_X12_isNear po_X12_isNear)) : zSnd zS 145 0 0 yX12_isStraight cX12_isStraight 6 (some .boolean) 1 [2, 0, 0, 0] (fun xs P M => ∃ a1 a2 a3 : Int, xs = [103, a1, a2, a3] ∧ vc_X12_isStraight pr_X12_isNear po_X12_isNear a1 a2 a3 P M) := by
  refine zSnd.of rfl (fun ad xs hz => Nat.le_trans (Nat.le_of_eq (zlen ad _ xs hz)) (by decide)) ?_
  intro Γ C _ _ xs M hz hF
  obtain ⟨a1, a2, a3, rfl, h⟩ := hF
  have zz_a1 := zall_h (zall_t hz) (by decide)
  have zz_a2 := zall_h (zall_t (zall_t hz)) (by decide)
  have zz_a3 := zall_h (zall_t (zall_t (zall_t hz))) (by decide)
  refine zr_rng (fun hR => ?_)
  have C : zC Γ mu_X12_isStraight := C
  change zV Γ mu_X12_isStraight (145, 0, 0) 0 [(0, zRf (zad Γ) 103), (1, zI a1), (2, zI a2), (3, zI a3)] [] M
  change vc_X12_isStraight pr_X12_isNear po_X12_isNear a1 a2 a3 _ M at h
  unfold vc_X12_isStraight at h
  refine zr_iconst C (zdec_at dm_X12_isStraight 0 rfl) ?_
  refine zr_istore (L1 := [(4, zI 1), (0, zRf (zad Γ) 103), (1, zI a1), (2, zI a2), (3, zI a3)]) C (zdec_at dm_X12_isStraight 1 rfl) (Nat.le_of_ble_eq_true rfl) rfl ?_
  refine zr_iload_n C 2 rfl (zdec_at dm_X12_isStraight 2 rfl) rfl ?_
  refine zr_iconst C (zdec_at dm_X12_isStraight 3 rfl) ?_
  refine zr_iadd C (zdec_at dm_X12_isStraight 4 rfl) ?_
  refine zr_istore (L1 := [(5, zI (a1 + 1)), (4, zI 1), (0, zRf (zad Γ) 103), (1, zI a1), (2, zI a2), (3, zI a3)]) C (zdec_at dm_X12_isStraight 5 rfl) (Nat.le_of_ble_eq_true rfl) rfl ?_
  obtain ⟨o3, h⟩ := h
  obtain ⟨I8, ⟨n12, q13⟩, hI11⟩ := h
  have lp10 : ∀ (n8 : Nat) (v1 : Int) (v2 : Int) (M6 : zM), I8 v1 v2 M6 n8 → zin v1 → zin v2 → zRng M6 → zV Γ mu_X12_isStraight (145, 0, 0) 8 [(0, zRf (zad Γ) 103), (1, zI a1), (2, zI a2), (3, zI a3), (4, zI v1), (5, zI v2)] [] M6 := by
    intro n8
    induction n8 using Nat.strongRecOn with
    | _ n8 ih9 =>
    intro v1 v2 M6 q14 z4 z5 hR7
    have h := hI11 v1 v2 M6 n8 q14 z4 z5 hR7
    refine zr_iload C 5 rfl (zdec_at dm_X12_isStraight 6 rfl) ?_
    refine zr_iload_n C 2 rfl (zdec_at dm_X12_isStraight 7 rfl) rfl ?_
    refine zr_icmp_ge C z5 zz_a2 (zdec_at dm_X12_isStraight 8 rfl) rfl (fun g15 => ?_) (fun g15 => ?_)
    · have h := h.1 g15
      refine zr_iload C 4 rfl (zdec_at dm_X12_isStraight 56 rfl) ?_
      obtain ⟨o16, h⟩ := h
      exact zr_zreturn C rfl o16 (zdec_at dm_X12_isStraight 57 rfl) rfl ⟨z4, h⟩
    · have h := h.2 g15
      refine zr_iload C 4 rfl (zdec_at dm_X12_isStraight 9 rfl) ?_
      refine zr_if_eq C z4 (zdec_at dm_X12_isStraight 10 rfl) rfl (fun g17 => ?_) (fun g17 => ?_)
      · have h := h.1 g17
        refine zr_iload C 4 rfl (zdec_at dm_X12_isStraight 56 rfl) ?_
        obtain ⟨o18, h⟩ := h
        exact zr_zreturn C rfl o18 (zdec_at dm_X12_isStraight 57 rfl) rfl ⟨z4, h⟩
      · have h := h.2 g17
        refine zr_aload_n C 0 rfl (zdec_at dm_X12_isStraight 11 rfl) rfl ?_
        refine zr_getr (q := 119) C fk_RX12_63 fi_103_40 (zdec_at dm_X12_isStraight 12 rfl) ?_
        refine zr_iload C 5 rfl (zdec_at dm_X12_isStraight 13 rfl) ?_
        obtain ⟨o19, h⟩ := h
        refine zr_iald C ai_119 o19 (zdec_at dm_X12_isStraight 14 rfl) ?_
        refine zr_aload_n C 0 rfl (zdec_at dm_X12_isStraight 15 rfl) rfl ?_
        refine zr_getr (q := 119) C fk_RX12_63 fi_103_40 (zdec_at dm_X12_isStraight 16 rfl) ?_
        refine zr_iload_n C 1 rfl (zdec_at dm_X12_isStraight 17 rfl) rfl ?_
        obtain ⟨o20, h⟩ := h
        refine zr_iald C ai_119 o20 (zdec_at dm_X12_isStraight 18 rfl) ?_
        refine zr_isub C (zdec_at dm_X12_isStraight 19 rfl) ?_
        obtain ⟨o21, h⟩ := h
        refine zr_i2l C o21 (zdec_at dm_X12_isStraight 20 rfl) ?_
        refine zr_aload_n C 0 rfl (zdec_at dm_X12_isStraight 21 rfl) rfl ?_
        refine zr_getr (q := 120) C fk_RX12_66 fi_103_41 (zdec_at dm_X12_isStraight 22 rfl) ?_
        refine zr_iload C 5 rfl (zdec_at dm_X12_isStraight 23 rfl) ?_
        refine zr_iald C ai_120 o19 (zdec_at dm_X12_isStraight 24 rfl) ?_
        refine zr_aload_n C 0 rfl (zdec_at dm_X12_isStraight 25 rfl) rfl ?_
        refine zr_getr (q := 120) C fk_RX12_66 fi_103_41 (zdec_at dm_X12_isStraight 26 rfl) ?_
        refine zr_iload_n C 1 rfl (zdec_at dm_X12_isStraight 27 rfl) rfl ?_
        refine zr_iald C ai_120 o20 (zdec_at dm_X12_isStraight 28 rfl) ?_
        refine zr_isub C (zdec_at dm_X12_isStraight 29 rfl) ?_
        obtain ⟨o22, h⟩ := h
        refine zr_i2l C o22 (zdec_at dm_X12_isStraight 30 rfl) ?_
        refine zr_aload_n C 0 rfl (zdec_at dm_X12_isStraight 31 rfl) rfl ?_
        refine zr_getr (q := 119) C fk_RX12_63 fi_103_40 (zdec_at dm_X12_isStraight 32 rfl) ?_
        refine zr_iload_n C 2 rfl (zdec_at dm_X12_isStraight 33 rfl) rfl ?_
        obtain ⟨o23, h⟩ := h
        refine zr_iald C ai_119 o23 (zdec_at dm_X12_isStraight 34 rfl) ?_
        refine zr_aload_n C 0 rfl (zdec_at dm_X12_isStraight 35 rfl) rfl ?_
        refine zr_getr (q := 119) C fk_RX12_63 fi_103_40 (zdec_at dm_X12_isStraight 36 rfl) ?_
        refine zr_iload_n C 1 rfl (zdec_at dm_X12_isStraight 37 rfl) rfl ?_
        refine zr_iald C ai_119 o20 (zdec_at dm_X12_isStraight 38 rfl) ?_
        refine zr_isub C (zdec_at dm_X12_isStraight 39 rfl) ?_
        obtain ⟨o24, h⟩ := h
        refine zr_i2l C o24 (zdec_at dm_X12_isStraight 40 rfl) ?_
        refine zr_aload_n C 0 rfl (zdec_at dm_X12_isStraight 41 rfl) rfl ?_
        refine zr_getr (q := 120) C fk_RX12_66 fi_103_41 (zdec_at dm_X12_isStraight 42 rfl) ?_
        refine zr_iload_n C 2 rfl (zdec_at dm_X12_isStraight 43 rfl) rfl ?_
        refine zr_iald C ai_120 o23 (zdec_at dm_X12_isStraight 44 rfl) ?_
        refine zr_aload_n C 0 rfl (zdec_at dm_X12_isStraight 45 rfl) rfl ?_
        refine zr_getr (q := 120) C fk_RX12_66 fi_103_41 (zdec_at dm_X12_isStraight 46 rfl) ?_
        refine zr_iload_n C 1 rfl (zdec_at dm_X12_isStraight 47 rfl) rfl ?_
        refine zr_iald C ai_120 o20 (zdec_at dm_X12_isStraight 48 rfl) ?_
        refine zr_isub C (zdec_at dm_X12_isStraight 49 rfl) ?_
        obtain ⟨o25, h⟩ := h
        refine zr_i2l C o25 (zdec_at dm_X12_isStraight 50 rfl) ?_
        refine zr_iload_n C 3 rfl (zdec_at dm_X12_isStraight 51 rfl) rfl ?_
        obtain ⟨g31, h⟩ := h
        refine zr_callS C [((M6 119 v2) - (M6 119 a1)), ((M6 120 v2) - (M6 120 a1)), ((M6 119 a2) - (M6 119 a1)), ((M6 120 a2) - (M6 120 a1)), a3] hS_X12_isNear ck_RX12_344 sv_X12_isNear rfl rfl (zdec_at dm_X12_isStraight 52 rfl) ⟨rfl, rfl, rfl, rfl⟩ ⟨by decide, by decide⟩ (Nat.le_of_ble_eq_true rfl) (zall_1 o21 (zall_1 o22 (zall_1 o24 (zall_1 o25 (zall_0 zz_a3 zall_n))))) ?_
        refine ⟨_, _, _, _, _, rfl, g31, fun r26 M27 p30 z29 hR28 => ?_⟩
        have h := h r26 M27 p30 z29 hR28
        show zV Γ mu_X12_isStraight (145, 0, 0) 81 [(0, zRf (zad Γ) 103), (1, zI a1), (2, zI a2), (3, zI a3), (4, zI v1), (5, zI v2)] [zI r26] M27
        refine zr_istore (L1 := [(4, zI r26), (0, zRf (zad Γ) 103), (1, zI a1), (2, zI a2), (3, zI a3), (5, zI v2)]) C (zdec_at dm_X12_isStraight 53 rfl) (Nat.le_of_ble_eq_true rfl) rfl ?_
        refine zr_iinc (L1 := [(5, zI (v2 + 1)), (4, zI r26), (0, zRf (zad Γ) 103), (1, zI a1), (2, zI a2), (3, zI a3)]) C 5 rfl (zdec_at dm_X12_isStraight 54 rfl) (Nat.le_of_ble_eq_true rfl) rfl ?_
        refine zr_goto C (zdec_at dm_X12_isStraight 55 rfl) rfl ?_
        obtain ⟨o32, h⟩ := h
        obtain ⟨n33, q34, q35⟩ := h
        exact zr_sub [2, 3, 4, 5, 1, 0] rfl (ih9 n33 q34 _ _ _ q35 z29 o32 hR28)
  exact zr_sub [2, 3, 4, 5, 1, 0] rfl (lp10 n12 _ _ _ q13 (by decide) o3 hR)

set_option maxHeartbeats 400000 in
set_option maxRecDepth 100000 in
theorem sn_X12_isBorder {pr_X12_isFace : Int → zM → Prop} {po_X12_isFace : Int → zM → Int → zM → Prop} {pr_X12_in : Int → Int → Int → zM → Prop} {po_X12_in : Int → Int → Int → zM → Int → zM → Prop} {pr_X12_findBorder : Int → zM → Prop} {po_X12_findBorder : Int → zM → zM → Prop} (hS_X12_isFace : zSnd zS 145 0 0 yX12_isFace cX12_isFace 2 (some .boolean) 3 [2, 0] (F_X12_isFace pr_X12_isFace po_X12_isFace)) (hS_X12_in : zSnd zS 145 0 0 yX12_in cX12_in 6 (some .boolean) 0 [1, 1, 1] (F_X12_in pr_X12_in po_X12_in)) (hS_X12_findBorder : zSnd zS 145 0 0 yX12_findBorder cX12_findBorder 8 none 2 [2, 0] (F_X12_findBorder pr_X12_findBorder po_X12_findBorder)) : zSnd zS 145 0 0 yX12_isBorder cX12_isBorder 3 (some .boolean) 4 [2, 0, 0] (fun xs P M => ∃ a1 a2 : Int, xs = [103, a1, a2] ∧ vc_X12_isBorder pr_X12_isFace po_X12_isFace pr_X12_in po_X12_in pr_X12_findBorder po_X12_findBorder a1 a2 P M) := by
  refine zSnd.of rfl (fun ad xs hz => Nat.le_trans (Nat.le_of_eq (zlen ad _ xs hz)) (by decide)) ?_
  intro Γ C _ _ xs M hz hF
  obtain ⟨a1, a2, rfl, h⟩ := hF
  have zz_a1 := zall_h (zall_t hz) (by decide)
  have zz_a2 := zall_h (zall_t (zall_t hz)) (by decide)
  refine zr_rng (fun hR => ?_)
  have C : zC Γ mu_X12_isBorder := C
  change zV Γ mu_X12_isBorder (145, 0, 0) 0 [(0, zRf (zad Γ) 103), (1, zI a1), (2, zI a2)] [] M
  change vc_X12_isBorder pr_X12_isFace po_X12_isFace pr_X12_in po_X12_in pr_X12_findBorder po_X12_findBorder a1 a2 _ M at h
  unfold vc_X12_isBorder at h
  refine zr_aload_n C 0 rfl (zdec_at dm_X12_isBorder 0 rfl) rfl ?_
  refine zr_iload_n C 1 rfl (zdec_at dm_X12_isBorder 1 rfl) rfl ?_
  obtain ⟨g6, h⟩ := h
  refine zr_callV C [a1] hS_X12_isFace ck_RX12_300 iv_X12_isFace vc_X12 oc_103 rfl rfl (zdec_at dm_X12_isBorder 2 rfl) ⟨rfl, rfl, rfl, rfl⟩ ⟨by decide, by decide⟩ (Nat.le_of_ble_eq_true rfl) (zall_0 zz_a1 zall_n) ?_
  refine ⟨_, rfl, g6, fun r1 M2 p5 z4 hR3 => ?_⟩
  have h := h r1 M2 p5 z4 hR3
  show zV Γ mu_X12_isBorder (145, 0, 0) 5 [(0, zRf (zad Γ) 103), (1, zI a1), (2, zI a2)] [zI r1] M2
  refine zr_if_eq C z4 (zdec_at dm_X12_isBorder 3 rfl) rfl (fun g7 => ?_) (fun g7 => ?_)
  · have h := h.1 g7
    refine zr_iconst C (zdec_at dm_X12_isBorder 10 rfl) ?_
    exact zr_zreturn C rfl (by decide) (zdec_at dm_X12_isBorder 11 rfl) rfl ⟨(by decide), h⟩
  · have h := h.2 g7
    refine zr_iload_n C 2 rfl (zdec_at dm_X12_isBorder 4 rfl) rfl ?_
    refine zr_i2l C zz_a2 (zdec_at dm_X12_isBorder 5 rfl) ?_
    refine zr_lconst (v := 0) C (zdec_at dm_X12_isBorder 6 rfl) rfl ?_
    refine zr_ldc2 C (zdec_at dm_X12_isBorder 7 rfl) kc_RX12_348 ?_
    obtain ⟨g13, h⟩ := h
    refine zr_callS C [a2, 0, 400] hS_X12_in ck_RX12_156 sv_X12_in rfl rfl (zdec_at dm_X12_isBorder 8 rfl) ⟨rfl, rfl, rfl, rfl⟩ ⟨by decide, by decide⟩ (Nat.le_of_ble_eq_true rfl) (zall_1 zz_a2 (zall_1 (by decide) (zall_1 (by decide) zall_n))) ?_
    refine ⟨_, _, _, rfl, g13, fun r8 M9 p12 z11 hR10 => ?_⟩
    have h := h r8 M9 p12 z11 hR10
    show zV Γ mu_X12_isBorder (145, 0, 0) 17 [(0, zRf (zad Γ) 103), (1, zI a1), (2, zI a2)] [zI r8] M9
    refine zr_if_ne C z11 (zdec_at dm_X12_isBorder 9 rfl) rfl (fun g14 => ?_) (fun g14 => ?_)
    · have h := h.1 g14
      refine zr_aload_n C 0 rfl (zdec_at dm_X12_isBorder 12 rfl) rfl ?_
      refine zr_iload_n C 1 rfl (zdec_at dm_X12_isBorder 13 rfl) rfl ?_
      obtain ⟨g19, h⟩ := h
      refine zr_callV C [a1] hS_X12_findBorder ck_RX12_294 iv_X12_findBorder vc_X12 oc_103 rfl rfl (zdec_at dm_X12_isBorder 14 rfl) ⟨rfl, rfl, rfl, rfl⟩ ⟨by decide, by decide⟩ (Nat.le_of_ble_eq_true rfl) (zall_0 zz_a1 zall_n) ?_
      refine ⟨_, rfl, g19, fun M15 p18 _ hR16 => ?_⟩
      have h := h M15 p18 hR16
      show zV Γ mu_X12_isBorder (145, 0, 0) 27 [(0, zRf (zad Γ) 103), (1, zI a1), (2, zI a2)] [] M15
      refine zr_iconst C (zdec_at dm_X12_isBorder 15 rfl) ?_
      exact zr_zreturn C rfl (by decide) (zdec_at dm_X12_isBorder 16 rfl) rfl ⟨(by decide), h⟩
    · have h := h.2 g14
      refine zr_iconst C (zdec_at dm_X12_isBorder 10 rfl) ?_
      exact zr_zreturn C rfl (by decide) (zdec_at dm_X12_isBorder 11 rfl) rfl ⟨(by decide), h⟩

set_option maxHeartbeats 400000 in
set_option maxRecDepth 100000 in
theorem sn_X12_inBand {pr_X12_isBorder : Int → Int → zM → Prop} {po_X12_isBorder : Int → Int → zM → Int → zM → Prop} {pr_X12_isStraight : Int → Int → Int → zM → Prop} {po_X12_isStraight : Int → Int → Int → zM → Int → zM → Prop} (hS_X12_isBorder : zSnd zS 145 0 0 yX12_isBorder cX12_isBorder 3 (some .boolean) 4 [2, 0, 0] (F_X12_isBorder pr_X12_isBorder po_X12_isBorder)) (hS_X12_isStraight : zSnd zS 145 0 0 yX12_isStraight cX12_isStraight 6 (some .boolean) 1 [2, 0, 0, 0] (F_X12_isStraight pr_X12_isStraight po_X12_isStraight)) : zSnd zS 145 0 0 yX12_inBand cX12_inBand 5 (some .int) 5 [2, 0, 0, 0, 0] (fun xs P M => ∃ a1 a2 a3 a4 : Int, xs = [103, a1, a2, a3, a4] ∧ vc_X12_inBand pr_X12_isBorder po_X12_isBorder pr_X12_isStraight po_X12_isStraight a1 a2 a3 a4 P M) := by
  refine zSnd.of rfl (fun ad xs hz => Nat.le_trans (Nat.le_of_eq (zlen ad _ xs hz)) (by decide)) ?_
  intro Γ C _ _ xs M hz hF
  obtain ⟨a1, a2, a3, a4, rfl, h⟩ := hF
  have zz_a1 := zall_h (zall_t hz) (by decide)
  have zz_a2 := zall_h (zall_t (zall_t hz)) (by decide)
  have zz_a3 := zall_h (zall_t (zall_t (zall_t hz))) (by decide)
  have zz_a4 := zall_h (zall_t (zall_t (zall_t (zall_t hz)))) (by decide)
  refine zr_rng (fun hR => ?_)
  have C : zC Γ mu_X12_inBand := C
  change zV Γ mu_X12_inBand (145, 0, 0) 0 [(0, zRf (zad Γ) 103), (1, zI a1), (2, zI a2), (3, zI a3), (4, zI a4)] [] M
  change vc_X12_inBand pr_X12_isBorder po_X12_isBorder pr_X12_isStraight po_X12_isStraight a1 a2 a3 a4 _ M at h
  unfold vc_X12_inBand at h
  refine zr_aload_n C 0 rfl (zdec_at dm_X12_inBand 0 rfl) rfl ?_
  refine zr_iconst C (zdec_at dm_X12_inBand 1 rfl) ?_
  refine zr_puti C fk_RX12_140 fi_103_0 (by decide) (zdec_at dm_X12_inBand 2 rfl) (fun M1 e2 => ?_)
  have h := h M1 e2
  have hR3 : zRng M1 := by rw [e2]; exact hR.set (by decide) _ _
  refine zr_aload_n C 0 rfl (zdec_at dm_X12_inBand 3 rfl) rfl ?_
  refine zr_iload_n C 1 rfl (zdec_at dm_X12_inBand 4 rfl) rfl ?_
  refine zr_iload C 4 rfl (zdec_at dm_X12_inBand 5 rfl) ?_
  obtain ⟨g9, h⟩ := h
  refine zr_callV C [a1, a4] hS_X12_isBorder ck_RX12_350 iv_X12_isBorder vc_X12 oc_103 rfl rfl (zdec_at dm_X12_inBand 6 rfl) ⟨rfl, rfl, rfl, rfl⟩ ⟨by decide, by decide⟩ (Nat.le_of_ble_eq_true rfl) (zall_0 zz_a1 (zall_0 zz_a4 zall_n)) ?_
  refine ⟨_, _, rfl, g9, fun r4 M5 p8 z7 hR6 => ?_⟩
  have h := h r4 M5 p8 z7 hR6
  show zV Γ mu_X12_inBand (145, 0, 0) 12 [(0, zRf (zad Γ) 103), (1, zI a1), (2, zI a2), (3, zI a3), (4, zI a4)] [zI r4] M5
  refine zr_if_eq C z7 (zdec_at dm_X12_inBand 7 rfl) rfl (fun g10 => ?_) (fun g10 => ?_)
  · have h := h.1 g10
    refine zr_iconst C (zdec_at dm_X12_inBand 17 rfl) ?_
    exact zr_ireturn C rfl (zdec_at dm_X12_inBand 18 rfl) rfl ⟨(by decide), h⟩
  · have h := h.2 g10
    refine zr_iload_n C 2 rfl (zdec_at dm_X12_inBand 8 rfl) rfl ?_
    refine zr_if_lt C zz_a2 (zdec_at dm_X12_inBand 9 rfl) rfl (fun g11 => ?_) (fun g11 => ?_)
    · have h := h.1 g11
      refine zr_iconst C (zdec_at dm_X12_inBand 17 rfl) ?_
      exact zr_ireturn C rfl (zdec_at dm_X12_inBand 18 rfl) rfl ⟨(by decide), h⟩
    · have h := h.2 g11
      refine zr_iload_n C 2 rfl (zdec_at dm_X12_inBand 10 rfl) rfl ?_
      refine zr_iload_n C 3 rfl (zdec_at dm_X12_inBand 11 rfl) rfl ?_
      refine zr_icmp_ge C zz_a2 zz_a3 (zdec_at dm_X12_inBand 12 rfl) rfl (fun g12 => ?_) (fun g12 => ?_)
      · have h := h.1 g12
        refine zr_iconst C (zdec_at dm_X12_inBand 17 rfl) ?_
        exact zr_ireturn C rfl (zdec_at dm_X12_inBand 18 rfl) rfl ⟨(by decide), h⟩
      · have h := h.2 g12
        refine zr_iload_n C 3 rfl (zdec_at dm_X12_inBand 13 rfl) rfl ?_
        refine zr_aload_n C 0 rfl (zdec_at dm_X12_inBand 14 rfl) rfl ?_
        refine zr_geti C fk_RX12_297 fi_103_38 (zdec_at dm_X12_inBand 15 rfl) ?_
        refine zr_icmp_le C zz_a3 (hR6 _ _) (zdec_at dm_X12_inBand 16 rfl) rfl (fun g13 => ?_) (fun g13 => ?_)
        · have h := h.1 g13
          refine zr_aload_n C 0 rfl (zdec_at dm_X12_inBand 19 rfl) rfl ?_
          refine zr_iload_n C 2 rfl (zdec_at dm_X12_inBand 20 rfl) rfl ?_
          refine zr_iload_n C 3 rfl (zdec_at dm_X12_inBand 21 rfl) rfl ?_
          refine zr_iload C 4 rfl (zdec_at dm_X12_inBand 22 rfl) ?_
          obtain ⟨g19, h⟩ := h
          refine zr_callV C [a2, a3, a4] hS_X12_isStraight ck_RX12_353 iv_X12_isStraight vc_X12 oc_103 rfl rfl (zdec_at dm_X12_inBand 23 rfl) ⟨rfl, rfl, rfl, rfl⟩ ⟨by decide, by decide⟩ (Nat.le_of_ble_eq_true rfl) (zall_0 zz_a2 (zall_0 zz_a3 (zall_0 zz_a4 zall_n))) ?_
          refine ⟨_, _, _, rfl, g19, fun r14 M15 p18 z17 hR16 => ?_⟩
          have h := h r14 M15 p18 z17 hR16
          show zV Γ mu_X12_inBand (145, 0, 0) 42 [(0, zRf (zad Γ) 103), (1, zI a1), (2, zI a2), (3, zI a3), (4, zI a4)] [zI r14] M15
          refine zr_if_eq C z17 (zdec_at dm_X12_inBand 24 rfl) rfl (fun g20 => ?_) (fun g20 => ?_)
          · have h := h.1 g20
            refine zr_iconst C (zdec_at dm_X12_inBand 27 rfl) ?_
            exact zr_ireturn C rfl (zdec_at dm_X12_inBand 28 rfl) rfl ⟨(by decide), h⟩
          · have h := h.2 g20
            refine zr_iconst C (zdec_at dm_X12_inBand 25 rfl) ?_
            refine zr_goto C (zdec_at dm_X12_inBand 26 rfl) rfl ?_
            exact zr_ireturn C rfl (zdec_at dm_X12_inBand 28 rfl) rfl ⟨(by decide), h⟩
        · have h := h.2 g13
          refine zr_iconst C (zdec_at dm_X12_inBand 17 rfl) ?_
          exact zr_ireturn C rfl (zdec_at dm_X12_inBand 18 rfl) rfl ⟨(by decide), h⟩

set_option maxHeartbeats 400000 in
set_option maxRecDepth 100000 in
theorem sn_X12_findPieces {pr_X12_isStraight : Int → Int → Int → zM → Prop} {po_X12_isStraight : Int → Int → Int → zM → Int → zM → Prop} (hS_X12_isStraight : zSnd zS 145 0 0 yX12_isStraight cX12_isStraight 6 (some .boolean) 1 [2, 0, 0, 0] (F_X12_isStraight pr_X12_isStraight po_X12_isStraight)) : zSnd zS 145 0 0 yX12_findPieces cX12_findPieces 8 none 2 [2, 0] (fun xs P M => ∃ a1 : Int, xs = [103, a1] ∧ vc_X12_findPieces pr_X12_isStraight po_X12_isStraight a1 P M) := by
  refine zSnd.of rfl (fun ad xs hz => Nat.le_trans (Nat.le_of_eq (zlen ad _ xs hz)) (by decide)) ?_
  intro Γ C _ _ xs M hz hF
  obtain ⟨a1, rfl, h⟩ := hF
  have zz_a1 := zall_h (zall_t hz) (by decide)
  refine zr_rng (fun hR => ?_)
  have C : zC Γ mu_X12_findPieces := C
  change zV Γ mu_X12_findPieces (145, 0, 0) 0 [(0, zRf (zad Γ) 103), (1, zI a1)] [] M
  change vc_X12_findPieces pr_X12_isStraight po_X12_isStraight a1 _ M at h
  unfold vc_X12_findPieces at h
  refine zr_aload_n C 0 rfl (zdec_at dm_X12_findPieces 0 rfl) rfl ?_
  refine zr_geti C fk_RX12_297 fi_103_38 (zdec_at dm_X12_findPieces 1 rfl) ?_
  refine zr_istore_n (L1 := [(2, zI (M 103 38)), (0, zRf (zad Γ) 103), (1, zI a1)]) C (zdec_at dm_X12_findPieces 2 rfl) rfl (Nat.le_of_ble_eq_true rfl) rfl ?_
  refine zr_iload_n C 0 rfl (zdec_at dm_X12_findPieces 3 rfl) rfl ?_
  refine zr_iconst C (zdec_at dm_X12_findPieces 4 rfl) ?_
  refine zr_iadd C (zdec_at dm_X12_findPieces 5 rfl) ?_
  refine zr_istore_n (L1 := [(3, zI ((M 103 38) + 1)), (2, zI (M 103 38)), (0, zRf (zad Γ) 103), (1, zI a1)]) C (zdec_at dm_X12_findPieces 6 rfl) rfl (Nat.le_of_ble_eq_true rfl) rfl ?_
  refine zr_iconst C (zdec_at dm_X12_findPieces 7 rfl) ?_
  refine zr_istore (L1 := [(4, zI 0), (3, zI ((M 103 38) + 1)), (2, zI (M 103 38)), (0, zRf (zad Γ) 103), (1, zI a1)]) C (zdec_at dm_X12_findPieces 8 rfl) (Nat.le_of_ble_eq_true rfl) rfl ?_
  obtain ⟨I12, ⟨n9, q10⟩, hI8⟩ := h
  have lp7 : ∀ (n5 : Nat) (v1 : Int) (M3 : zM), I12 v1 M3 n5 → zin v1 → zRng M3 → zV Γ mu_X12_findPieces (145, 0, 0) 12 [(0, zRf (zad Γ) 103), (1, zI a1), (2, zI (M 103 38)), (3, zI ((M 103 38) + 1)), (4, zI v1)] [] M3 := by
    intro n5
    induction n5 using Nat.strongRecOn with
    | _ n5 ih6 =>
    intro v1 M3 q11 z2 hR4
    have h := hI8 v1 M3 n5 q11 z2 hR4
    refine zr_iload C 4 rfl (zdec_at dm_X12_findPieces 9 rfl) ?_
    refine zr_iload_n C 2 rfl (zdec_at dm_X12_findPieces 10 rfl) rfl ?_
    refine zr_icmp_ge C z2 (hR _ _) (zdec_at dm_X12_findPieces 11 rfl) rfl (fun g12 => ?_) (fun g12 => ?_)
    · have h := h.1 g12
      refine zr_iconst C (zdec_at dm_X12_findPieces 36 rfl) ?_
      refine zr_istore (L1 := [(4, zI 0), (0, zRf (zad Γ) 103), (1, zI a1), (2, zI (M 103 38)), (3, zI ((M 103 38) + 1))]) C (zdec_at dm_X12_findPieces 37 rfl) (Nat.le_of_ble_eq_true rfl) rfl ?_
      obtain ⟨I66, ⟨n21, q22⟩, hI20⟩ := h
      have lp19 : ∀ (n17 : Nat) (v13 : Int) (M15 : zM), I66 v13 M15 n17 → zin v13 → zRng M15 → zV Γ mu_X12_findPieces (145, 0, 0) 66 [(0, zRf (zad Γ) 103), (2, zI (M 103 38)), (3, zI ((M 103 38) + 1)), (4, zI v13)] [] M15 := by
        intro n17
        induction n17 using Nat.strongRecOn with
        | _ n17 ih18 =>
        intro v13 M15 q23 z14 hR16
        have h := hI20 v13 M15 n17 q23 z14 hR16
        refine zr_iload C 3 rfl (zdec_at dm_X12_findPieces 38 rfl) ?_
        refine zr_iload_n C 1 rfl (zdec_at dm_X12_findPieces 39 rfl) rfl ?_
        refine zr_icmp_gt C z14 (hR _ _) (zdec_at dm_X12_findPieces 40 rfl) rfl (fun g24 => ?_) (fun g24 => ?_)
        · have h := h.1 g24
          refine zr_aload_n C 0 rfl (zdec_at dm_X12_findPieces 53 rfl) rfl ?_
          refine zr_iconst C (zdec_at dm_X12_findPieces 54 rfl) ?_
          refine zr_puti C fk_RX12_356 fi_103_50 (by decide) (zdec_at dm_X12_findPieces 55 rfl) (fun M25 e26 => ?_)
          have h := h M25 e26
          have hR27 : zRng M25 := by rw [e26]; exact hR16.set (by decide) _ _
          obtain ⟨I101, ⟨n34, q35⟩, hI33⟩ := h
          have lp32 : ∀ (n30 : Nat) (M28 : zM), I101 M28 n30 → zRng M28 → zV Γ mu_X12_findPieces (145, 0, 0) 101 [(0, zRf (zad Γ) 103), (2, zI (M 103 38)), (3, zI ((M 103 38) + 1))] [] M28 := by
            intro n30
            induction n30 using Nat.strongRecOn with
            | _ n30 ih31 =>
            intro M28 q36 hR29
            have h := hI33 M28 n30 q36 hR29
            refine zr_aload_n C 0 rfl (zdec_at dm_X12_findPieces 56 rfl) rfl ?_
            refine zr_geti C fk_RX12_356 fi_103_50 (zdec_at dm_X12_findPieces 57 rfl) ?_
            refine zr_iconst C (zdec_at dm_X12_findPieces 58 rfl) ?_
            refine zr_icmp_lt C (hR29 _ _) (by decide) (zdec_at dm_X12_findPieces 59 rfl) rfl (fun g37 => ?_) (fun g37 => ?_)
            · have h := h.1 g37
              refine zr_aload_n C 0 rfl (zdec_at dm_X12_findPieces 68 rfl) rfl ?_
              refine zr_dup C rfl (zdec_at dm_X12_findPieces 69 rfl) ?_
              refine zr_geti C fk_RX12_356 fi_103_50 (zdec_at dm_X12_findPieces 70 rfl) ?_
              refine zr_iconst C (zdec_at dm_X12_findPieces 71 rfl) ?_
              refine zr_iadd C (zdec_at dm_X12_findPieces 72 rfl) ?_
              obtain ⟨o38, h⟩ := h
              refine zr_puti C fk_RX12_356 fi_103_50 o38 (zdec_at dm_X12_findPieces 73 rfl) (fun M39 e40 => ?_)
              have h := h M39 e40
              have hR41 : zRng M39 := by rw [e40]; exact hR29.set o38 _ _
              refine zr_iconst C (zdec_at dm_X12_findPieces 74 rfl) ?_
              refine zr_istore (L1 := [(4, zI 0), (0, zRf (zad Γ) 103), (2, zI (M 103 38)), (3, zI ((M 103 38) + 1))]) C (zdec_at dm_X12_findPieces 75 rfl) (Nat.le_of_ble_eq_true rfl) rfl ?_
              obtain ⟨I136, ⟨n50, q51⟩, hI49⟩ := h
              have lp48 : ∀ (n46 : Nat) (v42 : Int) (M44 : zM), I136 v42 M44 n46 → zin v42 → zRng M44 → zV Γ mu_X12_findPieces (145, 0, 0) 136 [(0, zRf (zad Γ) 103), (2, zI (M 103 38)), (3, zI ((M 103 38) + 1)), (4, zI v42)] [] M44 := by
                intro n46
                induction n46 using Nat.strongRecOn with
                | _ n46 ih47 =>
                intro v42 M44 q52 z43 hR45
                have h := hI49 v42 M44 n46 q52 z43 hR45
                refine zr_iload C 3 rfl (zdec_at dm_X12_findPieces 76 rfl) ?_
                refine zr_iload_n C 1 rfl (zdec_at dm_X12_findPieces 77 rfl) rfl ?_
                refine zr_icmp_gt C z43 (hR _ _) (zdec_at dm_X12_findPieces 78 rfl) rfl (fun g53 => ?_) (fun g53 => ?_)
                · have h := h.1 g53
                  refine zr_goto C (zdec_at dm_X12_findPieces 129 rfl) rfl ?_
                  obtain ⟨n54, q55, q56⟩ := h
                  exact zr_sub [0, 1, 2] rfl (ih31 n54 q55 _ q56 hR45)
                · have h := h.2 g53
                  refine zr_iconst C (zdec_at dm_X12_findPieces 79 rfl) ?_
                  refine zr_istore (L1 := [(5, zI 0), (0, zRf (zad Γ) 103), (2, zI (M 103 38)), (3, zI ((M 103 38) + 1)), (4, zI v42)]) C (zdec_at dm_X12_findPieces 80 rfl) (Nat.le_of_ble_eq_true rfl) rfl ?_
                  refine zr_iload C 4 rfl (zdec_at dm_X12_findPieces 81 rfl) ?_
                  refine zr_iconst C (zdec_at dm_X12_findPieces 82 rfl) ?_
                  refine zr_iadd C (zdec_at dm_X12_findPieces 83 rfl) ?_
                  refine zr_istore (L1 := [(6, zI (v42 + 1)), (5, zI 0), (0, zRf (zad Γ) 103), (2, zI (M 103 38)), (3, zI ((M 103 38) + 1)), (4, zI v42)]) C (zdec_at dm_X12_findPieces 84 rfl) (Nat.le_of_ble_eq_true rfl) rfl ?_
                  obtain ⟨o59, h⟩ := h
                  obtain ⟨I151, ⟨n66, q67⟩, hI65⟩ := h
                  have lp64 : ∀ (n62 : Nat) (v57 : Int) (v58 : Int), I151 v57 v58 n62 → zin v57 → zin v58 → zV Γ mu_X12_findPieces (145, 0, 0) 151 [(0, zRf (zad Γ) 103), (2, zI (M 103 38)), (3, zI ((M 103 38) + 1)), (4, zI v42), (5, zI v57), (6, zI v58)] [] M44 := by
                    intro n62
                    induction n62 using Nat.strongRecOn with
                    | _ n62 ih63 =>
                    intro v57 v58 q68 z60 z61
                    have h := hI65 v57 v58 n62 q68 z60 z61
                    refine zr_iload C 5 rfl (zdec_at dm_X12_findPieces 85 rfl) ?_
                    refine zr_iload_n C 1 rfl (zdec_at dm_X12_findPieces 86 rfl) rfl ?_
                    have h := h (zV Γ mu_X12_findPieces (145, 0, 0) 209 [(0, zRf (zad Γ) 103), (2, zI (M 103 38)), (3, zI ((M 103 38) + 1)), (4, zI v42), (5, zI v57)] [] M44) (fun h => by
                      refine zr_aload_n C 0 rfl (zdec_at dm_X12_findPieces 117 rfl) rfl ?_
                      refine zr_getr (q := 126) C fk_RX12_85 fi_103_48 (zdec_at dm_X12_findPieces 118 rfl) ?_
                      refine zr_iload_n C 2 rfl (zdec_at dm_X12_findPieces 119 rfl) rfl ?_
                      refine zr_aload_n C 0 rfl (zdec_at dm_X12_findPieces 120 rfl) rfl ?_
                      refine zr_geti C fk_RX12_356 fi_103_50 (zdec_at dm_X12_findPieces 121 rfl) ?_
                      refine zr_imul C (zdec_at dm_X12_findPieces 122 rfl) ?_
                      refine zr_iload C 3 rfl (zdec_at dm_X12_findPieces 123 rfl) ?_
                      refine zr_iadd C (zdec_at dm_X12_findPieces 124 rfl) ?_
                      refine zr_iload C 4 rfl (zdec_at dm_X12_findPieces 125 rfl) ?_
                      obtain ⟨o69, h⟩ := h
                      obtain ⟨o70, h⟩ := h
                      refine zr_zast C ai_126 o69 z60 o70 rfl (zdec_at dm_X12_findPieces 126 rfl) (fun M71 e72 => ?_)
                      have h := h M71 e72
                      have hR73 : zRng M71 := by rw [e72]; exact hR45.set z60 _ _
                      refine zr_iinc (L1 := [(4, zI (v42 + 1)), (0, zRf (zad Γ) 103), (2, zI (M 103 38)), (3, zI ((M 103 38) + 1)), (5, zI v57)]) C 3 rfl (zdec_at dm_X12_findPieces 127 rfl) (Nat.le_of_ble_eq_true rfl) rfl ?_
                      refine zr_goto C (zdec_at dm_X12_findPieces 128 rfl) rfl ?_
                      obtain ⟨n74, q75, q76⟩ := h
                      exact zr_sub [1, 2, 3, 0] rfl (ih47 n74 q75 _ _ q76 o59 hR73))
                    refine zr_icmp_gt C z61 (hR _ _) (zdec_at dm_X12_findPieces 87 rfl) rfl (fun g77 => ?_) (fun g77 => ?_)
                    · have h := h.1 g77
                      exact zr_sub [0, 1, 2, 3, 4] rfl (h)
                    · have h := h.2 g77
                      refine zr_iload C 4 rfl (zdec_at dm_X12_findPieces 88 rfl) ?_
                      refine zr_if_ne C z60 (zdec_at dm_X12_findPieces 89 rfl) rfl (fun g78 => ?_) (fun g78 => ?_)
                      · have h := h.1 g78
                        exact zr_sub [0, 1, 2, 3, 4] rfl (h)
                      · have h := h.2 g78
                        refine zr_aload_n C 0 rfl (zdec_at dm_X12_findPieces 90 rfl) rfl ?_
                        refine zr_getr (q := 125) C fk_RX12_82 fi_103_47 (zdec_at dm_X12_findPieces 91 rfl) ?_
                        refine zr_iload_n C 2 rfl (zdec_at dm_X12_findPieces 92 rfl) rfl ?_
                        refine zr_iload C 3 rfl (zdec_at dm_X12_findPieces 93 rfl) ?_
                        refine zr_imul C (zdec_at dm_X12_findPieces 94 rfl) ?_
                        refine zr_iload C 5 rfl (zdec_at dm_X12_findPieces 95 rfl) ?_
                        refine zr_iadd C (zdec_at dm_X12_findPieces 96 rfl) ?_
                        obtain ⟨o79, h⟩ := h
                        refine zr_zald C ai_125 o79 (zdec_at dm_X12_findPieces 97 rfl) ?_
                        refine zr_if_eq C (hR45 _ _) (zdec_at dm_X12_findPieces 98 rfl) rfl (fun g80 => ?_) (fun g80 => ?_)
                        · have h := h.1 g80
                          refine zr_iconst C (zdec_at dm_X12_findPieces 113 rfl) ?_
                          refine zr_istore (L1 := [(5, zI 0), (0, zRf (zad Γ) 103), (2, zI (M 103 38)), (3, zI ((M 103 38) + 1)), (4, zI v42), (6, zI v58)]) C (zdec_at dm_X12_findPieces 114 rfl) (Nat.le_of_ble_eq_true rfl) rfl ?_
                          refine zr_iinc (L1 := [(6, zI (v58 + 1)), (5, zI 0), (0, zRf (zad Γ) 103), (2, zI (M 103 38)), (3, zI ((M 103 38) + 1)), (4, zI v42)]) C 5 rfl (zdec_at dm_X12_findPieces 115 rfl) (Nat.le_of_ble_eq_true rfl) rfl ?_
                          refine zr_goto C (zdec_at dm_X12_findPieces 116 rfl) rfl ?_
                          obtain ⟨o81, h⟩ := h
                          obtain ⟨n82, q83, q84⟩ := h
                          exact zr_sub [2, 3, 4, 5, 1, 0] rfl (ih63 n82 q83 _ _ q84 (by decide) o81)
                        · have h := h.2 g80
                          refine zr_aload_n C 0 rfl (zdec_at dm_X12_findPieces 99 rfl) rfl ?_
                          refine zr_getr (q := 126) C fk_RX12_85 fi_103_48 (zdec_at dm_X12_findPieces 100 rfl) ?_
                          refine zr_iload_n C 2 rfl (zdec_at dm_X12_findPieces 101 rfl) rfl ?_
                          refine zr_aload_n C 0 rfl (zdec_at dm_X12_findPieces 102 rfl) rfl ?_
                          refine zr_geti C fk_RX12_356 fi_103_50 (zdec_at dm_X12_findPieces 103 rfl) ?_
                          refine zr_iconst C (zdec_at dm_X12_findPieces 104 rfl) ?_
                          refine zr_isub C (zdec_at dm_X12_findPieces 105 rfl) ?_
                          refine zr_imul C (zdec_at dm_X12_findPieces 106 rfl) ?_
                          refine zr_iload C 5 rfl (zdec_at dm_X12_findPieces 107 rfl) ?_
                          refine zr_iadd C (zdec_at dm_X12_findPieces 108 rfl) ?_
                          obtain ⟨o85, h⟩ := h
                          refine zr_zald C ai_126 o85 (zdec_at dm_X12_findPieces 109 rfl) ?_
                          refine zr_if_eq C (hR45 _ _) (zdec_at dm_X12_findPieces 110 rfl) rfl (fun g86 => ?_) (fun g86 => ?_)
                          · have h := h.1 g86
                            refine zr_iconst C (zdec_at dm_X12_findPieces 113 rfl) ?_
                            refine zr_istore (L1 := [(5, zI 0), (0, zRf (zad Γ) 103), (2, zI (M 103 38)), (3, zI ((M 103 38) + 1)), (4, zI v42), (6, zI v58)]) C (zdec_at dm_X12_findPieces 114 rfl) (Nat.le_of_ble_eq_true rfl) rfl ?_
                            refine zr_iinc (L1 := [(6, zI (v58 + 1)), (5, zI 0), (0, zRf (zad Γ) 103), (2, zI (M 103 38)), (3, zI ((M 103 38) + 1)), (4, zI v42)]) C 5 rfl (zdec_at dm_X12_findPieces 115 rfl) (Nat.le_of_ble_eq_true rfl) rfl ?_
                            refine zr_goto C (zdec_at dm_X12_findPieces 116 rfl) rfl ?_
                            obtain ⟨o87, h⟩ := h
                            obtain ⟨n88, q89, q90⟩ := h
                            exact zr_sub [2, 3, 4, 5, 1, 0] rfl (ih63 n88 q89 _ _ q90 (by decide) o87)
                          · have h := h.2 g86
                            refine zr_iconst C (zdec_at dm_X12_findPieces 111 rfl) ?_
                            refine zr_goto C (zdec_at dm_X12_findPieces 112 rfl) rfl ?_
                            refine zr_istore (L1 := [(5, zI 1), (0, zRf (zad Γ) 103), (2, zI (M 103 38)), (3, zI ((M 103 38) + 1)), (4, zI v42), (6, zI v58)]) C (zdec_at dm_X12_findPieces 114 rfl) (Nat.le_of_ble_eq_true rfl) rfl ?_
                            refine zr_iinc (L1 := [(6, zI (v58 + 1)), (5, zI 1), (0, zRf (zad Γ) 103), (2, zI (M 103 38)), (3, zI ((M 103 38) + 1)), (4, zI v42)]) C 5 rfl (zdec_at dm_X12_findPieces 115 rfl) (Nat.le_of_ble_eq_true rfl) rfl ?_
                            refine zr_goto C (zdec_at dm_X12_findPieces 116 rfl) rfl ?_
                            obtain ⟨o91, h⟩ := h
                            obtain ⟨n92, q93, q94⟩ := h
                            exact zr_sub [2, 3, 4, 5, 1, 0] rfl (ih63 n92 q93 _ _ q94 (by decide) o91)
                  exact zr_sub [2, 3, 4, 5, 1, 0] rfl (lp64 n66 _ _ q67 (by decide) o59)
              exact zr_sub [1, 2, 3, 0] rfl (lp48 n50 _ _ q51 (by decide) hR41)
            · have h := h.2 g37
              refine zr_aload_n C 0 rfl (zdec_at dm_X12_findPieces 60 rfl) rfl ?_
              refine zr_getr (q := 126) C fk_RX12_85 fi_103_48 (zdec_at dm_X12_findPieces 61 rfl) ?_
              refine zr_iload_n C 2 rfl (zdec_at dm_X12_findPieces 62 rfl) rfl ?_
              refine zr_aload_n C 0 rfl (zdec_at dm_X12_findPieces 63 rfl) rfl ?_
              refine zr_geti C fk_RX12_356 fi_103_50 (zdec_at dm_X12_findPieces 64 rfl) ?_
              refine zr_imul C (zdec_at dm_X12_findPieces 65 rfl) ?_
              obtain ⟨o95, h⟩ := h
              refine zr_zald C ai_126 o95 (zdec_at dm_X12_findPieces 66 rfl) ?_
              refine zr_if_ne C (hR29 _ _) (zdec_at dm_X12_findPieces 67 rfl) rfl (fun g96 => ?_) (fun g96 => ?_)
              · have h := h.1 g96
                refine zr_iconst C (zdec_at dm_X12_findPieces 130 rfl) ?_
                refine zr_istore (L1 := [(4, zI 0), (0, zRf (zad Γ) 103), (2, zI (M 103 38)), (3, zI ((M 103 38) + 1))]) C (zdec_at dm_X12_findPieces 131 rfl) (Nat.le_of_ble_eq_true rfl) rfl ?_
                refine zr_iconst C (zdec_at dm_X12_findPieces 132 rfl) ?_
                refine zr_istore (L1 := [(5, zI 0), (4, zI 0), (0, zRf (zad Γ) 103), (2, zI (M 103 38)), (3, zI ((M 103 38) + 1))]) C (zdec_at dm_X12_findPieces 133 rfl) (Nat.le_of_ble_eq_true rfl) rfl ?_
                obtain ⟨I240, ⟨n107, q108⟩, hI106⟩ := h
                have lp105 : ∀ (n103 : Nat) (v97 : Int) (v98 : Int) (M101 : zM), I240 v97 v98 M101 n103 → zin v97 → zin v98 → zRng M101 → zV Γ mu_X12_findPieces (145, 0, 0) 240 [(0, zRf (zad Γ) 103), (2, zI (M 103 38)), (3, zI ((M 103 38) + 1)), (4, zI v97), (5, zI v98)] [] M101 := by
                  intro n103
                  induction n103 using Nat.strongRecOn with
                  | _ n103 ih104 =>
                  intro v97 v98 M101 q109 z99 z100 hR102
                  have h := hI106 v97 v98 M101 n103 q109 z99 z100 hR102
                  refine zr_iload C 4 rfl (zdec_at dm_X12_findPieces 134 rfl) ?_
                  refine zr_aload_n C 0 rfl (zdec_at dm_X12_findPieces 135 rfl) rfl ?_
                  refine zr_geti C fk_RX12_356 fi_103_50 (zdec_at dm_X12_findPieces 136 rfl) ?_
                  refine zr_icmp_ge C z100 (hR102 _ _) (zdec_at dm_X12_findPieces 137 rfl) rfl (fun g110 => ?_) (fun g110 => ?_)
                  · have h := h.1 g110
                    refine zr_aload_n C 0 rfl (zdec_at dm_X12_findPieces 185 rfl) rfl ?_
                    refine zr_getr (q := 127) C fk_RX12_88 fi_103_49 (zdec_at dm_X12_findPieces 186 rfl) ?_
                    refine zr_aload_n C 0 rfl (zdec_at dm_X12_findPieces 187 rfl) rfl ?_
                    refine zr_geti C fk_RX12_356 fi_103_50 (zdec_at dm_X12_findPieces 188 rfl) ?_
                    refine zr_iload_n C 1 rfl (zdec_at dm_X12_findPieces 189 rfl) rfl ?_
                    obtain ⟨o111, h⟩ := h
                    refine zr_iast C ai_127 o111 (hR _ _) (zdec_at dm_X12_findPieces 190 rfl) (fun M112 e113 => ?_)
                    have h := h M112 e113
                    have hR114 : zRng M112 := by rw [e113]; exact hR102.set (hR _ _) _ _
                    exact zr_return C rfl rfl (zdec_at dm_X12_findPieces 191 rfl) rfl ⟨by decide, h⟩
                  · have h := h.2 g110
                    refine zr_aload_n C 0 rfl (zdec_at dm_X12_findPieces 138 rfl) rfl ?_
                    refine zr_getr (q := 127) C fk_RX12_88 fi_103_49 (zdec_at dm_X12_findPieces 139 rfl) ?_
                    refine zr_iload C 4 rfl (zdec_at dm_X12_findPieces 140 rfl) ?_
                    refine zr_iload C 3 rfl (zdec_at dm_X12_findPieces 141 rfl) ?_
                    obtain ⟨o115, h⟩ := h
                    refine zr_iast C ai_127 o115 z99 (zdec_at dm_X12_findPieces 142 rfl) (fun M116 e117 => ?_)
                    have h := h M116 e117
                    have hR118 : zRng M116 := by rw [e117]; exact hR102.set z99 _ _
                    refine zr_iload C 3 rfl (zdec_at dm_X12_findPieces 143 rfl) ?_
                    refine zr_istore (L1 := [(6, zI v97), (0, zRf (zad Γ) 103), (2, zI (M 103 38)), (3, zI ((M 103 38) + 1)), (4, zI v97), (5, zI v98)]) C (zdec_at dm_X12_findPieces 144 rfl) (Nat.le_of_ble_eq_true rfl) rfl ?_
                    refine zr_iload C 4 rfl (zdec_at dm_X12_findPieces 145 rfl) ?_
                    refine zr_iconst C (zdec_at dm_X12_findPieces 146 rfl) ?_
                    refine zr_iadd C (zdec_at dm_X12_findPieces 147 rfl) ?_
                    refine zr_istore (L1 := [(7, zI (v97 + 1)), (6, zI v97), (0, zRf (zad Γ) 103), (2, zI (M 103 38)), (3, zI ((M 103 38) + 1)), (4, zI v97), (5, zI v98)]) C (zdec_at dm_X12_findPieces 148 rfl) (Nat.le_of_ble_eq_true rfl) rfl ?_
                    obtain ⟨o121, h⟩ := h
                    obtain ⟨I268, ⟨n128, q129⟩, hI127⟩ := h
                    have lp126 : ∀ (n124 : Nat) (v119 : Int) (v120 : Int), I268 v119 v120 n124 → zin v119 → zin v120 → zV Γ mu_X12_findPieces (145, 0, 0) 268 [(0, zRf (zad Γ) 103), (2, zI (M 103 38)), (3, zI ((M 103 38) + 1)), (4, zI v97), (5, zI v98), (6, zI v119), (7, zI v120)] [] M116 := by
                      intro n124
                      induction n124 using Nat.strongRecOn with
                      | _ n124 ih125 =>
                      intro v119 v120 q130 z122 z123
                      have h := hI127 v119 v120 n124 q130 z122 z123
                      refine zr_iload C 6 rfl (zdec_at dm_X12_findPieces 149 rfl) ?_
                      refine zr_iload_n C 1 rfl (zdec_at dm_X12_findPieces 150 rfl) rfl ?_
                      refine zr_icmp_gt C z123 (hR _ _) (zdec_at dm_X12_findPieces 151 rfl) rfl (fun g131 => ?_) (fun g131 => ?_)
                      · have h := h.1 g131
                        refine zr_iload C 5 rfl (zdec_at dm_X12_findPieces 181 rfl) ?_
                        refine zr_istore (L1 := [(4, zI v119), (0, zRf (zad Γ) 103), (2, zI (M 103 38)), (3, zI ((M 103 38) + 1)), (5, zI v98), (6, zI v119), (7, zI v120)]) C (zdec_at dm_X12_findPieces 182 rfl) (Nat.le_of_ble_eq_true rfl) rfl ?_
                        refine zr_iinc (L1 := [(5, zI (v98 + 1)), (4, zI v119), (0, zRf (zad Γ) 103), (2, zI (M 103 38)), (3, zI ((M 103 38) + 1)), (6, zI v119), (7, zI v120)]) C 4 rfl (zdec_at dm_X12_findPieces 183 rfl) (Nat.le_of_ble_eq_true rfl) rfl ?_
                        refine zr_goto C (zdec_at dm_X12_findPieces 184 rfl) rfl ?_
                        obtain ⟨o132, h⟩ := h
                        obtain ⟨n133, q134, q135⟩ := h
                        exact zr_sub [2, 3, 4, 1, 0] rfl (ih104 n133 q134 _ _ _ q135 z122 o132 hR118)
                      · have h := h.2 g131
                        refine zr_aload_n C 0 rfl (zdec_at dm_X12_findPieces 152 rfl) rfl ?_
                        refine zr_getr (q := 125) C fk_RX12_82 fi_103_47 (zdec_at dm_X12_findPieces 153 rfl) ?_
                        refine zr_iload_n C 2 rfl (zdec_at dm_X12_findPieces 154 rfl) rfl ?_
                        refine zr_iload C 3 rfl (zdec_at dm_X12_findPieces 155 rfl) ?_
                        refine zr_imul C (zdec_at dm_X12_findPieces 156 rfl) ?_
                        refine zr_iload C 6 rfl (zdec_at dm_X12_findPieces 157 rfl) ?_
                        refine zr_iadd C (zdec_at dm_X12_findPieces 158 rfl) ?_
                        obtain ⟨o136, h⟩ := h
                        refine zr_zald C ai_125 o136 (zdec_at dm_X12_findPieces 159 rfl) ?_
                        refine zr_if_eq C (hR118 _ _) (zdec_at dm_X12_findPieces 160 rfl) rfl (fun g137 => ?_) (fun g137 => ?_)
                        · have h := h.1 g137
                          refine zr_iload C 5 rfl (zdec_at dm_X12_findPieces 177 rfl) ?_
                          refine zr_istore (L1 := [(6, zI v119), (0, zRf (zad Γ) 103), (2, zI (M 103 38)), (3, zI ((M 103 38) + 1)), (4, zI v97), (5, zI v98), (7, zI v120)]) C (zdec_at dm_X12_findPieces 178 rfl) (Nat.le_of_ble_eq_true rfl) rfl ?_
                          refine zr_iinc (L1 := [(7, zI (v120 + 1)), (6, zI v119), (0, zRf (zad Γ) 103), (2, zI (M 103 38)), (3, zI ((M 103 38) + 1)), (4, zI v97), (5, zI v98)]) C 6 rfl (zdec_at dm_X12_findPieces 179 rfl) (Nat.le_of_ble_eq_true rfl) rfl ?_
                          refine zr_goto C (zdec_at dm_X12_findPieces 180 rfl) rfl ?_
                          obtain ⟨o138, h⟩ := h
                          obtain ⟨n139, q140, q141⟩ := h
                          exact zr_sub [2, 3, 4, 5, 6, 1, 0] rfl (ih125 n139 q140 _ _ q141 z122 o138)
                        · have h := h.2 g137
                          refine zr_aload_n C 0 rfl (zdec_at dm_X12_findPieces 161 rfl) rfl ?_
                          refine zr_getr (q := 126) C fk_RX12_85 fi_103_48 (zdec_at dm_X12_findPieces 162 rfl) ?_
                          refine zr_iload_n C 2 rfl (zdec_at dm_X12_findPieces 163 rfl) rfl ?_
                          refine zr_aload_n C 0 rfl (zdec_at dm_X12_findPieces 164 rfl) rfl ?_
                          refine zr_geti C fk_RX12_356 fi_103_50 (zdec_at dm_X12_findPieces 165 rfl) ?_
                          refine zr_iload C 4 rfl (zdec_at dm_X12_findPieces 166 rfl) ?_
                          refine zr_isub C (zdec_at dm_X12_findPieces 167 rfl) ?_
                          refine zr_iconst C (zdec_at dm_X12_findPieces 168 rfl) ?_
                          refine zr_isub C (zdec_at dm_X12_findPieces 169 rfl) ?_
                          refine zr_imul C (zdec_at dm_X12_findPieces 170 rfl) ?_
                          refine zr_iload C 6 rfl (zdec_at dm_X12_findPieces 171 rfl) ?_
                          refine zr_iadd C (zdec_at dm_X12_findPieces 172 rfl) ?_
                          obtain ⟨o142, h⟩ := h
                          refine zr_zald C ai_126 o142 (zdec_at dm_X12_findPieces 173 rfl) ?_
                          refine zr_if_eq C (hR118 _ _) (zdec_at dm_X12_findPieces 174 rfl) rfl (fun g143 => ?_) (fun g143 => ?_)
                          · have h := h.1 g143
                            refine zr_iload C 5 rfl (zdec_at dm_X12_findPieces 177 rfl) ?_
                            refine zr_istore (L1 := [(6, zI v119), (0, zRf (zad Γ) 103), (2, zI (M 103 38)), (3, zI ((M 103 38) + 1)), (4, zI v97), (5, zI v98), (7, zI v120)]) C (zdec_at dm_X12_findPieces 178 rfl) (Nat.le_of_ble_eq_true rfl) rfl ?_
                            refine zr_iinc (L1 := [(7, zI (v120 + 1)), (6, zI v119), (0, zRf (zad Γ) 103), (2, zI (M 103 38)), (3, zI ((M 103 38) + 1)), (4, zI v97), (5, zI v98)]) C 6 rfl (zdec_at dm_X12_findPieces 179 rfl) (Nat.le_of_ble_eq_true rfl) rfl ?_
                            refine zr_goto C (zdec_at dm_X12_findPieces 180 rfl) rfl ?_
                            obtain ⟨o144, h⟩ := h
                            obtain ⟨n145, q146, q147⟩ := h
                            exact zr_sub [2, 3, 4, 5, 6, 1, 0] rfl (ih125 n145 q146 _ _ q147 z122 o144)
                          · have h := h.2 g143
                            refine zr_iload C 6 rfl (zdec_at dm_X12_findPieces 175 rfl) ?_
                            refine zr_goto C (zdec_at dm_X12_findPieces 176 rfl) rfl ?_
                            refine zr_istore (L1 := [(6, zI v120), (0, zRf (zad Γ) 103), (2, zI (M 103 38)), (3, zI ((M 103 38) + 1)), (4, zI v97), (5, zI v98), (7, zI v120)]) C (zdec_at dm_X12_findPieces 178 rfl) (Nat.le_of_ble_eq_true rfl) rfl ?_
                            refine zr_iinc (L1 := [(7, zI (v120 + 1)), (6, zI v120), (0, zRf (zad Γ) 103), (2, zI (M 103 38)), (3, zI ((M 103 38) + 1)), (4, zI v97), (5, zI v98)]) C 6 rfl (zdec_at dm_X12_findPieces 179 rfl) (Nat.le_of_ble_eq_true rfl) rfl ?_
                            refine zr_goto C (zdec_at dm_X12_findPieces 180 rfl) rfl ?_
                            obtain ⟨o148, h⟩ := h
                            obtain ⟨n149, q150, q151⟩ := h
                            exact zr_sub [2, 3, 4, 5, 6, 1, 0] rfl (ih125 n149 q150 _ _ q151 z123 o148)
                    exact zr_sub [2, 3, 4, 5, 6, 1, 0] rfl (lp126 n128 _ _ q129 z99 o121)
                exact zr_sub [2, 3, 4, 1, 0] rfl (lp105 n107 _ _ _ q108 (by decide) (by decide) hR29)
              · have h := h.2 g96
                refine zr_aload_n C 0 rfl (zdec_at dm_X12_findPieces 68 rfl) rfl ?_
                refine zr_dup C rfl (zdec_at dm_X12_findPieces 69 rfl) ?_
                refine zr_geti C fk_RX12_356 fi_103_50 (zdec_at dm_X12_findPieces 70 rfl) ?_
                refine zr_iconst C (zdec_at dm_X12_findPieces 71 rfl) ?_
                refine zr_iadd C (zdec_at dm_X12_findPieces 72 rfl) ?_
                obtain ⟨o152, h⟩ := h
                refine zr_puti C fk_RX12_356 fi_103_50 o152 (zdec_at dm_X12_findPieces 73 rfl) (fun M153 e154 => ?_)
                have h := h M153 e154
                have hR155 : zRng M153 := by rw [e154]; exact hR29.set o152 _ _
                refine zr_iconst C (zdec_at dm_X12_findPieces 74 rfl) ?_
                refine zr_istore (L1 := [(4, zI 0), (0, zRf (zad Γ) 103), (2, zI (M 103 38)), (3, zI ((M 103 38) + 1))]) C (zdec_at dm_X12_findPieces 75 rfl) (Nat.le_of_ble_eq_true rfl) rfl ?_
                obtain ⟨I136, ⟨n164, q165⟩, hI163⟩ := h
                have lp162 : ∀ (n160 : Nat) (v156 : Int) (M158 : zM), I136 v156 M158 n160 → zin v156 → zRng M158 → zV Γ mu_X12_findPieces (145, 0, 0) 136 [(0, zRf (zad Γ) 103), (2, zI (M 103 38)), (3, zI ((M 103 38) + 1)), (4, zI v156)] [] M158 := by
                  intro n160
                  induction n160 using Nat.strongRecOn with
                  | _ n160 ih161 =>
                  intro v156 M158 q166 z157 hR159
                  have h := hI163 v156 M158 n160 q166 z157 hR159
                  refine zr_iload C 3 rfl (zdec_at dm_X12_findPieces 76 rfl) ?_
                  refine zr_iload_n C 1 rfl (zdec_at dm_X12_findPieces 77 rfl) rfl ?_
                  refine zr_icmp_gt C z157 (hR _ _) (zdec_at dm_X12_findPieces 78 rfl) rfl (fun g167 => ?_) (fun g167 => ?_)
                  · have h := h.1 g167
                    refine zr_goto C (zdec_at dm_X12_findPieces 129 rfl) rfl ?_
                    obtain ⟨n168, q169, q170⟩ := h
                    exact zr_sub [0, 1, 2] rfl (ih31 n168 q169 _ q170 hR159)
                  · have h := h.2 g167
                    refine zr_iconst C (zdec_at dm_X12_findPieces 79 rfl) ?_
                    refine zr_istore (L1 := [(5, zI 0), (0, zRf (zad Γ) 103), (2, zI (M 103 38)), (3, zI ((M 103 38) + 1)), (4, zI v156)]) C (zdec_at dm_X12_findPieces 80 rfl) (Nat.le_of_ble_eq_true rfl) rfl ?_
                    refine zr_iload C 4 rfl (zdec_at dm_X12_findPieces 81 rfl) ?_
                    refine zr_iconst C (zdec_at dm_X12_findPieces 82 rfl) ?_
                    refine zr_iadd C (zdec_at dm_X12_findPieces 83 rfl) ?_
                    refine zr_istore (L1 := [(6, zI (v156 + 1)), (5, zI 0), (0, zRf (zad Γ) 103), (2, zI (M 103 38)), (3, zI ((M 103 38) + 1)), (4, zI v156)]) C (zdec_at dm_X12_findPieces 84 rfl) (Nat.le_of_ble_eq_true rfl) rfl ?_
                    obtain ⟨o173, h⟩ := h
                    obtain ⟨I151, ⟨n180, q181⟩, hI179⟩ := h
                    have lp178 : ∀ (n176 : Nat) (v171 : Int) (v172 : Int), I151 v171 v172 n176 → zin v171 → zin v172 → zV Γ mu_X12_findPieces (145, 0, 0) 151 [(0, zRf (zad Γ) 103), (2, zI (M 103 38)), (3, zI ((M 103 38) + 1)), (4, zI v156), (5, zI v171), (6, zI v172)] [] M158 := by
                      intro n176
                      induction n176 using Nat.strongRecOn with
                      | _ n176 ih177 =>
                      intro v171 v172 q182 z174 z175
                      have h := hI179 v171 v172 n176 q182 z174 z175
                      refine zr_iload C 5 rfl (zdec_at dm_X12_findPieces 85 rfl) ?_
                      refine zr_iload_n C 1 rfl (zdec_at dm_X12_findPieces 86 rfl) rfl ?_
                      have h := h (zV Γ mu_X12_findPieces (145, 0, 0) 209 [(0, zRf (zad Γ) 103), (2, zI (M 103 38)), (3, zI ((M 103 38) + 1)), (4, zI v156), (5, zI v171)] [] M158) (fun h => by
                        refine zr_aload_n C 0 rfl (zdec_at dm_X12_findPieces 117 rfl) rfl ?_
                        refine zr_getr (q := 126) C fk_RX12_85 fi_103_48 (zdec_at dm_X12_findPieces 118 rfl) ?_
                        refine zr_iload_n C 2 rfl (zdec_at dm_X12_findPieces 119 rfl) rfl ?_
                        refine zr_aload_n C 0 rfl (zdec_at dm_X12_findPieces 120 rfl) rfl ?_
                        refine zr_geti C fk_RX12_356 fi_103_50 (zdec_at dm_X12_findPieces 121 rfl) ?_
                        refine zr_imul C (zdec_at dm_X12_findPieces 122 rfl) ?_
                        refine zr_iload C 3 rfl (zdec_at dm_X12_findPieces 123 rfl) ?_
                        refine zr_iadd C (zdec_at dm_X12_findPieces 124 rfl) ?_
                        refine zr_iload C 4 rfl (zdec_at dm_X12_findPieces 125 rfl) ?_
                        obtain ⟨o183, h⟩ := h
                        obtain ⟨o184, h⟩ := h
                        refine zr_zast C ai_126 o183 z174 o184 rfl (zdec_at dm_X12_findPieces 126 rfl) (fun M185 e186 => ?_)
                        have h := h M185 e186
                        have hR187 : zRng M185 := by rw [e186]; exact hR159.set z174 _ _
                        refine zr_iinc (L1 := [(4, zI (v156 + 1)), (0, zRf (zad Γ) 103), (2, zI (M 103 38)), (3, zI ((M 103 38) + 1)), (5, zI v171)]) C 3 rfl (zdec_at dm_X12_findPieces 127 rfl) (Nat.le_of_ble_eq_true rfl) rfl ?_
                        refine zr_goto C (zdec_at dm_X12_findPieces 128 rfl) rfl ?_
                        obtain ⟨n188, q189, q190⟩ := h
                        exact zr_sub [1, 2, 3, 0] rfl (ih161 n188 q189 _ _ q190 o173 hR187))
                      refine zr_icmp_gt C z175 (hR _ _) (zdec_at dm_X12_findPieces 87 rfl) rfl (fun g191 => ?_) (fun g191 => ?_)
                      · have h := h.1 g191
                        exact zr_sub [0, 1, 2, 3, 4] rfl (h)
                      · have h := h.2 g191
                        refine zr_iload C 4 rfl (zdec_at dm_X12_findPieces 88 rfl) ?_
                        refine zr_if_ne C z174 (zdec_at dm_X12_findPieces 89 rfl) rfl (fun g192 => ?_) (fun g192 => ?_)
                        · have h := h.1 g192
                          exact zr_sub [0, 1, 2, 3, 4] rfl (h)
                        · have h := h.2 g192
                          refine zr_aload_n C 0 rfl (zdec_at dm_X12_findPieces 90 rfl) rfl ?_
                          refine zr_getr (q := 125) C fk_RX12_82 fi_103_47 (zdec_at dm_X12_findPieces 91 rfl) ?_
                          refine zr_iload_n C 2 rfl (zdec_at dm_X12_findPieces 92 rfl) rfl ?_
                          refine zr_iload C 3 rfl (zdec_at dm_X12_findPieces 93 rfl) ?_
                          refine zr_imul C (zdec_at dm_X12_findPieces 94 rfl) ?_
                          refine zr_iload C 5 rfl (zdec_at dm_X12_findPieces 95 rfl) ?_
                          refine zr_iadd C (zdec_at dm_X12_findPieces 96 rfl) ?_
                          obtain ⟨o193, h⟩ := h
                          refine zr_zald C ai_125 o193 (zdec_at dm_X12_findPieces 97 rfl) ?_
                          refine zr_if_eq C (hR159 _ _) (zdec_at dm_X12_findPieces 98 rfl) rfl (fun g194 => ?_) (fun g194 => ?_)
                          · have h := h.1 g194
                            refine zr_iconst C (zdec_at dm_X12_findPieces 113 rfl) ?_
                            refine zr_istore (L1 := [(5, zI 0), (0, zRf (zad Γ) 103), (2, zI (M 103 38)), (3, zI ((M 103 38) + 1)), (4, zI v156), (6, zI v172)]) C (zdec_at dm_X12_findPieces 114 rfl) (Nat.le_of_ble_eq_true rfl) rfl ?_
                            refine zr_iinc (L1 := [(6, zI (v172 + 1)), (5, zI 0), (0, zRf (zad Γ) 103), (2, zI (M 103 38)), (3, zI ((M 103 38) + 1)), (4, zI v156)]) C 5 rfl (zdec_at dm_X12_findPieces 115 rfl) (Nat.le_of_ble_eq_true rfl) rfl ?_
                            refine zr_goto C (zdec_at dm_X12_findPieces 116 rfl) rfl ?_
                            obtain ⟨o195, h⟩ := h
                            obtain ⟨n196, q197, q198⟩ := h
                            exact zr_sub [2, 3, 4, 5, 1, 0] rfl (ih177 n196 q197 _ _ q198 (by decide) o195)
                          · have h := h.2 g194
                            refine zr_aload_n C 0 rfl (zdec_at dm_X12_findPieces 99 rfl) rfl ?_
                            refine zr_getr (q := 126) C fk_RX12_85 fi_103_48 (zdec_at dm_X12_findPieces 100 rfl) ?_
                            refine zr_iload_n C 2 rfl (zdec_at dm_X12_findPieces 101 rfl) rfl ?_
                            refine zr_aload_n C 0 rfl (zdec_at dm_X12_findPieces 102 rfl) rfl ?_
                            refine zr_geti C fk_RX12_356 fi_103_50 (zdec_at dm_X12_findPieces 103 rfl) ?_
                            refine zr_iconst C (zdec_at dm_X12_findPieces 104 rfl) ?_
                            refine zr_isub C (zdec_at dm_X12_findPieces 105 rfl) ?_
                            refine zr_imul C (zdec_at dm_X12_findPieces 106 rfl) ?_
                            refine zr_iload C 5 rfl (zdec_at dm_X12_findPieces 107 rfl) ?_
                            refine zr_iadd C (zdec_at dm_X12_findPieces 108 rfl) ?_
                            obtain ⟨o199, h⟩ := h
                            refine zr_zald C ai_126 o199 (zdec_at dm_X12_findPieces 109 rfl) ?_
                            refine zr_if_eq C (hR159 _ _) (zdec_at dm_X12_findPieces 110 rfl) rfl (fun g200 => ?_) (fun g200 => ?_)
                            · have h := h.1 g200
                              refine zr_iconst C (zdec_at dm_X12_findPieces 113 rfl) ?_
                              refine zr_istore (L1 := [(5, zI 0), (0, zRf (zad Γ) 103), (2, zI (M 103 38)), (3, zI ((M 103 38) + 1)), (4, zI v156), (6, zI v172)]) C (zdec_at dm_X12_findPieces 114 rfl) (Nat.le_of_ble_eq_true rfl) rfl ?_
                              refine zr_iinc (L1 := [(6, zI (v172 + 1)), (5, zI 0), (0, zRf (zad Γ) 103), (2, zI (M 103 38)), (3, zI ((M 103 38) + 1)), (4, zI v156)]) C 5 rfl (zdec_at dm_X12_findPieces 115 rfl) (Nat.le_of_ble_eq_true rfl) rfl ?_
                              refine zr_goto C (zdec_at dm_X12_findPieces 116 rfl) rfl ?_
                              obtain ⟨o201, h⟩ := h
                              obtain ⟨n202, q203, q204⟩ := h
                              exact zr_sub [2, 3, 4, 5, 1, 0] rfl (ih177 n202 q203 _ _ q204 (by decide) o201)
                            · have h := h.2 g200
                              refine zr_iconst C (zdec_at dm_X12_findPieces 111 rfl) ?_
                              refine zr_goto C (zdec_at dm_X12_findPieces 112 rfl) rfl ?_
                              refine zr_istore (L1 := [(5, zI 1), (0, zRf (zad Γ) 103), (2, zI (M 103 38)), (3, zI ((M 103 38) + 1)), (4, zI v156), (6, zI v172)]) C (zdec_at dm_X12_findPieces 114 rfl) (Nat.le_of_ble_eq_true rfl) rfl ?_
                              refine zr_iinc (L1 := [(6, zI (v172 + 1)), (5, zI 1), (0, zRf (zad Γ) 103), (2, zI (M 103 38)), (3, zI ((M 103 38) + 1)), (4, zI v156)]) C 5 rfl (zdec_at dm_X12_findPieces 115 rfl) (Nat.le_of_ble_eq_true rfl) rfl ?_
                              refine zr_goto C (zdec_at dm_X12_findPieces 116 rfl) rfl ?_
                              obtain ⟨o205, h⟩ := h
                              obtain ⟨n206, q207, q208⟩ := h
                              exact zr_sub [2, 3, 4, 5, 1, 0] rfl (ih177 n206 q207 _ _ q208 (by decide) o205)
                    exact zr_sub [2, 3, 4, 5, 1, 0] rfl (lp178 n180 _ _ q181 (by decide) o173)
                exact zr_sub [1, 2, 3, 0] rfl (lp162 n164 _ _ q165 (by decide) hR155)
          exact zr_sub [0, 1, 2] rfl (lp32 n34 _ q35 hR27)
        · have h := h.2 g24
          refine zr_aload_n C 0 rfl (zdec_at dm_X12_findPieces 41 rfl) rfl ?_
          refine zr_getr (q := 126) C fk_RX12_85 fi_103_48 (zdec_at dm_X12_findPieces 42 rfl) ?_
          refine zr_iload C 3 rfl (zdec_at dm_X12_findPieces 43 rfl) ?_
          refine zr_iload C 3 rfl (zdec_at dm_X12_findPieces 44 rfl) ?_
          refine zr_iload_n C 1 rfl (zdec_at dm_X12_findPieces 45 rfl) rfl ?_
          refine zr_icmp_ne C z14 (hR _ _) (zdec_at dm_X12_findPieces 46 rfl) rfl (fun g209 => ?_) (fun g209 => ?_)
          · have h := h.1 g209
            refine zr_iconst C (zdec_at dm_X12_findPieces 49 rfl) ?_
            obtain ⟨o210, h⟩ := h
            refine zr_zast C ai_126 o210 (by decide) (by decide) rfl (zdec_at dm_X12_findPieces 50 rfl) (fun M211 e212 => ?_)
            have h := h M211 e212
            have hR213 : zRng M211 := by rw [e212]; exact hR16.set (by decide) _ _
            refine zr_iinc (L1 := [(4, zI (v13 + 1)), (0, zRf (zad Γ) 103), (2, zI (M 103 38)), (3, zI ((M 103 38) + 1))]) C 3 rfl (zdec_at dm_X12_findPieces 51 rfl) (Nat.le_of_ble_eq_true rfl) rfl ?_
            refine zr_goto C (zdec_at dm_X12_findPieces 52 rfl) rfl ?_
            obtain ⟨o214, h⟩ := h
            obtain ⟨n215, q216, q217⟩ := h
            exact zr_sub [1, 2, 3, 0] rfl (ih18 n215 q216 _ _ q217 o214 hR213)
          · have h := h.2 g209
            refine zr_iconst C (zdec_at dm_X12_findPieces 47 rfl) ?_
            refine zr_goto C (zdec_at dm_X12_findPieces 48 rfl) rfl ?_
            obtain ⟨o218, h⟩ := h
            refine zr_zast C ai_126 o218 (by decide) (by decide) rfl (zdec_at dm_X12_findPieces 50 rfl) (fun M219 e220 => ?_)
            have h := h M219 e220
            have hR221 : zRng M219 := by rw [e220]; exact hR16.set (by decide) _ _
            refine zr_iinc (L1 := [(4, zI (v13 + 1)), (0, zRf (zad Γ) 103), (2, zI (M 103 38)), (3, zI ((M 103 38) + 1))]) C 3 rfl (zdec_at dm_X12_findPieces 51 rfl) (Nat.le_of_ble_eq_true rfl) rfl ?_
            refine zr_goto C (zdec_at dm_X12_findPieces 52 rfl) rfl ?_
            obtain ⟨o222, h⟩ := h
            obtain ⟨n223, q224, q225⟩ := h
            exact zr_sub [1, 2, 3, 0] rfl (ih18 n223 q224 _ _ q225 o222 hR221)
      exact zr_sub [1, 3, 4, 0] rfl (lp19 n21 _ _ q22 (by decide) hR4)
    · have h := h.2 g12
      refine zr_iload C 4 rfl (zdec_at dm_X12_findPieces 12 rfl) ?_
      refine zr_iconst C (zdec_at dm_X12_findPieces 13 rfl) ?_
      refine zr_iadd C (zdec_at dm_X12_findPieces 14 rfl) ?_
      refine zr_istore (L1 := [(5, zI (v1 + 1)), (0, zRf (zad Γ) 103), (1, zI a1), (2, zI (M 103 38)), (3, zI ((M 103 38) + 1)), (4, zI v1)]) C (zdec_at dm_X12_findPieces 15 rfl) (Nat.le_of_ble_eq_true rfl) rfl ?_
      obtain ⟨o227, h⟩ := h
      obtain ⟨I24, ⟨n235, q236⟩, hI234⟩ := h
      have lp233 : ∀ (n231 : Nat) (v226 : Int) (M229 : zM), I24 v226 M229 n231 → zin v226 → zRng M229 → zV Γ mu_X12_findPieces (145, 0, 0) 24 [(0, zRf (zad Γ) 103), (1, zI a1), (2, zI (M 103 38)), (3, zI ((M 103 38) + 1)), (4, zI v1), (5, zI v226)] [] M229 := by
        intro n231
        induction n231 using Nat.strongRecOn with
        | _ n231 ih232 =>
        intro v226 M229 q237 z228 hR230
        have h := hI234 v226 M229 n231 q237 z228 hR230
        refine zr_iload C 5 rfl (zdec_at dm_X12_findPieces 16 rfl) ?_
        refine zr_iload_n C 2 rfl (zdec_at dm_X12_findPieces 17 rfl) rfl ?_
        refine zr_icmp_gt C z228 (hR _ _) (zdec_at dm_X12_findPieces 18 rfl) rfl (fun g238 => ?_) (fun g238 => ?_)
        · have h := h.1 g238
          refine zr_iinc (L1 := [(4, zI (v1 + 1)), (0, zRf (zad Γ) 103), (1, zI a1), (2, zI (M 103 38)), (3, zI ((M 103 38) + 1)), (5, zI v226)]) C 4 rfl (zdec_at dm_X12_findPieces 34 rfl) (Nat.le_of_ble_eq_true rfl) rfl ?_
          refine zr_goto C (zdec_at dm_X12_findPieces 35 rfl) rfl ?_
          obtain ⟨n239, q240, q241⟩ := h
          exact zr_sub [1, 2, 3, 4, 0] rfl (ih6 n239 q240 _ _ q241 o227 hR230)
        · have h := h.2 g238
          refine zr_aload_n C 0 rfl (zdec_at dm_X12_findPieces 19 rfl) rfl ?_
          refine zr_getr (q := 125) C fk_RX12_82 fi_103_47 (zdec_at dm_X12_findPieces 20 rfl) ?_
          refine zr_iload_n C 3 rfl (zdec_at dm_X12_findPieces 21 rfl) rfl ?_
          refine zr_iload C 4 rfl (zdec_at dm_X12_findPieces 22 rfl) ?_
          refine zr_imul C (zdec_at dm_X12_findPieces 23 rfl) ?_
          refine zr_iload C 5 rfl (zdec_at dm_X12_findPieces 24 rfl) ?_
          refine zr_iadd C (zdec_at dm_X12_findPieces 25 rfl) ?_
          refine zr_aload_n C 0 rfl (zdec_at dm_X12_findPieces 26 rfl) rfl ?_
          refine zr_iload C 4 rfl (zdec_at dm_X12_findPieces 27 rfl) ?_
          refine zr_iload C 5 rfl (zdec_at dm_X12_findPieces 28 rfl) ?_
          refine zr_iload_n C 1 rfl (zdec_at dm_X12_findPieces 29 rfl) rfl ?_
          obtain ⟨g247, h⟩ := h
          refine zr_callV C [v1, v226, a1] hS_X12_isStraight ck_RX12_353 iv_X12_isStraight vc_X12 oc_103 rfl rfl (zdec_at dm_X12_findPieces 30 rfl) ⟨rfl, rfl, rfl, rfl⟩ ⟨by decide, by decide⟩ (Nat.le_of_ble_eq_true rfl) (zall_0 z2 (zall_0 z228 (zall_0 zz_a1 zall_n))) ?_
          refine ⟨_, _, _, rfl, g247, fun r242 M243 p246 z245 hR244 => ?_⟩
          have h := h r242 M243 p246 z245 hR244
          show zV Γ mu_X12_findPieces (145, 0, 0) 50 [(0, zRf (zad Γ) 103), (1, zI a1), (2, zI (M 103 38)), (3, zI ((M 103 38) + 1)), (4, zI v1), (5, zI v226)] [zI r242, zI ((((M 103 38) + 1) * v1) + v226), zRf (zad Γ) 125] M243
          obtain ⟨o248, h⟩ := h
          obtain ⟨o249, h⟩ := h
          refine zr_zast C ai_125 o248 z245 o249 rfl (zdec_at dm_X12_findPieces 31 rfl) (fun M250 e251 => ?_)
          have h := h M250 e251
          have hR252 : zRng M250 := by rw [e251]; exact hR244.set z245 _ _
          refine zr_iinc (L1 := [(5, zI (v226 + 1)), (0, zRf (zad Γ) 103), (1, zI a1), (2, zI (M 103 38)), (3, zI ((M 103 38) + 1)), (4, zI v1)]) C 5 rfl (zdec_at dm_X12_findPieces 32 rfl) (Nat.le_of_ble_eq_true rfl) rfl ?_
          refine zr_goto C (zdec_at dm_X12_findPieces 33 rfl) rfl ?_
          obtain ⟨o253, h⟩ := h
          obtain ⟨n254, q255, q256⟩ := h
          exact zr_sub [1, 2, 3, 4, 5, 0] rfl (ih232 n254 q255 _ _ q256 o253 hR252)
      exact zr_sub [1, 2, 3, 4, 5, 0] rfl (lp233 n235 _ _ q236 o227 hR4)
  exact zr_sub [3, 4, 2, 1, 0] rfl (lp7 n9 _ _ q10 (by decide) hR)

set_option maxHeartbeats 400000 in
set_option maxRecDepth 100000 in
theorem sn_X12_fewest {pr_X12_isBorder : Int → Int → zM → Prop} {po_X12_isBorder : Int → Int → zM → Int → zM → Prop} {pr_X12_findPieces : Int → zM → Prop} {po_X12_findPieces : Int → zM → zM → Prop} (hS_X12_isBorder : zSnd zS 145 0 0 yX12_isBorder cX12_isBorder 3 (some .boolean) 4 [2, 0, 0] (F_X12_isBorder pr_X12_isBorder po_X12_isBorder)) (hS_X12_findPieces : zSnd zS 145 0 0 yX12_findPieces cX12_findPieces 8 none 2 [2, 0] (F_X12_findPieces pr_X12_findPieces po_X12_findPieces)) : zSnd zS 145 0 0 yX12_fewest cX12_fewest 4 (some .int) 5 [2, 0, 0, 0] (fun xs P M => ∃ a1 a2 a3 : Int, xs = [103, a1, a2, a3] ∧ vc_X12_fewest pr_X12_isBorder po_X12_isBorder pr_X12_findPieces po_X12_findPieces a1 a2 a3 P M) := by
  refine zSnd.of rfl (fun ad xs hz => Nat.le_trans (Nat.le_of_eq (zlen ad _ xs hz)) (by decide)) ?_
  intro Γ C _ _ xs M hz hF
  obtain ⟨a1, a2, a3, rfl, h⟩ := hF
  have zz_a1 := zall_h (zall_t hz) (by decide)
  have zz_a2 := zall_h (zall_t (zall_t hz)) (by decide)
  have zz_a3 := zall_h (zall_t (zall_t (zall_t hz))) (by decide)
  refine zr_rng (fun hR => ?_)
  have C : zC Γ mu_X12_fewest := C
  change zV Γ mu_X12_fewest (145, 0, 0) 0 [(0, zRf (zad Γ) 103), (1, zI a1), (2, zI a2), (3, zI a3)] [] M
  change vc_X12_fewest pr_X12_isBorder po_X12_isBorder pr_X12_findPieces po_X12_findPieces a1 a2 a3 _ M at h
  unfold vc_X12_fewest at h
  refine zr_aload_n C 0 rfl (zdec_at dm_X12_fewest 0 rfl) rfl ?_
  refine zr_iconst C (zdec_at dm_X12_fewest 1 rfl) ?_
  refine zr_puti C fk_RX12_140 fi_103_0 (by decide) (zdec_at dm_X12_fewest 2 rfl) (fun M1 e2 => ?_)
  have h := h M1 e2
  have hR3 : zRng M1 := by rw [e2]; exact hR.set (by decide) _ _
  refine zr_aload_n C 0 rfl (zdec_at dm_X12_fewest 3 rfl) rfl ?_
  refine zr_iload_n C 1 rfl (zdec_at dm_X12_fewest 4 rfl) rfl ?_
  refine zr_iload_n C 2 rfl (zdec_at dm_X12_fewest 5 rfl) rfl ?_
  obtain ⟨g9, h⟩ := h
  refine zr_callV C [a1, a2] hS_X12_isBorder ck_RX12_350 iv_X12_isBorder vc_X12 oc_103 rfl rfl (zdec_at dm_X12_fewest 6 rfl) ⟨rfl, rfl, rfl, rfl⟩ ⟨by decide, by decide⟩ (Nat.le_of_ble_eq_true rfl) (zall_0 zz_a1 (zall_0 zz_a2 zall_n)) ?_
  refine ⟨_, _, rfl, g9, fun r4 M5 p8 z7 hR6 => ?_⟩
  have h := h r4 M5 p8 z7 hR6
  show zV Γ mu_X12_fewest (145, 0, 0) 11 [(0, zRf (zad Γ) 103), (1, zI a1), (2, zI a2), (3, zI a3)] [zI r4] M5
  refine zr_if_eq C z7 (zdec_at dm_X12_fewest 7 rfl) rfl (fun g10 => ?_) (fun g10 => ?_)
  · have h := h.1 g10
    refine zr_iconst C (zdec_at dm_X12_fewest 11 rfl) ?_
    exact zr_ireturn C rfl (zdec_at dm_X12_fewest 12 rfl) rfl ⟨(by decide), h⟩
  · have h := h.2 g10
    refine zr_iload_n C 3 rfl (zdec_at dm_X12_fewest 8 rfl) rfl ?_
    refine zr_iconst C (zdec_at dm_X12_fewest 9 rfl) ?_
    refine zr_icmp_ge C zz_a3 (by decide) (zdec_at dm_X12_fewest 10 rfl) rfl (fun g11 => ?_) (fun g11 => ?_)
    · have h := h.1 g11
      refine zr_aload_n C 0 rfl (zdec_at dm_X12_fewest 13 rfl) rfl ?_
      refine zr_iload_n C 2 rfl (zdec_at dm_X12_fewest 14 rfl) rfl ?_
      obtain ⟨g16, h⟩ := h
      refine zr_callV C [a2] hS_X12_findPieces ck_RX12_359 iv_X12_findPieces vc_X12 oc_103 rfl rfl (zdec_at dm_X12_fewest 15 rfl) ⟨rfl, rfl, rfl, rfl⟩ ⟨by decide, by decide⟩ (Nat.le_of_ble_eq_true rfl) (zall_0 zz_a2 zall_n) ?_
      refine ⟨_, rfl, g16, fun M12 p15 _ hR13 => ?_⟩
      have h := h M12 p15 hR13
      show zV Γ mu_X12_fewest (145, 0, 0) 26 [(0, zRf (zad Γ) 103), (1, zI a1), (2, zI a2), (3, zI a3)] [] M12
      refine zr_iload_n C 3 rfl (zdec_at dm_X12_fewest 16 rfl) rfl ?_
      refine zr_iconst C (zdec_at dm_X12_fewest 17 rfl) ?_
      refine zr_icmp_ne C zz_a3 (by decide) (zdec_at dm_X12_fewest 18 rfl) rfl (fun g17 => ?_) (fun g17 => ?_)
      · have h := h.1 g17
        refine zr_iload_n C 3 rfl (zdec_at dm_X12_fewest 22 rfl) rfl ?_
        refine zr_aload_n C 0 rfl (zdec_at dm_X12_fewest 23 rfl) rfl ?_
        refine zr_geti C fk_RX12_356 fi_103_50 (zdec_at dm_X12_fewest 24 rfl) ?_
        refine zr_icmp_ge C zz_a3 (hR13 _ _) (zdec_at dm_X12_fewest 25 rfl) rfl (fun g18 => ?_) (fun g18 => ?_)
        · have h := h.1 g18
          refine zr_bipush C (zdec_at dm_X12_fewest 31 rfl) (by decide) ?_
          exact zr_ireturn C rfl (zdec_at dm_X12_fewest 32 rfl) rfl ⟨(by decide), h⟩
        · have h := h.2 g18
          refine zr_aload_n C 0 rfl (zdec_at dm_X12_fewest 26 rfl) rfl ?_
          refine zr_getr (q := 127) C fk_RX12_88 fi_103_49 (zdec_at dm_X12_fewest 27 rfl) ?_
          refine zr_iload_n C 3 rfl (zdec_at dm_X12_fewest 28 rfl) rfl ?_
          obtain ⟨o19, h⟩ := h
          refine zr_iald C ai_127 o19 (zdec_at dm_X12_fewest 29 rfl) ?_
          refine zr_goto C (zdec_at dm_X12_fewest 30 rfl) rfl ?_
          exact zr_ireturn C rfl (zdec_at dm_X12_fewest 32 rfl) rfl ⟨(hR13 _ _), h⟩
      · have h := h.2 g17
        refine zr_aload_n C 0 rfl (zdec_at dm_X12_fewest 19 rfl) rfl ?_
        refine zr_geti C fk_RX12_356 fi_103_50 (zdec_at dm_X12_fewest 20 rfl) ?_
        refine zr_goto C (zdec_at dm_X12_fewest 21 rfl) rfl ?_
        exact zr_ireturn C rfl (zdec_at dm_X12_fewest 32 rfl) rfl ⟨(hR13 _ _), h⟩
    · have h := h.2 g11
      refine zr_iconst C (zdec_at dm_X12_fewest 11 rfl) ?_
      exact zr_ireturn C rfl (zdec_at dm_X12_fewest 12 rfl) rfl ⟨(by decide), h⟩

set_option maxHeartbeats 400000 in
set_option maxRecDepth 100000 in
theorem sn_X12_isDrawn : zSnd zS 145 0 0 yX12_isDrawn cX12_isDrawn 16 (some .boolean) 0 [2, 0, 0] (fun xs P M => ∃ a1 a2 : Int, xs = [103, a1, a2] ∧ vc_X12_isDrawn a1 a2 P M) := by
  refine zSnd.of rfl (fun ad xs hz => Nat.le_trans (Nat.le_of_eq (zlen ad _ xs hz)) (by decide)) ?_
  intro Γ C _ _ xs M hz hF
  obtain ⟨a1, a2, rfl, h⟩ := hF
  have zz_a1 := zall_h (zall_t hz) (by decide)
  have zz_a2 := zall_h (zall_t (zall_t hz)) (by decide)
  refine zr_rng (fun hR => ?_)
  have C : zC Γ mu_X12_isDrawn := C
  change zV Γ mu_X12_isDrawn (145, 0, 0) 0 [(0, zRf (zad Γ) 103), (1, zI a1), (2, zI a2)] [] M
  change vc_X12_isDrawn a1 a2 _ M at h
  unfold vc_X12_isDrawn at h
  refine zr_iconst C (zdec_at dm_X12_isDrawn 0 rfl) ?_
  refine zr_istore_n (L1 := [(3, zI 0), (0, zRf (zad Γ) 103), (1, zI a1), (2, zI a2)]) C (zdec_at dm_X12_isDrawn 1 rfl) rfl (Nat.le_of_ble_eq_true rfl) rfl ?_
  refine zr_iconst C (zdec_at dm_X12_isDrawn 2 rfl) ?_
  refine zr_istore (L1 := [(4, zI 0), (3, zI 0), (0, zRf (zad Γ) 103), (1, zI a1), (2, zI a2)]) C (zdec_at dm_X12_isDrawn 3 rfl) (Nat.le_of_ble_eq_true rfl) rfl ?_
  obtain ⟨I5, ⟨n9, q10⟩, hI8⟩ := h
  have lp7 : ∀ (n5 : Nat) (v1 : Int) (v2 : Int), I5 v1 v2 n5 → zin v1 → zin v2 → zV Γ mu_X12_isDrawn (145, 0, 0) 5 [(0, zRf (zad Γ) 103), (1, zI a1), (2, zI a2), (3, zI v1), (4, zI v2)] [] M := by
    intro n5
    induction n5 using Nat.strongRecOn with
    | _ n5 ih6 =>
    intro v1 v2 q11 z3 z4
    have h := hI8 v1 v2 n5 q11 z3 z4
    refine zr_iload C 4 rfl (zdec_at dm_X12_isDrawn 4 rfl) ?_
    refine zr_aload_n C 0 rfl (zdec_at dm_X12_isDrawn 5 rfl) rfl ?_
    refine zr_geti C fk_RX12_356 fi_103_50 (zdec_at dm_X12_isDrawn 6 rfl) ?_
    refine zr_icmp_ge C z4 (hR _ _) (zdec_at dm_X12_isDrawn 7 rfl) rfl (fun g12 => ?_) (fun g12 => ?_)
    · have h := h.1 g12
      refine zr_iload_n C 3 rfl (zdec_at dm_X12_isDrawn 140 rfl) rfl ?_
      obtain ⟨o13, h⟩ := h
      exact zr_zreturn C rfl o13 (zdec_at dm_X12_isDrawn 141 rfl) rfl ⟨z3, h⟩
    · have h := h.2 g12
      refine zr_aload_n C 0 rfl (zdec_at dm_X12_isDrawn 8 rfl) rfl ?_
      refine zr_getr (q := 119) C fk_RX12_63 fi_103_40 (zdec_at dm_X12_isDrawn 9 rfl) ?_
      refine zr_aload_n C 0 rfl (zdec_at dm_X12_isDrawn 10 rfl) rfl ?_
      refine zr_getr (q := 127) C fk_RX12_88 fi_103_49 (zdec_at dm_X12_isDrawn 11 rfl) ?_
      refine zr_iload C 4 rfl (zdec_at dm_X12_isDrawn 12 rfl) ?_
      obtain ⟨o14, h⟩ := h
      refine zr_iald C ai_127 o14 (zdec_at dm_X12_isDrawn 13 rfl) ?_
      obtain ⟨o15, h⟩ := h
      refine zr_iald C ai_119 o15 (zdec_at dm_X12_isDrawn 14 rfl) ?_
      refine zr_istore (L1 := [(5, zI (M 119 (M 127 v2))), (0, zRf (zad Γ) 103), (1, zI a1), (2, zI a2), (3, zI v1), (4, zI v2)]) C (zdec_at dm_X12_isDrawn 15 rfl) (Nat.le_of_ble_eq_true rfl) rfl ?_
      refine zr_aload_n C 1 rfl (zdec_at dm_X12_isDrawn 16 rfl) rfl ?_
      refine zr_getr (q := 120) C fk_RX12_66 fi_103_41 (zdec_at dm_X12_isDrawn 17 rfl) ?_
      refine zr_aload_n C 1 rfl (zdec_at dm_X12_isDrawn 18 rfl) rfl ?_
      refine zr_getr (q := 127) C fk_RX12_88 fi_103_49 (zdec_at dm_X12_isDrawn 19 rfl) ?_
      refine zr_iload C 5 rfl (zdec_at dm_X12_isDrawn 20 rfl) ?_
      refine zr_iald C ai_127 o14 (zdec_at dm_X12_isDrawn 21 rfl) ?_
      refine zr_iald C ai_120 o15 (zdec_at dm_X12_isDrawn 22 rfl) ?_
      refine zr_istore (L1 := [(6, zI (M 120 (M 127 v2))), (5, zI (M 119 (M 127 v2))), (0, zRf (zad Γ) 103), (1, zI a1), (2, zI a2), (3, zI v1), (4, zI v2)]) C (zdec_at dm_X12_isDrawn 23 rfl) (Nat.le_of_ble_eq_true rfl) rfl ?_
      refine zr_aload_n C 2 rfl (zdec_at dm_X12_isDrawn 24 rfl) rfl ?_
      refine zr_getr (q := 119) C fk_RX12_63 fi_103_40 (zdec_at dm_X12_isDrawn 25 rfl) ?_
      refine zr_aload_n C 2 rfl (zdec_at dm_X12_isDrawn 26 rfl) rfl ?_
      refine zr_getr (q := 127) C fk_RX12_88 fi_103_49 (zdec_at dm_X12_isDrawn 27 rfl) ?_
      refine zr_iload C 6 rfl (zdec_at dm_X12_isDrawn 28 rfl) ?_
      refine zr_iconst C (zdec_at dm_X12_isDrawn 29 rfl) ?_
      refine zr_iadd C (zdec_at dm_X12_isDrawn 30 rfl) ?_
      obtain ⟨o16, h⟩ := h
      refine zr_iald C ai_127 o16 (zdec_at dm_X12_isDrawn 31 rfl) ?_
      obtain ⟨o17, h⟩ := h
      refine zr_iald C ai_119 o17 (zdec_at dm_X12_isDrawn 32 rfl) ?_
      refine zr_istore (L1 := [(7, zI (M 119 (M 127 (v2 + 1)))), (6, zI (M 120 (M 127 v2))), (5, zI (M 119 (M 127 v2))), (0, zRf (zad Γ) 103), (1, zI a1), (2, zI a2), (3, zI v1), (4, zI v2)]) C (zdec_at dm_X12_isDrawn 33 rfl) (Nat.le_of_ble_eq_true rfl) rfl ?_
      refine zr_aload_n C 3 rfl (zdec_at dm_X12_isDrawn 34 rfl) rfl ?_
      refine zr_getr (q := 120) C fk_RX12_66 fi_103_41 (zdec_at dm_X12_isDrawn 35 rfl) ?_
      refine zr_aload_n C 3 rfl (zdec_at dm_X12_isDrawn 36 rfl) rfl ?_
      refine zr_getr (q := 127) C fk_RX12_88 fi_103_49 (zdec_at dm_X12_isDrawn 37 rfl) ?_
      refine zr_iload C 7 rfl (zdec_at dm_X12_isDrawn 38 rfl) ?_
      refine zr_iconst C (zdec_at dm_X12_isDrawn 39 rfl) ?_
      refine zr_iadd C (zdec_at dm_X12_isDrawn 40 rfl) ?_
      refine zr_iald C ai_127 o16 (zdec_at dm_X12_isDrawn 41 rfl) ?_
      refine zr_iald C ai_120 o17 (zdec_at dm_X12_isDrawn 42 rfl) ?_
      refine zr_istore (L1 := [(8, zI (M 120 (M 127 (v2 + 1)))), (7, zI (M 119 (M 127 (v2 + 1)))), (6, zI (M 120 (M 127 v2))), (5, zI (M 119 (M 127 v2))), (0, zRf (zad Γ) 103), (1, zI a1), (2, zI a2), (3, zI v1), (4, zI v2)]) C (zdec_at dm_X12_isDrawn 43 rfl) (Nat.le_of_ble_eq_true rfl) rfl ?_
      refine zr_iconst C (zdec_at dm_X12_isDrawn 44 rfl) ?_
      refine zr_iload C 2 rfl (zdec_at dm_X12_isDrawn 45 rfl) ?_
      refine zr_imul C (zdec_at dm_X12_isDrawn 46 rfl) ?_
      refine zr_iconst C (zdec_at dm_X12_isDrawn 47 rfl) ?_
      refine zr_iload_n C 6 rfl (zdec_at dm_X12_isDrawn 48 rfl) rfl ?_
      refine zr_imul C (zdec_at dm_X12_isDrawn 49 rfl) ?_
      refine zr_iconst C (zdec_at dm_X12_isDrawn 50 rfl) ?_
      refine zr_iadd C (zdec_at dm_X12_isDrawn 51 rfl) ?_
      have h := h (fun v18 => zin v18 → zV Γ mu_X12_isDrawn (145, 0, 0) 91 [(0, zRf (zad Γ) 103), (1, zI a1), (2, zI a2), (3, zI v1), (4, zI v2), (5, zI (M 119 (M 127 v2))), (6, zI (M 120 (M 127 v2))), (7, zI (M 119 (M 127 (v2 + 1)))), (8, zI (M 120 (M 127 (v2 + 1))))] [zI v18] M) (fun v18 h z19 => by
        have h := h z19
        refine zr_iconst C (zdec_at dm_X12_isDrawn 56 rfl) ?_
        refine zr_iload C 8 rfl (zdec_at dm_X12_isDrawn 57 rfl) ?_
        refine zr_imul C (zdec_at dm_X12_isDrawn 58 rfl) ?_
        refine zr_iconst C (zdec_at dm_X12_isDrawn 59 rfl) ?_
        refine zr_iload_n C 2 rfl (zdec_at dm_X12_isDrawn 60 rfl) rfl ?_
        refine zr_imul C (zdec_at dm_X12_isDrawn 61 rfl) ?_
        refine zr_iconst C (zdec_at dm_X12_isDrawn 62 rfl) ?_
        refine zr_iadd C (zdec_at dm_X12_isDrawn 63 rfl) ?_
        have h := h (fun v20 => zin v20 → zV Γ mu_X12_isDrawn (145, 0, 0) 108 [(0, zRf (zad Γ) 103), (1, zI a1), (2, zI a2), (3, zI v1), (4, zI v2), (5, zI (M 119 (M 127 v2))), (6, zI (M 120 (M 127 v2))), (7, zI (M 119 (M 127 (v2 + 1)))), (8, zI (M 120 (M 127 (v2 + 1))))] [zI v20, zI v18] M) (fun v20 h z21 => by
          have h := h z21
          have h := h (fun v22 => zin v22 → zV Γ mu_X12_isDrawn (145, 0, 0) 116 [(0, zRf (zad Γ) 103), (1, zI a1), (2, zI a2), (3, zI v1), (4, zI v2), (5, zI (M 119 (M 127 v2))), (6, zI (M 120 (M 127 v2))), (7, zI (M 119 (M 127 (v2 + 1)))), (8, zI (M 120 (M 127 (v2 + 1))))] [zI v22] M) (fun v22 h z23 => by
            have h := h z23
            refine zr_istore (L1 := [(9, zI v22), (0, zRf (zad Γ) 103), (1, zI a1), (2, zI a2), (3, zI v1), (4, zI v2), (5, zI (M 119 (M 127 v2))), (6, zI (M 120 (M 127 v2))), (7, zI (M 119 (M 127 (v2 + 1)))), (8, zI (M 120 (M 127 (v2 + 1))))]) C (zdec_at dm_X12_isDrawn 72 rfl) (Nat.le_of_ble_eq_true rfl) rfl ?_
            refine zr_iload C 0 rfl (zdec_at dm_X12_isDrawn 73 rfl) ?_
            refine zr_if_eq C z23 (zdec_at dm_X12_isDrawn 74 rfl) rfl (fun g24 => ?_) (fun g24 => ?_)
            · have h := h.1 g24
              refine zr_iinc (L1 := [(4, zI (v2 + 1)), (9, zI v22), (0, zRf (zad Γ) 103), (1, zI a1), (2, zI a2), (3, zI v1), (5, zI (M 119 (M 127 v2))), (6, zI (M 120 (M 127 v2))), (7, zI (M 119 (M 127 (v2 + 1)))), (8, zI (M 120 (M 127 (v2 + 1))))]) C 5 rfl (zdec_at dm_X12_isDrawn 138 rfl) (Nat.le_of_ble_eq_true rfl) rfl ?_
              refine zr_goto C (zdec_at dm_X12_isDrawn 139 rfl) rfl ?_
              obtain ⟨o25, h⟩ := h
              obtain ⟨n26, q27, q28⟩ := h
              exact zr_sub [2, 3, 4, 5, 0] rfl (ih6 n26 q27 _ _ q28 z3 o25)
            · have h := h.2 g24
              refine zr_iload C 9 rfl (zdec_at dm_X12_isDrawn 75 rfl) ?_
              refine zr_iload C 7 rfl (zdec_at dm_X12_isDrawn 76 rfl) ?_
              refine zr_isub C (zdec_at dm_X12_isDrawn 77 rfl) ?_
              obtain ⟨o29, h⟩ := h
              refine zr_i2l C o29 (zdec_at dm_X12_isDrawn 78 rfl) ?_
              refine zr_lstore (L1 := [(10, zJ ((M 120 (M 127 (v2 + 1))) - (M 120 (M 127 v2)))), (9, zI v22), (0, zRf (zad Γ) 103), (1, zI a1), (2, zI a2), (3, zI v1), (4, zI v2), (5, zI (M 119 (M 127 v2))), (6, zI (M 120 (M 127 v2))), (7, zI (M 119 (M 127 (v2 + 1)))), (8, zI (M 120 (M 127 (v2 + 1))))]) C (zdec_at dm_X12_isDrawn 79 rfl) (Nat.le_of_ble_eq_true rfl) rfl ?_
              refine zr_ldc2 C (zdec_at dm_X12_isDrawn 80 rfl) kc_RX12_362 ?_
              refine zr_iload C 7 rfl (zdec_at dm_X12_isDrawn 81 rfl) ?_
              refine zr_i2l C (hR _ _) (zdec_at dm_X12_isDrawn 82 rfl) ?_
              refine zr_lmul C (zdec_at dm_X12_isDrawn 83 rfl) ?_
              refine zr_lload C 0 rfl (zdec_at dm_X12_isDrawn 84 rfl) ?_
              refine zr_lmul C (zdec_at dm_X12_isDrawn 85 rfl) ?_
              refine zr_ldc2 C (zdec_at dm_X12_isDrawn 86 rfl) kc_RX12_362 ?_
              refine zr_iload_n C 4 rfl (zdec_at dm_X12_isDrawn 87 rfl) rfl ?_
              refine zr_i2l C zz_a2 (zdec_at dm_X12_isDrawn 88 rfl) ?_
              refine zr_lmul C (zdec_at dm_X12_isDrawn 89 rfl) ?_
              refine zr_lconst (v := 1) C (zdec_at dm_X12_isDrawn 90 rfl) rfl ?_
              refine zr_ladd C (zdec_at dm_X12_isDrawn 91 rfl) ?_
              refine zr_ldc2 C (zdec_at dm_X12_isDrawn 92 rfl) kc_RX12_362 ?_
              refine zr_iload C 8 rfl (zdec_at dm_X12_isDrawn 93 rfl) ?_
              refine zr_i2l C (hR _ _) (zdec_at dm_X12_isDrawn 94 rfl) ?_
              refine zr_lmul C (zdec_at dm_X12_isDrawn 95 rfl) ?_
              refine zr_lsub C (zdec_at dm_X12_isDrawn 96 rfl) ?_
              refine zr_iload C 9 rfl (zdec_at dm_X12_isDrawn 97 rfl) ?_
              refine zr_iload C 7 rfl (zdec_at dm_X12_isDrawn 98 rfl) ?_
              refine zr_isub C (zdec_at dm_X12_isDrawn 99 rfl) ?_
              obtain ⟨o30, h⟩ := h
              refine zr_i2l C o30 (zdec_at dm_X12_isDrawn 100 rfl) ?_
              refine zr_lmul C (zdec_at dm_X12_isDrawn 101 rfl) ?_
              refine zr_ladd C (zdec_at dm_X12_isDrawn 102 rfl) ?_
              refine zr_lstore (L1 := [(12, zJ (((2 * (M 119 (M 127 v2))) * ((M 120 (M 127 (v2 + 1))) - (M 120 (M 127 v2)))) + ((((2 * a2) + 1) - (2 * (M 120 (M 127 v2)))) * ((M 119 (M 127 (v2 + 1))) - (M 119 (M 127 v2)))))), (10, zJ ((M 120 (M 127 (v2 + 1))) - (M 120 (M 127 v2)))), (9, zI v22), (0, zRf (zad Γ) 103), (1, zI a1), (2, zI a2), (3, zI v1), (4, zI v2), (5, zI (M 119 (M 127 v2))), (6, zI (M 120 (M 127 v2))), (7, zI (M 119 (M 127 (v2 + 1)))), (8, zI (M 120 (M 127 (v2 + 1))))]) C (zdec_at dm_X12_isDrawn 103 rfl) (Nat.le_of_ble_eq_true rfl) rfl ?_
              refine zr_ldc2 C (zdec_at dm_X12_isDrawn 104 rfl) kc_RX12_362 ?_
              refine zr_iload_n C 4 rfl (zdec_at dm_X12_isDrawn 105 rfl) rfl ?_
              refine zr_i2l C zz_a1 (zdec_at dm_X12_isDrawn 106 rfl) ?_
              refine zr_lmul C (zdec_at dm_X12_isDrawn 107 rfl) ?_
              refine zr_lconst (v := 1) C (zdec_at dm_X12_isDrawn 108 rfl) rfl ?_
              refine zr_ladd C (zdec_at dm_X12_isDrawn 109 rfl) ?_
              refine zr_lload C 1 rfl (zdec_at dm_X12_isDrawn 110 rfl) ?_
              refine zr_lmul C (zdec_at dm_X12_isDrawn 111 rfl) ?_
              refine zr_lstore (L1 := [(14, zJ (((2 * a1) + 1) * ((M 120 (M 127 (v2 + 1))) - (M 120 (M 127 v2))))), (12, zJ (((2 * (M 119 (M 127 v2))) * ((M 120 (M 127 (v2 + 1))) - (M 120 (M 127 v2)))) + ((((2 * a2) + 1) - (2 * (M 120 (M 127 v2)))) * ((M 119 (M 127 (v2 + 1))) - (M 119 (M 127 v2)))))), (10, zJ ((M 120 (M 127 (v2 + 1))) - (M 120 (M 127 v2)))), (9, zI v22), (0, zRf (zad Γ) 103), (1, zI a1), (2, zI a2), (3, zI v1), (4, zI v2), (5, zI (M 119 (M 127 v2))), (6, zI (M 120 (M 127 v2))), (7, zI (M 119 (M 127 (v2 + 1)))), (8, zI (M 120 (M 127 (v2 + 1))))]) C (zdec_at dm_X12_isDrawn 112 rfl) (Nat.le_of_ble_eq_true rfl) rfl ?_
              refine zr_iload_n C 7 rfl (zdec_at dm_X12_isDrawn 113 rfl) rfl ?_
              refine zr_lload C 2 rfl (zdec_at dm_X12_isDrawn 114 rfl) ?_
              refine zr_lconst (v := 0) C (zdec_at dm_X12_isDrawn 115 rfl) rfl ?_
              refine zr_lcmp_le C (z64 o29) (by decide) (zdec_at dm_X12_isDrawn 116 rfl) (zdec_at dm_X12_isDrawn 117 rfl) rfl (fun g31 => ?_) (fun g31 => ?_)
              · have h := h.1 g31
                refine zr_lload C 1 rfl (zdec_at dm_X12_isDrawn 126 rfl) ?_
                refine zr_lload C 0 rfl (zdec_at dm_X12_isDrawn 127 rfl) ?_
                obtain ⟨o32, h⟩ := h
                obtain ⟨o33, h⟩ := h
                refine zr_lcmp_ge C o32 o33 (zdec_at dm_X12_isDrawn 128 rfl) (zdec_at dm_X12_isDrawn 129 rfl) rfl (fun g34 => ?_) (fun g34 => ?_)
                · have h := h.1 g34
                  refine zr_iconst C (zdec_at dm_X12_isDrawn 132 rfl) ?_
                  refine zr_icmp_eq C z3 (by decide) (zdec_at dm_X12_isDrawn 133 rfl) rfl (fun g35 => ?_) (fun g35 => ?_)
                  · have h := h.1 g35
                    refine zr_iconst C (zdec_at dm_X12_isDrawn 136 rfl) ?_
                    refine zr_istore_n (L1 := [(3, zI 0), (14, zJ (((2 * a1) + 1) * ((M 120 (M 127 (v2 + 1))) - (M 120 (M 127 v2))))), (12, zJ (((2 * (M 119 (M 127 v2))) * ((M 120 (M 127 (v2 + 1))) - (M 120 (M 127 v2)))) + ((((2 * a2) + 1) - (2 * (M 120 (M 127 v2)))) * ((M 119 (M 127 (v2 + 1))) - (M 119 (M 127 v2)))))), (10, zJ ((M 120 (M 127 (v2 + 1))) - (M 120 (M 127 v2)))), (9, zI v22), (0, zRf (zad Γ) 103), (1, zI a1), (2, zI a2), (4, zI v2), (5, zI (M 119 (M 127 v2))), (6, zI (M 120 (M 127 v2))), (7, zI (M 119 (M 127 (v2 + 1)))), (8, zI (M 120 (M 127 (v2 + 1))))]) C (zdec_at dm_X12_isDrawn 137 rfl) rfl (Nat.le_of_ble_eq_true rfl) rfl ?_
                    refine zr_iinc (L1 := [(4, zI (v2 + 1)), (3, zI 0), (14, zJ (((2 * a1) + 1) * ((M 120 (M 127 (v2 + 1))) - (M 120 (M 127 v2))))), (12, zJ (((2 * (M 119 (M 127 v2))) * ((M 120 (M 127 (v2 + 1))) - (M 120 (M 127 v2)))) + ((((2 * a2) + 1) - (2 * (M 120 (M 127 v2)))) * ((M 119 (M 127 (v2 + 1))) - (M 119 (M 127 v2)))))), (10, zJ ((M 120 (M 127 (v2 + 1))) - (M 120 (M 127 v2)))), (9, zI v22), (0, zRf (zad Γ) 103), (1, zI a1), (2, zI a2), (5, zI (M 119 (M 127 v2))), (6, zI (M 120 (M 127 v2))), (7, zI (M 119 (M 127 (v2 + 1)))), (8, zI (M 120 (M 127 (v2 + 1))))]) C 8 rfl (zdec_at dm_X12_isDrawn 138 rfl) (Nat.le_of_ble_eq_true rfl) rfl ?_
                    refine zr_goto C (zdec_at dm_X12_isDrawn 139 rfl) rfl ?_
                    obtain ⟨o36, h⟩ := h
                    obtain ⟨n37, q38, q39⟩ := h
                    exact zr_sub [6, 7, 8, 1, 0] rfl (ih6 n37 q38 _ _ q39 (by decide) o36)
                  · have h := h.2 g35
                    refine zr_iconst C (zdec_at dm_X12_isDrawn 134 rfl) ?_
                    refine zr_goto C (zdec_at dm_X12_isDrawn 135 rfl) rfl ?_
                    refine zr_istore_n (L1 := [(3, zI 1), (14, zJ (((2 * a1) + 1) * ((M 120 (M 127 (v2 + 1))) - (M 120 (M 127 v2))))), (12, zJ (((2 * (M 119 (M 127 v2))) * ((M 120 (M 127 (v2 + 1))) - (M 120 (M 127 v2)))) + ((((2 * a2) + 1) - (2 * (M 120 (M 127 v2)))) * ((M 119 (M 127 (v2 + 1))) - (M 119 (M 127 v2)))))), (10, zJ ((M 120 (M 127 (v2 + 1))) - (M 120 (M 127 v2)))), (9, zI v22), (0, zRf (zad Γ) 103), (1, zI a1), (2, zI a2), (4, zI v2), (5, zI (M 119 (M 127 v2))), (6, zI (M 120 (M 127 v2))), (7, zI (M 119 (M 127 (v2 + 1)))), (8, zI (M 120 (M 127 (v2 + 1))))]) C (zdec_at dm_X12_isDrawn 137 rfl) rfl (Nat.le_of_ble_eq_true rfl) rfl ?_
                    refine zr_iinc (L1 := [(4, zI (v2 + 1)), (3, zI 1), (14, zJ (((2 * a1) + 1) * ((M 120 (M 127 (v2 + 1))) - (M 120 (M 127 v2))))), (12, zJ (((2 * (M 119 (M 127 v2))) * ((M 120 (M 127 (v2 + 1))) - (M 120 (M 127 v2)))) + ((((2 * a2) + 1) - (2 * (M 120 (M 127 v2)))) * ((M 119 (M 127 (v2 + 1))) - (M 119 (M 127 v2)))))), (10, zJ ((M 120 (M 127 (v2 + 1))) - (M 120 (M 127 v2)))), (9, zI v22), (0, zRf (zad Γ) 103), (1, zI a1), (2, zI a2), (5, zI (M 119 (M 127 v2))), (6, zI (M 120 (M 127 v2))), (7, zI (M 119 (M 127 (v2 + 1)))), (8, zI (M 120 (M 127 (v2 + 1))))]) C 8 rfl (zdec_at dm_X12_isDrawn 138 rfl) (Nat.le_of_ble_eq_true rfl) rfl ?_
                    refine zr_goto C (zdec_at dm_X12_isDrawn 139 rfl) rfl ?_
                    obtain ⟨o40, h⟩ := h
                    obtain ⟨n41, q42, q43⟩ := h
                    exact zr_sub [6, 7, 8, 1, 0] rfl (ih6 n41 q42 _ _ q43 (by decide) o40)
                · have h := h.2 g34
                  refine zr_iconst C (zdec_at dm_X12_isDrawn 130 rfl) ?_
                  refine zr_goto C (zdec_at dm_X12_isDrawn 131 rfl) rfl ?_
                  refine zr_icmp_eq C z3 (by decide) (zdec_at dm_X12_isDrawn 133 rfl) rfl (fun g44 => ?_) (fun g44 => ?_)
                  · have h := h.1 g44
                    refine zr_iconst C (zdec_at dm_X12_isDrawn 136 rfl) ?_
                    refine zr_istore_n (L1 := [(3, zI 0), (14, zJ (((2 * a1) + 1) * ((M 120 (M 127 (v2 + 1))) - (M 120 (M 127 v2))))), (12, zJ (((2 * (M 119 (M 127 v2))) * ((M 120 (M 127 (v2 + 1))) - (M 120 (M 127 v2)))) + ((((2 * a2) + 1) - (2 * (M 120 (M 127 v2)))) * ((M 119 (M 127 (v2 + 1))) - (M 119 (M 127 v2)))))), (10, zJ ((M 120 (M 127 (v2 + 1))) - (M 120 (M 127 v2)))), (9, zI v22), (0, zRf (zad Γ) 103), (1, zI a1), (2, zI a2), (4, zI v2), (5, zI (M 119 (M 127 v2))), (6, zI (M 120 (M 127 v2))), (7, zI (M 119 (M 127 (v2 + 1)))), (8, zI (M 120 (M 127 (v2 + 1))))]) C (zdec_at dm_X12_isDrawn 137 rfl) rfl (Nat.le_of_ble_eq_true rfl) rfl ?_
                    refine zr_iinc (L1 := [(4, zI (v2 + 1)), (3, zI 0), (14, zJ (((2 * a1) + 1) * ((M 120 (M 127 (v2 + 1))) - (M 120 (M 127 v2))))), (12, zJ (((2 * (M 119 (M 127 v2))) * ((M 120 (M 127 (v2 + 1))) - (M 120 (M 127 v2)))) + ((((2 * a2) + 1) - (2 * (M 120 (M 127 v2)))) * ((M 119 (M 127 (v2 + 1))) - (M 119 (M 127 v2)))))), (10, zJ ((M 120 (M 127 (v2 + 1))) - (M 120 (M 127 v2)))), (9, zI v22), (0, zRf (zad Γ) 103), (1, zI a1), (2, zI a2), (5, zI (M 119 (M 127 v2))), (6, zI (M 120 (M 127 v2))), (7, zI (M 119 (M 127 (v2 + 1)))), (8, zI (M 120 (M 127 (v2 + 1))))]) C 8 rfl (zdec_at dm_X12_isDrawn 138 rfl) (Nat.le_of_ble_eq_true rfl) rfl ?_
                    refine zr_goto C (zdec_at dm_X12_isDrawn 139 rfl) rfl ?_
                    obtain ⟨o45, h⟩ := h
                    obtain ⟨n46, q47, q48⟩ := h
                    exact zr_sub [6, 7, 8, 1, 0] rfl (ih6 n46 q47 _ _ q48 (by decide) o45)
                  · have h := h.2 g44
                    refine zr_iconst C (zdec_at dm_X12_isDrawn 134 rfl) ?_
                    refine zr_goto C (zdec_at dm_X12_isDrawn 135 rfl) rfl ?_
                    refine zr_istore_n (L1 := [(3, zI 1), (14, zJ (((2 * a1) + 1) * ((M 120 (M 127 (v2 + 1))) - (M 120 (M 127 v2))))), (12, zJ (((2 * (M 119 (M 127 v2))) * ((M 120 (M 127 (v2 + 1))) - (M 120 (M 127 v2)))) + ((((2 * a2) + 1) - (2 * (M 120 (M 127 v2)))) * ((M 119 (M 127 (v2 + 1))) - (M 119 (M 127 v2)))))), (10, zJ ((M 120 (M 127 (v2 + 1))) - (M 120 (M 127 v2)))), (9, zI v22), (0, zRf (zad Γ) 103), (1, zI a1), (2, zI a2), (4, zI v2), (5, zI (M 119 (M 127 v2))), (6, zI (M 120 (M 127 v2))), (7, zI (M 119 (M 127 (v2 + 1)))), (8, zI (M 120 (M 127 (v2 + 1))))]) C (zdec_at dm_X12_isDrawn 137 rfl) rfl (Nat.le_of_ble_eq_true rfl) rfl ?_
                    refine zr_iinc (L1 := [(4, zI (v2 + 1)), (3, zI 1), (14, zJ (((2 * a1) + 1) * ((M 120 (M 127 (v2 + 1))) - (M 120 (M 127 v2))))), (12, zJ (((2 * (M 119 (M 127 v2))) * ((M 120 (M 127 (v2 + 1))) - (M 120 (M 127 v2)))) + ((((2 * a2) + 1) - (2 * (M 120 (M 127 v2)))) * ((M 119 (M 127 (v2 + 1))) - (M 119 (M 127 v2)))))), (10, zJ ((M 120 (M 127 (v2 + 1))) - (M 120 (M 127 v2)))), (9, zI v22), (0, zRf (zad Γ) 103), (1, zI a1), (2, zI a2), (5, zI (M 119 (M 127 v2))), (6, zI (M 120 (M 127 v2))), (7, zI (M 119 (M 127 (v2 + 1)))), (8, zI (M 120 (M 127 (v2 + 1))))]) C 8 rfl (zdec_at dm_X12_isDrawn 138 rfl) (Nat.le_of_ble_eq_true rfl) rfl ?_
                    refine zr_goto C (zdec_at dm_X12_isDrawn 139 rfl) rfl ?_
                    obtain ⟨o49, h⟩ := h
                    obtain ⟨n50, q51, q52⟩ := h
                    exact zr_sub [6, 7, 8, 1, 0] rfl (ih6 n50 q51 _ _ q52 (by decide) o49)
              · have h := h.2 g31
                refine zr_lload C 1 rfl (zdec_at dm_X12_isDrawn 118 rfl) ?_
                refine zr_lload C 0 rfl (zdec_at dm_X12_isDrawn 119 rfl) ?_
                obtain ⟨o53, h⟩ := h
                obtain ⟨o54, h⟩ := h
                refine zr_lcmp_le C o53 o54 (zdec_at dm_X12_isDrawn 120 rfl) (zdec_at dm_X12_isDrawn 121 rfl) rfl (fun g55 => ?_) (fun g55 => ?_)
                · have h := h.1 g55
                  refine zr_iconst C (zdec_at dm_X12_isDrawn 124 rfl) ?_
                  refine zr_goto C (zdec_at dm_X12_isDrawn 125 rfl) rfl ?_
                  refine zr_icmp_eq C z3 (by decide) (zdec_at dm_X12_isDrawn 133 rfl) rfl (fun g56 => ?_) (fun g56 => ?_)
                  · have h := h.1 g56
                    refine zr_iconst C (zdec_at dm_X12_isDrawn 136 rfl) ?_
                    refine zr_istore_n (L1 := [(3, zI 0), (14, zJ (((2 * a1) + 1) * ((M 120 (M 127 (v2 + 1))) - (M 120 (M 127 v2))))), (12, zJ (((2 * (M 119 (M 127 v2))) * ((M 120 (M 127 (v2 + 1))) - (M 120 (M 127 v2)))) + ((((2 * a2) + 1) - (2 * (M 120 (M 127 v2)))) * ((M 119 (M 127 (v2 + 1))) - (M 119 (M 127 v2)))))), (10, zJ ((M 120 (M 127 (v2 + 1))) - (M 120 (M 127 v2)))), (9, zI v22), (0, zRf (zad Γ) 103), (1, zI a1), (2, zI a2), (4, zI v2), (5, zI (M 119 (M 127 v2))), (6, zI (M 120 (M 127 v2))), (7, zI (M 119 (M 127 (v2 + 1)))), (8, zI (M 120 (M 127 (v2 + 1))))]) C (zdec_at dm_X12_isDrawn 137 rfl) rfl (Nat.le_of_ble_eq_true rfl) rfl ?_
                    refine zr_iinc (L1 := [(4, zI (v2 + 1)), (3, zI 0), (14, zJ (((2 * a1) + 1) * ((M 120 (M 127 (v2 + 1))) - (M 120 (M 127 v2))))), (12, zJ (((2 * (M 119 (M 127 v2))) * ((M 120 (M 127 (v2 + 1))) - (M 120 (M 127 v2)))) + ((((2 * a2) + 1) - (2 * (M 120 (M 127 v2)))) * ((M 119 (M 127 (v2 + 1))) - (M 119 (M 127 v2)))))), (10, zJ ((M 120 (M 127 (v2 + 1))) - (M 120 (M 127 v2)))), (9, zI v22), (0, zRf (zad Γ) 103), (1, zI a1), (2, zI a2), (5, zI (M 119 (M 127 v2))), (6, zI (M 120 (M 127 v2))), (7, zI (M 119 (M 127 (v2 + 1)))), (8, zI (M 120 (M 127 (v2 + 1))))]) C 8 rfl (zdec_at dm_X12_isDrawn 138 rfl) (Nat.le_of_ble_eq_true rfl) rfl ?_
                    refine zr_goto C (zdec_at dm_X12_isDrawn 139 rfl) rfl ?_
                    obtain ⟨o57, h⟩ := h
                    obtain ⟨n58, q59, q60⟩ := h
                    exact zr_sub [6, 7, 8, 1, 0] rfl (ih6 n58 q59 _ _ q60 (by decide) o57)
                  · have h := h.2 g56
                    refine zr_iconst C (zdec_at dm_X12_isDrawn 134 rfl) ?_
                    refine zr_goto C (zdec_at dm_X12_isDrawn 135 rfl) rfl ?_
                    refine zr_istore_n (L1 := [(3, zI 1), (14, zJ (((2 * a1) + 1) * ((M 120 (M 127 (v2 + 1))) - (M 120 (M 127 v2))))), (12, zJ (((2 * (M 119 (M 127 v2))) * ((M 120 (M 127 (v2 + 1))) - (M 120 (M 127 v2)))) + ((((2 * a2) + 1) - (2 * (M 120 (M 127 v2)))) * ((M 119 (M 127 (v2 + 1))) - (M 119 (M 127 v2)))))), (10, zJ ((M 120 (M 127 (v2 + 1))) - (M 120 (M 127 v2)))), (9, zI v22), (0, zRf (zad Γ) 103), (1, zI a1), (2, zI a2), (4, zI v2), (5, zI (M 119 (M 127 v2))), (6, zI (M 120 (M 127 v2))), (7, zI (M 119 (M 127 (v2 + 1)))), (8, zI (M 120 (M 127 (v2 + 1))))]) C (zdec_at dm_X12_isDrawn 137 rfl) rfl (Nat.le_of_ble_eq_true rfl) rfl ?_
                    refine zr_iinc (L1 := [(4, zI (v2 + 1)), (3, zI 1), (14, zJ (((2 * a1) + 1) * ((M 120 (M 127 (v2 + 1))) - (M 120 (M 127 v2))))), (12, zJ (((2 * (M 119 (M 127 v2))) * ((M 120 (M 127 (v2 + 1))) - (M 120 (M 127 v2)))) + ((((2 * a2) + 1) - (2 * (M 120 (M 127 v2)))) * ((M 119 (M 127 (v2 + 1))) - (M 119 (M 127 v2)))))), (10, zJ ((M 120 (M 127 (v2 + 1))) - (M 120 (M 127 v2)))), (9, zI v22), (0, zRf (zad Γ) 103), (1, zI a1), (2, zI a2), (5, zI (M 119 (M 127 v2))), (6, zI (M 120 (M 127 v2))), (7, zI (M 119 (M 127 (v2 + 1)))), (8, zI (M 120 (M 127 (v2 + 1))))]) C 8 rfl (zdec_at dm_X12_isDrawn 138 rfl) (Nat.le_of_ble_eq_true rfl) rfl ?_
                    refine zr_goto C (zdec_at dm_X12_isDrawn 139 rfl) rfl ?_
                    obtain ⟨o61, h⟩ := h
                    obtain ⟨n62, q63, q64⟩ := h
                    exact zr_sub [6, 7, 8, 1, 0] rfl (ih6 n62 q63 _ _ q64 (by decide) o61)
                · have h := h.2 g55
                  refine zr_iconst C (zdec_at dm_X12_isDrawn 122 rfl) ?_
                  refine zr_goto C (zdec_at dm_X12_isDrawn 123 rfl) rfl ?_
                  refine zr_icmp_eq C z3 (by decide) (zdec_at dm_X12_isDrawn 133 rfl) rfl (fun g65 => ?_) (fun g65 => ?_)
                  · have h := h.1 g65
                    refine zr_iconst C (zdec_at dm_X12_isDrawn 136 rfl) ?_
                    refine zr_istore_n (L1 := [(3, zI 0), (14, zJ (((2 * a1) + 1) * ((M 120 (M 127 (v2 + 1))) - (M 120 (M 127 v2))))), (12, zJ (((2 * (M 119 (M 127 v2))) * ((M 120 (M 127 (v2 + 1))) - (M 120 (M 127 v2)))) + ((((2 * a2) + 1) - (2 * (M 120 (M 127 v2)))) * ((M 119 (M 127 (v2 + 1))) - (M 119 (M 127 v2)))))), (10, zJ ((M 120 (M 127 (v2 + 1))) - (M 120 (M 127 v2)))), (9, zI v22), (0, zRf (zad Γ) 103), (1, zI a1), (2, zI a2), (4, zI v2), (5, zI (M 119 (M 127 v2))), (6, zI (M 120 (M 127 v2))), (7, zI (M 119 (M 127 (v2 + 1)))), (8, zI (M 120 (M 127 (v2 + 1))))]) C (zdec_at dm_X12_isDrawn 137 rfl) rfl (Nat.le_of_ble_eq_true rfl) rfl ?_
                    refine zr_iinc (L1 := [(4, zI (v2 + 1)), (3, zI 0), (14, zJ (((2 * a1) + 1) * ((M 120 (M 127 (v2 + 1))) - (M 120 (M 127 v2))))), (12, zJ (((2 * (M 119 (M 127 v2))) * ((M 120 (M 127 (v2 + 1))) - (M 120 (M 127 v2)))) + ((((2 * a2) + 1) - (2 * (M 120 (M 127 v2)))) * ((M 119 (M 127 (v2 + 1))) - (M 119 (M 127 v2)))))), (10, zJ ((M 120 (M 127 (v2 + 1))) - (M 120 (M 127 v2)))), (9, zI v22), (0, zRf (zad Γ) 103), (1, zI a1), (2, zI a2), (5, zI (M 119 (M 127 v2))), (6, zI (M 120 (M 127 v2))), (7, zI (M 119 (M 127 (v2 + 1)))), (8, zI (M 120 (M 127 (v2 + 1))))]) C 8 rfl (zdec_at dm_X12_isDrawn 138 rfl) (Nat.le_of_ble_eq_true rfl) rfl ?_
                    refine zr_goto C (zdec_at dm_X12_isDrawn 139 rfl) rfl ?_
                    obtain ⟨o66, h⟩ := h
                    obtain ⟨n67, q68, q69⟩ := h
                    exact zr_sub [6, 7, 8, 1, 0] rfl (ih6 n67 q68 _ _ q69 (by decide) o66)
                  · have h := h.2 g65
                    refine zr_iconst C (zdec_at dm_X12_isDrawn 134 rfl) ?_
                    refine zr_goto C (zdec_at dm_X12_isDrawn 135 rfl) rfl ?_
                    refine zr_istore_n (L1 := [(3, zI 1), (14, zJ (((2 * a1) + 1) * ((M 120 (M 127 (v2 + 1))) - (M 120 (M 127 v2))))), (12, zJ (((2 * (M 119 (M 127 v2))) * ((M 120 (M 127 (v2 + 1))) - (M 120 (M 127 v2)))) + ((((2 * a2) + 1) - (2 * (M 120 (M 127 v2)))) * ((M 119 (M 127 (v2 + 1))) - (M 119 (M 127 v2)))))), (10, zJ ((M 120 (M 127 (v2 + 1))) - (M 120 (M 127 v2)))), (9, zI v22), (0, zRf (zad Γ) 103), (1, zI a1), (2, zI a2), (4, zI v2), (5, zI (M 119 (M 127 v2))), (6, zI (M 120 (M 127 v2))), (7, zI (M 119 (M 127 (v2 + 1)))), (8, zI (M 120 (M 127 (v2 + 1))))]) C (zdec_at dm_X12_isDrawn 137 rfl) rfl (Nat.le_of_ble_eq_true rfl) rfl ?_
                    refine zr_iinc (L1 := [(4, zI (v2 + 1)), (3, zI 1), (14, zJ (((2 * a1) + 1) * ((M 120 (M 127 (v2 + 1))) - (M 120 (M 127 v2))))), (12, zJ (((2 * (M 119 (M 127 v2))) * ((M 120 (M 127 (v2 + 1))) - (M 120 (M 127 v2)))) + ((((2 * a2) + 1) - (2 * (M 120 (M 127 v2)))) * ((M 119 (M 127 (v2 + 1))) - (M 119 (M 127 v2)))))), (10, zJ ((M 120 (M 127 (v2 + 1))) - (M 120 (M 127 v2)))), (9, zI v22), (0, zRf (zad Γ) 103), (1, zI a1), (2, zI a2), (5, zI (M 119 (M 127 v2))), (6, zI (M 120 (M 127 v2))), (7, zI (M 119 (M 127 (v2 + 1)))), (8, zI (M 120 (M 127 (v2 + 1))))]) C 8 rfl (zdec_at dm_X12_isDrawn 138 rfl) (Nat.le_of_ble_eq_true rfl) rfl ?_
                    refine zr_goto C (zdec_at dm_X12_isDrawn 139 rfl) rfl ?_
                    obtain ⟨o70, h⟩ := h
                    obtain ⟨n71, q72, q73⟩ := h
                    exact zr_sub [6, 7, 8, 1, 0] rfl (ih6 n71 q72 _ _ q73 (by decide) o70))
          refine zr_icmp_eq C z19 z21 (zdec_at dm_X12_isDrawn 68 rfl) rfl (fun g74 => ?_) (fun g74 => ?_)
          · have h := h.1 g74
            refine zr_iconst C (zdec_at dm_X12_isDrawn 71 rfl) ?_
            exact zr_sub [0, 1, 2, 3, 4, 5, 6, 7, 8] rfl (h (by decide))
          · have h := h.2 g74
            refine zr_iconst C (zdec_at dm_X12_isDrawn 69 rfl) ?_
            refine zr_goto C (zdec_at dm_X12_isDrawn 70 rfl) rfl ?_
            exact zr_sub [0, 1, 2, 3, 4, 5, 6, 7, 8] rfl (h (by decide)))
        obtain ⟨o75, h⟩ := h
        obtain ⟨o76, h⟩ := h
        refine zr_icmp_le C o75 o76 (zdec_at dm_X12_isDrawn 64 rfl) rfl (fun g77 => ?_) (fun g77 => ?_)
        · have h := h.1 g77
          refine zr_iconst C (zdec_at dm_X12_isDrawn 67 rfl) ?_
          exact zr_sub [0, 1, 2, 3, 4, 5, 6, 7, 8] rfl (h (by decide))
        · have h := h.2 g77
          refine zr_iconst C (zdec_at dm_X12_isDrawn 65 rfl) ?_
          refine zr_goto C (zdec_at dm_X12_isDrawn 66 rfl) rfl ?_
          exact zr_sub [0, 1, 2, 3, 4, 5, 6, 7, 8] rfl (h (by decide)))
      obtain ⟨o78, h⟩ := h
      obtain ⟨o79, h⟩ := h
      refine zr_icmp_le C o78 o79 (zdec_at dm_X12_isDrawn 52 rfl) rfl (fun g80 => ?_) (fun g80 => ?_)
      · have h := h.1 g80
        refine zr_iconst C (zdec_at dm_X12_isDrawn 55 rfl) ?_
        exact zr_sub [4, 5, 6, 7, 8, 3, 2, 1, 0] rfl (h (by decide))
      · have h := h.2 g80
        refine zr_iconst C (zdec_at dm_X12_isDrawn 53 rfl) ?_
        refine zr_goto C (zdec_at dm_X12_isDrawn 54 rfl) rfl ?_
        exact zr_sub [4, 5, 6, 7, 8, 3, 2, 1, 0] rfl (h (by decide))
  exact zr_sub [2, 3, 4, 1, 0] rfl (lp7 n9 _ _ q10 (by decide) (by decide))

set_option maxHeartbeats 400000 in
set_option maxRecDepth 100000 in
theorem sn_X12_drawn {pr_X12_isBorder : Int → Int → zM → Prop} {po_X12_isBorder : Int → Int → zM → Int → zM → Prop} {pr_X12_isDot : Int → zM → Prop} {po_X12_isDot : Int → zM → Int → zM → Prop} {pr_X12_findPieces : Int → zM → Prop} {po_X12_findPieces : Int → zM → zM → Prop} {pr_X12_isDrawn : Int → Int → zM → Prop} {po_X12_isDrawn : Int → Int → zM → Int → zM → Prop} (hS_X12_isBorder : zSnd zS 145 0 0 yX12_isBorder cX12_isBorder 3 (some .boolean) 4 [2, 0, 0] (F_X12_isBorder pr_X12_isBorder po_X12_isBorder)) (hS_X12_isDot : zSnd zS 145 0 0 yX12_isDot cX12_isDot 2 (some .boolean) 0 [2, 0] (F_X12_isDot pr_X12_isDot po_X12_isDot)) (hS_X12_findPieces : zSnd zS 145 0 0 yX12_findPieces cX12_findPieces 8 none 2 [2, 0] (F_X12_findPieces pr_X12_findPieces po_X12_findPieces)) (hS_X12_isDrawn : zSnd zS 145 0 0 yX12_isDrawn cX12_isDrawn 16 (some .boolean) 0 [2, 0, 0] (F_X12_isDrawn pr_X12_isDrawn po_X12_isDrawn)) : zSnd zS 145 0 0 yX12_drawn cX12_drawn 4 (some .int) 5 [2, 0, 0, 0] (fun xs P M => ∃ a1 a2 a3 : Int, xs = [103, a1, a2, a3] ∧ vc_X12_drawn pr_X12_isBorder po_X12_isBorder pr_X12_isDot po_X12_isDot pr_X12_findPieces po_X12_findPieces pr_X12_isDrawn po_X12_isDrawn a1 a2 a3 P M) := by
  refine zSnd.of rfl (fun ad xs hz => Nat.le_trans (Nat.le_of_eq (zlen ad _ xs hz)) (by decide)) ?_
  intro Γ C _ _ xs M hz hF
  obtain ⟨a1, a2, a3, rfl, h⟩ := hF
  have zz_a1 := zall_h (zall_t hz) (by decide)
  have zz_a2 := zall_h (zall_t (zall_t hz)) (by decide)
  have zz_a3 := zall_h (zall_t (zall_t (zall_t hz))) (by decide)
  refine zr_rng (fun hR => ?_)
  have C : zC Γ mu_X12_drawn := C
  change zV Γ mu_X12_drawn (145, 0, 0) 0 [(0, zRf (zad Γ) 103), (1, zI a1), (2, zI a2), (3, zI a3)] [] M
  change vc_X12_drawn pr_X12_isBorder po_X12_isBorder pr_X12_isDot po_X12_isDot pr_X12_findPieces po_X12_findPieces pr_X12_isDrawn po_X12_isDrawn a1 a2 a3 _ M at h
  unfold vc_X12_drawn at h
  refine zr_aload_n C 0 rfl (zdec_at dm_X12_drawn 0 rfl) rfl ?_
  refine zr_iconst C (zdec_at dm_X12_drawn 1 rfl) ?_
  refine zr_puti C fk_RX12_140 fi_103_0 (by decide) (zdec_at dm_X12_drawn 2 rfl) (fun M1 e2 => ?_)
  have h := h M1 e2
  have hR3 : zRng M1 := by rw [e2]; exact hR.set (by decide) _ _
  refine zr_aload_n C 0 rfl (zdec_at dm_X12_drawn 3 rfl) rfl ?_
  refine zr_iload_n C 1 rfl (zdec_at dm_X12_drawn 4 rfl) rfl ?_
  refine zr_iload_n C 2 rfl (zdec_at dm_X12_drawn 5 rfl) rfl ?_
  obtain ⟨g9, h⟩ := h
  refine zr_callV C [a1, a2] hS_X12_isBorder ck_RX12_350 iv_X12_isBorder vc_X12 oc_103 rfl rfl (zdec_at dm_X12_drawn 6 rfl) ⟨rfl, rfl, rfl, rfl⟩ ⟨by decide, by decide⟩ (Nat.le_of_ble_eq_true rfl) (zall_0 zz_a1 (zall_0 zz_a2 zall_n)) ?_
  refine ⟨_, _, rfl, g9, fun r4 M5 p8 z7 hR6 => ?_⟩
  have h := h r4 M5 p8 z7 hR6
  show zV Γ mu_X12_drawn (145, 0, 0) 11 [(0, zRf (zad Γ) 103), (1, zI a1), (2, zI a2), (3, zI a3)] [zI r4] M5
  refine zr_if_eq C z7 (zdec_at dm_X12_drawn 7 rfl) rfl (fun g10 => ?_) (fun g10 => ?_)
  · have h := h.1 g10
    refine zr_iconst C (zdec_at dm_X12_drawn 12 rfl) ?_
    exact zr_ireturn C rfl (zdec_at dm_X12_drawn 13 rfl) rfl ⟨(by decide), h⟩
  · have h := h.2 g10
    refine zr_aload_n C 0 rfl (zdec_at dm_X12_drawn 8 rfl) rfl ?_
    refine zr_iload_n C 3 rfl (zdec_at dm_X12_drawn 9 rfl) rfl ?_
    obtain ⟨g16, h⟩ := h
    refine zr_callV C [a3] hS_X12_isDot ck_RX12_202 iv_X12_isDot vc_X12 oc_103 rfl rfl (zdec_at dm_X12_drawn 10 rfl) ⟨rfl, rfl, rfl, rfl⟩ ⟨by decide, by decide⟩ (Nat.le_of_ble_eq_true rfl) (zall_0 zz_a3 zall_n) ?_
    refine ⟨_, rfl, g16, fun r11 M12 p15 z14 hR13 => ?_⟩
    have h := h r11 M12 p15 z14 hR13
    show zV Γ mu_X12_drawn (145, 0, 0) 19 [(0, zRf (zad Γ) 103), (1, zI a1), (2, zI a2), (3, zI a3)] [zI r11] M12
    refine zr_if_ne C z14 (zdec_at dm_X12_drawn 11 rfl) rfl (fun g17 => ?_) (fun g17 => ?_)
    · have h := h.1 g17
      refine zr_aload_n C 0 rfl (zdec_at dm_X12_drawn 14 rfl) rfl ?_
      refine zr_iload_n C 2 rfl (zdec_at dm_X12_drawn 15 rfl) rfl ?_
      obtain ⟨g22, h⟩ := h
      refine zr_callV C [a2] hS_X12_findPieces ck_RX12_359 iv_X12_findPieces vc_X12 oc_103 rfl rfl (zdec_at dm_X12_drawn 16 rfl) ⟨rfl, rfl, rfl, rfl⟩ ⟨by decide, by decide⟩ (Nat.le_of_ble_eq_true rfl) (zall_0 zz_a2 zall_n) ?_
      refine ⟨_, rfl, g22, fun M18 p21 _ hR19 => ?_⟩
      have h := h M18 p21 hR19
      show zV Γ mu_X12_drawn (145, 0, 0) 29 [(0, zRf (zad Γ) 103), (1, zI a1), (2, zI a2), (3, zI a3)] [] M18
      refine zr_aload_n C 0 rfl (zdec_at dm_X12_drawn 17 rfl) rfl ?_
      refine zr_iload_n C 3 rfl (zdec_at dm_X12_drawn 18 rfl) rfl ?_
      refine zr_bipush C (zdec_at dm_X12_drawn 19 rfl) (by decide) ?_
      obtain ⟨o23, h⟩ := h
      refine zr_irem C zz_a3 (by decide) ⟨o23, by decide⟩ (zdec_at dm_X12_drawn 20 rfl) ?_
      refine zr_iload_n C 3 rfl (zdec_at dm_X12_drawn 21 rfl) rfl ?_
      refine zr_bipush C (zdec_at dm_X12_drawn 22 rfl) (by decide) ?_
      refine zr_idiv C zz_a3 (by decide) ⟨o23, by decide⟩ (zdec_at dm_X12_drawn 23 rfl) ?_
      obtain ⟨g29, h⟩ := h
      refine zr_callV C [(a3 % 16), (a3 / 16)] hS_X12_isDrawn ck_RX12_364 iv_X12_isDrawn vc_X12 oc_103 rfl rfl (zdec_at dm_X12_drawn 24 rfl) ⟨rfl, rfl, rfl, rfl⟩ ⟨by decide, by decide⟩ (Nat.le_of_ble_eq_true rfl) (zall_0 (z_rz (a := a3) (b := 16) ⟨o23, by decide⟩ (by decide)) (zall_0 (z_dz2 (a := a3) (b := 16) ⟨o23, by decide⟩ zz_a3) zall_n)) ?_
      refine ⟨_, _, rfl, g29, fun r24 M25 p28 z27 hR26 => ?_⟩
      have h := h r24 M25 p28 z27 hR26
      show zV Γ mu_X12_drawn (145, 0, 0) 41 [(0, zRf (zad Γ) 103), (1, zI a1), (2, zI a2), (3, zI a3)] [zI r24] M25
      refine zr_if_eq C z27 (zdec_at dm_X12_drawn 25 rfl) rfl (fun g30 => ?_) (fun g30 => ?_)
      · have h := h.1 g30
        refine zr_iconst C (zdec_at dm_X12_drawn 28 rfl) ?_
        exact zr_ireturn C rfl (zdec_at dm_X12_drawn 29 rfl) rfl ⟨(by decide), h⟩
      · have h := h.2 g30
        refine zr_iconst C (zdec_at dm_X12_drawn 26 rfl) ?_
        refine zr_goto C (zdec_at dm_X12_drawn 27 rfl) rfl ?_
        exact zr_ireturn C rfl (zdec_at dm_X12_drawn 29 rfl) rfl ⟨(by decide), h⟩
    · have h := h.2 g17
      refine zr_iconst C (zdec_at dm_X12_drawn 12 rfl) ?_
      exact zr_ireturn C rfl (zdec_at dm_X12_drawn 13 rfl) rfl ⟨(by decide), h⟩

set_option maxHeartbeats 400000 in
set_option maxRecDepth 100000 in
theorem sn_X12_differ {pr_X12_isBorder : Int → Int → zM → Prop} {po_X12_isBorder : Int → Int → zM → Int → zM → Prop} {pr_X12_findPieces : Int → zM → Prop} {po_X12_findPieces : Int → zM → zM → Prop} {pr_X12_findHoles : Int → zM → Prop} {po_X12_findHoles : Int → zM → zM → Prop} {pr_X12_isDot : Int → zM → Prop} {po_X12_isDot : Int → zM → Int → zM → Prop} {pr_X12_isDrawn : Int → Int → zM → Prop} {po_X12_isDrawn : Int → Int → zM → Int → zM → Prop} {pr_X12_partOf : Int → zM → Prop} {po_X12_partOf : Int → zM → Int → zM → Prop} (hS_X12_isBorder : zSnd zS 145 0 0 yX12_isBorder cX12_isBorder 3 (some .boolean) 4 [2, 0, 0] (F_X12_isBorder pr_X12_isBorder po_X12_isBorder)) (hS_X12_findPieces : zSnd zS 145 0 0 yX12_findPieces cX12_findPieces 8 none 2 [2, 0] (F_X12_findPieces pr_X12_findPieces po_X12_findPieces)) (hS_X12_findHoles : zSnd zS 145 0 0 yX12_findHoles cX12_findHoles 11 none 2 [2, 0] (F_X12_findHoles pr_X12_findHoles po_X12_findHoles)) (hS_X12_isDot : zSnd zS 145 0 0 yX12_isDot cX12_isDot 2 (some .boolean) 0 [2, 0] (F_X12_isDot pr_X12_isDot po_X12_isDot)) (hS_X12_isDrawn : zSnd zS 145 0 0 yX12_isDrawn cX12_isDrawn 16 (some .boolean) 0 [2, 0, 0] (F_X12_isDrawn pr_X12_isDrawn po_X12_isDrawn)) (hS_X12_partOf : zSnd zS 145 0 0 yX12_partOf cX12_partOf 2 (some .int) 0 [2, 0] (F_X12_partOf pr_X12_partOf po_X12_partOf)) : zSnd zS 145 0 0 yX12_differ cX12_differ 6 (some .int) 5 [2, 0, 0] (fun xs P M => ∃ a1 a2 : Int, xs = [103, a1, a2] ∧ vc_X12_differ pr_X12_isBorder po_X12_isBorder pr_X12_findPieces po_X12_findPieces pr_X12_findHoles po_X12_findHoles pr_X12_isDot po_X12_isDot pr_X12_isDrawn po_X12_isDrawn pr_X12_partOf po_X12_partOf a1 a2 P M) := by
  refine zSnd.of rfl (fun ad xs hz => Nat.le_trans (Nat.le_of_eq (zlen ad _ xs hz)) (by decide)) ?_
  intro Γ C _ _ xs M hz hF
  obtain ⟨a1, a2, rfl, h⟩ := hF
  have zz_a1 := zall_h (zall_t hz) (by decide)
  have zz_a2 := zall_h (zall_t (zall_t hz)) (by decide)
  refine zr_rng (fun hR => ?_)
  have C : zC Γ mu_X12_differ := C
  change zV Γ mu_X12_differ (145, 0, 0) 0 [(0, zRf (zad Γ) 103), (1, zI a1), (2, zI a2)] [] M
  change vc_X12_differ pr_X12_isBorder po_X12_isBorder pr_X12_findPieces po_X12_findPieces pr_X12_findHoles po_X12_findHoles pr_X12_isDot po_X12_isDot pr_X12_isDrawn po_X12_isDrawn pr_X12_partOf po_X12_partOf a1 a2 _ M at h
  unfold vc_X12_differ at h
  refine zr_aload_n C 0 rfl (zdec_at dm_X12_differ 0 rfl) rfl ?_
  refine zr_iconst C (zdec_at dm_X12_differ 1 rfl) ?_
  refine zr_puti C fk_RX12_140 fi_103_0 (by decide) (zdec_at dm_X12_differ 2 rfl) (fun M1 e2 => ?_)
  have h := h M1 e2
  have hR3 : zRng M1 := by rw [e2]; exact hR.set (by decide) _ _
  refine zr_aload_n C 0 rfl (zdec_at dm_X12_differ 3 rfl) rfl ?_
  refine zr_iload_n C 1 rfl (zdec_at dm_X12_differ 4 rfl) rfl ?_
  refine zr_iload_n C 2 rfl (zdec_at dm_X12_differ 5 rfl) rfl ?_
  obtain ⟨g9, h⟩ := h
  refine zr_callV C [a1, a2] hS_X12_isBorder ck_RX12_350 iv_X12_isBorder vc_X12 oc_103 rfl rfl (zdec_at dm_X12_differ 6 rfl) ⟨rfl, rfl, rfl, rfl⟩ ⟨by decide, by decide⟩ (Nat.le_of_ble_eq_true rfl) (zall_0 zz_a1 (zall_0 zz_a2 zall_n)) ?_
  refine ⟨_, _, rfl, g9, fun r4 M5 p8 z7 hR6 => ?_⟩
  have h := h r4 M5 p8 z7 hR6
  show zV Γ mu_X12_differ (145, 0, 0) 11 [(0, zRf (zad Γ) 103), (1, zI a1), (2, zI a2)] [zI r4] M5
  refine zr_if_ne C z7 (zdec_at dm_X12_differ 7 rfl) rfl (fun g10 => ?_) (fun g10 => ?_)
  · have h := h.1 g10
    refine zr_aload_n C 0 rfl (zdec_at dm_X12_differ 10 rfl) rfl ?_
    refine zr_iload_n C 2 rfl (zdec_at dm_X12_differ 11 rfl) rfl ?_
    obtain ⟨g15, h⟩ := h
    refine zr_callV C [a2] hS_X12_findPieces ck_RX12_359 iv_X12_findPieces vc_X12 oc_103 rfl rfl (zdec_at dm_X12_differ 12 rfl) ⟨rfl, rfl, rfl, rfl⟩ ⟨by decide, by decide⟩ (Nat.le_of_ble_eq_true rfl) (zall_0 zz_a2 zall_n) ?_
    refine ⟨_, rfl, g15, fun M11 p14 _ hR12 => ?_⟩
    have h := h M11 p14 hR12
    show zV Γ mu_X12_differ (145, 0, 0) 21 [(0, zRf (zad Γ) 103), (1, zI a1), (2, zI a2)] [] M11
    refine zr_aload_n C 0 rfl (zdec_at dm_X12_differ 13 rfl) rfl ?_
    refine zr_iload_n C 1 rfl (zdec_at dm_X12_differ 14 rfl) rfl ?_
    obtain ⟨g20, h⟩ := h
    refine zr_callV C [a1] hS_X12_findHoles ck_RX12_269 iv_X12_findHoles vc_X12 oc_103 rfl rfl (zdec_at dm_X12_differ 15 rfl) ⟨rfl, rfl, rfl, rfl⟩ ⟨by decide, by decide⟩ (Nat.le_of_ble_eq_true rfl) (zall_0 zz_a1 zall_n) ?_
    refine ⟨_, rfl, g20, fun M16 p19 _ hR17 => ?_⟩
    have h := h M16 p19 hR17
    show zV Γ mu_X12_differ (145, 0, 0) 26 [(0, zRf (zad Γ) 103), (1, zI a1), (2, zI a2)] [] M16
    refine zr_iconst C (zdec_at dm_X12_differ 16 rfl) ?_
    refine zr_istore_n (L1 := [(3, zI 0), (0, zRf (zad Γ) 103), (1, zI a1), (2, zI a2)]) C (zdec_at dm_X12_differ 17 rfl) rfl (Nat.le_of_ble_eq_true rfl) rfl ?_
    refine zr_iconst C (zdec_at dm_X12_differ 18 rfl) ?_
    refine zr_istore (L1 := [(4, zI 0), (3, zI 0), (0, zRf (zad Γ) 103), (1, zI a1), (2, zI a2)]) C (zdec_at dm_X12_differ 19 rfl) (Nat.le_of_ble_eq_true rfl) rfl ?_
    obtain ⟨I31, ⟨n31, q32⟩, hI30⟩ := h
    have lp29 : ∀ (n27 : Nat) (v21 : Int) (v22 : Int) (M25 : zM), I31 v21 v22 M25 n27 → zin v21 → zin v22 → zRng M25 → zV Γ mu_X12_differ (145, 0, 0) 31 [(0, zRf (zad Γ) 103), (1, zI a1), (3, zI v21), (4, zI v22)] [] M25 := by
      intro n27
      induction n27 using Nat.strongRecOn with
      | _ n27 ih28 =>
      intro v21 v22 M25 q33 z23 z24 hR26
      have h := hI30 v21 v22 M25 n27 q33 z23 z24 hR26
      refine zr_iload C 3 rfl (zdec_at dm_X12_differ 20 rfl) ?_
      refine zr_sipush C (zdec_at dm_X12_differ 21 rfl) (by decide) ?_
      refine zr_icmp_ge C z24 (by decide) (zdec_at dm_X12_differ 22 rfl) rfl (fun g34 => ?_) (fun g34 => ?_)
      · have h := h.1 g34
        refine zr_iload_n C 2 rfl (zdec_at dm_X12_differ 59 rfl) rfl ?_
        exact zr_ireturn C rfl (zdec_at dm_X12_differ 60 rfl) rfl ⟨z23, h⟩
      · have h := h.2 g34
        refine zr_aload_n C 0 rfl (zdec_at dm_X12_differ 23 rfl) rfl ?_
        refine zr_iload C 3 rfl (zdec_at dm_X12_differ 24 rfl) ?_
        obtain ⟨g40, h⟩ := h
        refine zr_callV C [v22] hS_X12_isDot ck_RX12_202 iv_X12_isDot vc_X12 oc_103 rfl rfl (zdec_at dm_X12_differ 25 rfl) ⟨rfl, rfl, rfl, rfl⟩ ⟨by decide, by decide⟩ (Nat.le_of_ble_eq_true rfl) (zall_0 z24 zall_n) ?_
        refine ⟨_, rfl, g40, fun r35 M36 p39 z38 hR37 => ?_⟩
        have h := h r35 M36 p39 z38 hR37
        show zV Γ mu_X12_differ (145, 0, 0) 45 [(0, zRf (zad Γ) 103), (1, zI a1), (3, zI v21), (4, zI v22)] [zI r35] M36
        refine zr_if_eq C z38 (zdec_at dm_X12_differ 26 rfl) rfl (fun g41 => ?_) (fun g41 => ?_)
        · have h := h.1 g41
          refine zr_iinc (L1 := [(4, zI (v22 + 1)), (0, zRf (zad Γ) 103), (1, zI a1), (3, zI v21)]) C 3 rfl (zdec_at dm_X12_differ 57 rfl) (Nat.le_of_ble_eq_true rfl) rfl ?_
          refine zr_goto C (zdec_at dm_X12_differ 58 rfl) rfl ?_
          obtain ⟨o42, h⟩ := h
          obtain ⟨n43, q44, q45⟩ := h
          exact zr_sub [1, 2, 3, 0] rfl (ih28 n43 q44 _ _ _ q45 z23 o42 hR37)
        · have h := h.2 g41
          refine zr_aload_n C 0 rfl (zdec_at dm_X12_differ 27 rfl) rfl ?_
          refine zr_getr (q := 115) C fk_RX12_51 fi_103_29 (zdec_at dm_X12_differ 28 rfl) ?_
          refine zr_iload C 3 rfl (zdec_at dm_X12_differ 29 rfl) ?_
          obtain ⟨o46, h⟩ := h
          refine zr_iald C ai_115 o46 (zdec_at dm_X12_differ 30 rfl) ?_
          refine zr_iload_n C 1 rfl (zdec_at dm_X12_differ 31 rfl) rfl ?_
          have h := h (fun v47 M49 => zin v47 → zRng M49 → zV Γ mu_X12_differ (145, 0, 0) 73 [(0, zRf (zad Γ) 103), (1, zI a1), (3, zI v21), (4, zI v22)] [zI v47] M49) (fun v47 M49 h z48 hR50 => by
            have h := h z48 hR50
            refine zr_istore (L1 := [(5, zI v47), (0, zRf (zad Γ) 103), (1, zI a1), (3, zI v21), (4, zI v22)]) C (zdec_at dm_X12_differ 40 rfl) (Nat.le_of_ble_eq_true rfl) rfl ?_
            refine zr_iload_n C 3 rfl (zdec_at dm_X12_differ 41 rfl) rfl ?_
            refine zr_iload C 0 rfl (zdec_at dm_X12_differ 42 rfl) ?_
            refine zr_aload_n C 1 rfl (zdec_at dm_X12_differ 43 rfl) rfl ?_
            refine zr_iload C 4 rfl (zdec_at dm_X12_differ 44 rfl) ?_
            refine zr_bipush C (zdec_at dm_X12_differ 45 rfl) (by decide) ?_
            obtain ⟨o51, h⟩ := h
            refine zr_irem C z24 (by decide) ⟨o51, by decide⟩ (zdec_at dm_X12_differ 46 rfl) ?_
            refine zr_iload C 4 rfl (zdec_at dm_X12_differ 47 rfl) ?_
            refine zr_bipush C (zdec_at dm_X12_differ 48 rfl) (by decide) ?_
            refine zr_idiv C z24 (by decide) ⟨o51, by decide⟩ (zdec_at dm_X12_differ 49 rfl) ?_
            obtain ⟨g57, h⟩ := h
            refine zr_callV C [(v22 % 16), (v22 / 16)] hS_X12_isDrawn ck_RX12_364 iv_X12_isDrawn vc_X12 oc_103 rfl rfl (zdec_at dm_X12_differ 50 rfl) ⟨rfl, rfl, rfl, rfl⟩ ⟨by decide, by decide⟩ (Nat.le_of_ble_eq_true rfl) (zall_0 (z_rz (a := v22) (b := 16) ⟨o51, by decide⟩ (by decide)) (zall_0 (z_dz2 (a := v22) (b := 16) ⟨o51, by decide⟩ z24) zall_n)) ?_
            refine ⟨_, _, rfl, g57, fun r52 M53 p56 z55 hR54 => ?_⟩
            have h := h r52 M53 p56 z55 hR54
            show zV Γ mu_X12_differ (145, 0, 0) 92 [(5, zI v47), (0, zRf (zad Γ) 103), (1, zI a1), (3, zI v21), (4, zI v22)] [zI r52, zI v47, zI v21] M53
            refine zr_icmp_eq C z48 z55 (zdec_at dm_X12_differ 51 rfl) rfl (fun g58 => ?_) (fun g58 => ?_)
            · have h := h.1 g58
              refine zr_iconst C (zdec_at dm_X12_differ 54 rfl) ?_
              refine zr_iadd C (zdec_at dm_X12_differ 55 rfl) ?_
              refine zr_istore_n (L1 := [(3, zI (v21 + 0)), (5, zI v47), (0, zRf (zad Γ) 103), (1, zI a1), (4, zI v22)]) C (zdec_at dm_X12_differ 56 rfl) rfl (Nat.le_of_ble_eq_true rfl) rfl ?_
              refine zr_iinc (L1 := [(4, zI (v22 + 1)), (3, zI (v21 + 0)), (5, zI v47), (0, zRf (zad Γ) 103), (1, zI a1)]) C 4 rfl (zdec_at dm_X12_differ 57 rfl) (Nat.le_of_ble_eq_true rfl) rfl ?_
              refine zr_goto C (zdec_at dm_X12_differ 58 rfl) rfl ?_
              obtain ⟨o59, h⟩ := h
              obtain ⟨o60, h⟩ := h
              obtain ⟨n61, q62, q63⟩ := h
              exact zr_sub [3, 4, 1, 0] rfl (ih28 n61 q62 _ _ _ q63 o59 o60 hR54)
            · have h := h.2 g58
              refine zr_iconst C (zdec_at dm_X12_differ 52 rfl) ?_
              refine zr_goto C (zdec_at dm_X12_differ 53 rfl) rfl ?_
              refine zr_iadd C (zdec_at dm_X12_differ 55 rfl) ?_
              refine zr_istore_n (L1 := [(3, zI (v21 + 1)), (5, zI v47), (0, zRf (zad Γ) 103), (1, zI a1), (4, zI v22)]) C (zdec_at dm_X12_differ 56 rfl) rfl (Nat.le_of_ble_eq_true rfl) rfl ?_
              refine zr_iinc (L1 := [(4, zI (v22 + 1)), (3, zI (v21 + 1)), (5, zI v47), (0, zRf (zad Γ) 103), (1, zI a1)]) C 4 rfl (zdec_at dm_X12_differ 57 rfl) (Nat.le_of_ble_eq_true rfl) rfl ?_
              refine zr_goto C (zdec_at dm_X12_differ 58 rfl) rfl ?_
              obtain ⟨o64, h⟩ := h
              obtain ⟨o65, h⟩ := h
              obtain ⟨n66, q67, q68⟩ := h
              exact zr_sub [3, 4, 1, 0] rfl (ih28 n66 q67 _ _ _ q68 o64 o65 hR54))
          have h := h (fun M69 => zRng M69 → zV Γ mu_X12_differ (145, 0, 0) 68 [(0, zRf (zad Γ) 103), (1, zI a1), (3, zI v21), (4, zI v22)] [] M69) (fun M69 h hR70 => by
            have h := h hR70
            refine zr_iconst C (zdec_at dm_X12_differ 37 rfl) ?_
            refine zr_goto C (zdec_at dm_X12_differ 38 rfl) rfl ?_
            exact zr_sub [0, 1, 2, 3] rfl (h (by decide) hR70))
          refine zr_icmp_eq C (hR37 _ _) zz_a1 (zdec_at dm_X12_differ 32 rfl) rfl (fun g71 => ?_) (fun g71 => ?_)
          · have h := h.1 g71
            exact zr_sub [0, 1, 2, 3] rfl (h hR37)
          · have h := h.2 g71
            refine zr_aload_n C 0 rfl (zdec_at dm_X12_differ 33 rfl) rfl ?_
            refine zr_iload C 3 rfl (zdec_at dm_X12_differ 34 rfl) ?_
            obtain ⟨g77, h⟩ := h
            refine zr_callV C [v22] hS_X12_partOf ck_RX12_266 iv_X12_partOf vc_X12 oc_103 rfl rfl (zdec_at dm_X12_differ 35 rfl) ⟨rfl, rfl, rfl, rfl⟩ ⟨by decide, by decide⟩ (Nat.le_of_ble_eq_true rfl) (zall_0 z24 zall_n) ?_
            refine ⟨_, rfl, g77, fun r72 M73 p76 z75 hR74 => ?_⟩
            have h := h r72 M73 p76 z75 hR74
            show zV Γ mu_X12_differ (145, 0, 0) 65 [(0, zRf (zad Γ) 103), (1, zI a1), (3, zI v21), (4, zI v22)] [zI r72] M73
            refine zr_if_le C z75 (zdec_at dm_X12_differ 36 rfl) rfl (fun g78 => ?_) (fun g78 => ?_)
            · have h := h.1 g78
              refine zr_iconst C (zdec_at dm_X12_differ 39 rfl) ?_
              exact zr_sub [0, 1, 2, 3] rfl (h (by decide) hR74)
            · have h := h.2 g78
              exact zr_sub [0, 1, 2, 3] rfl (h hR74)
    exact zr_sub [2, 3, 1, 0] rfl (lp29 n31 _ _ _ q32 (by decide) (by decide) hR17)
  · have h := h.2 g10
    refine zr_iconst C (zdec_at dm_X12_differ 8 rfl) ?_
    exact zr_ireturn C rfl (zdec_at dm_X12_differ 9 rfl) rfl ⟨(by decide), h⟩

