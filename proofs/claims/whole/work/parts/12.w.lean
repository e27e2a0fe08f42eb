set_option maxHeartbeats 400000 in
set_option maxRecDepth 100000 in
theorem sn_X7_readComparison {pr_X7_readSum : zM → Prop} {po_X7_readSum : zM → Int → zM → Prop} {pr_X7_byteAhead : zM → Prop} {po_X7_byteAhead : zM → Int → zM → Prop} {pr_X7_stop : zM → Prop} {po_X7_stop : zM → zM → Prop} (hS_X7_readSum : zSnd zS 145 0 0 yX7_readSum cX7_readSum 5 (some .int) 3 [2] (F_X7_readSum pr_X7_readSum po_X7_readSum)) (hS_X7_byteAhead : zSnd zS 145 0 0 yX7_byteAhead cX7_byteAhead 1 (some .int) 0 [2] (F_X7_byteAhead pr_X7_byteAhead po_X7_byteAhead)) (hS_X7_stop : zSnd zS 145 0 0 yX7_stop cX7_stop 1 none 0 [2] (F_X7_stop pr_X7_stop po_X7_stop)) : zSnd zS 145 0 0 yX7_readComparison cX7_readComparison 4 (some .boolean) 4 [2] (fun xs P M => xs = [74] ∧ vc_X7_readComparison pr_X7_readSum po_X7_readSum pr_X7_byteAhead po_X7_byteAhead pr_X7_stop po_X7_stop P M) := by
  refine zSnd.of rfl (fun ad xs hz => Nat.le_trans (Nat.le_of_eq (zlen ad _ xs hz)) (by decide)) ?_
  intro Γ C _ _ xs M hz hF
  obtain ⟨rfl, h⟩ := hF
  refine zr_rng (fun hR => ?_)
  have C : zC Γ mu_X7_readComparison := C
  change zV Γ mu_X7_readComparison (145, 0, 0) 0 [(0, zRf (zad Γ) 74)] [] M
  change vc_X7_readComparison pr_X7_readSum po_X7_readSum pr_X7_byteAhead po_X7_byteAhead pr_X7_stop po_X7_stop _ M at h
  unfold vc_X7_readComparison at h
  refine zr_aload_n C 0 rfl (zdec_at dm_X7_readComparison 0 rfl) rfl ?_
  obtain ⟨g6, h⟩ := h
  refine zr_callV C [] hS_X7_readSum ck_RX7_62 iv_X7_readSum vc_X7 oc_74 rfl rfl (zdec_at dm_X7_readComparison 1 rfl) ⟨rfl, rfl, rfl, rfl⟩ ⟨by decide, by decide⟩ (Nat.le_of_ble_eq_true rfl) zall_n ?_
  refine ⟨rfl, g6, fun r1 M2 p5 z4 hR3 => ?_⟩
  have h := h r1 M2 p5 z4 hR3
  show zV Γ mu_X7_readComparison (145, 0, 0) 4 [(0, zRf (zad Γ) 74)] [zI r1] M2
  refine zr_istore_n (L1 := [(1, zI r1), (0, zRf (zad Γ) 74)]) C (zdec_at dm_X7_readComparison 2 rfl) rfl (Nat.le_of_ble_eq_true rfl) rfl ?_
  refine zr_aload_n C 1 rfl (zdec_at dm_X7_readComparison 3 rfl) rfl ?_
  obtain ⟨g12, h⟩ := h
  refine zr_callV C [] hS_X7_byteAhead ck_RX7_34 iv_X7_byteAhead vc_X7 oc_74 rfl rfl (zdec_at dm_X7_readComparison 4 rfl) ⟨rfl, rfl, rfl, rfl⟩ ⟨by decide, by decide⟩ (Nat.le_of_ble_eq_true rfl) zall_n ?_
  refine ⟨rfl, g12, fun r7 M8 p11 z10 hR9 => ?_⟩
  have h := h r7 M8 p11 z10 hR9
  show zV Γ mu_X7_readComparison (145, 0, 0) 9 [(1, zI r1), (0, zRf (zad Γ) 74)] [zI r7] M8
  refine zr_istore_n (L1 := [(2, zI r7), (1, zI r1), (0, zRf (zad Γ) 74)]) C (zdec_at dm_X7_readComparison 5 rfl) rfl (Nat.le_of_ble_eq_true rfl) rfl ?_
  refine zr_iload_n C 0 rfl (zdec_at dm_X7_readComparison 6 rfl) rfl ?_
  refine zr_bipush C (zdec_at dm_X7_readComparison 7 rfl) (by decide) ?_
  have h := h (zV Γ mu_X7_readComparison (145, 0, 0) 34 [(0, zRf (zad Γ) 74), (1, zI r1), (2, zI r7)] [] M8) (fun h => by
    refine zr_aload_n C 0 rfl (zdec_at dm_X7_readComparison 19 rfl) rfl ?_
    refine zr_dup C rfl (zdec_at dm_X7_readComparison 20 rfl) ?_
    refine zr_geti C fk_RX7_31 fi_74_4 (zdec_at dm_X7_readComparison 21 rfl) ?_
    refine zr_iconst C (zdec_at dm_X7_readComparison 22 rfl) ?_
    refine zr_iadd C (zdec_at dm_X7_readComparison 23 rfl) ?_
    obtain ⟨o13, h⟩ := h
    refine zr_puti C fk_RX7_31 fi_74_4 o13 (zdec_at dm_X7_readComparison 24 rfl) (fun M14 e15 => ?_)
    have h := h M14 e15
    have hR16 : zRng M14 := by rw [e15]; exact hR9.set o13 _ _
    refine zr_aload_n C 0 rfl (zdec_at dm_X7_readComparison 25 rfl) rfl ?_
    obtain ⟨g22, h⟩ := h
    refine zr_callV C [] hS_X7_readSum ck_RX7_62 iv_X7_readSum vc_X7 oc_74 rfl rfl (zdec_at dm_X7_readComparison 26 rfl) ⟨rfl, rfl, rfl, rfl⟩ ⟨by decide, by decide⟩ (Nat.le_of_ble_eq_true rfl) zall_n ?_
    refine ⟨rfl, g22, fun r17 M18 p21 z20 hR19 => ?_⟩
    have h := h r17 M18 p21 z20 hR19
    show zV Γ mu_X7_readComparison (145, 0, 0) 48 [(0, zRf (zad Γ) 74), (1, zI r1), (2, zI r7)] [zI r17] M18
    refine zr_istore_n (L1 := [(3, zI r17), (0, zRf (zad Γ) 74), (1, zI r1), (2, zI r7)]) C (zdec_at dm_X7_readComparison 27 rfl) rfl (Nat.le_of_ble_eq_true rfl) rfl ?_
    refine zr_iload_n C 3 rfl (zdec_at dm_X7_readComparison 28 rfl) rfl ?_
    refine zr_bipush C (zdec_at dm_X7_readComparison 29 rfl) (by decide) ?_
    refine zr_icmp_ne C z10 (by decide) (zdec_at dm_X7_readComparison 30 rfl) rfl (fun g23 => ?_) (fun g23 => ?_)
    · have h := h.1 g23
      refine zr_iload_n C 3 rfl (zdec_at dm_X7_readComparison 38 rfl) rfl ?_
      refine zr_bipush C (zdec_at dm_X7_readComparison 39 rfl) (by decide) ?_
      refine zr_icmp_ne C z10 (by decide) (zdec_at dm_X7_readComparison 40 rfl) rfl (fun g24 => ?_) (fun g24 => ?_)
      · have h := h.1 g24
        refine zr_iload_n C 2 rfl (zdec_at dm_X7_readComparison 48 rfl) rfl ?_
        refine zr_iload_n C 0 rfl (zdec_at dm_X7_readComparison 49 rfl) rfl ?_
        refine zr_icmp_le C z4 z20 (zdec_at dm_X7_readComparison 50 rfl) rfl (fun g25 => ?_) (fun g25 => ?_)
        · have h := h.1 g25
          refine zr_iconst C (zdec_at dm_X7_readComparison 53 rfl) ?_
          exact zr_zreturn C rfl (by decide) (zdec_at dm_X7_readComparison 54 rfl) rfl ⟨(by decide), h⟩
        · have h := h.2 g25
          refine zr_iconst C (zdec_at dm_X7_readComparison 51 rfl) ?_
          refine zr_goto C (zdec_at dm_X7_readComparison 52 rfl) rfl ?_
          exact zr_zreturn C rfl (by decide) (zdec_at dm_X7_readComparison 54 rfl) rfl ⟨(by decide), h⟩
      · have h := h.2 g24
        refine zr_iload_n C 2 rfl (zdec_at dm_X7_readComparison 41 rfl) rfl ?_
        refine zr_iload_n C 0 rfl (zdec_at dm_X7_readComparison 42 rfl) rfl ?_
        refine zr_icmp_ge C z4 z20 (zdec_at dm_X7_readComparison 43 rfl) rfl (fun g26 => ?_) (fun g26 => ?_)
        · have h := h.1 g26
          refine zr_iconst C (zdec_at dm_X7_readComparison 46 rfl) ?_
          refine zr_goto C (zdec_at dm_X7_readComparison 47 rfl) rfl ?_
          exact zr_zreturn C rfl (by decide) (zdec_at dm_X7_readComparison 54 rfl) rfl ⟨(by decide), h⟩
        · have h := h.2 g26
          refine zr_iconst C (zdec_at dm_X7_readComparison 44 rfl) ?_
          refine zr_goto C (zdec_at dm_X7_readComparison 45 rfl) rfl ?_
          exact zr_zreturn C rfl (by decide) (zdec_at dm_X7_readComparison 54 rfl) rfl ⟨(by decide), h⟩
    · have h := h.2 g23
      refine zr_iload_n C 2 rfl (zdec_at dm_X7_readComparison 31 rfl) rfl ?_
      refine zr_iload_n C 0 rfl (zdec_at dm_X7_readComparison 32 rfl) rfl ?_
      refine zr_icmp_ne C z4 z20 (zdec_at dm_X7_readComparison 33 rfl) rfl (fun g27 => ?_) (fun g27 => ?_)
      · have h := h.1 g27
        refine zr_iconst C (zdec_at dm_X7_readComparison 36 rfl) ?_
        exact zr_zreturn C rfl (by decide) (zdec_at dm_X7_readComparison 37 rfl) rfl ⟨(by decide), h⟩
      · have h := h.2 g27
        refine zr_iconst C (zdec_at dm_X7_readComparison 34 rfl) ?_
        refine zr_goto C (zdec_at dm_X7_readComparison 35 rfl) rfl ?_
        exact zr_zreturn C rfl (by decide) (zdec_at dm_X7_readComparison 37 rfl) rfl ⟨(by decide), h⟩)
  refine zr_icmp_eq C z10 (by decide) (zdec_at dm_X7_readComparison 8 rfl) rfl (fun g28 => ?_) (fun g28 => ?_)
  · have h := h.1 g28
    exact zr_sub [2, 1, 0] rfl (h)
  · have h := h.2 g28
    refine zr_iload_n C 0 rfl (zdec_at dm_X7_readComparison 9 rfl) rfl ?_
    refine zr_bipush C (zdec_at dm_X7_readComparison 10 rfl) (by decide) ?_
    refine zr_icmp_eq C z10 (by decide) (zdec_at dm_X7_readComparison 11 rfl) rfl (fun g29 => ?_) (fun g29 => ?_)
    · have h := h.1 g29
      exact zr_sub [2, 1, 0] rfl (h)
    · have h := h.2 g29
      refine zr_iload_n C 0 rfl (zdec_at dm_X7_readComparison 12 rfl) rfl ?_
      refine zr_bipush C (zdec_at dm_X7_readComparison 13 rfl) (by decide) ?_
      refine zr_icmp_eq C z10 (by decide) (zdec_at dm_X7_readComparison 14 rfl) rfl (fun g30 => ?_) (fun g30 => ?_)
      · have h := h.1 g30
        exact zr_sub [2, 1, 0] rfl (h)
      · have h := h.2 g30
        refine zr_aload_n C 2 rfl (zdec_at dm_X7_readComparison 15 rfl) rfl ?_
        obtain ⟨g35, h⟩ := h
        refine zr_callV C [] hS_X7_stop ck_RX7_38 iv_X7_stop vc_X7 oc_74 rfl rfl (zdec_at dm_X7_readComparison 16 rfl) ⟨rfl, rfl, rfl, rfl⟩ ⟨by decide, by decide⟩ (Nat.le_of_ble_eq_true rfl) zall_n ?_
        refine ⟨rfl, g35, fun M31 p34 _ hR32 => ?_⟩
        have h := h M31 p34 hR32
        show zV Γ mu_X7_readComparison (145, 0, 0) 32 [(2, zI r7), (1, zI r1), (0, zRf (zad Γ) 74)] [] M31
        refine zr_iconst C (zdec_at dm_X7_readComparison 17 rfl) ?_
        exact zr_zreturn C rfl (by decide) (zdec_at dm_X7_readComparison 18 rfl) rfl ⟨(by decide), h⟩

set_option maxHeartbeats 400000 in
set_option maxRecDepth 100000 in
theorem sn_X7_readSum {pr_X7_readAtom : zM → Prop} {po_X7_readAtom : zM → Int → zM → Prop} {pr_X7_byteAhead : zM → Prop} {po_X7_byteAhead : zM → Int → zM → Prop} (hS_X7_readAtom : zSnd zS 145 0 0 yX7_readAtom cX7_readAtom 2 (some .int) 2 [2] (F_X7_readAtom pr_X7_readAtom po_X7_readAtom)) (hS_X7_byteAhead : zSnd zS 145 0 0 yX7_byteAhead cX7_byteAhead 1 (some .int) 0 [2] (F_X7_byteAhead pr_X7_byteAhead po_X7_byteAhead)) : zSnd zS 145 0 0 yX7_readSum cX7_readSum 5 (some .int) 3 [2] (fun xs P M => xs = [74] ∧ vc_X7_readSum pr_X7_readAtom po_X7_readAtom pr_X7_byteAhead po_X7_byteAhead P M) := by
  refine zSnd.of rfl (fun ad xs hz => Nat.le_trans (Nat.le_of_eq (zlen ad _ xs hz)) (by decide)) ?_
  intro Γ C _ _ xs M hz hF
  obtain ⟨rfl, h⟩ := hF
  refine zr_rng (fun hR => ?_)
  have C : zC Γ mu_X7_readSum := C
  change zV Γ mu_X7_readSum (145, 0, 0) 0 [(0, zRf (zad Γ) 74)] [] M
  change vc_X7_readSum pr_X7_readAtom po_X7_readAtom pr_X7_byteAhead po_X7_byteAhead _ M at h
  unfold vc_X7_readSum at h
  refine zr_aload_n C 0 rfl (zdec_at dm_X7_readSum 0 rfl) rfl ?_
  obtain ⟨g6, h⟩ := h
  refine zr_callV C [] hS_X7_readAtom ck_RX7_65 iv_X7_readAtom vc_X7 oc_74 rfl rfl (zdec_at dm_X7_readSum 1 rfl) ⟨rfl, rfl, rfl, rfl⟩ ⟨by decide, by decide⟩ (Nat.le_of_ble_eq_true rfl) zall_n ?_
  refine ⟨rfl, g6, fun r1 M2 p5 z4 hR3 => ?_⟩
  have h := h r1 M2 p5 z4 hR3
  show zV Γ mu_X7_readSum (145, 0, 0) 4 [(0, zRf (zad Γ) 74)] [zI r1] M2
  refine zr_istore_n (L1 := [(1, zI r1), (0, zRf (zad Γ) 74)]) C (zdec_at dm_X7_readSum 2 rfl) rfl (Nat.le_of_ble_eq_true rfl) rfl ?_
  refine zr_iconst C (zdec_at dm_X7_readSum 3 rfl) ?_
  refine zr_istore_n (L1 := [(2, zI 0), (1, zI r1), (0, zRf (zad Γ) 74)]) C (zdec_at dm_X7_readSum 4 rfl) rfl (Nat.le_of_ble_eq_true rfl) rfl ?_
  obtain ⟨I7, ⟨n17, q18⟩, hI16⟩ := h
  have lp15 : ∀ (n13 : Nat) (v7 : Int) (v8 : Int) (M11 : zM), I7 v7 v8 M11 n13 → zin v7 → zin v8 → zRng M11 → zV Γ mu_X7_readSum (145, 0, 0) 7 [(0, zRf (zad Γ) 74), (1, zI v7), (2, zI v8)] [] M11 := by
    intro n13
    induction n13 using Nat.strongRecOn with
    | _ n13 ih14 =>
    intro v7 v8 M11 q19 z9 z10 hR12
    have h := hI16 v7 v8 M11 n13 q19 z9 z10 hR12
    refine zr_iload_n C 2 rfl (zdec_at dm_X7_readSum 5 rfl) rfl ?_
    refine zr_aload_n C 0 rfl (zdec_at dm_X7_readSum 6 rfl) rfl ?_
    refine zr_geti C fk_RX7_28 fi_74_3 (zdec_at dm_X7_readSum 7 rfl) ?_
    refine zr_icmp_ge C z10 (hR12 _ _) (zdec_at dm_X7_readSum 8 rfl) rfl (fun g20 => ?_) (fun g20 => ?_)
    · have h := h.1 g20
      refine zr_iload_n C 1 rfl (zdec_at dm_X7_readSum 46 rfl) rfl ?_
      exact zr_ireturn C rfl (zdec_at dm_X7_readSum 47 rfl) rfl ⟨z9, h⟩
    · have h := h.2 g20
      refine zr_aload_n C 0 rfl (zdec_at dm_X7_readSum 9 rfl) rfl ?_
      obtain ⟨g26, h⟩ := h
      refine zr_callV C [] hS_X7_byteAhead ck_RX7_34 iv_X7_byteAhead vc_X7 oc_74 rfl rfl (zdec_at dm_X7_readSum 10 rfl) ⟨rfl, rfl, rfl, rfl⟩ ⟨by decide, by decide⟩ (Nat.le_of_ble_eq_true rfl) zall_n ?_
      refine ⟨rfl, g26, fun r21 M22 p25 z24 hR23 => ?_⟩
      have h := h r21 M22 p25 z24 hR23
      show zV Γ mu_X7_readSum (145, 0, 0) 19 [(0, zRf (zad Γ) 74), (1, zI v7), (2, zI v8)] [zI r21] M22
      refine zr_bipush C (zdec_at dm_X7_readSum 11 rfl) (by decide) ?_
      have h := h (fun M27 => zRng M27 → zV Γ mu_X7_readSum (145, 0, 0) 33 [(0, zRf (zad Γ) 74), (1, zI v7), (2, zI v8)] [] M27) (fun M27 h hR28 => by
        have h := h hR28
        refine zr_aload_n C 0 rfl (zdec_at dm_X7_readSum 17 rfl) rfl ?_
        obtain ⟨g34, h⟩ := h
        refine zr_callV C [] hS_X7_byteAhead ck_RX7_34 iv_X7_byteAhead vc_X7 oc_74 rfl rfl (zdec_at dm_X7_readSum 18 rfl) ⟨rfl, rfl, rfl, rfl⟩ ⟨by decide, by decide⟩ (Nat.le_of_ble_eq_true rfl) zall_n ?_
        refine ⟨rfl, g34, fun r29 M30 p33 z32 hR31 => ?_⟩
        have h := h r29 M30 p33 z32 hR31
        show zV Γ mu_X7_readSum (145, 0, 0) 37 [(0, zRf (zad Γ) 74), (1, zI v7), (2, zI v8)] [zI r29] M30
        refine zr_bipush C (zdec_at dm_X7_readSum 19 rfl) (by decide) ?_
        have h := h (fun v35 => zin v35 → zV Γ mu_X7_readSum (145, 0, 0) 47 [(0, zRf (zad Γ) 74), (1, zI v7), (2, zI v8)] [zI v35] M30) (fun v35 h z36 => by
          have h := h z36
          refine zr_istore_n (L1 := [(3, zI v35), (0, zRf (zad Γ) 74), (1, zI v7), (2, zI v8)]) C (zdec_at dm_X7_readSum 24 rfl) rfl (Nat.le_of_ble_eq_true rfl) rfl ?_
          refine zr_aload_n C 1 rfl (zdec_at dm_X7_readSum 25 rfl) rfl ?_
          refine zr_dup C rfl (zdec_at dm_X7_readSum 26 rfl) ?_
          refine zr_geti C fk_RX7_31 fi_74_4 (zdec_at dm_X7_readSum 27 rfl) ?_
          refine zr_iconst C (zdec_at dm_X7_readSum 28 rfl) ?_
          refine zr_iadd C (zdec_at dm_X7_readSum 29 rfl) ?_
          obtain ⟨o37, h⟩ := h
          refine zr_puti C fk_RX7_31 fi_74_4 o37 (zdec_at dm_X7_readSum 30 rfl) (fun M38 e39 => ?_)
          have h := h M38 e39
          have hR40 : zRng M38 := by rw [e39]; exact hR31.set o37 _ _
          refine zr_aload_n C 1 rfl (zdec_at dm_X7_readSum 31 rfl) rfl ?_
          obtain ⟨g46, h⟩ := h
          refine zr_callV C [] hS_X7_readAtom ck_RX7_65 iv_X7_readAtom vc_X7 oc_74 rfl rfl (zdec_at dm_X7_readSum 32 rfl) ⟨rfl, rfl, rfl, rfl⟩ ⟨by decide, by decide⟩ (Nat.le_of_ble_eq_true rfl) zall_n ?_
          refine ⟨rfl, g46, fun r41 M42 p45 z44 hR43 => ?_⟩
          have h := h r41 M42 p45 z44 hR43
          show zV Γ mu_X7_readSum (145, 0, 0) 62 [(3, zI v35), (0, zRf (zad Γ) 74), (1, zI v7), (2, zI v8)] [zI r41] M42
          refine zr_istore (L1 := [(4, zI r41), (3, zI v35), (0, zRf (zad Γ) 74), (1, zI v7), (2, zI v8)]) C (zdec_at dm_X7_readSum 33 rfl) (Nat.le_of_ble_eq_true rfl) rfl ?_
          refine zr_iload_n C 1 rfl (zdec_at dm_X7_readSum 34 rfl) rfl ?_
          refine zr_if_eq C z36 (zdec_at dm_X7_readSum 35 rfl) rfl (fun g47 => ?_) (fun g47 => ?_)
          · have h := h.1 g47
            refine zr_iload_n C 3 rfl (zdec_at dm_X7_readSum 40 rfl) rfl ?_
            refine zr_iload C 0 rfl (zdec_at dm_X7_readSum 41 rfl) ?_
            refine zr_isub C (zdec_at dm_X7_readSum 42 rfl) ?_
            refine zr_istore_n (L1 := [(1, zI (v7 - r41)), (4, zI r41), (3, zI v35), (0, zRf (zad Γ) 74), (2, zI v8)]) C (zdec_at dm_X7_readSum 43 rfl) rfl (Nat.le_of_ble_eq_true rfl) rfl ?_
            refine zr_iinc (L1 := [(2, zI (v8 + 1)), (1, zI (v7 - r41)), (4, zI r41), (3, zI v35), (0, zRf (zad Γ) 74)]) C 4 rfl (zdec_at dm_X7_readSum 44 rfl) (Nat.le_of_ble_eq_true rfl) rfl ?_
            refine zr_goto C (zdec_at dm_X7_readSum 45 rfl) rfl ?_
            obtain ⟨o48, h⟩ := h
            obtain ⟨o49, h⟩ := h
            obtain ⟨n50, q51, q52⟩ := h
            exact zr_sub [4, 1, 0] rfl (ih14 n50 q51 _ _ _ q52 o48 o49 hR43)
          · have h := h.2 g47
            refine zr_iload_n C 3 rfl (zdec_at dm_X7_readSum 36 rfl) rfl ?_
            refine zr_iload C 0 rfl (zdec_at dm_X7_readSum 37 rfl) ?_
            refine zr_iadd C (zdec_at dm_X7_readSum 38 rfl) ?_
            refine zr_goto C (zdec_at dm_X7_readSum 39 rfl) rfl ?_
            refine zr_istore_n (L1 := [(1, zI (v7 + r41)), (4, zI r41), (3, zI v35), (0, zRf (zad Γ) 74), (2, zI v8)]) C (zdec_at dm_X7_readSum 43 rfl) rfl (Nat.le_of_ble_eq_true rfl) rfl ?_
            refine zr_iinc (L1 := [(2, zI (v8 + 1)), (1, zI (v7 + r41)), (4, zI r41), (3, zI v35), (0, zRf (zad Γ) 74)]) C 4 rfl (zdec_at dm_X7_readSum 44 rfl) (Nat.le_of_ble_eq_true rfl) rfl ?_
            refine zr_goto C (zdec_at dm_X7_readSum 45 rfl) rfl ?_
            obtain ⟨o53, h⟩ := h
            obtain ⟨o54, h⟩ := h
            obtain ⟨n55, q56, q57⟩ := h
            exact zr_sub [4, 1, 0] rfl (ih14 n55 q56 _ _ _ q57 o53 o54 hR43))
        refine zr_icmp_ne C z32 (by decide) (zdec_at dm_X7_readSum 20 rfl) rfl (fun g58 => ?_) (fun g58 => ?_)
        · have h := h.1 g58
          refine zr_iconst C (zdec_at dm_X7_readSum 23 rfl) ?_
          exact zr_sub [0, 1, 2] rfl (h (by decide))
        · have h := h.2 g58
          refine zr_iconst C (zdec_at dm_X7_readSum 21 rfl) ?_
          refine zr_goto C (zdec_at dm_X7_readSum 22 rfl) rfl ?_
          exact zr_sub [0, 1, 2] rfl (h (by decide)))
      refine zr_icmp_eq C z24 (by decide) (zdec_at dm_X7_readSum 12 rfl) rfl (fun g59 => ?_) (fun g59 => ?_)
      · have h := h.1 g59
        exact zr_sub [0, 1, 2] rfl (h hR23)
      · have h := h.2 g59
        refine zr_aload_n C 0 rfl (zdec_at dm_X7_readSum 13 rfl) rfl ?_
        obtain ⟨g65, h⟩ := h
        refine zr_callV C [] hS_X7_byteAhead ck_RX7_34 iv_X7_byteAhead vc_X7 oc_74 rfl rfl (zdec_at dm_X7_readSum 14 rfl) ⟨rfl, rfl, rfl, rfl⟩ ⟨by decide, by decide⟩ (Nat.le_of_ble_eq_true rfl) zall_n ?_
        refine ⟨rfl, g65, fun r60 M61 p64 z63 hR62 => ?_⟩
        have h := h r60 M61 p64 z63 hR62
        show zV Γ mu_X7_readSum (145, 0, 0) 28 [(0, zRf (zad Γ) 74), (1, zI v7), (2, zI v8)] [zI r60] M61
        refine zr_bipush C (zdec_at dm_X7_readSum 15 rfl) (by decide) ?_
        refine zr_icmp_ne C z63 (by decide) (zdec_at dm_X7_readSum 16 rfl) rfl (fun g66 => ?_) (fun g66 => ?_)
        · have h := h.1 g66
          refine zr_iload_n C 1 rfl (zdec_at dm_X7_readSum 46 rfl) rfl ?_
          exact zr_ireturn C rfl (zdec_at dm_X7_readSum 47 rfl) rfl ⟨z9, h⟩
        · have h := h.2 g66
          exact zr_sub [0, 1, 2] rfl (h hR62)
  exact zr_sub [2, 1, 0] rfl (lp15 n17 _ _ _ q18 z4 (by decide) hR3)

set_option maxHeartbeats 400000 in
set_option maxRecDepth 100000 in
theorem sn_X7_readAtom {pr_X7_byteAhead : zM → Prop} {po_X7_byteAhead : zM → Int → zM → Prop} {pr_X11_isDigit : Int → zM → Prop} {po_X11_isDigit : Int → zM → Int → zM → Prop} {pr_X7_fieldOf : Int → zM → Prop} {po_X7_fieldOf : Int → zM → Int → zM → Prop} {pr_X7_stop : zM → Prop} {po_X7_stop : zM → zM → Prop} {pr_X7_readNumber : zM → Prop} {po_X7_readNumber : zM → Int → zM → Prop} (hS_X7_byteAhead : zSnd zS 145 0 0 yX7_byteAhead cX7_byteAhead 1 (some .int) 0 [2] (F_X7_byteAhead pr_X7_byteAhead po_X7_byteAhead)) (hS_X11_isDigit : zSnd zS 145 0 0 yX11_isDigit cX11_isDigit 1 (some .boolean) 0 [0] (F_X11_isDigit pr_X11_isDigit po_X11_isDigit)) (hS_X7_fieldOf : zSnd zS 145 0 0 yX7_fieldOf cX7_fieldOf 1 (some .int) 0 [0] (F_X7_fieldOf pr_X7_fieldOf po_X7_fieldOf)) (hS_X7_stop : zSnd zS 145 0 0 yX7_stop cX7_stop 1 none 0 [2] (F_X7_stop pr_X7_stop po_X7_stop)) (hS_X7_readNumber : zSnd zS 145 0 0 yX7_readNumber cX7_readNumber 3 (some .int) 1 [2] (F_X7_readNumber pr_X7_readNumber po_X7_readNumber)) : zSnd zS 145 0 0 yX7_readAtom cX7_readAtom 2 (some .int) 2 [2] (fun xs P M => xs = [74] ∧ vc_X7_readAtom pr_X7_byteAhead po_X7_byteAhead pr_X11_isDigit po_X11_isDigit pr_X7_fieldOf po_X7_fieldOf pr_X7_stop po_X7_stop pr_X7_readNumber po_X7_readNumber P M) := by
  refine zSnd.of rfl (fun ad xs hz => Nat.le_trans (Nat.le_of_eq (zlen ad _ xs hz)) (by decide)) ?_
  intro Γ C _ _ xs M hz hF
  obtain ⟨rfl, h⟩ := hF
  refine zr_rng (fun hR => ?_)
  have C : zC Γ mu_X7_readAtom := C
  change zV Γ mu_X7_readAtom (145, 0, 0) 0 [(0, zRf (zad Γ) 74)] [] M
  change vc_X7_readAtom pr_X7_byteAhead po_X7_byteAhead pr_X11_isDigit po_X11_isDigit pr_X7_fieldOf po_X7_fieldOf pr_X7_stop po_X7_stop pr_X7_readNumber po_X7_readNumber _ M at h
  unfold vc_X7_readAtom at h
  refine zr_aload_n C 0 rfl (zdec_at dm_X7_readAtom 0 rfl) rfl ?_
  obtain ⟨g6, h⟩ := h
  refine zr_callV C [] hS_X7_byteAhead ck_RX7_34 iv_X7_byteAhead vc_X7 oc_74 rfl rfl (zdec_at dm_X7_readAtom 1 rfl) ⟨rfl, rfl, rfl, rfl⟩ ⟨by decide, by decide⟩ (Nat.le_of_ble_eq_true rfl) zall_n ?_
  refine ⟨rfl, g6, fun r1 M2 p5 z4 hR3 => ?_⟩
  have h := h r1 M2 p5 z4 hR3
  show zV Γ mu_X7_readAtom (145, 0, 0) 4 [(0, zRf (zad Γ) 74)] [zI r1] M2
  obtain ⟨g12, h⟩ := h
  refine zr_callS C [r1] hS_X11_isDigit ck_RX7_68 sv_X11_isDigit rfl rfl (zdec_at dm_X7_readAtom 2 rfl) ⟨rfl, rfl, rfl, rfl⟩ ⟨by decide, by decide⟩ (Nat.le_of_ble_eq_true rfl) (zall_0 z4 zall_n) ?_
  refine ⟨_, rfl, g12, fun r7 M8 p11 z10 hR9 => ?_⟩
  have h := h r7 M8 p11 z10 hR9
  show zV Γ mu_X7_readAtom (145, 0, 0) 7 [(0, zRf (zad Γ) 74)] [zI r7] M8
  refine zr_if_eq C z10 (zdec_at dm_X7_readAtom 3 rfl) rfl (fun g13 => ?_) (fun g13 => ?_)
  · have h := h.1 g13
    refine zr_aload_n C 0 rfl (zdec_at dm_X7_readAtom 7 rfl) rfl ?_
    obtain ⟨g19, h⟩ := h
    refine zr_callV C [] hS_X7_byteAhead ck_RX7_34 iv_X7_byteAhead vc_X7 oc_74 rfl rfl (zdec_at dm_X7_readAtom 8 rfl) ⟨rfl, rfl, rfl, rfl⟩ ⟨by decide, by decide⟩ (Nat.le_of_ble_eq_true rfl) zall_n ?_
    refine ⟨rfl, g19, fun r14 M15 p18 z17 hR16 => ?_⟩
    have h := h r14 M15 p18 z17 hR16
    show zV Γ mu_X7_readAtom (145, 0, 0) 19 [(0, zRf (zad Γ) 74)] [zI r14] M15
    obtain ⟨g25, h⟩ := h
    refine zr_callS C [r14] hS_X7_fieldOf ck_RX7_74 sv_X7_fieldOf rfl rfl (zdec_at dm_X7_readAtom 9 rfl) ⟨rfl, rfl, rfl, rfl⟩ ⟨by decide, by decide⟩ (Nat.le_of_ble_eq_true rfl) (zall_0 z17 zall_n) ?_
    refine ⟨_, rfl, g25, fun r20 M21 p24 z23 hR22 => ?_⟩
    have h := h r20 M21 p24 z23 hR22
    show zV Γ mu_X7_readAtom (145, 0, 0) 22 [(0, zRf (zad Γ) 74)] [zI r20] M21
    refine zr_istore_n (L1 := [(1, zI r20), (0, zRf (zad Γ) 74)]) C (zdec_at dm_X7_readAtom 10 rfl) rfl (Nat.le_of_ble_eq_true rfl) rfl ?_
    refine zr_iload_n C 0 rfl (zdec_at dm_X7_readAtom 11 rfl) rfl ?_
    refine zr_if_ge C z23 (zdec_at dm_X7_readAtom 12 rfl) rfl (fun g26 => ?_) (fun g26 => ?_)
    · have h := h.1 g26
      refine zr_aload_n C 1 rfl (zdec_at dm_X7_readAtom 17 rfl) rfl ?_
      refine zr_dup C rfl (zdec_at dm_X7_readAtom 18 rfl) ?_
      refine zr_geti C fk_RX7_31 fi_74_4 (zdec_at dm_X7_readAtom 19 rfl) ?_
      refine zr_iconst C (zdec_at dm_X7_readAtom 20 rfl) ?_
      refine zr_iadd C (zdec_at dm_X7_readAtom 21 rfl) ?_
      obtain ⟨o27, h⟩ := h
      refine zr_puti C fk_RX7_31 fi_74_4 o27 (zdec_at dm_X7_readAtom 22 rfl) (fun M28 e29 => ?_)
      have h := h M28 e29
      have hR30 : zRng M28 := by rw [e29]; exact hR22.set o27 _ _
      refine zr_aload_n C 1 rfl (zdec_at dm_X7_readAtom 23 rfl) rfl ?_
      refine zr_getr (q := 75) C fk_RX7_9 fi_74_0 (zdec_at dm_X7_readAtom 24 rfl) ?_
      refine zr_iload_n C 0 rfl (zdec_at dm_X7_readAtom 25 rfl) rfl ?_
      obtain ⟨o31, h⟩ := h
      refine zr_iald C ai_75 o31 (zdec_at dm_X7_readAtom 26 rfl) ?_
      exact zr_ireturn C rfl (zdec_at dm_X7_readAtom 27 rfl) rfl ⟨(hR30 _ _), h⟩
    · have h := h.2 g26
      refine zr_aload_n C 1 rfl (zdec_at dm_X7_readAtom 13 rfl) rfl ?_
      obtain ⟨g36, h⟩ := h
      refine zr_callV C [] hS_X7_stop ck_RX7_38 iv_X7_stop vc_X7 oc_74 rfl rfl (zdec_at dm_X7_readAtom 14 rfl) ⟨rfl, rfl, rfl, rfl⟩ ⟨by decide, by decide⟩ (Nat.le_of_ble_eq_true rfl) zall_n ?_
      refine ⟨rfl, g36, fun M32 p35 _ hR33 => ?_⟩
      have h := h M32 p35 hR33
      show zV Γ mu_X7_readAtom (145, 0, 0) 31 [(1, zI r20), (0, zRf (zad Γ) 74)] [] M32
      refine zr_iconst C (zdec_at dm_X7_readAtom 15 rfl) ?_
      exact zr_ireturn C rfl (zdec_at dm_X7_readAtom 16 rfl) rfl ⟨(by decide), h⟩
  · have h := h.2 g13
    refine zr_aload_n C 0 rfl (zdec_at dm_X7_readAtom 4 rfl) rfl ?_
    obtain ⟨g42, h⟩ := h
    refine zr_callV C [] hS_X7_readNumber ck_RX7_71 iv_X7_readNumber vc_X7 oc_74 rfl rfl (zdec_at dm_X7_readAtom 5 rfl) ⟨rfl, rfl, rfl, rfl⟩ ⟨by decide, by decide⟩ (Nat.le_of_ble_eq_true rfl) zall_n ?_
    refine ⟨rfl, g42, fun r37 M38 p41 z40 hR39 => ?_⟩
    have h := h r37 M38 p41 z40 hR39
    show zV Γ mu_X7_readAtom (145, 0, 0) 14 [(0, zRf (zad Γ) 74)] [zI r37] M38
    exact zr_ireturn C rfl (zdec_at dm_X7_readAtom 6 rfl) rfl ⟨z40, h⟩

set_option maxHeartbeats 400000 in
set_option maxRecDepth 100000 in
theorem sn_X7_readNumber {pr_X7_byteAhead : zM → Prop} {po_X7_byteAhead : zM → Int → zM → Prop} {pr_X11_isDigit : Int → zM → Prop} {po_X11_isDigit : Int → zM → Int → zM → Prop} (hS_X7_byteAhead : zSnd zS 145 0 0 yX7_byteAhead cX7_byteAhead 1 (some .int) 0 [2] (F_X7_byteAhead pr_X7_byteAhead po_X7_byteAhead)) (hS_X11_isDigit : zSnd zS 145 0 0 yX11_isDigit cX11_isDigit 1 (some .boolean) 0 [0] (F_X11_isDigit pr_X11_isDigit po_X11_isDigit)) : zSnd zS 145 0 0 yX7_readNumber cX7_readNumber 3 (some .int) 1 [2] (fun xs P M => xs = [74] ∧ vc_X7_readNumber pr_X7_byteAhead po_X7_byteAhead pr_X11_isDigit po_X11_isDigit P M) := by
  refine zSnd.of rfl (fun ad xs hz => Nat.le_trans (Nat.le_of_eq (zlen ad _ xs hz)) (by decide)) ?_
  intro Γ C _ _ xs M hz hF
  obtain ⟨rfl, h⟩ := hF
  refine zr_rng (fun hR => ?_)
  have C : zC Γ mu_X7_readNumber := C
  change zV Γ mu_X7_readNumber (145, 0, 0) 0 [(0, zRf (zad Γ) 74)] [] M
  change vc_X7_readNumber pr_X7_byteAhead po_X7_byteAhead pr_X11_isDigit po_X11_isDigit _ M at h
  unfold vc_X7_readNumber at h
  refine zr_aload_n C 0 rfl (zdec_at dm_X7_readNumber 0 rfl) rfl ?_
  obtain ⟨g6, h⟩ := h
  refine zr_callV C [] hS_X7_byteAhead ck_RX7_34 iv_X7_byteAhead vc_X7 oc_74 rfl rfl (zdec_at dm_X7_readNumber 1 rfl) ⟨rfl, rfl, rfl, rfl⟩ ⟨by decide, by decide⟩ (Nat.le_of_ble_eq_true rfl) zall_n ?_
  refine ⟨rfl, g6, fun r1 M2 p5 z4 hR3 => ?_⟩
  have h := h r1 M2 p5 z4 hR3
  show zV Γ mu_X7_readNumber (145, 0, 0) 4 [(0, zRf (zad Γ) 74)] [zI r1] M2
  refine zr_bipush C (zdec_at dm_X7_readNumber 2 rfl) (by decide) ?_
  refine zr_icmp_ne C z4 (by decide) (zdec_at dm_X7_readNumber 3 rfl) rfl (fun g7 => ?_) (fun g7 => ?_)
  · have h := h.1 g7
    refine zr_iconst C (zdec_at dm_X7_readNumber 12 rfl) ?_
    refine zr_istore_n (L1 := [(1, zI 0), (0, zRf (zad Γ) 74)]) C (zdec_at dm_X7_readNumber 13 rfl) rfl (Nat.le_of_ble_eq_true rfl) rfl ?_
    refine zr_iconst C (zdec_at dm_X7_readNumber 14 rfl) ?_
    refine zr_istore_n (L1 := [(2, zI 0), (1, zI 0), (0, zRf (zad Γ) 74)]) C (zdec_at dm_X7_readNumber 15 rfl) rfl (Nat.le_of_ble_eq_true rfl) rfl ?_
    obtain ⟨I25, ⟨n18, q19⟩, hI17⟩ := h
    have lp16 : ∀ (n14 : Nat) (v8 : Int) (v9 : Int) (M12 : zM), I25 v8 v9 M12 n14 → zin v8 → zin v9 → zRng M12 → zV Γ mu_X7_readNumber (145, 0, 0) 25 [(0, zRf (zad Γ) 74), (1, zI v8), (2, zI v9)] [] M12 := by
      intro n14
      induction n14 using Nat.strongRecOn with
      | _ n14 ih15 =>
      intro v8 v9 M12 q20 z10 z11 hR13
      have h := hI17 v8 v9 M12 n14 q20 z10 z11 hR13
      refine zr_iload_n C 2 rfl (zdec_at dm_X7_readNumber 16 rfl) rfl ?_
      refine zr_iconst C (zdec_at dm_X7_readNumber 17 rfl) ?_
      refine zr_icmp_ge C z11 (by decide) (zdec_at dm_X7_readNumber 18 rfl) rfl (fun g21 => ?_) (fun g21 => ?_)
      · have h := h.1 g21
        refine zr_iload_n C 1 rfl (zdec_at dm_X7_readNumber 40 rfl) rfl ?_
        exact zr_ireturn C rfl (zdec_at dm_X7_readNumber 41 rfl) rfl ⟨z10, h⟩
      · have h := h.2 g21
        refine zr_aload_n C 0 rfl (zdec_at dm_X7_readNumber 19 rfl) rfl ?_
        obtain ⟨g27, h⟩ := h
        refine zr_callV C [] hS_X7_byteAhead ck_RX7_34 iv_X7_byteAhead vc_X7 oc_74 rfl rfl (zdec_at dm_X7_readNumber 20 rfl) ⟨rfl, rfl, rfl, rfl⟩ ⟨by decide, by decide⟩ (Nat.le_of_ble_eq_true rfl) zall_n ?_
        refine ⟨rfl, g27, fun r22 M23 p26 z25 hR24 => ?_⟩
        have h := h r22 M23 p26 z25 hR24
        show zV Γ mu_X7_readNumber (145, 0, 0) 34 [(0, zRf (zad Γ) 74), (1, zI v8), (2, zI v9)] [zI r22] M23
        obtain ⟨g33, h⟩ := h
        refine zr_callS C [r22] hS_X11_isDigit ck_RX7_68 sv_X11_isDigit rfl rfl (zdec_at dm_X7_readNumber 21 rfl) ⟨rfl, rfl, rfl, rfl⟩ ⟨by decide, by decide⟩ (Nat.le_of_ble_eq_true rfl) (zall_0 z25 zall_n) ?_
        refine ⟨_, rfl, g33, fun r28 M29 p32 z31 hR30 => ?_⟩
        have h := h r28 M29 p32 z31 hR30
        show zV Γ mu_X7_readNumber (145, 0, 0) 37 [(0, zRf (zad Γ) 74), (1, zI v8), (2, zI v9)] [zI r28] M29
        refine zr_if_eq C z31 (zdec_at dm_X7_readNumber 22 rfl) rfl (fun g34 => ?_) (fun g34 => ?_)
        · have h := h.1 g34
          refine zr_iload_n C 1 rfl (zdec_at dm_X7_readNumber 40 rfl) rfl ?_
          exact zr_ireturn C rfl (zdec_at dm_X7_readNumber 41 rfl) rfl ⟨z10, h⟩
        · have h := h.2 g34
          refine zr_bipush C (zdec_at dm_X7_readNumber 23 rfl) (by decide) ?_
          refine zr_iload_n C 1 rfl (zdec_at dm_X7_readNumber 24 rfl) rfl ?_
          refine zr_imul C (zdec_at dm_X7_readNumber 25 rfl) ?_
          refine zr_aload_n C 0 rfl (zdec_at dm_X7_readNumber 26 rfl) rfl ?_
          obtain ⟨g40, h⟩ := h
          refine zr_callV C [] hS_X7_byteAhead ck_RX7_34 iv_X7_byteAhead vc_X7 oc_74 rfl rfl (zdec_at dm_X7_readNumber 27 rfl) ⟨rfl, rfl, rfl, rfl⟩ ⟨by decide, by decide⟩ (Nat.le_of_ble_eq_true rfl) zall_n ?_
          refine ⟨rfl, g40, fun r35 M36 p39 z38 hR37 => ?_⟩
          have h := h r35 M36 p39 z38 hR37
          show zV Γ mu_X7_readNumber (145, 0, 0) 48 [(0, zRf (zad Γ) 74), (1, zI v8), (2, zI v9)] [zI r35, zI (10 * v8)] M36
          refine zr_iadd C (zdec_at dm_X7_readNumber 28 rfl) ?_
          refine zr_bipush C (zdec_at dm_X7_readNumber 29 rfl) (by decide) ?_
          refine zr_isub C (zdec_at dm_X7_readNumber 30 rfl) ?_
          refine zr_istore_n (L1 := [(1, zI (((10 * v8) + r35) - 48)), (0, zRf (zad Γ) 74), (2, zI v9)]) C (zdec_at dm_X7_readNumber 31 rfl) rfl (Nat.le_of_ble_eq_true rfl) rfl ?_
          refine zr_aload_n C 1 rfl (zdec_at dm_X7_readNumber 32 rfl) rfl ?_
          refine zr_dup C rfl (zdec_at dm_X7_readNumber 33 rfl) ?_
          refine zr_geti C fk_RX7_31 fi_74_4 (zdec_at dm_X7_readNumber 34 rfl) ?_
          refine zr_iconst C (zdec_at dm_X7_readNumber 35 rfl) ?_
          refine zr_iadd C (zdec_at dm_X7_readNumber 36 rfl) ?_
          obtain ⟨o41, h⟩ := h
          refine zr_puti C fk_RX7_31 fi_74_4 o41 (zdec_at dm_X7_readNumber 37 rfl) (fun M42 e43 => ?_)
          have h := h M42 e43
          have hR44 : zRng M42 := by rw [e43]; exact hR37.set o41 _ _
          refine zr_iinc (L1 := [(2, zI (v9 + 1)), (1, zI (((10 * v8) + r35) - 48)), (0, zRf (zad Γ) 74)]) C 2 rfl (zdec_at dm_X7_readNumber 38 rfl) (Nat.le_of_ble_eq_true rfl) rfl ?_
          refine zr_goto C (zdec_at dm_X7_readNumber 39 rfl) rfl ?_
          obtain ⟨o45, h⟩ := h
          obtain ⟨o46, h⟩ := h
          obtain ⟨n47, q48, q49⟩ := h
          exact zr_sub [2, 1, 0] rfl (ih15 n47 q48 _ _ _ q49 o45 o46 hR44)
    exact zr_sub [2, 1, 0] rfl (lp16 n18 _ _ _ q19 (by decide) (by decide) hR3)
  · have h := h.2 g7
    refine zr_aload_n C 0 rfl (zdec_at dm_X7_readNumber 4 rfl) rfl ?_
    refine zr_dup C rfl (zdec_at dm_X7_readNumber 5 rfl) ?_
    refine zr_geti C fk_RX7_31 fi_74_4 (zdec_at dm_X7_readNumber 6 rfl) ?_
    refine zr_iconst C (zdec_at dm_X7_readNumber 7 rfl) ?_
    refine zr_iadd C (zdec_at dm_X7_readNumber 8 rfl) ?_
    obtain ⟨o50, h⟩ := h
    refine zr_puti C fk_RX7_31 fi_74_4 o50 (zdec_at dm_X7_readNumber 9 rfl) (fun M51 e52 => ?_)
    have h := h M51 e52
    have hR53 : zRng M51 := by rw [e52]; exact hR3.set o50 _ _
    refine zr_iconst C (zdec_at dm_X7_readNumber 10 rfl) ?_
    exact zr_ireturn C rfl (zdec_at dm_X7_readNumber 11 rfl) rfl ⟨(by decide), h⟩

set_option maxHeartbeats 400000 in
set_option maxRecDepth 100000 in
theorem sn_X7_fieldOf : zSnd zS 145 0 0 yX7_fieldOf cX7_fieldOf 1 (some .int) 0 [0] (fun xs P M => ∃ a0 : Int, xs = [a0] ∧ vc_X7_fieldOf a0 P M) := by
  refine zSnd.of rfl (fun ad xs hz => Nat.le_trans (Nat.le_of_eq (zlen ad _ xs hz)) (by decide)) ?_
  intro Γ C _ _ xs M hz hF
  obtain ⟨a0, rfl, h⟩ := hF
  have zz_a0 := zall_h hz (by decide)
  refine zr_rng (fun hR => ?_)
  have C : zC Γ mu_X7_fieldOf := C
  change zV Γ mu_X7_fieldOf (145, 0, 0) 0 [(0, zI a0)] [] M
  change vc_X7_fieldOf a0 _ M at h
  unfold vc_X7_fieldOf at h
  refine zr_iload_n C 0 rfl (zdec_at dm_X7_fieldOf 0 rfl) rfl ?_
  by_cases g1_0 : a0 = 98
  · have h := h.1 g1_0
    refine zr_tsin C 0 (g1_0.trans (by decide)) zz_a0 (by decide) (zdec_at dm_X7_fieldOf 1 rfl) rfl rfl ?_
    refine zr_bipush C (zdec_at dm_X7_fieldOf 22 rfl) (by decide) ?_
    exact zr_ireturn C rfl (zdec_at dm_X7_fieldOf 23 rfl) rfl ⟨(by decide), h⟩
  · have h := h.2 g1_0
    by_cases g1_1 : a0 = 99
    · have h := h.1 g1_1
      refine zr_tsin C 1 (g1_1.trans (by decide)) zz_a0 (by decide) (zdec_at dm_X7_fieldOf 1 rfl) rfl rfl ?_
      refine zr_iconst C (zdec_at dm_X7_fieldOf 4 rfl) ?_
      exact zr_ireturn C rfl (zdec_at dm_X7_fieldOf 5 rfl) rfl ⟨(by decide), h⟩
    · have h := h.2 g1_1
      by_cases g1_2 : a0 = 100
      · have h := h.1 g1_2
        refine zr_tsin C 2 (g1_2.trans (by decide)) zz_a0 (by decide) (zdec_at dm_X7_fieldOf 1 rfl) rfl rfl ?_
        refine zr_bipush C (zdec_at dm_X7_fieldOf 18 rfl) (by decide) ?_
        exact zr_ireturn C rfl (zdec_at dm_X7_fieldOf 19 rfl) rfl ⟨(by decide), h⟩
      · have h := h.2 g1_2
        by_cases g1_3 : a0 = 101
        · have h := h.1 g1_3
          refine zr_tsin C 3 (g1_3.trans (by decide)) zz_a0 (by decide) (zdec_at dm_X7_fieldOf 1 rfl) rfl rfl ?_
          refine zr_iconst C (zdec_at dm_X7_fieldOf 26 rfl) ?_
          exact zr_ireturn C rfl (zdec_at dm_X7_fieldOf 27 rfl) rfl ⟨(by decide), h⟩
        · have h := h.2 g1_3
          by_cases g1_4 : a0 = 102
          · have h := h.1 g1_4
            refine zr_tsin C 4 (g1_4.trans (by decide)) zz_a0 (by decide) (zdec_at dm_X7_fieldOf 1 rfl) rfl rfl ?_
            refine zr_iconst C (zdec_at dm_X7_fieldOf 26 rfl) ?_
            exact zr_ireturn C rfl (zdec_at dm_X7_fieldOf 27 rfl) rfl ⟨(by decide), h⟩
          · have h := h.2 g1_4
            by_cases g1_5 : a0 = 103
            · have h := h.1 g1_5
              refine zr_tsin C 5 (g1_5.trans (by decide)) zz_a0 (by decide) (zdec_at dm_X7_fieldOf 1 rfl) rfl rfl ?_
              refine zr_bipush C (zdec_at dm_X7_fieldOf 20 rfl) (by decide) ?_
              exact zr_ireturn C rfl (zdec_at dm_X7_fieldOf 21 rfl) rfl ⟨(by decide), h⟩
            · have h := h.2 g1_5
              by_cases g1_6 : a0 = 104
              · have h := h.1 g1_6
                refine zr_tsin C 6 (g1_6.trans (by decide)) zz_a0 (by decide) (zdec_at dm_X7_fieldOf 1 rfl) rfl rfl ?_
                refine zr_bipush C (zdec_at dm_X7_fieldOf 14 rfl) (by decide) ?_
                exact zr_ireturn C rfl (zdec_at dm_X7_fieldOf 15 rfl) rfl ⟨(by decide), h⟩
              · have h := h.2 g1_6
                by_cases g1_7 : a0 = 105
                · have h := h.1 g1_7
                  refine zr_tsin C 7 (g1_7.trans (by decide)) zz_a0 (by decide) (zdec_at dm_X7_fieldOf 1 rfl) rfl rfl ?_
                  refine zr_iconst C (zdec_at dm_X7_fieldOf 26 rfl) ?_
                  exact zr_ireturn C rfl (zdec_at dm_X7_fieldOf 27 rfl) rfl ⟨(by decide), h⟩
                · have h := h.2 g1_7
                  by_cases g1_8 : a0 = 106
                  · have h := h.1 g1_8
                    refine zr_tsin C 8 (g1_8.trans (by decide)) zz_a0 (by decide) (zdec_at dm_X7_fieldOf 1 rfl) rfl rfl ?_
                    refine zr_iconst C (zdec_at dm_X7_fieldOf 26 rfl) ?_
                    exact zr_ireturn C rfl (zdec_at dm_X7_fieldOf 27 rfl) rfl ⟨(by decide), h⟩
                  · have h := h.2 g1_8
                    by_cases g1_9 : a0 = 107
                    · have h := h.1 g1_9
                      refine zr_tsin C 9 (g1_9.trans (by decide)) zz_a0 (by decide) (zdec_at dm_X7_fieldOf 1 rfl) rfl rfl ?_
                      refine zr_bipush C (zdec_at dm_X7_fieldOf 24 rfl) (by decide) ?_
                      exact zr_ireturn C rfl (zdec_at dm_X7_fieldOf 25 rfl) rfl ⟨(by decide), h⟩
                    · have h := h.2 g1_9
                      by_cases g1_10 : a0 = 108
                      · have h := h.1 g1_10
                        refine zr_tsin C 10 (g1_10.trans (by decide)) zz_a0 (by decide) (zdec_at dm_X7_fieldOf 1 rfl) rfl rfl ?_
                        refine zr_iconst C (zdec_at dm_X7_fieldOf 26 rfl) ?_
                        exact zr_ireturn C rfl (zdec_at dm_X7_fieldOf 27 rfl) rfl ⟨(by decide), h⟩
                      · have h := h.2 g1_10
                        by_cases g1_11 : a0 = 109
                        · have h := h.1 g1_11
                          refine zr_tsin C 11 (g1_11.trans (by decide)) zz_a0 (by decide) (zdec_at dm_X7_fieldOf 1 rfl) rfl rfl ?_
                          refine zr_iconst C (zdec_at dm_X7_fieldOf 26 rfl) ?_
                          exact zr_ireturn C rfl (zdec_at dm_X7_fieldOf 27 rfl) rfl ⟨(by decide), h⟩
                        · have h := h.2 g1_11
                          by_cases g1_12 : a0 = 110
                          · have h := h.1 g1_12
                            refine zr_tsin C 12 (g1_12.trans (by decide)) zz_a0 (by decide) (zdec_at dm_X7_fieldOf 1 rfl) rfl rfl ?_
                            refine zr_bipush C (zdec_at dm_X7_fieldOf 16 rfl) (by decide) ?_
                            exact zr_ireturn C rfl (zdec_at dm_X7_fieldOf 17 rfl) rfl ⟨(by decide), h⟩
                          · have h := h.2 g1_12
                            by_cases g1_13 : a0 = 111
                            · have h := h.1 g1_13
                              refine zr_tsin C 13 (g1_13.trans (by decide)) zz_a0 (by decide) (zdec_at dm_X7_fieldOf 1 rfl) rfl rfl ?_
                              refine zr_iconst C (zdec_at dm_X7_fieldOf 26 rfl) ?_
                              exact zr_ireturn C rfl (zdec_at dm_X7_fieldOf 27 rfl) rfl ⟨(by decide), h⟩
                            · have h := h.2 g1_13
                              by_cases g1_14 : a0 = 112
                              · have h := h.1 g1_14
                                refine zr_tsin C 14 (g1_14.trans (by decide)) zz_a0 (by decide) (zdec_at dm_X7_fieldOf 1 rfl) rfl rfl ?_
                                refine zr_iconst C (zdec_at dm_X7_fieldOf 26 rfl) ?_
                                exact zr_ireturn C rfl (zdec_at dm_X7_fieldOf 27 rfl) rfl ⟨(by decide), h⟩
                              · have h := h.2 g1_14
                                by_cases g1_15 : a0 = 113
                                · have h := h.1 g1_15
                                  refine zr_tsin C 15 (g1_15.trans (by decide)) zz_a0 (by decide) (zdec_at dm_X7_fieldOf 1 rfl) rfl rfl ?_
                                  refine zr_iconst C (zdec_at dm_X7_fieldOf 26 rfl) ?_
                                  exact zr_ireturn C rfl (zdec_at dm_X7_fieldOf 27 rfl) rfl ⟨(by decide), h⟩
                                · have h := h.2 g1_15
                                  by_cases g1_16 : a0 = 114
                                  · have h := h.1 g1_16
                                    refine zr_tsin C 16 (g1_16.trans (by decide)) zz_a0 (by decide) (zdec_at dm_X7_fieldOf 1 rfl) rfl rfl ?_
                                    refine zr_iconst C (zdec_at dm_X7_fieldOf 26 rfl) ?_
                                    exact zr_ireturn C rfl (zdec_at dm_X7_fieldOf 27 rfl) rfl ⟨(by decide), h⟩
                                  · have h := h.2 g1_16
                                    by_cases g1_17 : a0 = 115
                                    · have h := h.1 g1_17
                                      refine zr_tsin C 17 (g1_17.trans (by decide)) zz_a0 (by decide) (zdec_at dm_X7_fieldOf 1 rfl) rfl rfl ?_
                                      refine zr_iconst C (zdec_at dm_X7_fieldOf 2 rfl) ?_
                                      exact zr_ireturn C rfl (zdec_at dm_X7_fieldOf 3 rfl) rfl ⟨(by decide), h⟩
                                    · have h := h.2 g1_17
                                      by_cases g1_18 : a0 = 116
                                      · have h := h.1 g1_18
                                        refine zr_tsin C 18 (g1_18.trans (by decide)) zz_a0 (by decide) (zdec_at dm_X7_fieldOf 1 rfl) rfl rfl ?_
                                        refine zr_bipush C (zdec_at dm_X7_fieldOf 12 rfl) (by decide) ?_
                                        exact zr_ireturn C rfl (zdec_at dm_X7_fieldOf 13 rfl) rfl ⟨(by decide), h⟩
                                      · have h := h.2 g1_18
                                        by_cases g1_19 : a0 = 117
                                        · have h := h.1 g1_19
                                          refine zr_tsin C 19 (g1_19.trans (by decide)) zz_a0 (by decide) (zdec_at dm_X7_fieldOf 1 rfl) rfl rfl ?_
                                          refine zr_iconst C (zdec_at dm_X7_fieldOf 26 rfl) ?_
                                          exact zr_ireturn C rfl (zdec_at dm_X7_fieldOf 27 rfl) rfl ⟨(by decide), h⟩
                                        · have h := h.2 g1_19
                                          by_cases g1_20 : a0 = 118
                                          · have h := h.1 g1_20
                                            refine zr_tsin C 20 (g1_20.trans (by decide)) zz_a0 (by decide) (zdec_at dm_X7_fieldOf 1 rfl) rfl rfl ?_
                                            refine zr_iconst C (zdec_at dm_X7_fieldOf 26 rfl) ?_
                                            exact zr_ireturn C rfl (zdec_at dm_X7_fieldOf 27 rfl) rfl ⟨(by decide), h⟩
                                          · have h := h.2 g1_20
                                            by_cases g1_21 : a0 = 119
                                            · have h := h.1 g1_21
                                              refine zr_tsin C 21 (g1_21.trans (by decide)) zz_a0 (by decide) (zdec_at dm_X7_fieldOf 1 rfl) rfl rfl ?_
                                              refine zr_iconst C (zdec_at dm_X7_fieldOf 10 rfl) ?_
                                              exact zr_ireturn C rfl (zdec_at dm_X7_fieldOf 11 rfl) rfl ⟨(by decide), h⟩
                                            · have h := h.2 g1_21
                                              by_cases g1_22 : a0 = 120
                                              · have h := h.1 g1_22
                                                refine zr_tsin C 22 (g1_22.trans (by decide)) zz_a0 (by decide) (zdec_at dm_X7_fieldOf 1 rfl) rfl rfl ?_
                                                refine zr_iconst C (zdec_at dm_X7_fieldOf 6 rfl) ?_
                                                exact zr_ireturn C rfl (zdec_at dm_X7_fieldOf 7 rfl) rfl ⟨(by decide), h⟩
                                              · have h := h.2 g1_22
                                                by_cases g1_23 : a0 = 121
                                                · have h := h.1 g1_23
                                                  refine zr_tsin C 23 (g1_23.trans (by decide)) zz_a0 (by decide) (zdec_at dm_X7_fieldOf 1 rfl) rfl rfl ?_
                                                  refine zr_iconst C (zdec_at dm_X7_fieldOf 8 rfl) ?_
                                                  exact zr_ireturn C rfl (zdec_at dm_X7_fieldOf 9 rfl) rfl ⟨(by decide), h⟩
                                                · have h := h.2 g1_23
                                                  refine zr_tsout C (zts_s 122 (zts_s 121 (zts_s 120 (zts_s 119 (zts_s 118 (zts_s 117 (zts_s 116 (zts_s 115 (zts_s 114 (zts_s 113 (zts_s 112 (zts_s 111 (zts_s 110 (zts_s 109 (zts_s 108 (zts_s 107 (zts_s 106 (zts_s 105 (zts_s 104 (zts_s 103 (zts_s 102 (zts_s 101 (zts_s 100 (zts_s 99 (zts_0 a0 98) g1_0) g1_1) g1_2) g1_3) g1_4) g1_5) g1_6) g1_7) g1_8) g1_9) g1_10) g1_11) g1_12) g1_13) g1_14) g1_15) g1_16) g1_17) g1_18) g1_19) g1_20) g1_21) g1_22) g1_23) zz_a0 (zdec_at dm_X7_fieldOf 1 rfl) rfl ?_
                                                  refine zr_iconst C (zdec_at dm_X7_fieldOf 26 rfl) ?_
                                                  exact zr_ireturn C rfl (zdec_at dm_X7_fieldOf 27 rfl) rfl ⟨(by decide), h⟩

set_option maxHeartbeats 400000 in
set_option maxRecDepth 100000 in
theorem sn_X3_forget : zSnd zS 145 0 0 yX3_forget cX3_forget 1 none 0 [2] (fun xs P M => xs = [77] ∧ vc_X3_forget P M) := by
  refine zSnd.of rfl (fun ad xs hz => Nat.le_trans (Nat.le_of_eq (zlen ad _ xs hz)) (by decide)) ?_
  intro Γ C _ _ xs M hz hF
  obtain ⟨rfl, h⟩ := hF
  refine zr_rng (fun hR => ?_)
  have C : zC Γ mu_X3_forget := C
  change zV Γ mu_X3_forget (145, 0, 0) 0 [(0, zRf (zad Γ) 77)] [] M
  change vc_X3_forget _ M at h
  unfold vc_X3_forget at h
  refine zr_aload_n C 0 rfl (zdec_at dm_X3_forget 0 rfl) rfl ?_
  refine zr_iconst C (zdec_at dm_X3_forget 1 rfl) ?_
  refine zr_puti C fk_RX3_16 fi_77_0 (by decide) (zdec_at dm_X3_forget 2 rfl) (fun M1 e2 => ?_)
  have h := h M1 e2
  have hR3 : zRng M1 := by rw [e2]; exact hR.set (by decide) _ _
  refine zr_aload_n C 0 rfl (zdec_at dm_X3_forget 3 rfl) rfl ?_
  refine zr_iconst C (zdec_at dm_X3_forget 4 rfl) ?_
  refine zr_puti C fk_RX3_20 fi_77_1 (by decide) (zdec_at dm_X3_forget 5 rfl) (fun M4 e5 => ?_)
  have h := h M4 e5
  have hR6 : zRng M4 := by rw [e5]; exact hR3.set (by decide) _ _
  exact zr_return C rfl rfl (zdec_at dm_X3_forget 6 rfl) rfl ⟨by decide, h⟩

set_option maxHeartbeats 400000 in
set_option maxRecDepth 100000 in
theorem sn_X3_canUndo : zSnd zS 145 0 0 yX3_canUndo cX3_canUndo 1 (some .boolean) 0 [2] (fun xs P M => xs = [77] ∧ vc_X3_canUndo P M) := by
  refine zSnd.of rfl (fun ad xs hz => Nat.le_trans (Nat.le_of_eq (zlen ad _ xs hz)) (by decide)) ?_
  intro Γ C _ _ xs M hz hF
  obtain ⟨rfl, h⟩ := hF
  refine zr_rng (fun hR => ?_)
  have C : zC Γ mu_X3_canUndo := C
  change zV Γ mu_X3_canUndo (145, 0, 0) 0 [(0, zRf (zad Γ) 77)] [] M
  change vc_X3_canUndo _ M at h
  unfold vc_X3_canUndo at h
  refine zr_aload_n C 0 rfl (zdec_at dm_X3_canUndo 0 rfl) rfl ?_
  refine zr_geti C fk_RX3_16 fi_77_0 (zdec_at dm_X3_canUndo 1 rfl) ?_
  refine zr_if_le C (hR _ _) (zdec_at dm_X3_canUndo 2 rfl) rfl (fun g1 => ?_) (fun g1 => ?_)
  · have h := h.1 g1
    refine zr_iconst C (zdec_at dm_X3_canUndo 5 rfl) ?_
    exact zr_zreturn C rfl (by decide) (zdec_at dm_X3_canUndo 6 rfl) rfl ⟨(by decide), h⟩
  · have h := h.2 g1
    refine zr_iconst C (zdec_at dm_X3_canUndo 3 rfl) ?_
    refine zr_goto C (zdec_at dm_X3_canUndo 4 rfl) rfl ?_
    exact zr_zreturn C rfl (by decide) (zdec_at dm_X3_canUndo 6 rfl) rfl ⟨(by decide), h⟩

set_option maxHeartbeats 400000 in
set_option maxRecDepth 100000 in
theorem sn_X3_canRedo : zSnd zS 145 0 0 yX3_canRedo cX3_canRedo 1 (some .boolean) 0 [2] (fun xs P M => xs = [77] ∧ vc_X3_canRedo P M) := by
  refine zSnd.of rfl (fun ad xs hz => Nat.le_trans (Nat.le_of_eq (zlen ad _ xs hz)) (by decide)) ?_
  intro Γ C _ _ xs M hz hF
  obtain ⟨rfl, h⟩ := hF
  refine zr_rng (fun hR => ?_)
  have C : zC Γ mu_X3_canRedo := C
  change zV Γ mu_X3_canRedo (145, 0, 0) 0 [(0, zRf (zad Γ) 77)] [] M
  change vc_X3_canRedo _ M at h
  unfold vc_X3_canRedo at h
  refine zr_aload_n C 0 rfl (zdec_at dm_X3_canRedo 0 rfl) rfl ?_
  refine zr_geti C fk_RX3_20 fi_77_1 (zdec_at dm_X3_canRedo 1 rfl) ?_
  refine zr_if_le C (hR _ _) (zdec_at dm_X3_canRedo 2 rfl) rfl (fun g1 => ?_) (fun g1 => ?_)
  · have h := h.1 g1
    refine zr_iconst C (zdec_at dm_X3_canRedo 5 rfl) ?_
    exact zr_zreturn C rfl (by decide) (zdec_at dm_X3_canRedo 6 rfl) rfl ⟨(by decide), h⟩
  · have h := h.2 g1
    refine zr_iconst C (zdec_at dm_X3_canRedo 3 rfl) ?_
    refine zr_goto C (zdec_at dm_X3_canRedo 4 rfl) rfl ?_
    exact zr_zreturn C rfl (by decide) (zdec_at dm_X3_canRedo 6 rfl) rfl ⟨(by decide), h⟩

set_option maxHeartbeats 400000 in
set_option maxRecDepth 100000 in
theorem sn_X3_remember : zSnd zS 145 0 0 yX3_remember cX3_remember 2 none 1 [2, 2] (fun xs P M => xs = [77, 2] ∧ vc_X3_remember P M) := by
  refine zSnd.of rfl (fun ad xs hz => Nat.le_trans (Nat.le_of_eq (zlen ad _ xs hz)) (by decide)) ?_
  intro Γ C _ _ xs M hz hF
  obtain ⟨rfl, h⟩ := hF
  refine zr_rng (fun hR => ?_)
  have C : zC Γ mu_X3_remember := C
  change zV Γ mu_X3_remember (145, 0, 0) 0 [(0, zRf (zad Γ) 77), (1, zRf (zad Γ) 2)] [] M
  change vc_X3_remember _ M at h
  unfold vc_X3_remember at h
  refine zr_aload_n C 0 rfl (zdec_at dm_X3_remember 0 rfl) rfl ?_
  refine zr_geti C fk_RX3_16 fi_77_0 (zdec_at dm_X3_remember 1 rfl) ?_
  refine zr_bipush C (zdec_at dm_X3_remember 2 rfl) (by decide) ?_
  have h := h (fun M1 => zRng M1 → zV Γ mu_X3_remember (145, 0, 0) 32 [(0, zRf (zad Γ) 77), (1, zRf (zad Γ) 2)] [] M1) (fun M1 h hR2 => by
    have h := h hR2
    refine zr_aload_n C 1 rfl (zdec_at dm_X3_remember 18 rfl) rfl ?_
    refine zr_iconst C (zdec_at dm_X3_remember 19 rfl) ?_
    refine zr_aload_n C 0 rfl (zdec_at dm_X3_remember 20 rfl) rfl ?_
    refine zr_getr (q := 78) C fk_RX3_13 fi_77_3 (zdec_at dm_X3_remember 21 rfl) ?_
    refine zr_aload_n C 0 rfl (zdec_at dm_X3_remember 22 rfl) rfl ?_
    refine zr_geti C fk_RX3_23 fi_77_2 (zdec_at dm_X3_remember 23 rfl) ?_
    refine zr_aload_n C 0 rfl (zdec_at dm_X3_remember 24 rfl) rfl ?_
    refine zr_geti C fk_RX3_16 fi_77_0 (zdec_at dm_X3_remember 25 rfl) ?_
    refine zr_iadd C (zdec_at dm_X3_remember 26 rfl) ?_
    refine zr_bipush C (zdec_at dm_X3_remember 27 rfl) (by decide) ?_
    obtain ⟨o3, h⟩ := h
    obtain ⟨o4, h⟩ := h
    refine zr_irem C o3 (by decide) ⟨o4, by decide⟩ (zdec_at dm_X3_remember 28 rfl) ?_
    obtain ⟨o5, h⟩ := h
    refine zr_aald (q := (79 + (((M1 77 2) + (M1 77 0)) % 20))) C (by decide) ai_78 o5 (zrow_dc o5) (zdec_at dm_X3_remember 29 rfl) ?_
    refine zr_iconst C (zdec_at dm_X3_remember 30 rfl) ?_
    refine zr_sipush C (zdec_at dm_X3_remember 31 rfl) (by decide) ?_
    obtain ⟨o7, h⟩ := h
    refine zr_copy C (by decide) ai_2 (zrow_d o5) (by decide) (fun _ => o7) rfl (by decide) kw_copy_RX3_26 kw_cnat kw_cstat kw_cini (zdec_at dm_X3_remember 32 rfl) (fun M8 e9 => ?_)
    have h := h M8 e9
    have hR10 : zRng M8 := by rw [e9]; exact hR2.cpy _ _ _ _ _
    refine zr_aload_n C 0 rfl (zdec_at dm_X3_remember 33 rfl) rfl ?_
    refine zr_dup C rfl (zdec_at dm_X3_remember 34 rfl) ?_
    refine zr_geti C fk_RX3_16 fi_77_0 (zdec_at dm_X3_remember 35 rfl) ?_
    refine zr_iconst C (zdec_at dm_X3_remember 36 rfl) ?_
    refine zr_iadd C (zdec_at dm_X3_remember 37 rfl) ?_
    obtain ⟨o11, h⟩ := h
    refine zr_puti C fk_RX3_16 fi_77_0 o11 (zdec_at dm_X3_remember 38 rfl) (fun M12 e13 => ?_)
    have h := h M12 e13
    have hR14 : zRng M12 := by rw [e13]; exact hR10.set o11 _ _
    refine zr_aload_n C 0 rfl (zdec_at dm_X3_remember 39 rfl) rfl ?_
    refine zr_iconst C (zdec_at dm_X3_remember 40 rfl) ?_
    refine zr_puti C fk_RX3_20 fi_77_1 (by decide) (zdec_at dm_X3_remember 41 rfl) (fun M15 e16 => ?_)
    have h := h M15 e16
    have hR17 : zRng M15 := by rw [e16]; exact hR14.set (by decide) _ _
    exact zr_return C rfl rfl (zdec_at dm_X3_remember 42 rfl) rfl ⟨by decide, h⟩)
  refine zr_icmp_ne C (hR _ _) (by decide) (zdec_at dm_X3_remember 3 rfl) rfl (fun g18 => ?_) (fun g18 => ?_)
  · have h := h.1 g18
    exact zr_sub [0, 1] rfl (h hR)
  · have h := h.2 g18
    refine zr_aload_n C 0 rfl (zdec_at dm_X3_remember 4 rfl) rfl ?_
    refine zr_aload_n C 0 rfl (zdec_at dm_X3_remember 5 rfl) rfl ?_
    refine zr_geti C fk_RX3_23 fi_77_2 (zdec_at dm_X3_remember 6 rfl) ?_
    refine zr_iconst C (zdec_at dm_X3_remember 7 rfl) ?_
    refine zr_iadd C (zdec_at dm_X3_remember 8 rfl) ?_
    refine zr_bipush C (zdec_at dm_X3_remember 9 rfl) (by decide) ?_
    obtain ⟨o19, h⟩ := h
    obtain ⟨o20, h⟩ := h
    refine zr_irem C o19 (by decide) ⟨o20, by decide⟩ (zdec_at dm_X3_remember 10 rfl) ?_
    refine zr_puti C fk_RX3_23 fi_77_2 (z_rz (a := ((M 77 2) + 1)) (b := 20) ⟨o20, by decide⟩ (by decide)) (zdec_at dm_X3_remember 11 rfl) (fun M21 e22 => ?_)
    have h := h M21 e22
    have hR23 : zRng M21 := by rw [e22]; exact hR.set (z_rz (a := ((M 77 2) + 1)) (b := 20) ⟨o20, by decide⟩ (by decide)) _ _
    refine zr_aload_n C 0 rfl (zdec_at dm_X3_remember 12 rfl) rfl ?_
    refine zr_dup C rfl (zdec_at dm_X3_remember 13 rfl) ?_
    refine zr_geti C fk_RX3_16 fi_77_0 (zdec_at dm_X3_remember 14 rfl) ?_
    refine zr_iconst C (zdec_at dm_X3_remember 15 rfl) ?_
    refine zr_isub C (zdec_at dm_X3_remember 16 rfl) ?_
    obtain ⟨o24, h⟩ := h
    refine zr_puti C fk_RX3_16 fi_77_0 o24 (zdec_at dm_X3_remember 17 rfl) (fun M25 e26 => ?_)
    have h := h M25 e26
    have hR27 : zRng M25 := by rw [e26]; exact hR23.set o24 _ _
    exact zr_sub [0, 1] rfl (h hR27)

set_option maxHeartbeats 400000 in
set_option maxRecDepth 100000 in
theorem sn_X3_stepBack {pr_X3_exchange : Int → zM → Prop} {po_X3_exchange : Int → zM → Int → zM → Prop} (hS_X3_exchange : zSnd zS 145 0 0 yX3_exchange cX3_exchange 3 (some .int) 2 [2, 2, 0] (F_X3_exchange pr_X3_exchange po_X3_exchange)) : zSnd zS 145 0 0 yX3_stepBack cX3_stepBack 2 (some .int) 3 [2, 2] (fun xs P M => xs = [77, 1] ∧ vc_X3_stepBack pr_X3_exchange po_X3_exchange P M) := by
  refine zSnd.of rfl (fun ad xs hz => Nat.le_trans (Nat.le_of_eq (zlen ad _ xs hz)) (by decide)) ?_
  intro Γ C _ _ xs M hz hF
  obtain ⟨rfl, h⟩ := hF
  refine zr_rng (fun hR => ?_)
  have C : zC Γ mu_X3_stepBack := C
  change zV Γ mu_X3_stepBack (145, 0, 0) 0 [(0, zRf (zad Γ) 77), (1, zRf (zad Γ) 1)] [] M
  change vc_X3_stepBack pr_X3_exchange po_X3_exchange _ M at h
  unfold vc_X3_stepBack at h
  refine zr_aload_n C 0 rfl (zdec_at dm_X3_stepBack 0 rfl) rfl ?_
  refine zr_dup C rfl (zdec_at dm_X3_stepBack 1 rfl) ?_
  refine zr_geti C fk_RX3_16 fi_77_0 (zdec_at dm_X3_stepBack 2 rfl) ?_
  refine zr_iconst C (zdec_at dm_X3_stepBack 3 rfl) ?_
  refine zr_isub C (zdec_at dm_X3_stepBack 4 rfl) ?_
  obtain ⟨o1, h⟩ := h
  refine zr_puti C fk_RX3_16 fi_77_0 o1 (zdec_at dm_X3_stepBack 5 rfl) (fun M2 e3 => ?_)
  have h := h M2 e3
  have hR4 : zRng M2 := by rw [e3]; exact hR.set o1 _ _
  refine zr_aload_n C 0 rfl (zdec_at dm_X3_stepBack 6 rfl) rfl ?_
  refine zr_dup C rfl (zdec_at dm_X3_stepBack 7 rfl) ?_
  refine zr_geti C fk_RX3_20 fi_77_1 (zdec_at dm_X3_stepBack 8 rfl) ?_
  refine zr_iconst C (zdec_at dm_X3_stepBack 9 rfl) ?_
  refine zr_iadd C (zdec_at dm_X3_stepBack 10 rfl) ?_
  obtain ⟨o5, h⟩ := h
  refine zr_puti C fk_RX3_20 fi_77_1 o5 (zdec_at dm_X3_stepBack 11 rfl) (fun M6 e7 => ?_)
  have h := h M6 e7
  have hR8 : zRng M6 := by rw [e7]; exact hR4.set o5 _ _
  refine zr_aload_n C 0 rfl (zdec_at dm_X3_stepBack 12 rfl) rfl ?_
  refine zr_aload_n C 1 rfl (zdec_at dm_X3_stepBack 13 rfl) rfl ?_
  refine zr_aload_n C 0 rfl (zdec_at dm_X3_stepBack 14 rfl) rfl ?_
  refine zr_geti C fk_RX3_23 fi_77_2 (zdec_at dm_X3_stepBack 15 rfl) ?_
  refine zr_aload_n C 0 rfl (zdec_at dm_X3_stepBack 16 rfl) rfl ?_
  refine zr_geti C fk_RX3_16 fi_77_0 (zdec_at dm_X3_stepBack 17 rfl) ?_
  refine zr_iadd C (zdec_at dm_X3_stepBack 18 rfl) ?_
  refine zr_bipush C (zdec_at dm_X3_stepBack 19 rfl) (by decide) ?_
  obtain ⟨o9, h⟩ := h
  obtain ⟨o10, h⟩ := h
  refine zr_irem C o9 (by decide) ⟨o10, by decide⟩ (zdec_at dm_X3_stepBack 20 rfl) ?_
  obtain ⟨g16, h⟩ := h
  refine zr_callV C [1, (((M6 77 2) + (M6 77 0)) % 20)] hS_X3_exchange ck_RX3_32 iv_X3_exchange vc_X3 oc_77 rfl rfl (zdec_at dm_X3_stepBack 21 rfl) ⟨rfl, rfl, rfl, rfl⟩ ⟨by decide, by decide⟩ (Nat.le_of_ble_eq_true rfl) (zall_2 (zall_0 (z_rz (a := ((M6 77 2) + (M6 77 0))) (b := 20) ⟨o10, by decide⟩ (by decide)) zall_n)) ?_
  refine ⟨_, rfl, g16, fun r11 M12 p15 z14 hR13 => ?_⟩
  have h := h r11 M12 p15 z14 hR13
  show zV Γ mu_X3_stepBack (145, 0, 0) 37 [(0, zRf (zad Γ) 77), (1, zRf (zad Γ) 1)] [zI r11] M12
  exact zr_ireturn C rfl (zdec_at dm_X3_stepBack 22 rfl) rfl ⟨z14, h⟩

set_option maxHeartbeats 400000 in
set_option maxRecDepth 100000 in
theorem sn_X3_stepForth {pr_X3_exchange : Int → zM → Prop} {po_X3_exchange : Int → zM → Int → zM → Prop} (hS_X3_exchange : zSnd zS 145 0 0 yX3_exchange cX3_exchange 3 (some .int) 2 [2, 2, 0] (F_X3_exchange pr_X3_exchange po_X3_exchange)) : zSnd zS 145 0 0 yX3_stepForth cX3_stepForth 3 (some .int) 3 [2, 2] (fun xs P M => xs = [77, 1] ∧ vc_X3_stepForth pr_X3_exchange po_X3_exchange P M) := by
  refine zSnd.of rfl (fun ad xs hz => Nat.le_trans (Nat.le_of_eq (zlen ad _ xs hz)) (by decide)) ?_
  intro Γ C _ _ xs M hz hF
  obtain ⟨rfl, h⟩ := hF
  refine zr_rng (fun hR => ?_)
  have C : zC Γ mu_X3_stepForth := C
  change zV Γ mu_X3_stepForth (145, 0, 0) 0 [(0, zRf (zad Γ) 77), (1, zRf (zad Γ) 1)] [] M
  change vc_X3_stepForth pr_X3_exchange po_X3_exchange _ M at h
  unfold vc_X3_stepForth at h
  refine zr_aload_n C 0 rfl (zdec_at dm_X3_stepForth 0 rfl) rfl ?_
  refine zr_aload_n C 1 rfl (zdec_at dm_X3_stepForth 1 rfl) rfl ?_
  refine zr_aload_n C 0 rfl (zdec_at dm_X3_stepForth 2 rfl) rfl ?_
  refine zr_geti C fk_RX3_23 fi_77_2 (zdec_at dm_X3_stepForth 3 rfl) ?_
  refine zr_aload_n C 0 rfl (zdec_at dm_X3_stepForth 4 rfl) rfl ?_
  refine zr_geti C fk_RX3_16 fi_77_0 (zdec_at dm_X3_stepForth 5 rfl) ?_
  refine zr_iadd C (zdec_at dm_X3_stepForth 6 rfl) ?_
  refine zr_bipush C (zdec_at dm_X3_stepForth 7 rfl) (by decide) ?_
  obtain ⟨o1, h⟩ := h
  obtain ⟨o2, h⟩ := h
  refine zr_irem C o1 (by decide) ⟨o2, by decide⟩ (zdec_at dm_X3_stepForth 8 rfl) ?_
  obtain ⟨g8, h⟩ := h
  refine zr_callV C [1, (((M 77 2) + (M 77 0)) % 20)] hS_X3_exchange ck_RX3_32 iv_X3_exchange vc_X3 oc_77 rfl rfl (zdec_at dm_X3_stepForth 9 rfl) ⟨rfl, rfl, rfl, rfl⟩ ⟨by decide, by decide⟩ (Nat.le_of_ble_eq_true rfl) (zall_2 (zall_0 (z_rz (a := ((M 77 2) + (M 77 0))) (b := 20) ⟨o2, by decide⟩ (by decide)) zall_n)) ?_
  refine ⟨_, rfl, g8, fun r3 M4 p7 z6 hR5 => ?_⟩
  have h := h r3 M4 p7 z6 hR5
  show zV Γ mu_X3_stepForth (145, 0, 0) 17 [(0, zRf (zad Γ) 77), (1, zRf (zad Γ) 1)] [zI r3] M4
  refine zr_istore_n (L1 := [(2, zI r3), (0, zRf (zad Γ) 77), (1, zRf (zad Γ) 1)]) C (zdec_at dm_X3_stepForth 10 rfl) rfl (Nat.le_of_ble_eq_true rfl) rfl ?_
  refine zr_aload_n C 1 rfl (zdec_at dm_X3_stepForth 11 rfl) rfl ?_
  refine zr_dup C rfl (zdec_at dm_X3_stepForth 12 rfl) ?_
  refine zr_geti C fk_RX3_16 fi_77_0 (zdec_at dm_X3_stepForth 13 rfl) ?_
  refine zr_iconst C (zdec_at dm_X3_stepForth 14 rfl) ?_
  refine zr_iadd C (zdec_at dm_X3_stepForth 15 rfl) ?_
  obtain ⟨o9, h⟩ := h
  refine zr_puti C fk_RX3_16 fi_77_0 o9 (zdec_at dm_X3_stepForth 16 rfl) (fun M10 e11 => ?_)
  have h := h M10 e11
  have hR12 : zRng M10 := by rw [e11]; exact hR5.set o9 _ _
  refine zr_aload_n C 1 rfl (zdec_at dm_X3_stepForth 17 rfl) rfl ?_
  refine zr_dup C rfl (zdec_at dm_X3_stepForth 18 rfl) ?_
  refine zr_geti C fk_RX3_20 fi_77_1 (zdec_at dm_X3_stepForth 19 rfl) ?_
  refine zr_iconst C (zdec_at dm_X3_stepForth 20 rfl) ?_
  refine zr_isub C (zdec_at dm_X3_stepForth 21 rfl) ?_
  obtain ⟨o13, h⟩ := h
  refine zr_puti C fk_RX3_20 fi_77_1 o13 (zdec_at dm_X3_stepForth 22 rfl) (fun M14 e15 => ?_)
  have h := h M14 e15
  have hR16 : zRng M14 := by rw [e15]; exact hR12.set o13 _ _
  refine zr_iload_n C 0 rfl (zdec_at dm_X3_stepForth 23 rfl) rfl ?_
  exact zr_ireturn C rfl (zdec_at dm_X3_stepForth 24 rfl) rfl ⟨z6, h⟩

set_option maxHeartbeats 400000 in
set_option maxRecDepth 100000 in
theorem sn_X3_exchange {pr_X0_startDraft : zM → Prop} {po_X0_startDraft : zM → zM → Prop} {pr_X0_countDraftChanges : zM → Prop} {po_X0_countDraftChanges : zM → Int → zM → Prop} (hS_X0_startDraft : zSnd zS 145 0 0 yX0_startDraft cX0_startDraft 1 none 1 [2] (F_X0_startDraft pr_X0_startDraft po_X0_startDraft)) (hS_X0_countDraftChanges : zSnd zS 145 0 0 yX0_countDraftChanges cX0_countDraftChanges 3 (some .int) 0 [2] (F_X0_countDraftChanges pr_X0_countDraftChanges po_X0_countDraftChanges)) : zSnd zS 145 0 0 yX3_exchange cX3_exchange 3 (some .int) 2 [2, 2, 0] (fun xs P M => ∃ a2 : Int, xs = [77, 1, a2] ∧ vc_X3_exchange pr_X0_startDraft po_X0_startDraft pr_X0_countDraftChanges po_X0_countDraftChanges a2 P M) := by
  refine zSnd.of rfl (fun ad xs hz => Nat.le_trans (Nat.le_of_eq (zlen ad _ xs hz)) (by decide)) ?_
  intro Γ C _ _ xs M hz hF
  obtain ⟨a2, rfl, h⟩ := hF
  have zz_a2 := zall_h (zall_t (zall_t hz)) (by decide)
  refine zr_rng (fun hR => ?_)
  have C : zC Γ mu_X3_exchange := C
  change zV Γ mu_X3_exchange (145, 0, 0) 0 [(0, zRf (zad Γ) 77), (1, zRf (zad Γ) 1), (2, zI a2)] [] M
  change vc_X3_exchange pr_X0_startDraft po_X0_startDraft pr_X0_countDraftChanges po_X0_countDraftChanges a2 _ M at h
  unfold vc_X3_exchange at h
  refine zr_aload_n C 1 rfl (zdec_at dm_X3_exchange 0 rfl) rfl ?_
  obtain ⟨g5, h⟩ := h
  refine zr_callV C [] hS_X0_startDraft ck_RX3_36 iv_X0_startDraft vc_X0 oc_1 rfl rfl (zdec_at dm_X3_exchange 1 rfl) ⟨rfl, rfl, rfl, rfl⟩ ⟨by decide, by decide⟩ (Nat.le_of_ble_eq_true rfl) zall_n ?_
  refine ⟨rfl, g5, fun M1 p4 _ hR2 => ?_⟩
  have h := h M1 p4 hR2
  show zV Γ mu_X3_exchange (145, 0, 0) 4 [(0, zRf (zad Γ) 77), (1, zRf (zad Γ) 1), (2, zI a2)] [] M1
  refine zr_aload_n C 0 rfl (zdec_at dm_X3_exchange 2 rfl) rfl ?_
  refine zr_getr (q := 78) C fk_RX3_13 fi_77_3 (zdec_at dm_X3_exchange 3 rfl) ?_
  refine zr_iload_n C 2 rfl (zdec_at dm_X3_exchange 4 rfl) rfl ?_
  obtain ⟨o6, h⟩ := h
  refine zr_aald (q := (79 + a2)) C (by decide) ai_78 o6 (zrow_dc o6) (zdec_at dm_X3_exchange 5 rfl) ?_
  refine zr_iconst C (zdec_at dm_X3_exchange 6 rfl) ?_
  refine zr_aload_n C 1 rfl (zdec_at dm_X3_exchange 7 rfl) rfl ?_
  refine zr_getr (q := 2) C fk_RX3_41 fi_1_4 (zdec_at dm_X3_exchange 8 rfl) ?_
  refine zr_iconst C (zdec_at dm_X3_exchange 9 rfl) ?_
  refine zr_sipush C (zdec_at dm_X3_exchange 10 rfl) (by decide) ?_
  obtain ⟨o8, h⟩ := h
  refine zr_copy C (by decide) (zrow_d o6) ai_2 (by decide) (fun _ => o8) rfl (by decide) kw_copy_RX3_26 kw_cnat kw_cstat kw_cini (zdec_at dm_X3_exchange 11 rfl) (fun M9 e10 => ?_)
  have h := h M9 e10
  have hR11 : zRng M9 := by rw [e10]; exact hR2.cpy _ _ _ _ _
  refine zr_aload_n C 1 rfl (zdec_at dm_X3_exchange 12 rfl) rfl ?_
  refine zr_getr (q := 4) C fk_RX3_45 fi_1_6 (zdec_at dm_X3_exchange 13 rfl) ?_
  refine zr_iconst C (zdec_at dm_X3_exchange 14 rfl) ?_
  refine zr_aload_n C 0 rfl (zdec_at dm_X3_exchange 15 rfl) rfl ?_
  refine zr_getr (q := 78) C fk_RX3_13 fi_77_3 (zdec_at dm_X3_exchange 16 rfl) ?_
  refine zr_iload_n C 2 rfl (zdec_at dm_X3_exchange 17 rfl) rfl ?_
  refine zr_aald (q := (79 + a2)) C (by decide) ai_78 o6 (zrow_dc o6) (zdec_at dm_X3_exchange 18 rfl) ?_
  refine zr_iconst C (zdec_at dm_X3_exchange 19 rfl) ?_
  refine zr_sipush C (zdec_at dm_X3_exchange 20 rfl) (by decide) ?_
  obtain ⟨o13, h⟩ := h
  refine zr_copy C (by decide) ai_4 (zrow_d o6) (by decide) (fun _ => o13) rfl (by decide) kw_copy_RX3_26 kw_cnat kw_cstat kw_cini (zdec_at dm_X3_exchange 21 rfl) (fun M14 e15 => ?_)
  have h := h M14 e15
  have hR16 : zRng M14 := by rw [e15]; exact hR11.cpy _ _ _ _ _
  refine zr_aload_n C 1 rfl (zdec_at dm_X3_exchange 22 rfl) rfl ?_
  refine zr_dup C rfl (zdec_at dm_X3_exchange 23 rfl) ?_
  refine zr_geti C fk_RX3_48 fi_1_3 (zdec_at dm_X3_exchange 24 rfl) ?_
  refine zr_iconst C (zdec_at dm_X3_exchange 25 rfl) ?_
  refine zr_iadd C (zdec_at dm_X3_exchange 26 rfl) ?_
  obtain ⟨o17, h⟩ := h
  refine zr_puti C fk_RX3_48 fi_1_3 o17 (zdec_at dm_X3_exchange 27 rfl) (fun M18 e19 => ?_)
  have h := h M18 e19
  have hR20 : zRng M18 := by rw [e19]; exact hR16.set o17 _ _
  refine zr_aload_n C 1 rfl (zdec_at dm_X3_exchange 28 rfl) rfl ?_
  obtain ⟨g26, h⟩ := h
  refine zr_callV C [] hS_X0_countDraftChanges ck_RX3_51 iv_X0_countDraftChanges vc_X0 oc_1 rfl rfl (zdec_at dm_X3_exchange 29 rfl) ⟨rfl, rfl, rfl, rfl⟩ ⟨by decide, by decide⟩ (Nat.le_of_ble_eq_true rfl) zall_n ?_
  refine ⟨rfl, g26, fun r21 M22 p25 z24 hR23 => ?_⟩
  have h := h r21 M22 p25 z24 hR23
  show zV Γ mu_X3_exchange (145, 0, 0) 54 [(0, zRf (zad Γ) 77), (1, zRf (zad Γ) 1), (2, zI a2)] [zI r21] M22
  exact zr_ireturn C rfl (zdec_at dm_X3_exchange 30 rfl) rfl ⟨z24, h⟩

set_option maxHeartbeats 400000 in
set_option maxRecDepth 100000 in
theorem sn_X10_empty : zSnd zS 145 0 0 yX10_empty cX10_empty 1 none 0 [2] (fun xs P M => ∃ a0 : Int, xs = [a0] ∧ vc_X10_empty a0 P M) := by
  refine zSnd.of rfl (fun ad xs hz => Nat.le_trans (Nat.le_of_eq (zlen ad _ xs hz)) (by decide)) ?_
  intro Γ C _ _ xs M hz hF
  obtain ⟨a0, rfl, h⟩ := hF
  refine zr_rng (fun hR => ?_)
  have C : zC Γ mu_X10_empty := C
  change zV Γ mu_X10_empty (145, 0, 0) 0 [(0, zRf (zad Γ) a0)] [] M
  change vc_X10_empty a0 _ M at h
  unfold vc_X10_empty at h
  refine zr_aload_n C 0 rfl (zdec_at dm_X10_empty 0 rfl) rfl ?_
  refine zr_iconst C (zdec_at dm_X10_empty 1 rfl) ?_
  obtain ⟨o1, h⟩ := h
  refine zr_puti C fk_RX10_15 (zsh_f o1 0 (by decide)) (by decide) (zdec_at dm_X10_empty 2 rfl) (fun M2 e3 => ?_)
  have h := h M2 e3
  have hR4 : zRng M2 := by rw [e3]; exact hR.set (by decide) _ _
  refine zr_aload_n C 0 rfl (zdec_at dm_X10_empty 3 rfl) rfl ?_
  refine zr_iconst C (zdec_at dm_X10_empty 4 rfl) ?_
  refine zr_puti C fk_RX10_19 (zsh_f o1 2 (by decide)) (by decide) (zdec_at dm_X10_empty 5 rfl) (fun M5 e6 => ?_)
  have h := h M5 e6
  have hR7 : zRng M5 := by rw [e6]; exact hR4.set (by decide) _ _
  exact zr_return C rfl rfl (zdec_at dm_X10_empty 6 rfl) rfl ⟨by decide, h⟩

set_option maxHeartbeats 400000 in
set_option maxRecDepth 100000 in
theorem sn_X10_holdRow {pr_J7_fill_53178 : Int → Int → zM → Prop} {po_J7_fill_53178 : Int → Int → zM → zM → Prop} (hS_J7_fill_53178 : zSnd zS 145 0 0 yJ7_fill_53178 cJ7_fill_53178 4 none 0 [2, 0] (F_J7_fill_53178 pr_J7_fill_53178 po_J7_fill_53178)) : zSnd zS 145 0 0 yX10_holdRow cX10_holdRow 3 none 1 [2, 0, 0] (fun xs P M => ∃ a0 a1 a2 : Int, xs = [a0, a1, a2] ∧ vc_X10_holdRow pr_J7_fill_53178 po_J7_fill_53178 a0 a1 a2 P M) := by
  refine zSnd.of rfl (fun ad xs hz => Nat.le_trans (Nat.le_of_eq (zlen ad _ xs hz)) (by decide)) ?_
  intro Γ C _ _ xs M hz hF
  obtain ⟨a0, a1, a2, rfl, h⟩ := hF
  have zz_a1 := zall_h (zall_t hz) (by decide)
  have zz_a2 := zall_h (zall_t (zall_t hz)) (by decide)
  refine zr_rng (fun hR => ?_)
  have C : zC Γ mu_X10_holdRow := C
  change zV Γ mu_X10_holdRow (145, 0, 0) 0 [(0, zRf (zad Γ) a0), (1, zI a1), (2, zI a2)] [] M
  change vc_X10_holdRow pr_J7_fill_53178 po_J7_fill_53178 a0 a1 a2 _ M at h
  unfold vc_X10_holdRow at h
  refine zr_aload_n C 0 rfl (zdec_at dm_X10_holdRow 0 rfl) rfl ?_
  refine zr_iconst C (zdec_at dm_X10_holdRow 1 rfl) ?_
  obtain ⟨o1, h⟩ := h
  refine zr_puti C fk_RX10_15 (zsh_f o1 0 (by decide)) (by decide) (zdec_at dm_X10_holdRow 2 rfl) (fun M2 e3 => ?_)
  have h := h M2 e3
  have hR4 : zRng M2 := by rw [e3]; exact hR.set (by decide) _ _
  refine zr_aload_n C 0 rfl (zdec_at dm_X10_holdRow 3 rfl) rfl ?_
  refine zr_iload_n C 1 rfl (zdec_at dm_X10_holdRow 4 rfl) rfl ?_
  refine zr_puti C fk_RX10_22 (zsh_f o1 1 (by decide)) zz_a1 (zdec_at dm_X10_holdRow 5 rfl) (fun M5 e6 => ?_)
  have h := h M5 e6
  have hR7 : zRng M5 := by rw [e6]; exact hR4.set zz_a1 _ _
  refine zr_aload_n C 0 rfl (zdec_at dm_X10_holdRow 6 rfl) rfl ?_
  refine zr_iload_n C 2 rfl (zdec_at dm_X10_holdRow 7 rfl) rfl ?_
  refine zr_puti C fk_RX10_19 (zsh_f o1 2 (by decide)) zz_a2 (zdec_at dm_X10_holdRow 8 rfl) (fun M8 e9 => ?_)
  have h := h M8 e9
  have hR10 : zRng M8 := by rw [e9]; exact hR7.set zz_a2 _ _
  refine zr_aload_n C 0 rfl (zdec_at dm_X10_holdRow 9 rfl) rfl ?_
  refine zr_getr (q := (a0 + 1)) C fk_RX10_9 (zsh_v o1) (zdec_at dm_X10_holdRow 10 rfl) ?_
  refine zr_iconst C (zdec_at dm_X10_holdRow 11 rfl) ?_
  obtain ⟨g15, h⟩ := h
  refine zr_callS C [(a0 + 1), 0] hS_J7_fill_53178 ck_RX10_25 sv_J7_fill_53178 rfl rfl (zdec_at dm_X10_holdRow 12 rfl) ⟨rfl, rfl, rfl, rfl⟩ ⟨by decide, by decide⟩ (Nat.le_of_ble_eq_true rfl) (zall_2 (zall_0 (by decide) zall_n)) ?_
  refine ⟨_, _, rfl, g15, fun M11 p14 _ hR12 => ?_⟩
  have h := h M11 p14 hR12
  show zV Γ mu_X10_holdRow (145, 0, 0) 23 [(0, zRf (zad Γ) a0), (1, zI a1), (2, zI a2)] [] M11
  exact zr_return C rfl rfl (zdec_at dm_X10_holdRow 13 rfl) rfl ⟨by decide, h⟩

set_option maxHeartbeats 400000 in
set_option maxRecDepth 100000 in
theorem sn_X10_set : zSnd zS 145 0 0 yX10_set cX10_set 3 none 0 [2, 0, 0] (fun xs P M => ∃ a0 a1 a2 : Int, xs = [a0, a1, a2] ∧ vc_X10_set a0 a1 a2 P M) := by
  refine zSnd.of rfl (fun ad xs hz => Nat.le_trans (Nat.le_of_eq (zlen ad _ xs hz)) (by decide)) ?_
  intro Γ C _ _ xs M hz hF
  obtain ⟨a0, a1, a2, rfl, h⟩ := hF
  have zz_a1 := zall_h (zall_t hz) (by decide)
  have zz_a2 := zall_h (zall_t (zall_t hz)) (by decide)
  refine zr_rng (fun hR => ?_)
  have C : zC Γ mu_X10_set := C
  change zV Γ mu_X10_set (145, 0, 0) 0 [(0, zRf (zad Γ) a0), (1, zI a1), (2, zI a2)] [] M
  change vc_X10_set a0 a1 a2 _ M at h
  unfold vc_X10_set at h
  refine zr_aload_n C 0 rfl (zdec_at dm_X10_set 0 rfl) rfl ?_
  obtain ⟨o1, h⟩ := h
  refine zr_geti C fk_RX10_22 (zsh_f o1 1 (by decide)) (zdec_at dm_X10_set 1 rfl) ?_
  refine zr_if_ne C (hR _ _) (zdec_at dm_X10_set 2 rfl) rfl (fun g2 => ?_) (fun g2 => ?_)
  · have h := h.1 g2
    refine zr_aload_n C 0 rfl (zdec_at dm_X10_set 10 rfl) rfl ?_
    refine zr_getr (q := (a0 + 1)) C fk_RX10_9 (zsh_v o1) (zdec_at dm_X10_set 11 rfl) ?_
    refine zr_iload_n C 1 rfl (zdec_at dm_X10_set 12 rfl) rfl ?_
    refine zr_aload_n C 0 rfl (zdec_at dm_X10_set 13 rfl) rfl ?_
    refine zr_geti C fk_RX10_22 (zsh_f o1 1 (by decide)) (zdec_at dm_X10_set 14 rfl) ?_
    refine zr_iconst C (zdec_at dm_X10_set 15 rfl) ?_
    refine zr_icmp_ne C (hR _ _) (by decide) (zdec_at dm_X10_set 16 rfl) rfl (fun g3 => ?_) (fun g3 => ?_)
    · have h := h.1 g3
      refine zr_iload_n C 2 rfl (zdec_at dm_X10_set 20 rfl) rfl ?_
      obtain ⟨o4, h⟩ := h
      refine zr_iast C (zsh_a o1) o4 zz_a2 (zdec_at dm_X10_set 21 rfl) (fun M5 e6 => ?_)
      have h := h M5 e6
      have hR7 : zRng M5 := by rw [e6]; exact hR.set zz_a2 _ _
      exact zr_return C rfl rfl (zdec_at dm_X10_set 22 rfl) rfl ⟨by decide, h⟩
    · have h := h.2 g3
      refine zr_iload_n C 2 rfl (zdec_at dm_X10_set 17 rfl) rfl ?_
      refine zr_i2s C (zdec_at dm_X10_set 18 rfl) ?_
      refine zr_goto C (zdec_at dm_X10_set 19 rfl) rfl ?_
      obtain ⟨o8, h⟩ := h
      refine zr_iast C (zsh_a o1) o8 (z_bm _ (by decide) (by decide)) (zdec_at dm_X10_set 21 rfl) (fun M9 e10 => ?_)
      have h := h M9 e10
      have hR11 : zRng M9 := by rw [e10]; exact hR.set (z_bm _ (by decide) (by decide)) _ _
      exact zr_return C rfl rfl (zdec_at dm_X10_set 22 rfl) rfl ⟨by decide, h⟩
  · have h := h.2 g2
    refine zr_aload_n C 0 rfl (zdec_at dm_X10_set 3 rfl) rfl ?_
    refine zr_getr (q := (a0 + 1)) C fk_RX10_9 (zsh_v o1) (zdec_at dm_X10_set 4 rfl) ?_
    refine zr_iload_n C 1 rfl (zdec_at dm_X10_set 5 rfl) rfl ?_
    refine zr_iload_n C 2 rfl (zdec_at dm_X10_set 6 rfl) rfl ?_
    refine zr_i2b C (zdec_at dm_X10_set 7 rfl) ?_
    obtain ⟨o12, h⟩ := h
    refine zr_iast C (zsh_a o1) o12 (z_bm _ (by decide) (by decide)) (zdec_at dm_X10_set 8 rfl) (fun M13 e14 => ?_)
    have h := h M13 e14
    have hR15 : zRng M13 := by rw [e14]; exact hR.set (z_bm _ (by decide) (by decide)) _ _
    refine zr_goto C (zdec_at dm_X10_set 9 rfl) rfl ?_
    exact zr_return C rfl rfl (zdec_at dm_X10_set 22 rfl) rfl ⟨by decide, h⟩

set_option maxHeartbeats 400000 in
set_option maxRecDepth 100000 in
theorem sn_X10_hasPlaces : zSnd zS 145 0 0 yX10_hasPlaces cX10_hasPlaces 3 (some .boolean) 0 [2, 0, 0] (fun xs P M => ∃ a0 a1 a2 : Int, xs = [a0, a1, a2] ∧ vc_X10_hasPlaces a0 a1 a2 P M) := by
  refine zSnd.of rfl (fun ad xs hz => Nat.le_trans (Nat.le_of_eq (zlen ad _ xs hz)) (by decide)) ?_
  intro Γ C _ _ xs M hz hF
  obtain ⟨a0, a1, a2, rfl, h⟩ := hF
  have zz_a1 := zall_h (zall_t hz) (by decide)
  have zz_a2 := zall_h (zall_t (zall_t hz)) (by decide)
  refine zr_rng (fun hR => ?_)
  have C : zC Γ mu_X10_hasPlaces := C
  change zV Γ mu_X10_hasPlaces (145, 0, 0) 0 [(0, zRf (zad Γ) a0), (1, zI a1), (2, zI a2)] [] M
  change vc_X10_hasPlaces a0 a1 a2 _ M at h
  unfold vc_X10_hasPlaces at h
  refine zr_iload_n C 1 rfl (zdec_at dm_X10_hasPlaces 0 rfl) rfl ?_
  refine zr_if_lt C zz_a1 (zdec_at dm_X10_hasPlaces 1 rfl) rfl (fun g1 => ?_) (fun g1 => ?_)
  · have h := h.1 g1
    refine zr_iconst C (zdec_at dm_X10_hasPlaces 14 rfl) ?_
    exact zr_zreturn C rfl (by decide) (zdec_at dm_X10_hasPlaces 15 rfl) rfl ⟨(by decide), h⟩
  · have h := h.2 g1
    refine zr_iload_n C 1 rfl (zdec_at dm_X10_hasPlaces 2 rfl) rfl ?_
    refine zr_aload_n C 0 rfl (zdec_at dm_X10_hasPlaces 3 rfl) rfl ?_
    obtain ⟨o2, h⟩ := h
    refine zr_geti C fk_RX10_19 (zsh_f o2 2 (by decide)) (zdec_at dm_X10_hasPlaces 4 rfl) ?_
    refine zr_icmp_gt C zz_a1 (hR _ _) (zdec_at dm_X10_hasPlaces 5 rfl) rfl (fun g3 => ?_) (fun g3 => ?_)
    · have h := h.1 g3
      refine zr_iconst C (zdec_at dm_X10_hasPlaces 14 rfl) ?_
      exact zr_zreturn C rfl (by decide) (zdec_at dm_X10_hasPlaces 15 rfl) rfl ⟨(by decide), h⟩
    · have h := h.2 g3
      refine zr_iload_n C 2 rfl (zdec_at dm_X10_hasPlaces 6 rfl) rfl ?_
      refine zr_aload_n C 0 rfl (zdec_at dm_X10_hasPlaces 7 rfl) rfl ?_
      refine zr_geti C fk_RX10_19 (zsh_f o2 2 (by decide)) (zdec_at dm_X10_hasPlaces 8 rfl) ?_
      refine zr_iload_n C 1 rfl (zdec_at dm_X10_hasPlaces 9 rfl) rfl ?_
      refine zr_isub C (zdec_at dm_X10_hasPlaces 10 rfl) ?_
      obtain ⟨o4, h⟩ := h
      refine zr_icmp_gt C zz_a2 o4 (zdec_at dm_X10_hasPlaces 11 rfl) rfl (fun g5 => ?_) (fun g5 => ?_)
      · have h := h.1 g5
        refine zr_iconst C (zdec_at dm_X10_hasPlaces 14 rfl) ?_
        exact zr_zreturn C rfl (by decide) (zdec_at dm_X10_hasPlaces 15 rfl) rfl ⟨(by decide), h⟩
      · have h := h.2 g5
        refine zr_iconst C (zdec_at dm_X10_hasPlaces 12 rfl) ?_
        refine zr_goto C (zdec_at dm_X10_hasPlaces 13 rfl) rfl ?_
        exact zr_zreturn C rfl (by decide) (zdec_at dm_X10_hasPlaces 15 rfl) rfl ⟨(by decide), h⟩

set_option maxHeartbeats 400000 in
set_option maxRecDepth 100000 in
theorem sn_X10_holdPiece : zSnd zS 145 0 0 yX10_holdPiece cX10_holdPiece 6 none 0 [2, 0, 0, 0, 0, 0] (fun xs P M => ∃ a0 a1 a2 a3 a4 a5 : Int, xs = [a0, a1, a2, a3, a4, a5] ∧ vc_X10_holdPiece a0 a1 a2 a3 a4 a5 P M) := by
  refine zSnd.of rfl (fun ad xs hz => Nat.le_trans (Nat.le_of_eq (zlen ad _ xs hz)) (by decide)) ?_
  intro Γ C _ _ xs M hz hF
  obtain ⟨a0, a1, a2, a3, a4, a5, rfl, h⟩ := hF
  have zz_a1 := zall_h (zall_t hz) (by decide)
  have zz_a2 := zall_h (zall_t (zall_t hz)) (by decide)
  have zz_a3 := zall_h (zall_t (zall_t (zall_t hz))) (by decide)
  have zz_a4 := zall_h (zall_t (zall_t (zall_t (zall_t hz)))) (by decide)
  have zz_a5 := zall_h (zall_t (zall_t (zall_t (zall_t (zall_t hz))))) (by decide)
  refine zr_rng (fun hR => ?_)
  have C : zC Γ mu_X10_holdPiece := C
  change zV Γ mu_X10_holdPiece (145, 0, 0) 0 [(0, zRf (zad Γ) a0), (1, zI a1), (2, zI a2), (3, zI a3), (4, zI a4), (5, zI a5)] [] M
  change vc_X10_holdPiece a0 a1 a2 a3 a4 a5 _ M at h
  unfold vc_X10_holdPiece at h
  refine zr_aload_n C 0 rfl (zdec_at dm_X10_holdPiece 0 rfl) rfl ?_
  refine zr_iconst C (zdec_at dm_X10_holdPiece 1 rfl) ?_
  obtain ⟨o1, h⟩ := h
  refine zr_puti C fk_RX10_15 (zsh_f o1 0 (by decide)) (by decide) (zdec_at dm_X10_holdPiece 2 rfl) (fun M2 e3 => ?_)
  have h := h M2 e3
  have hR4 : zRng M2 := by rw [e3]; exact hR.set (by decide) _ _
  refine zr_aload_n C 0 rfl (zdec_at dm_X10_holdPiece 3 rfl) rfl ?_
  refine zr_iconst C (zdec_at dm_X10_holdPiece 4 rfl) ?_
  refine zr_puti C fk_RX10_19 (zsh_f o1 2 (by decide)) (by decide) (zdec_at dm_X10_holdPiece 5 rfl) (fun M5 e6 => ?_)
  have h := h M5 e6
  have hR7 : zRng M5 := by rw [e6]; exact hR4.set (by decide) _ _
  refine zr_aload_n C 0 rfl (zdec_at dm_X10_holdPiece 6 rfl) rfl ?_
  refine zr_iload_n C 1 rfl (zdec_at dm_X10_holdPiece 7 rfl) rfl ?_
  refine zr_puti C fk_RX10_31 (zsh_f o1 4 (by decide)) zz_a1 (zdec_at dm_X10_holdPiece 8 rfl) (fun M8 e9 => ?_)
  have h := h M8 e9
  have hR10 : zRng M8 := by rw [e9]; exact hR7.set zz_a1 _ _
  refine zr_aload_n C 0 rfl (zdec_at dm_X10_holdPiece 9 rfl) rfl ?_
  refine zr_iload_n C 2 rfl (zdec_at dm_X10_holdPiece 10 rfl) rfl ?_
  refine zr_puti C fk_RX10_34 (zsh_f o1 5 (by decide)) zz_a2 (zdec_at dm_X10_holdPiece 11 rfl) (fun M11 e12 => ?_)
  have h := h M11 e12
  have hR13 : zRng M11 := by rw [e12]; exact hR10.set zz_a2 _ _
  refine zr_aload_n C 0 rfl (zdec_at dm_X10_holdPiece 12 rfl) rfl ?_
  refine zr_iload_n C 3 rfl (zdec_at dm_X10_holdPiece 13 rfl) rfl ?_
  refine zr_puti C fk_RX10_37 (zsh_f o1 6 (by decide)) zz_a3 (zdec_at dm_X10_holdPiece 14 rfl) (fun M14 e15 => ?_)
  have h := h M14 e15
  have hR16 : zRng M14 := by rw [e15]; exact hR13.set zz_a3 _ _
  refine zr_aload_n C 0 rfl (zdec_at dm_X10_holdPiece 15 rfl) rfl ?_
  refine zr_iload C 4 rfl (zdec_at dm_X10_holdPiece 16 rfl) ?_
  refine zr_puti C fk_RX10_40 (zsh_f o1 7 (by decide)) zz_a4 (zdec_at dm_X10_holdPiece 17 rfl) (fun M17 e18 => ?_)
  have h := h M17 e18
  have hR19 : zRng M17 := by rw [e18]; exact hR16.set zz_a4 _ _
  refine zr_aload_n C 0 rfl (zdec_at dm_X10_holdPiece 18 rfl) rfl ?_
  refine zr_iload C 5 rfl (zdec_at dm_X10_holdPiece 19 rfl) ?_
  refine zr_puti C fk_RX10_43 (zsh_f o1 8 (by decide)) zz_a5 (zdec_at dm_X10_holdPiece 20 rfl) (fun M20 e21 => ?_)
  have h := h M20 e21
  have hR22 : zRng M20 := by rw [e21]; exact hR19.set zz_a5 _ _
  exact zr_return C rfl rfl (zdec_at dm_X10_holdPiece 21 rfl) rfl ⟨by decide, h⟩

set_option maxHeartbeats 400000 in
set_option maxRecDepth 100000 in
theorem sn_X10_pieceReach {pr_X10_straightReach : Int → zM → Prop} {po_X10_straightReach : Int → zM → Int → zM → Prop} (hS_X10_straightReach : zSnd zS 145 0 0 yX10_straightReach cX10_straightReach 4 (some .int) 0 [2] (F_X10_straightReach pr_X10_straightReach po_X10_straightReach)) : zSnd zS 145 0 0 yX10_pieceReach cX10_pieceReach 2 (some .int) 1 [2] (fun xs P M => ∃ a0 : Int, xs = [a0] ∧ vc_X10_pieceReach pr_X10_straightReach po_X10_straightReach a0 P M) := by
  refine zSnd.of rfl (fun ad xs hz => Nat.le_trans (Nat.le_of_eq (zlen ad _ xs hz)) (by decide)) ?_
  intro Γ C _ _ xs M hz hF
  obtain ⟨a0, rfl, h⟩ := hF
  refine zr_rng (fun hR => ?_)
  have C : zC Γ mu_X10_pieceReach := C
  change zV Γ mu_X10_pieceReach (145, 0, 0) 0 [(0, zRf (zad Γ) a0)] [] M
  change vc_X10_pieceReach pr_X10_straightReach po_X10_straightReach a0 _ M at h
  unfold vc_X10_pieceReach at h
  refine zr_aload_n C 0 rfl (zdec_at dm_X10_pieceReach 0 rfl) rfl ?_
  obtain ⟨o1, h⟩ := h
  refine zr_geti C fk_RX10_37 (zsh_f o1 6 (by decide)) (zdec_at dm_X10_pieceReach 1 rfl) ?_
  refine zr_aload_n C 0 rfl (zdec_at dm_X10_pieceReach 2 rfl) rfl ?_
  refine zr_geti C fk_RX10_40 (zsh_f o1 7 (by decide)) (zdec_at dm_X10_pieceReach 3 rfl) ?_
  refine zr_iadd C (zdec_at dm_X10_pieceReach 4 rfl) ?_
  refine zr_istore_n (L1 := [(1, zI ((M a0 6) + (M a0 7))), (0, zRf (zad Γ) a0)]) C (zdec_at dm_X10_pieceReach 5 rfl) rfl (Nat.le_of_ble_eq_true rfl) rfl ?_
  refine zr_aload_n C 1 rfl (zdec_at dm_X10_pieceReach 6 rfl) rfl ?_
  refine zr_geti C fk_RX10_31 (zsh_f o1 4 (by decide)) (zdec_at dm_X10_pieceReach 7 rfl) ?_
  by_cases g14_0 : (M a0 4) = 1
  · have h := h.1 g14_0
    refine zr_tsin C 0 (g14_0.trans (by decide)) (hR _ _) (by decide) (zdec_at dm_X10_pieceReach 8 rfl) rfl rfl ?_
    refine zr_aload_n C 1 rfl (zdec_at dm_X10_pieceReach 9 rfl) rfl ?_
    obtain ⟨g7, h⟩ := h
    refine zr_callV C [] hS_X10_straightReach ck_RX10_46 iv_X10_straightReach vc_X10 (zsh_o o1) rfl rfl (zdec_at dm_X10_pieceReach 10 rfl) ⟨rfl, rfl, rfl, rfl⟩ ⟨by decide, by decide⟩ (Nat.le_of_ble_eq_true rfl) zall_n ?_
    refine ⟨_, rfl, g7, fun r2 M3 p6 z5 hR4 => ?_⟩
    have h := h r2 M3 p6 z5 hR4
    show zV Γ mu_X10_pieceReach (145, 0, 0) 48 [(1, zI ((M a0 6) + (M a0 7))), (0, zRf (zad Γ) a0)] [zI r2] M3
    exact zr_ireturn C rfl (zdec_at dm_X10_pieceReach 11 rfl) rfl ⟨z5, h⟩
  · have h := h.2 g14_0
    by_cases g14_1 : (M a0 4) = 2
    · have h := h.1 g14_1
      refine zr_tsin C 1 (g14_1.trans (by decide)) (hR _ _) (by decide) (zdec_at dm_X10_pieceReach 8 rfl) rfl rfl ?_
      refine zr_iload_n C 0 rfl (zdec_at dm_X10_pieceReach 12 rfl) rfl ?_
      refine zr_iload_n C 0 rfl (zdec_at dm_X10_pieceReach 13 rfl) rfl ?_
      refine zr_iconst C (zdec_at dm_X10_pieceReach 14 rfl) ?_
      obtain ⟨o8, h⟩ := h
      obtain ⟨o9, h⟩ := h
      refine zr_idiv C o8 (by decide) ⟨o9, by decide⟩ (zdec_at dm_X10_pieceReach 15 rfl) ?_
      refine zr_iadd C (zdec_at dm_X10_pieceReach 16 rfl) ?_
      obtain ⟨o10, h⟩ := h
      exact zr_ireturn C rfl (zdec_at dm_X10_pieceReach 17 rfl) rfl ⟨o10, h⟩
    · have h := h.2 g14_1
      by_cases g14_2 : (M a0 4) = 3
      · have h := h.1 g14_2
        refine zr_tsin C 2 (g14_2.trans (by decide)) (hR _ _) (by decide) (zdec_at dm_X10_pieceReach 8 rfl) rfl rfl ?_
        refine zr_iload_n C 0 rfl (zdec_at dm_X10_pieceReach 18 rfl) rfl ?_
        refine zr_iload_n C 0 rfl (zdec_at dm_X10_pieceReach 19 rfl) rfl ?_
        refine zr_iconst C (zdec_at dm_X10_pieceReach 20 rfl) ?_
        obtain ⟨o11, h⟩ := h
        obtain ⟨o12, h⟩ := h
        refine zr_idiv C o11 (by decide) ⟨o12, by decide⟩ (zdec_at dm_X10_pieceReach 21 rfl) ?_
        refine zr_iadd C (zdec_at dm_X10_pieceReach 22 rfl) ?_
        refine zr_iconst C (zdec_at dm_X10_pieceReach 23 rfl) ?_
        refine zr_iadd C (zdec_at dm_X10_pieceReach 24 rfl) ?_
        obtain ⟨o13, h⟩ := h
        exact zr_ireturn C rfl (zdec_at dm_X10_pieceReach 25 rfl) rfl ⟨o13, h⟩
      · have h := h.2 g14_2
        by_cases g14_3 : (M a0 4) = 4
        · have h := h.1 g14_3
          refine zr_tsin C 3 (g14_3.trans (by decide)) (hR _ _) (by decide) (zdec_at dm_X10_pieceReach 8 rfl) rfl rfl ?_
          refine zr_aload_n C 1 rfl (zdec_at dm_X10_pieceReach 26 rfl) rfl ?_
          obtain ⟨g19, h⟩ := h
          refine zr_callV C [] hS_X10_straightReach ck_RX10_46 iv_X10_straightReach vc_X10 (zsh_o o1) rfl rfl (zdec_at dm_X10_pieceReach 27 rfl) ⟨rfl, rfl, rfl, rfl⟩ ⟨by decide, by decide⟩ (Nat.le_of_ble_eq_true rfl) zall_n ?_
          refine ⟨_, rfl, g19, fun r14 M15 p18 z17 hR16 => ?_⟩
          have h := h r14 M15 p18 z17 hR16
          show zV Γ mu_X10_pieceReach (145, 0, 0) 67 [(1, zI ((M a0 6) + (M a0 7))), (0, zRf (zad Γ) a0)] [zI r14] M15
          refine zr_aload_n C 1 rfl (zdec_at dm_X10_pieceReach 28 rfl) rfl ?_
          refine zr_geti C fk_RX10_43 (zsh_f o1 8 (by decide)) (zdec_at dm_X10_pieceReach 29 rfl) ?_
          refine zr_iadd C (zdec_at dm_X10_pieceReach 30 rfl) ?_
          obtain ⟨o20, h⟩ := h
          exact zr_ireturn C rfl (zdec_at dm_X10_pieceReach 31 rfl) rfl ⟨o20, h⟩
        · have h := h.2 g14_3
          refine zr_tsout C (zts_s 5 (zts_s 4 (zts_s 3 (zts_s 2 (zts_0 (M a0 4) 1) g14_0) g14_1) g14_2) g14_3) (hR _ _) (zdec_at dm_X10_pieceReach 8 rfl) rfl ?_
          refine zr_iload_n C 0 rfl (zdec_at dm_X10_pieceReach 32 rfl) rfl ?_
          obtain ⟨o21, h⟩ := h
          exact zr_ireturn C rfl (zdec_at dm_X10_pieceReach 33 rfl) rfl ⟨o21, h⟩

set_option maxHeartbeats 400000 in
set_option maxRecDepth 100000 in
theorem sn_X10_straightReach : zSnd zS 145 0 0 yX10_straightReach cX10_straightReach 4 (some .int) 0 [2] (fun xs P M => ∃ a0 : Int, xs = [a0] ∧ vc_X10_straightReach a0 P M) := by
  refine zSnd.of rfl (fun ad xs hz => Nat.le_trans (Nat.le_of_eq (zlen ad _ xs hz)) (by decide)) ?_
  intro Γ C _ _ xs M hz hF
  obtain ⟨a0, rfl, h⟩ := hF
  refine zr_rng (fun hR => ?_)
  have C : zC Γ mu_X10_straightReach := C
  change zV Γ mu_X10_straightReach (145, 0, 0) 0 [(0, zRf (zad Γ) a0)] [] M
  change vc_X10_straightReach a0 _ M at h
  unfold vc_X10_straightReach at h
  refine zr_aload_n C 0 rfl (zdec_at dm_X10_straightReach 0 rfl) rfl ?_
  obtain ⟨o1, h⟩ := h
  refine zr_geti C fk_RX10_37 (zsh_f o1 6 (by decide)) (zdec_at dm_X10_straightReach 1 rfl) ?_
  refine zr_aload_n C 0 rfl (zdec_at dm_X10_straightReach 2 rfl) rfl ?_
  refine zr_geti C fk_RX10_37 (zsh_f o1 6 (by decide)) (zdec_at dm_X10_straightReach 3 rfl) ?_
  refine zr_imul C (zdec_at dm_X10_straightReach 4 rfl) ?_
  refine zr_aload_n C 0 rfl (zdec_at dm_X10_straightReach 5 rfl) rfl ?_
  refine zr_geti C fk_RX10_40 (zsh_f o1 7 (by decide)) (zdec_at dm_X10_straightReach 6 rfl) ?_
  refine zr_aload_n C 0 rfl (zdec_at dm_X10_straightReach 7 rfl) rfl ?_
  refine zr_geti C fk_RX10_40 (zsh_f o1 7 (by decide)) (zdec_at dm_X10_straightReach 8 rfl) ?_
  refine zr_imul C (zdec_at dm_X10_straightReach 9 rfl) ?_
  refine zr_iadd C (zdec_at dm_X10_straightReach 10 rfl) ?_
  refine zr_istore_n (L1 := [(1, zI (((M a0 6) * (M a0 6)) + ((M a0 7) * (M a0 7)))), (0, zRf (zad Γ) a0)]) C (zdec_at dm_X10_straightReach 11 rfl) rfl (Nat.le_of_ble_eq_true rfl) rfl ?_
  refine zr_iconst C (zdec_at dm_X10_straightReach 12 rfl) ?_
  refine zr_istore_n (L1 := [(2, zI 0), (1, zI (((M a0 6) * (M a0 6)) + ((M a0 7) * (M a0 7)))), (0, zRf (zad Γ) a0)]) C (zdec_at dm_X10_straightReach 13 rfl) rfl (Nat.le_of_ble_eq_true rfl) rfl ?_
  refine zr_iconst C (zdec_at dm_X10_straightReach 14 rfl) ?_
  refine zr_istore_n (L1 := [(3, zI 1), (2, zI 0), (1, zI (((M a0 6) * (M a0 6)) + ((M a0 7) * (M a0 7)))), (0, zRf (zad Γ) a0)]) C (zdec_at dm_X10_straightReach 15 rfl) rfl (Nat.le_of_ble_eq_true rfl) rfl ?_
  obtain ⟨I24, ⟨n10, q11⟩, hI9⟩ := h
  have lp8 : ∀ (n6 : Nat) (v2 : Int) (v3 : Int), I24 v2 v3 n6 → zin v2 → zin v3 → zV Γ mu_X10_straightReach (145, 0, 0) 24 [(1, zI (((M a0 6) * (M a0 6)) + ((M a0 7) * (M a0 7)))), (2, zI v2), (3, zI v3)] [] M := by
    intro n6
    induction n6 using Nat.strongRecOn with
    | _ n6 ih7 =>
    intro v2 v3 q12 z4 z5
    have h := hI9 v2 v3 n6 q12 z4 z5
    refine zr_iload_n C 2 rfl (zdec_at dm_X10_straightReach 16 rfl) rfl ?_
    refine zr_bipush C (zdec_at dm_X10_straightReach 17 rfl) (by decide) ?_
    refine zr_icmp_gt C z5 (by decide) (zdec_at dm_X10_straightReach 18 rfl) rfl (fun g13 => ?_) (fun g13 => ?_)
    · have h := h.1 g13
      refine zr_iload_n C 1 rfl (zdec_at dm_X10_straightReach 28 rfl) rfl ?_
      exact zr_ireturn C rfl (zdec_at dm_X10_straightReach 29 rfl) rfl ⟨z4, h⟩
    · have h := h.2 g13
      refine zr_iload_n C 2 rfl (zdec_at dm_X10_straightReach 19 rfl) rfl ?_
      refine zr_iload_n C 2 rfl (zdec_at dm_X10_straightReach 20 rfl) rfl ?_
      refine zr_imul C (zdec_at dm_X10_straightReach 21 rfl) ?_
      refine zr_iload_n C 0 rfl (zdec_at dm_X10_straightReach 22 rfl) rfl ?_
      obtain ⟨o14, h⟩ := h
      obtain ⟨o15, h⟩ := h
      refine zr_icmp_gt C o14 o15 (zdec_at dm_X10_straightReach 23 rfl) rfl (fun g16 => ?_) (fun g16 => ?_)
      · have h := h.1 g16
        refine zr_iload_n C 1 rfl (zdec_at dm_X10_straightReach 28 rfl) rfl ?_
        exact zr_ireturn C rfl (zdec_at dm_X10_straightReach 29 rfl) rfl ⟨z4, h⟩
      · have h := h.2 g16
        refine zr_iload_n C 2 rfl (zdec_at dm_X10_straightReach 24 rfl) rfl ?_
        refine zr_istore_n (L1 := [(2, zI v3), (1, zI (((M a0 6) * (M a0 6)) + ((M a0 7) * (M a0 7)))), (3, zI v3)]) C (zdec_at dm_X10_straightReach 25 rfl) rfl (Nat.le_of_ble_eq_true rfl) rfl ?_
        refine zr_iinc (L1 := [(3, zI (v3 + 1)), (2, zI v3), (1, zI (((M a0 6) * (M a0 6)) + ((M a0 7) * (M a0 7))))]) C 2 rfl (zdec_at dm_X10_straightReach 26 rfl) (Nat.le_of_ble_eq_true rfl) rfl ?_
        refine zr_goto C (zdec_at dm_X10_straightReach 27 rfl) rfl ?_
        obtain ⟨o17, h⟩ := h
        obtain ⟨n18, q19, q20⟩ := h
        exact zr_sub [2, 1, 0] rfl (ih7 n18 q19 _ _ q20 z5 o17)
  exact zr_sub [2, 1, 0] rfl (lp8 n10 _ _ q11 (by decide) (by decide))

set_option maxHeartbeats 400000 in
set_option maxRecDepth 100000 in
theorem sn_X10_pieceFailure : zSnd zS 145 0 0 yX10_pieceFailure cX10_pieceFailure 1 (some .int) 0 [2] (fun xs P M => ∃ a0 : Int, xs = [a0] ∧ vc_X10_pieceFailure a0 P M) := by
  refine zSnd.of rfl (fun ad xs hz => Nat.le_trans (Nat.le_of_eq (zlen ad _ xs hz)) (by decide)) ?_
  intro Γ C _ _ xs M hz hF
  obtain ⟨a0, rfl, h⟩ := hF
  refine zr_rng (fun hR => ?_)
  have C : zC Γ mu_X10_pieceFailure := C
  change zV Γ mu_X10_pieceFailure (145, 0, 0) 0 [(0, zRf (zad Γ) a0)] [] M
  change vc_X10_pieceFailure a0 _ M at h
  unfold vc_X10_pieceFailure at h
  refine zr_aload_n C 0 rfl (zdec_at dm_X10_pieceFailure 0 rfl) rfl ?_
  obtain ⟨o1, h⟩ := h
  refine zr_geti C fk_RX10_31 (zsh_f o1 4 (by decide)) (zdec_at dm_X10_pieceFailure 1 rfl) ?_
  refine zr_iconst C (zdec_at dm_X10_pieceFailure 2 rfl) ?_
  refine zr_icmp_eq C (hR _ _) (by decide) (zdec_at dm_X10_pieceFailure 3 rfl) rfl (fun g2 => ?_) (fun g2 => ?_)
  · have h := h.1 g2
    refine zr_bipush C (zdec_at dm_X10_pieceFailure 10 rfl) (by decide) ?_
    exact zr_ireturn C rfl (zdec_at dm_X10_pieceFailure 11 rfl) rfl ⟨(by decide), h⟩
  · have h := h.2 g2
    refine zr_aload_n C 0 rfl (zdec_at dm_X10_pieceFailure 4 rfl) rfl ?_
    refine zr_geti C fk_RX10_37 (zsh_f o1 6 (by decide)) (zdec_at dm_X10_pieceFailure 5 rfl) ?_
    have h := h (zV Γ mu_X10_pieceFailure (145, 0, 0) 25 [(0, zRf (zad Γ) a0)] [] M) (fun h => by
      refine zr_aload_n C 0 rfl (zdec_at dm_X10_pieceFailure 12 rfl) rfl ?_
      refine zr_geti C fk_RX10_31 (zsh_f o1 4 (by decide)) (zdec_at dm_X10_pieceFailure 13 rfl) ?_
      refine zr_iconst C (zdec_at dm_X10_pieceFailure 14 rfl) ?_
      refine zr_icmp_ne C (hR _ _) (by decide) (zdec_at dm_X10_pieceFailure 15 rfl) rfl (fun g3 => ?_) (fun g3 => ?_)
      · have h := h.1 g3
        refine zr_aload_n C 0 rfl (zdec_at dm_X10_pieceFailure 19 rfl) rfl ?_
        refine zr_geti C fk_RX10_31 (zsh_f o1 4 (by decide)) (zdec_at dm_X10_pieceFailure 20 rfl) ?_
        refine zr_iconst C (zdec_at dm_X10_pieceFailure 21 rfl) ?_
        refine zr_icmp_ne C (hR _ _) (by decide) (zdec_at dm_X10_pieceFailure 22 rfl) rfl (fun g4 => ?_) (fun g4 => ?_)
        · have h := h.1 g4
          refine zr_aload_n C 0 rfl (zdec_at dm_X10_pieceFailure 28 rfl) rfl ?_
          refine zr_geti C fk_RX10_34 (zsh_f o1 5 (by decide)) (zdec_at dm_X10_pieceFailure 29 rfl) ?_
          exact zr_ireturn C rfl (zdec_at dm_X10_pieceFailure 30 rfl) rfl ⟨(hR _ _), h⟩
        · have h := h.2 g4
          refine zr_aload_n C 0 rfl (zdec_at dm_X10_pieceFailure 23 rfl) rfl ?_
          refine zr_geti C fk_RX10_34 (zsh_f o1 5 (by decide)) (zdec_at dm_X10_pieceFailure 24 rfl) ?_
          refine zr_bipush C (zdec_at dm_X10_pieceFailure 25 rfl) (by decide) ?_
          refine zr_iadd C (zdec_at dm_X10_pieceFailure 26 rfl) ?_
          refine zr_goto C (zdec_at dm_X10_pieceFailure 27 rfl) rfl ?_
          obtain ⟨o5, h⟩ := h
          exact zr_ireturn C rfl (zdec_at dm_X10_pieceFailure 30 rfl) rfl ⟨o5, h⟩
      · have h := h.2 g3
        refine zr_aload_n C 0 rfl (zdec_at dm_X10_pieceFailure 16 rfl) rfl ?_
        refine zr_geti C fk_RX10_43 (zsh_f o1 8 (by decide)) (zdec_at dm_X10_pieceFailure 17 rfl) ?_
        exact zr_ireturn C rfl (zdec_at dm_X10_pieceFailure 18 rfl) rfl ⟨(hR _ _), h⟩)
    refine zr_if_ne C (hR _ _) (zdec_at dm_X10_pieceFailure 6 rfl) rfl (fun g6 => ?_) (fun g6 => ?_)
    · have h := h.1 g6
      exact zr_sub [0] rfl (h)
    · have h := h.2 g6
      refine zr_aload_n C 0 rfl (zdec_at dm_X10_pieceFailure 7 rfl) rfl ?_
      refine zr_geti C fk_RX10_40 (zsh_f o1 7 (by decide)) (zdec_at dm_X10_pieceFailure 8 rfl) ?_
      refine zr_if_ne C (hR _ _) (zdec_at dm_X10_pieceFailure 9 rfl) rfl (fun g7 => ?_) (fun g7 => ?_)
      · have h := h.1 g7
        exact zr_sub [0] rfl (h)
      · have h := h.2 g7
        refine zr_bipush C (zdec_at dm_X10_pieceFailure 10 rfl) (by decide) ?_
        exact zr_ireturn C rfl (zdec_at dm_X10_pieceFailure 11 rfl) rfl ⟨(by decide), h⟩

set_option maxHeartbeats 400000 in
set_option maxRecDepth 100000 in
theorem sn_X11_fault {pr_X11_refusalOfText : Int → zM → Prop} {po_X11_refusalOfText : Int → zM → Int → zM → Prop} {pr_X11_shelfAt : Int → zM → Prop} {po_X11_shelfAt : Int → zM → Int → zM → Prop} {pr_X0_readText : Int → Int → zM → Prop} {po_X0_readText : Int → Int → zM → Int → zM → Prop} (hS_X11_refusalOfText : zSnd zS 145 0 0 yX11_refusalOfText cX11_refusalOfText 3 (some .int) 1 [2, 0] (F_X11_refusalOfText pr_X11_refusalOfText po_X11_refusalOfText)) (hS_X11_shelfAt : zSnd zS 145 0 0 yX11_shelfAt cX11_shelfAt 2 (some (.object "DotLines$Shelf")) 0 [2, 0] (F_X11_shelfAt pr_X11_shelfAt po_X11_shelfAt)) (hS_X0_readText : zSnd zS 145 0 0 yX0_readText cX0_readText 12 (some .int) 2 [2, 2, 0] (F_X0_readText pr_X0_readText po_X0_readText)) : zSnd zS 145 0 0 yX11_fault cX11_fault 4 (some .int) 3 [2, 0] (fun xs P M => ∃ a1 : Int, xs = [0, a1] ∧ vc_X11_fault pr_X11_refusalOfText po_X11_refusalOfText pr_X11_shelfAt po_X11_shelfAt pr_X0_readText po_X0_readText a1 P M) := by
  refine zSnd.of rfl (fun ad xs hz => Nat.le_trans (Nat.le_of_eq (zlen ad _ xs hz)) (by decide)) ?_
  intro Γ C _ _ xs M hz hF
  obtain ⟨a1, rfl, h⟩ := hF
  have zz_a1 := zall_h (zall_t hz) (by decide)
  refine zr_rng (fun hR => ?_)
  have C : zC Γ mu_X11_fault := C
  change zV Γ mu_X11_fault (145, 0, 0) 0 [(0, zRf (zad Γ) 0), (1, zI a1)] [] M
  change vc_X11_fault pr_X11_refusalOfText po_X11_refusalOfText pr_X11_shelfAt po_X11_shelfAt pr_X0_readText po_X0_readText a1 _ M at h
  unfold vc_X11_fault at h
  refine zr_aload_n C 0 rfl (zdec_at dm_X11_fault 0 rfl) rfl ?_
  refine zr_iload_n C 1 rfl (zdec_at dm_X11_fault 1 rfl) rfl ?_
  obtain ⟨g6, h⟩ := h
  refine zr_callV C [a1] hS_X11_refusalOfText ck_RX11_99 iv_X11_refusalOfText vc_X11 oc_0 rfl rfl (zdec_at dm_X11_fault 2 rfl) ⟨rfl, rfl, rfl, rfl⟩ ⟨by decide, by decide⟩ (Nat.le_of_ble_eq_true rfl) (zall_0 zz_a1 zall_n) ?_
  refine ⟨_, rfl, g6, fun r1 M2 p5 z4 hR3 => ?_⟩
  have h := h r1 M2 p5 z4 hR3
  show zV Γ mu_X11_fault (145, 0, 0) 5 [(0, zRf (zad Γ) 0), (1, zI a1)] [zI r1] M2
  refine zr_istore_n (L1 := [(2, zI r1), (0, zRf (zad Γ) 0), (1, zI a1)]) C (zdec_at dm_X11_fault 3 rfl) rfl (Nat.le_of_ble_eq_true rfl) rfl ?_
  refine zr_aload_n C 1 rfl (zdec_at dm_X11_fault 4 rfl) rfl ?_
  refine zr_iload_n C 2 rfl (zdec_at dm_X11_fault 5 rfl) rfl ?_
  obtain ⟨g12, h⟩ := h
  refine zr_callV C [a1] hS_X11_shelfAt ck_RX11_103 iv_X11_shelfAt vc_X11 oc_0 rfl rfl (zdec_at dm_X11_fault 6 rfl) ⟨rfl, rfl, rfl, rfl⟩ ⟨by decide, by decide⟩ (Nat.le_of_ble_eq_true rfl) (zall_0 zz_a1 zall_n) ?_
  refine ⟨_, rfl, g12, fun r7 M8 p11 z10 hR9 => ?_⟩
  have h := h r7 M8 p11 z10 hR9
  show zV Γ mu_X11_fault (145, 0, 0) 11 [(2, zI r1), (0, zRf (zad Γ) 0), (1, zI a1)] [zA (zad Γ) r7] M8
  refine zr_astoreA_n (L1 := [(3, zA (zad Γ) r7), (2, zI r1), (0, zRf (zad Γ) 0), (1, zI a1)]) C (zdec_at dm_X11_fault 7 rfl) rfl (Nat.le_of_ble_eq_true rfl) rfl ?_
  refine zr_iload_n C 1 rfl (zdec_at dm_X11_fault 8 rfl) rfl ?_
  refine zr_if_lt C z4 (zdec_at dm_X11_fault 9 rfl) rfl (fun g13 => ?_) (fun g13 => ?_)
  · have h := h.1 g13
    refine zr_iload_n C 1 rfl (zdec_at dm_X11_fault 12 rfl) rfl ?_
    exact zr_ireturn C rfl (zdec_at dm_X11_fault 13 rfl) rfl ⟨z4, h⟩
  · have h := h.2 g13
    refine zr_aloadA_n C 0 rfl (zdec_at dm_X11_fault 10 rfl) rfl ?_
    refine zr_ifnonnull C (zdec_at dm_X11_fault 11 rfl) rfl (fun g14 => ?_) (fun g14 => ?_)
    · have h := h.1 g14
      rw [zA_pos g14]
      refine zr_aload_n C 2 rfl (zdec_at dm_X11_fault 14 rfl) rfl ?_
      refine zr_getr (q := 1) C fk_RX11_25 fi_0_0 (zdec_at dm_X11_fault 15 rfl) ?_
      refine zr_aload_n C 0 rfl (zdec_at dm_X11_fault 16 rfl) rfl ?_
      obtain ⟨o15, h⟩ := h
      refine zr_getr (q := (r7 + 1)) C fk_RX11_107 (zsh_v o15) (zdec_at dm_X11_fault 17 rfl) ?_
      refine zr_aload_n C 0 rfl (zdec_at dm_X11_fault 18 rfl) rfl ?_
      refine zr_geti C fk_RX11_111 (zsh_f o15 2 (by decide)) (zdec_at dm_X11_fault 19 rfl) ?_
      obtain ⟨g21, h⟩ := h
      refine zr_callV C [(r7 + 1), (M8 r7 2)] hS_X0_readText ck_RX11_115 iv_X0_readText vc_X0 oc_1 rfl rfl (zdec_at dm_X11_fault 20 rfl) ⟨rfl, rfl, rfl, rfl⟩ ⟨by decide, by decide⟩ (Nat.le_of_ble_eq_true rfl) (zall_2 (zall_0 (hR9 _ _) zall_n)) ?_
      refine ⟨_, _, rfl, g21, fun r16 M17 p20 z19 hR18 => ?_⟩
      have h := h r16 M17 p20 z19 hR18
      show zV Γ mu_X11_fault (145, 0, 0) 37 [(3, zRf (zad Γ) r7), (2, zI r1), (0, zRf (zad Γ) 0), (1, zI a1)] [zI r16] M17
      exact zr_ireturn C rfl (zdec_at dm_X11_fault 21 rfl) rfl ⟨z19, h⟩
    · have h := h.2 g14
      refine zr_iload_n C 1 rfl (zdec_at dm_X11_fault 12 rfl) rfl ?_
      exact zr_ireturn C rfl (zdec_at dm_X11_fault 13 rfl) rfl ⟨z4, h⟩

set_option maxHeartbeats 400000 in
set_option maxRecDepth 100000 in
theorem sn_X11_picture {pr_X11_refusalOfText : Int → zM → Prop} {po_X11_refusalOfText : Int → zM → Int → zM → Prop} {pr_X11_shelfAt : Int → zM → Prop} {po_X11_shelfAt : Int → zM → Int → zM → Prop} {pr_X0_readText : Int → Int → zM → Prop} {po_X0_readText : Int → Int → zM → Int → zM → Prop} {pr_X0_takeText : zM → Prop} {po_X0_takeText : zM → zM → Prop} {pr_X3_forget : zM → Prop} {po_X3_forget : zM → zM → Prop} {pr_X0_dots : zM → Prop} {po_X0_dots : zM → Int → zM → Prop} (hS_X11_refusalOfText : zSnd zS 145 0 0 yX11_refusalOfText cX11_refusalOfText 3 (some .int) 1 [2, 0] (F_X11_refusalOfText pr_X11_refusalOfText po_X11_refusalOfText)) (hS_X11_shelfAt : zSnd zS 145 0 0 yX11_shelfAt cX11_shelfAt 2 (some (.object "DotLines$Shelf")) 0 [2, 0] (F_X11_shelfAt pr_X11_shelfAt po_X11_shelfAt)) (hS_X0_readText : zSnd zS 145 0 0 yX0_readText cX0_readText 12 (some .int) 2 [2, 2, 0] (F_X0_readText pr_X0_readText po_X0_readText)) (hS_X0_takeText : zSnd zS 145 0 0 yX0_takeText cX0_takeText 1 none 2 [2] (F_X0_takeText pr_X0_takeText po_X0_takeText)) (hS_X3_forget : zSnd zS 145 0 0 yX3_forget cX3_forget 1 none 0 [2] (F_X3_forget pr_X3_forget po_X3_forget)) (hS_X0_dots : zSnd zS 145 0 0 yX0_dots cX0_dots 1 (some .int) 0 [2] (F_X0_dots pr_X0_dots po_X0_dots)) : zSnd zS 145 0 0 yX11_picture cX11_picture 5 (some .int) 3 [2, 0] (fun xs P M => ∃ a1 : Int, xs = [0, a1] ∧ vc_X11_picture pr_X11_refusalOfText po_X11_refusalOfText pr_X11_shelfAt po_X11_shelfAt pr_X0_readText po_X0_readText pr_X0_takeText po_X0_takeText pr_X3_forget po_X3_forget pr_X0_dots po_X0_dots a1 P M) := by
  refine zSnd.of rfl (fun ad xs hz => Nat.le_trans (Nat.le_of_eq (zlen ad _ xs hz)) (by decide)) ?_
  intro Γ C _ _ xs M hz hF
  obtain ⟨a1, rfl, h⟩ := hF
  have zz_a1 := zall_h (zall_t hz) (by decide)
  refine zr_rng (fun hR => ?_)
  have C : zC Γ mu_X11_picture := C
  change zV Γ mu_X11_picture (145, 0, 0) 0 [(0, zRf (zad Γ) 0), (1, zI a1)] [] M
  change vc_X11_picture pr_X11_refusalOfText po_X11_refusalOfText pr_X11_shelfAt po_X11_shelfAt pr_X0_readText po_X0_readText pr_X0_takeText po_X0_takeText pr_X3_forget po_X3_forget pr_X0_dots po_X0_dots a1 _ M at h
  unfold vc_X11_picture at h
  refine zr_aload_n C 0 rfl (zdec_at dm_X11_picture 0 rfl) rfl ?_
  refine zr_iload_n C 1 rfl (zdec_at dm_X11_picture 1 rfl) rfl ?_
  obtain ⟨g6, h⟩ := h
  refine zr_callV C [a1] hS_X11_refusalOfText ck_RX11_99 iv_X11_refusalOfText vc_X11 oc_0 rfl rfl (zdec_at dm_X11_picture 2 rfl) ⟨rfl, rfl, rfl, rfl⟩ ⟨by decide, by decide⟩ (Nat.le_of_ble_eq_true rfl) (zall_0 zz_a1 zall_n) ?_
  refine ⟨_, rfl, g6, fun r1 M2 p5 z4 hR3 => ?_⟩
  have h := h r1 M2 p5 z4 hR3
  show zV Γ mu_X11_picture (145, 0, 0) 5 [(0, zRf (zad Γ) 0), (1, zI a1)] [zI r1] M2
  refine zr_istore_n (L1 := [(2, zI r1), (0, zRf (zad Γ) 0), (1, zI a1)]) C (zdec_at dm_X11_picture 3 rfl) rfl (Nat.le_of_ble_eq_true rfl) rfl ?_
  refine zr_aload_n C 1 rfl (zdec_at dm_X11_picture 4 rfl) rfl ?_
  refine zr_iload_n C 2 rfl (zdec_at dm_X11_picture 5 rfl) rfl ?_
  obtain ⟨g12, h⟩ := h
  refine zr_callV C [a1] hS_X11_shelfAt ck_RX11_103 iv_X11_shelfAt vc_X11 oc_0 rfl rfl (zdec_at dm_X11_picture 6 rfl) ⟨rfl, rfl, rfl, rfl⟩ ⟨by decide, by decide⟩ (Nat.le_of_ble_eq_true rfl) (zall_0 zz_a1 zall_n) ?_
  refine ⟨_, rfl, g12, fun r7 M8 p11 z10 hR9 => ?_⟩
  have h := h r7 M8 p11 z10 hR9
  show zV Γ mu_X11_picture (145, 0, 0) 11 [(2, zI r1), (0, zRf (zad Γ) 0), (1, zI a1)] [zA (zad Γ) r7] M8
  refine zr_astoreA_n (L1 := [(3, zA (zad Γ) r7), (2, zI r1), (0, zRf (zad Γ) 0), (1, zI a1)]) C (zdec_at dm_X11_picture 7 rfl) rfl (Nat.le_of_ble_eq_true rfl) rfl ?_
  refine zr_iload_n C 1 rfl (zdec_at dm_X11_picture 8 rfl) rfl ?_
  refine zr_if_lt C z4 (zdec_at dm_X11_picture 9 rfl) rfl (fun g13 => ?_) (fun g13 => ?_)
  · have h := h.1 g13
    refine zr_iload_n C 1 rfl (zdec_at dm_X11_picture 12 rfl) rfl ?_
    exact zr_ireturn C rfl (zdec_at dm_X11_picture 13 rfl) rfl ⟨z4, h⟩
  · have h := h.2 g13
    refine zr_aloadA_n C 0 rfl (zdec_at dm_X11_picture 10 rfl) rfl ?_
    refine zr_ifnonnull C (zdec_at dm_X11_picture 11 rfl) rfl (fun g14 => ?_) (fun g14 => ?_)
    · have h := h.1 g14
      rw [zA_pos g14]
      refine zr_aload_n C 2 rfl (zdec_at dm_X11_picture 14 rfl) rfl ?_
      refine zr_getr (q := 1) C fk_RX11_25 fi_0_0 (zdec_at dm_X11_picture 15 rfl) ?_
      refine zr_aload_n C 0 rfl (zdec_at dm_X11_picture 16 rfl) rfl ?_
      obtain ⟨o15, h⟩ := h
      refine zr_getr (q := (r7 + 1)) C fk_RX11_107 (zsh_v o15) (zdec_at dm_X11_picture 17 rfl) ?_
      refine zr_aload_n C 0 rfl (zdec_at dm_X11_picture 18 rfl) rfl ?_
      refine zr_geti C fk_RX11_111 (zsh_f o15 2 (by decide)) (zdec_at dm_X11_picture 19 rfl) ?_
      obtain ⟨g21, h⟩ := h
      refine zr_callV C [(r7 + 1), (M8 r7 2)] hS_X0_readText ck_RX11_115 iv_X0_readText vc_X0 oc_1 rfl rfl (zdec_at dm_X11_picture 20 rfl) ⟨rfl, rfl, rfl, rfl⟩ ⟨by decide, by decide⟩ (Nat.le_of_ble_eq_true rfl) (zall_2 (zall_0 (hR9 _ _) zall_n)) ?_
      refine ⟨_, _, rfl, g21, fun r16 M17 p20 z19 hR18 => ?_⟩
      have h := h r16 M17 p20 z19 hR18
      show zV Γ mu_X11_picture (145, 0, 0) 37 [(3, zRf (zad Γ) r7), (2, zI r1), (0, zRf (zad Γ) 0), (1, zI a1)] [zI r16] M17
      refine zr_istore (L1 := [(4, zI r16), (3, zRf (zad Γ) r7), (2, zI r1), (0, zRf (zad Γ) 0), (1, zI a1)]) C (zdec_at dm_X11_picture 21 rfl) (Nat.le_of_ble_eq_true rfl) rfl ?_
      refine zr_iload C 0 rfl (zdec_at dm_X11_picture 22 rfl) ?_
      refine zr_bipush C (zdec_at dm_X11_picture 23 rfl) (by decide) ?_
      refine zr_icmp_eq C z19 (by decide) (zdec_at dm_X11_picture 24 rfl) rfl (fun g22 => ?_) (fun g22 => ?_)
      · have h := h.1 g22
        refine zr_aload_n C 3 rfl (zdec_at dm_X11_picture 29 rfl) rfl ?_
        refine zr_getr (q := 1) C fk_RX11_25 fi_0_0 (zdec_at dm_X11_picture 30 rfl) ?_
        obtain ⟨g27, h⟩ := h
        refine zr_callV C [] hS_X0_takeText ck_RX11_119 iv_X0_takeText vc_X0 oc_1 rfl rfl (zdec_at dm_X11_picture 31 rfl) ⟨rfl, rfl, rfl, rfl⟩ ⟨by decide, by decide⟩ (Nat.le_of_ble_eq_true rfl) zall_n ?_
        refine ⟨rfl, g27, fun M23 p26 _ hR24 => ?_⟩
        have h := h M23 p26 hR24
        show zV Γ mu_X11_picture (145, 0, 0) 59 [(4, zI r16), (3, zRf (zad Γ) r7), (2, zI r1), (0, zRf (zad Γ) 0), (1, zI a1)] [] M23
        refine zr_aload_n C 3 rfl (zdec_at dm_X11_picture 32 rfl) rfl ?_
        refine zr_getr (q := 77) C fk_RX11_84 fi_0_9 (zdec_at dm_X11_picture 33 rfl) ?_
        obtain ⟨g32, h⟩ := h
        refine zr_callV C [] hS_X3_forget ck_RX11_122 iv_X3_forget vc_X3 oc_77 rfl rfl (zdec_at dm_X11_picture 34 rfl) ⟨rfl, rfl, rfl, rfl⟩ ⟨by decide, by decide⟩ (Nat.le_of_ble_eq_true rfl) zall_n ?_
        refine ⟨rfl, g32, fun M28 p31 _ hR29 => ?_⟩
        have h := h M28 p31 hR29
        show zV Γ mu_X11_picture (145, 0, 0) 66 [(4, zI r16), (3, zRf (zad Γ) r7), (2, zI r1), (0, zRf (zad Γ) 0), (1, zI a1)] [] M28
        refine zr_aload_n C 3 rfl (zdec_at dm_X11_picture 35 rfl) rfl ?_
        refine zr_getr (q := 1) C fk_RX11_25 fi_0_0 (zdec_at dm_X11_picture 36 rfl) ?_
        obtain ⟨g38, h⟩ := h
        refine zr_callV C [] hS_X0_dots ck_RX11_125 iv_X0_dots vc_X0 oc_1 rfl rfl (zdec_at dm_X11_picture 37 rfl) ⟨rfl, rfl, rfl, rfl⟩ ⟨by decide, by decide⟩ (Nat.le_of_ble_eq_true rfl) zall_n ?_
        refine ⟨rfl, g38, fun r33 M34 p37 z36 hR35 => ?_⟩
        have h := h r33 M34 p37 z36 hR35
        show zV Γ mu_X11_picture (145, 0, 0) 73 [(4, zI r16), (3, zRf (zad Γ) r7), (2, zI r1), (0, zRf (zad Γ) 0), (1, zI a1)] [zI r33] M34
        exact zr_ireturn C rfl (zdec_at dm_X11_picture 38 rfl) rfl ⟨z36, h⟩
      · have h := h.2 g22
        refine zr_bipush C (zdec_at dm_X11_picture 25 rfl) (by decide) ?_
        refine zr_iload C 0 rfl (zdec_at dm_X11_picture 26 rfl) ?_
        refine zr_isub C (zdec_at dm_X11_picture 27 rfl) ?_
        obtain ⟨o39, h⟩ := h
        exact zr_ireturn C rfl (zdec_at dm_X11_picture 28 rfl) rfl ⟨o39, h⟩
    · have h := h.2 g14
      refine zr_iload_n C 1 rfl (zdec_at dm_X11_picture 12 rfl) rfl ?_
      exact zr_ireturn C rfl (zdec_at dm_X11_picture 13 rfl) rfl ⟨z4, h⟩

set_option maxHeartbeats 400000 in
set_option maxRecDepth 100000 in
theorem sn_X11_dot {pr_X0_isDot : Int → zM → Prop} {po_X0_isDot : Int → zM → Int → zM → Prop} (hS_X0_isDot : zSnd zS 145 0 0 yX0_isDot cX0_isDot 2 (some .boolean) 0 [2, 0] (F_X0_isDot pr_X0_isDot po_X0_isDot)) : zSnd zS 145 0 0 yX11_dot cX11_dot 2 (some .int) 1 [2, 0] (fun xs P M => ∃ a1 : Int, xs = [0, a1] ∧ vc_X11_dot pr_X0_isDot po_X0_isDot a1 P M) := by
  refine zSnd.of rfl (fun ad xs hz => Nat.le_trans (Nat.le_of_eq (zlen ad _ xs hz)) (by decide)) ?_
  intro Γ C _ _ xs M hz hF
  obtain ⟨a1, rfl, h⟩ := hF
  have zz_a1 := zall_h (zall_t hz) (by decide)
  refine zr_rng (fun hR => ?_)
  have C : zC Γ mu_X11_dot := C
  change zV Γ mu_X11_dot (145, 0, 0) 0 [(0, zRf (zad Γ) 0), (1, zI a1)] [] M
  change vc_X11_dot pr_X0_isDot po_X0_isDot a1 _ M at h
  unfold vc_X11_dot at h
  refine zr_aload_n C 0 rfl (zdec_at dm_X11_dot 0 rfl) rfl ?_
  refine zr_getr (q := 1) C fk_RX11_25 fi_0_0 (zdec_at dm_X11_dot 1 rfl) ?_
  refine zr_iload_n C 1 rfl (zdec_at dm_X11_dot 2 rfl) rfl ?_
  obtain ⟨g6, h⟩ := h
  refine zr_callV C [a1] hS_X0_isDot ck_RX11_129 iv_X0_isDot vc_X0 oc_1 rfl rfl (zdec_at dm_X11_dot 3 rfl) ⟨rfl, rfl, rfl, rfl⟩ ⟨by decide, by decide⟩ (Nat.le_of_ble_eq_true rfl) (zall_0 zz_a1 zall_n) ?_
  refine ⟨_, rfl, g6, fun r1 M2 p5 z4 hR3 => ?_⟩
  have h := h r1 M2 p5 z4 hR3
  show zV Γ mu_X11_dot (145, 0, 0) 8 [(0, zRf (zad Γ) 0), (1, zI a1)] [zI r1] M2
  refine zr_if_eq C z4 (zdec_at dm_X11_dot 4 rfl) rfl (fun g7 => ?_) (fun g7 => ?_)
  · have h := h.1 g7
    refine zr_iconst C (zdec_at dm_X11_dot 11 rfl) ?_
    exact zr_ireturn C rfl (zdec_at dm_X11_dot 12 rfl) rfl ⟨(by decide), h⟩
  · have h := h.2 g7
    refine zr_aload_n C 0 rfl (zdec_at dm_X11_dot 5 rfl) rfl ?_
    refine zr_getr (q := 1) C fk_RX11_25 fi_0_0 (zdec_at dm_X11_dot 6 rfl) ?_
    refine zr_getr (q := 2) C fk_RX11_133 fi_1_4 (zdec_at dm_X11_dot 7 rfl) ?_
    refine zr_iload_n C 1 rfl (zdec_at dm_X11_dot 8 rfl) rfl ?_
    obtain ⟨o8, h⟩ := h
    refine zr_bald C ai_2 o8 (zdec_at dm_X11_dot 9 rfl) ?_
    refine zr_goto C (zdec_at dm_X11_dot 10 rfl) rfl ?_
    exact zr_ireturn C rfl (zdec_at dm_X11_dot 12 rfl) rfl ⟨(hR3 _ _), h⟩

set_option maxHeartbeats 400000 in
set_option maxRecDepth 100000 in
theorem sn_X11_paint {pr_X0_isDot : Int → zM → Prop} {po_X0_isDot : Int → zM → Int → zM → Prop} {pr_X11_isColour : Int → zM → Prop} {po_X11_isColour : Int → zM → Int → zM → Prop} {pr_X0_startDraft : zM → Prop} {po_X0_startDraft : zM → zM → Prop} {pr_X11_changeToDraft : zM → Prop} {po_X11_changeToDraft : zM → Int → zM → Prop} (hS_X0_isDot : zSnd zS 145 0 0 yX0_isDot cX0_isDot 2 (some .boolean) 0 [2, 0] (F_X0_isDot pr_X0_isDot po_X0_isDot)) (hS_X11_isColour : zSnd zS 145 0 0 yX11_isColour cX11_isColour 1 (some .boolean) 0 [0] (F_X11_isColour pr_X11_isColour po_X11_isColour)) (hS_X0_startDraft : zSnd zS 145 0 0 yX0_startDraft cX0_startDraft 1 none 1 [2] (F_X0_startDraft pr_X0_startDraft po_X0_startDraft)) (hS_X11_changeToDraft : zSnd zS 145 0 0 yX11_changeToDraft cX11_changeToDraft 2 (some .int) 2 [2] (F_X11_changeToDraft pr_X11_changeToDraft po_X11_changeToDraft)) : zSnd zS 145 0 0 yX11_paint cX11_paint 4 (some .int) 3 [2, 0, 0] (fun xs P M => ∃ a1 a2 : Int, xs = [0, a1, a2] ∧ vc_X11_paint pr_X0_isDot po_X0_isDot pr_X11_isColour po_X11_isColour pr_X0_startDraft po_X0_startDraft pr_X11_changeToDraft po_X11_changeToDraft a1 a2 P M) := by
  refine zSnd.of rfl (fun ad xs hz => Nat.le_trans (Nat.le_of_eq (zlen ad _ xs hz)) (by decide)) ?_
  intro Γ C _ _ xs M hz hF
  obtain ⟨a1, a2, rfl, h⟩ := hF
  have zz_a1 := zall_h (zall_t hz) (by decide)
  have zz_a2 := zall_h (zall_t (zall_t hz)) (by decide)
  refine zr_rng (fun hR => ?_)
  have C : zC Γ mu_X11_paint := C
  change zV Γ mu_X11_paint (145, 0, 0) 0 [(0, zRf (zad Γ) 0), (1, zI a1), (2, zI a2)] [] M
  change vc_X11_paint pr_X0_isDot po_X0_isDot pr_X11_isColour po_X11_isColour pr_X0_startDraft po_X0_startDraft pr_X11_changeToDraft po_X11_changeToDraft a1 a2 _ M at h
  unfold vc_X11_paint at h
  refine zr_aload_n C 0 rfl (zdec_at dm_X11_paint 0 rfl) rfl ?_
  refine zr_getr (q := 1) C fk_RX11_25 fi_0_0 (zdec_at dm_X11_paint 1 rfl) ?_
  refine zr_iload_n C 1 rfl (zdec_at dm_X11_paint 2 rfl) rfl ?_
  obtain ⟨g6, h⟩ := h
  refine zr_callV C [a1] hS_X0_isDot ck_RX11_129 iv_X0_isDot vc_X0 oc_1 rfl rfl (zdec_at dm_X11_paint 3 rfl) ⟨rfl, rfl, rfl, rfl⟩ ⟨by decide, by decide⟩ (Nat.le_of_ble_eq_true rfl) (zall_0 zz_a1 zall_n) ?_
  refine ⟨_, rfl, g6, fun r1 M2 p5 z4 hR3 => ?_⟩
  have h := h r1 M2 p5 z4 hR3
  show zV Γ mu_X11_paint (145, 0, 0) 8 [(0, zRf (zad Γ) 0), (1, zI a1), (2, zI a2)] [zI r1] M2
  refine zr_if_eq C z4 (zdec_at dm_X11_paint 4 rfl) rfl (fun g7 => ?_) (fun g7 => ?_)
  · have h := h.1 g7
    refine zr_iconst C (zdec_at dm_X11_paint 8 rfl) ?_
    exact zr_ireturn C rfl (zdec_at dm_X11_paint 9 rfl) rfl ⟨(by decide), h⟩
  · have h := h.2 g7
    refine zr_iload_n C 2 rfl (zdec_at dm_X11_paint 5 rfl) rfl ?_
    obtain ⟨g13, h⟩ := h
    refine zr_callS C [a2] hS_X11_isColour ck_RX11_137 sv_X11_isColour rfl rfl (zdec_at dm_X11_paint 6 rfl) ⟨rfl, rfl, rfl, rfl⟩ ⟨by decide, by decide⟩ (Nat.le_of_ble_eq_true rfl) (zall_0 zz_a2 zall_n) ?_
    refine ⟨_, rfl, g13, fun r8 M9 p12 z11 hR10 => ?_⟩
    have h := h r8 M9 p12 z11 hR10
    show zV Γ mu_X11_paint (145, 0, 0) 15 [(0, zRf (zad Γ) 0), (1, zI a1), (2, zI a2)] [zI r8] M9
    refine zr_if_ne C z11 (zdec_at dm_X11_paint 7 rfl) rfl (fun g14 => ?_) (fun g14 => ?_)
    · have h := h.1 g14
      refine zr_aload_n C 0 rfl (zdec_at dm_X11_paint 10 rfl) rfl ?_
      refine zr_getr (q := 1) C fk_RX11_25 fi_0_0 (zdec_at dm_X11_paint 11 rfl) ?_
      refine zr_getr (q := 2) C fk_RX11_133 fi_1_4 (zdec_at dm_X11_paint 12 rfl) ?_
      refine zr_iload_n C 1 rfl (zdec_at dm_X11_paint 13 rfl) rfl ?_
      obtain ⟨o15, h⟩ := h
      refine zr_bald C ai_2 o15 (zdec_at dm_X11_paint 14 rfl) ?_
      refine zr_istore_n (L1 := [(3, zI (M9 2 a1)), (0, zRf (zad Γ) 0), (1, zI a1), (2, zI a2)]) C (zdec_at dm_X11_paint 15 rfl) rfl (Nat.le_of_ble_eq_true rfl) rfl ?_
      refine zr_aload_n C 1 rfl (zdec_at dm_X11_paint 16 rfl) rfl ?_
      refine zr_getr (q := 1) C fk_RX11_25 fi_0_0 (zdec_at dm_X11_paint 17 rfl) ?_
      obtain ⟨g20, h⟩ := h
      refine zr_callV C [] hS_X0_startDraft ck_RX11_140 iv_X0_startDraft vc_X0 oc_1 rfl rfl (zdec_at dm_X11_paint 18 rfl) ⟨rfl, rfl, rfl, rfl⟩ ⟨by decide, by decide⟩ (Nat.le_of_ble_eq_true rfl) zall_n ?_
      refine ⟨rfl, g20, fun M16 p19 _ hR17 => ?_⟩
      have h := h M16 p19 hR17
      show zV Γ mu_X11_paint (145, 0, 0) 37 [(3, zI (M9 2 a1)), (0, zRf (zad Γ) 0), (1, zI a1), (2, zI a2)] [] M16
      refine zr_aload_n C 1 rfl (zdec_at dm_X11_paint 19 rfl) rfl ?_
      refine zr_getr (q := 1) C fk_RX11_25 fi_0_0 (zdec_at dm_X11_paint 20 rfl) ?_
      refine zr_getr (q := 4) C fk_RX11_143 fi_1_6 (zdec_at dm_X11_paint 21 rfl) ?_
      refine zr_iload_n C 2 rfl (zdec_at dm_X11_paint 22 rfl) rfl ?_
      refine zr_iload_n C 3 rfl (zdec_at dm_X11_paint 23 rfl) rfl ?_
      refine zr_i2b C (zdec_at dm_X11_paint 24 rfl) ?_
      refine zr_bast C ai_4 o15 (z_bm _ (by decide) (by decide)) Int.bmod_bmod rfl (zdec_at dm_X11_paint 25 rfl) (fun M21 e22 => ?_)
      have h := h M21 e22
      have hR23 : zRng M21 := by rw [e22]; exact hR17.set (z_bm _ (by decide) (by decide)) _ _
      refine zr_aload_n C 1 rfl (zdec_at dm_X11_paint 26 rfl) rfl ?_
      obtain ⟨g29, h⟩ := h
      refine zr_callV C [] hS_X11_changeToDraft ck_RX11_146 iv_X11_changeToDraft vc_X11 oc_0 rfl rfl (zdec_at dm_X11_paint 27 rfl) ⟨rfl, rfl, rfl, rfl⟩ ⟨by decide, by decide⟩ (Nat.le_of_ble_eq_true rfl) zall_n ?_
      refine ⟨rfl, g29, fun r24 M25 p28 z27 hR26 => ?_⟩
      have h := h r24 M25 p28 z27 hR26
      show zV Γ mu_X11_paint (145, 0, 0) 52 [(3, zI (M9 2 a1)), (0, zRf (zad Γ) 0), (1, zI a1), (2, zI a2)] [zI r24] M25
      refine zr_pop C rfl (zdec_at dm_X11_paint 28 rfl) ?_
      refine zr_iload_n C 0 rfl (zdec_at dm_X11_paint 29 rfl) rfl ?_
      exact zr_ireturn C rfl (zdec_at dm_X11_paint 30 rfl) rfl ⟨(hR10 _ _), h⟩
    · have h := h.2 g14
      refine zr_iconst C (zdec_at dm_X11_paint 8 rfl) ?_
      exact zr_ireturn C rfl (zdec_at dm_X11_paint 9 rfl) rfl ⟨(by decide), h⟩

set_option maxHeartbeats 400000 in
set_option maxRecDepth 100000 in
theorem sn_X11_tone {pr_X11_isColour : Int → zM → Prop} {po_X11_isColour : Int → zM → Int → zM → Prop} (hS_X11_isColour : zSnd zS 145 0 0 yX11_isColour cX11_isColour 1 (some .boolean) 0 [0] (F_X11_isColour pr_X11_isColour po_X11_isColour)) : zSnd zS 145 0 0 yX11_tone cX11_tone 4 (some .int) 1 [2, 0, 0] (fun xs P M => ∃ a1 a2 : Int, xs = [0, a1, a2] ∧ vc_X11_tone pr_X11_isColour po_X11_isColour a1 a2 P M) := by
  refine zSnd.of rfl (fun ad xs hz => Nat.le_trans (Nat.le_of_eq (zlen ad _ xs hz)) (by decide)) ?_
  intro Γ C _ _ xs M hz hF
  obtain ⟨a1, a2, rfl, h⟩ := hF
  have zz_a1 := zall_h (zall_t hz) (by decide)
  have zz_a2 := zall_h (zall_t (zall_t hz)) (by decide)
  refine zr_rng (fun hR => ?_)
  have C : zC Γ mu_X11_tone := C
  change zV Γ mu_X11_tone (145, 0, 0) 0 [(0, zRf (zad Γ) 0), (1, zI a1), (2, zI a2)] [] M
  change vc_X11_tone pr_X11_isColour po_X11_isColour a1 a2 _ M at h
  unfold vc_X11_tone at h
  refine zr_iload_n C 1 rfl (zdec_at dm_X11_tone 0 rfl) rfl ?_
  obtain ⟨g6, h⟩ := h
  refine zr_callS C [a1] hS_X11_isColour ck_RX11_137 sv_X11_isColour rfl rfl (zdec_at dm_X11_tone 1 rfl) ⟨rfl, rfl, rfl, rfl⟩ ⟨by decide, by decide⟩ (Nat.le_of_ble_eq_true rfl) (zall_0 zz_a1 zall_n) ?_
  refine ⟨_, rfl, g6, fun r1 M2 p5 z4 hR3 => ?_⟩
  have h := h r1 M2 p5 z4 hR3
  show zV Γ mu_X11_tone (145, 0, 0) 4 [(0, zRf (zad Γ) 0), (1, zI a1), (2, zI a2)] [zI r1] M2
  refine zr_if_eq C z4 (zdec_at dm_X11_tone 2 rfl) rfl (fun g7 => ?_) (fun g7 => ?_)
  · have h := h.1 g7
    refine zr_iconst C (zdec_at dm_X11_tone 8 rfl) ?_
    exact zr_ireturn C rfl (zdec_at dm_X11_tone 9 rfl) rfl ⟨(by decide), h⟩
  · have h := h.2 g7
    refine zr_iload_n C 2 rfl (zdec_at dm_X11_tone 3 rfl) rfl ?_
    refine zr_if_lt C zz_a2 (zdec_at dm_X11_tone 4 rfl) rfl (fun g8 => ?_) (fun g8 => ?_)
    · have h := h.1 g8
      refine zr_iconst C (zdec_at dm_X11_tone 8 rfl) ?_
      exact zr_ireturn C rfl (zdec_at dm_X11_tone 9 rfl) rfl ⟨(by decide), h⟩
    · have h := h.2 g8
      refine zr_iload_n C 2 rfl (zdec_at dm_X11_tone 5 rfl) rfl ?_
      refine zr_sipush C (zdec_at dm_X11_tone 6 rfl) (by decide) ?_
      refine zr_icmp_le C zz_a2 (by decide) (zdec_at dm_X11_tone 7 rfl) rfl (fun g9 => ?_) (fun g9 => ?_)
      · have h := h.1 g9
        refine zr_aload_n C 0 rfl (zdec_at dm_X11_tone 10 rfl) rfl ?_
        refine zr_getr (q := 1) C fk_RX11_25 fi_0_0 (zdec_at dm_X11_tone 11 rfl) ?_
        refine zr_getr (q := 3) C fk_RX11_149 fi_1_5 (zdec_at dm_X11_tone 12 rfl) ?_
        refine zr_iload_n C 1 rfl (zdec_at dm_X11_tone 13 rfl) rfl ?_
        obtain ⟨o10, h⟩ := h
        refine zr_iald C ai_3 o10 (zdec_at dm_X11_tone 14 rfl) ?_
        refine zr_istore_n (L1 := [(3, zI (M2 3 a1)), (0, zRf (zad Γ) 0), (1, zI a1), (2, zI a2)]) C (zdec_at dm_X11_tone 15 rfl) rfl (Nat.le_of_ble_eq_true rfl) rfl ?_
        refine zr_aload_n C 1 rfl (zdec_at dm_X11_tone 16 rfl) rfl ?_
        refine zr_getr (q := 1) C fk_RX11_25 fi_0_0 (zdec_at dm_X11_tone 17 rfl) ?_
        refine zr_getr (q := 3) C fk_RX11_149 fi_1_5 (zdec_at dm_X11_tone 18 rfl) ?_
        refine zr_iload_n C 2 rfl (zdec_at dm_X11_tone 19 rfl) rfl ?_
        refine zr_iload_n C 3 rfl (zdec_at dm_X11_tone 20 rfl) rfl ?_
        refine zr_iast C ai_3 o10 zz_a2 (zdec_at dm_X11_tone 21 rfl) (fun M11 e12 => ?_)
        have h := h M11 e12
        have hR13 : zRng M11 := by rw [e12]; exact hR3.set zz_a2 _ _
        refine zr_iload_n C 0 rfl (zdec_at dm_X11_tone 22 rfl) rfl ?_
        exact zr_ireturn C rfl (zdec_at dm_X11_tone 23 rfl) rfl ⟨(hR3 _ _), h⟩
      · have h := h.2 g9
        refine zr_iconst C (zdec_at dm_X11_tone 8 rfl) ?_
        exact zr_ireturn C rfl (zdec_at dm_X11_tone 9 rfl) rfl ⟨(by decide), h⟩

set_option maxHeartbeats 400000 in
set_option maxRecDepth 100000 in
theorem sn_X11_touch : zSnd zS 145 0 0 yX11_touch cX11_touch 3 (some .int) 0 [2, 0] (fun xs P M => ∃ a1 : Int, xs = [0, a1] ∧ vc_X11_touch a1 P M) := by
  refine zSnd.of rfl (fun ad xs hz => Nat.le_trans (Nat.le_of_eq (zlen ad _ xs hz)) (by decide)) ?_
  intro Γ C _ _ xs M hz hF
  obtain ⟨a1, rfl, h⟩ := hF
  have zz_a1 := zall_h (zall_t hz) (by decide)
  refine zr_rng (fun hR => ?_)
  have C : zC Γ mu_X11_touch := C
  change zV Γ mu_X11_touch (145, 0, 0) 0 [(0, zRf (zad Γ) 0), (1, zI a1)] [] M
  change vc_X11_touch a1 _ M at h
  unfold vc_X11_touch at h
  refine zr_iload_n C 1 rfl (zdec_at dm_X11_touch 0 rfl) rfl ?_
  have h := h (zV Γ mu_X11_touch (145, 0, 0) 11 [(0, zRf (zad Γ) 0), (1, zI a1)] [] M) (fun h => by
    refine zr_aload_n C 0 rfl (zdec_at dm_X11_touch 7 rfl) rfl ?_
    refine zr_getr (q := 1) C fk_RX11_25 fi_0_0 (zdec_at dm_X11_touch 8 rfl) ?_
    refine zr_geti C fk_RX11_152 fi_1_2 (zdec_at dm_X11_touch 9 rfl) ?_
    refine zr_istore_n (L1 := [(2, zI (M 1 2)), (0, zRf (zad Γ) 0), (1, zI a1)]) C (zdec_at dm_X11_touch 10 rfl) rfl (Nat.le_of_ble_eq_true rfl) rfl ?_
    refine zr_aload_n C 1 rfl (zdec_at dm_X11_touch 11 rfl) rfl ?_
    refine zr_getr (q := 1) C fk_RX11_25 fi_0_0 (zdec_at dm_X11_touch 12 rfl) ?_
    refine zr_iload_n C 2 rfl (zdec_at dm_X11_touch 13 rfl) rfl ?_
    refine zr_puti C fk_RX11_152 fi_1_2 zz_a1 (zdec_at dm_X11_touch 14 rfl) (fun M1 e2 => ?_)
    have h := h M1 e2
    have hR3 : zRng M1 := by rw [e2]; exact hR.set zz_a1 _ _
    refine zr_aload_n C 1 rfl (zdec_at dm_X11_touch 15 rfl) rfl ?_
    refine zr_getr (q := 1) C fk_RX11_25 fi_0_0 (zdec_at dm_X11_touch 16 rfl) ?_
    refine zr_dup C rfl (zdec_at dm_X11_touch 17 rfl) ?_
    refine zr_geti C fk_RX11_155 fi_1_3 (zdec_at dm_X11_touch 18 rfl) ?_
    refine zr_iconst C (zdec_at dm_X11_touch 19 rfl) ?_
    refine zr_iadd C (zdec_at dm_X11_touch 20 rfl) ?_
    obtain ⟨o4, h⟩ := h
    refine zr_puti C fk_RX11_155 fi_1_3 o4 (zdec_at dm_X11_touch 21 rfl) (fun M5 e6 => ?_)
    have h := h M5 e6
    have hR7 : zRng M5 := by rw [e6]; exact hR3.set o4 _ _
    refine zr_iload_n C 0 rfl (zdec_at dm_X11_touch 22 rfl) rfl ?_
    exact zr_ireturn C rfl (zdec_at dm_X11_touch 23 rfl) rfl ⟨(hR _ _), h⟩)
  refine zr_if_eq C zz_a1 (zdec_at dm_X11_touch 1 rfl) rfl (fun g8 => ?_) (fun g8 => ?_)
  · have h := h.1 g8
    exact zr_sub [0, 1] rfl (h)
  · have h := h.2 g8
    refine zr_iload_n C 1 rfl (zdec_at dm_X11_touch 2 rfl) rfl ?_
    refine zr_iconst C (zdec_at dm_X11_touch 3 rfl) ?_
    refine zr_icmp_eq C zz_a1 (by decide) (zdec_at dm_X11_touch 4 rfl) rfl (fun g9 => ?_) (fun g9 => ?_)
    · have h := h.1 g9
      exact zr_sub [0, 1] rfl (h)
    · have h := h.2 g9
      refine zr_iconst C (zdec_at dm_X11_touch 5 rfl) ?_
      exact zr_ireturn C rfl (zdec_at dm_X11_touch 6 rfl) rfl ⟨(by decide), h⟩

set_option maxHeartbeats 400000 in
set_option maxRecDepth 100000 in
theorem sn_X11_clean {pr_X2_refresh : zM → Prop} {po_X2_refresh : zM → zM → Prop} {pr_X0_startDraft : zM → Prop} {po_X0_startDraft : zM → zM → Prop} {pr_X11_changeToDraft : zM → Prop} {po_X11_changeToDraft : zM → Int → zM → Prop} {pr_X2_colourMostBeside : Int → zM → Prop} {po_X2_colourMostBeside : Int → zM → Int → zM → Prop} {pr_X2_paintDraft : Int → Int → zM → Prop} {po_X2_paintDraft : Int → Int → zM → zM → Prop} (hS_X2_refresh : zSnd zS 145 0 0 yX2_refresh cX2_refresh 3 none 3 [2] (F_X2_refresh pr_X2_refresh po_X2_refresh)) (hS_X0_startDraft : zSnd zS 145 0 0 yX0_startDraft cX0_startDraft 1 none 1 [2] (F_X0_startDraft pr_X0_startDraft po_X0_startDraft)) (hS_X11_changeToDraft : zSnd zS 145 0 0 yX11_changeToDraft cX11_changeToDraft 2 (some .int) 2 [2] (F_X11_changeToDraft pr_X11_changeToDraft po_X11_changeToDraft)) (hS_X2_colourMostBeside : zSnd zS 145 0 0 yX2_colourMostBeside cX2_colourMostBeside 4 (some .int) 2 [2, 0] (F_X2_colourMostBeside pr_X2_colourMostBeside po_X2_colourMostBeside)) (hS_X2_paintDraft : zSnd zS 145 0 0 yX2_paintDraft cX2_paintDraft 5 none 1 [2, 0, 0] (F_X2_paintDraft pr_X2_paintDraft po_X2_paintDraft)) : zSnd zS 145 0 0 yX11_clean cX11_clean 3 (some .int) 4 [2, 0] (fun xs P M => ∃ a1 : Int, xs = [0, a1] ∧ vc_X11_clean pr_X2_refresh po_X2_refresh pr_X0_startDraft po_X0_startDraft pr_X11_changeToDraft po_X11_changeToDraft pr_X2_colourMostBeside po_X2_colourMostBeside pr_X2_paintDraft po_X2_paintDraft a1 P M) := by
  refine zSnd.of rfl (fun ad xs hz => Nat.le_trans (Nat.le_of_eq (zlen ad _ xs hz)) (by decide)) ?_
  intro Γ C _ _ xs M hz hF
  obtain ⟨a1, rfl, h⟩ := hF
  have zz_a1 := zall_h (zall_t hz) (by decide)
  refine zr_rng (fun hR => ?_)
  have C : zC Γ mu_X11_clean := C
  change zV Γ mu_X11_clean (145, 0, 0) 0 [(0, zRf (zad Γ) 0), (1, zI a1)] [] M
  change vc_X11_clean pr_X2_refresh po_X2_refresh pr_X0_startDraft po_X0_startDraft pr_X11_changeToDraft po_X11_changeToDraft pr_X2_colourMostBeside po_X2_colourMostBeside pr_X2_paintDraft po_X2_paintDraft a1 _ M at h
  unfold vc_X11_clean at h
  refine zr_iload_n C 1 rfl (zdec_at dm_X11_clean 0 rfl) rfl ?_
  refine zr_iconst C (zdec_at dm_X11_clean 1 rfl) ?_
  refine zr_icmp_lt C zz_a1 (by decide) (zdec_at dm_X11_clean 2 rfl) rfl (fun g1 => ?_) (fun g1 => ?_)
  · have h := h.1 g1
    refine zr_iconst C (zdec_at dm_X11_clean 6 rfl) ?_
    exact zr_ireturn C rfl (zdec_at dm_X11_clean 7 rfl) rfl ⟨(by decide), h⟩
  · have h := h.2 g1
    refine zr_iload_n C 1 rfl (zdec_at dm_X11_clean 3 rfl) rfl ?_
    refine zr_bipush C (zdec_at dm_X11_clean 4 rfl) (by decide) ?_
    refine zr_icmp_le C zz_a1 (by decide) (zdec_at dm_X11_clean 5 rfl) rfl (fun g2 => ?_) (fun g2 => ?_)
    · have h := h.1 g2
      refine zr_aload_n C 0 rfl (zdec_at dm_X11_clean 8 rfl) rfl ?_
      refine zr_getr (q := 5) C fk_RX11_29 fi_0_1 (zdec_at dm_X11_clean 9 rfl) ?_
      obtain ⟨g7, h⟩ := h
      refine zr_callV C [] hS_X2_refresh ck_RX11_158 iv_X2_refresh vc_X2 oc_5 rfl rfl (zdec_at dm_X11_clean 10 rfl) ⟨rfl, rfl, rfl, rfl⟩ ⟨by decide, by decide⟩ (Nat.le_of_ble_eq_true rfl) zall_n ?_
      refine ⟨rfl, g7, fun M3 p6 _ hR4 => ?_⟩
      have h := h M3 p6 hR4
      show zV Γ mu_X11_clean (145, 0, 0) 20 [(0, zRf (zad Γ) 0), (1, zI a1)] [] M3
      refine zr_aload_n C 0 rfl (zdec_at dm_X11_clean 11 rfl) rfl ?_
      refine zr_getr (q := 1) C fk_RX11_25 fi_0_0 (zdec_at dm_X11_clean 12 rfl) ?_
      obtain ⟨g12, h⟩ := h
      refine zr_callV C [] hS_X0_startDraft ck_RX11_140 iv_X0_startDraft vc_X0 oc_1 rfl rfl (zdec_at dm_X11_clean 13 rfl) ⟨rfl, rfl, rfl, rfl⟩ ⟨by decide, by decide⟩ (Nat.le_of_ble_eq_true rfl) zall_n ?_
      refine ⟨rfl, g12, fun M8 p11 _ hR9 => ?_⟩
      have h := h M8 p11 hR9
      show zV Γ mu_X11_clean (145, 0, 0) 27 [(0, zRf (zad Γ) 0), (1, zI a1)] [] M8
      refine zr_iconst C (zdec_at dm_X11_clean 14 rfl) ?_
      refine zr_istore_n (L1 := [(2, zI 0), (0, zRf (zad Γ) 0), (1, zI a1)]) C (zdec_at dm_X11_clean 15 rfl) rfl (Nat.le_of_ble_eq_true rfl) rfl ?_
      obtain ⟨I29, ⟨n21, q22⟩, hI20⟩ := h
      have lp19 : ∀ (n17 : Nat) (v13 : Int) (M15 : zM), I29 v13 M15 n17 → zin v13 → zRng M15 → zV Γ mu_X11_clean (145, 0, 0) 29 [(0, zRf (zad Γ) 0), (1, zI a1), (2, zI v13)] [] M15 := by
        intro n17
        induction n17 using Nat.strongRecOn with
        | _ n17 ih18 =>
        intro v13 M15 q23 z14 hR16
        have h := hI20 v13 M15 n17 q23 z14 hR16
        refine zr_iload_n C 2 rfl (zdec_at dm_X11_clean 16 rfl) rfl ?_
        refine zr_aload_n C 0 rfl (zdec_at dm_X11_clean 17 rfl) rfl ?_
        refine zr_getr (q := 5) C fk_RX11_29 fi_0_1 (zdec_at dm_X11_clean 18 rfl) ?_
        refine zr_geti C fk_RX11_161 fi_5_2 (zdec_at dm_X11_clean 19 rfl) ?_
        refine zr_icmp_ge C z14 (hR16 _ _) (zdec_at dm_X11_clean 20 rfl) rfl (fun g24 => ?_) (fun g24 => ?_)
        · have h := h.1 g24
          refine zr_aload_n C 0 rfl (zdec_at dm_X11_clean 38 rfl) rfl ?_
          obtain ⟨g30, h⟩ := h
          refine zr_callV C [] hS_X11_changeToDraft ck_RX11_146 iv_X11_changeToDraft vc_X11 oc_0 rfl rfl (zdec_at dm_X11_clean 39 rfl) ⟨rfl, rfl, rfl, rfl⟩ ⟨by decide, by decide⟩ (Nat.le_of_ble_eq_true rfl) zall_n ?_
          refine ⟨rfl, g30, fun r25 M26 p29 z28 hR27 => ?_⟩
          have h := h r25 M26 p29 z28 hR27
          show zV Γ mu_X11_clean (145, 0, 0) 79 [(0, zRf (zad Γ) 0), (1, zI a1), (2, zI v13)] [zI r25] M26
          exact zr_ireturn C rfl (zdec_at dm_X11_clean 40 rfl) rfl ⟨z28, h⟩
        · have h := h.2 g24
          refine zr_aload_n C 0 rfl (zdec_at dm_X11_clean 21 rfl) rfl ?_
          refine zr_getr (q := 5) C fk_RX11_29 fi_0_1 (zdec_at dm_X11_clean 22 rfl) ?_
          refine zr_getr (q := 6) C fk_RX11_164 fi_5_3 (zdec_at dm_X11_clean 23 rfl) ?_
          refine zr_iload_n C 2 rfl (zdec_at dm_X11_clean 24 rfl) rfl ?_
          obtain ⟨o31, h⟩ := h
          refine zr_iald C ai_6 o31 (zdec_at dm_X11_clean 25 rfl) ?_
          refine zr_iload_n C 1 rfl (zdec_at dm_X11_clean 26 rfl) rfl ?_
          refine zr_icmp_gt C (hR16 _ _) zz_a1 (zdec_at dm_X11_clean 27 rfl) rfl (fun g32 => ?_) (fun g32 => ?_)
          · have h := h.1 g32
            refine zr_iinc (L1 := [(2, zI (v13 + 1)), (0, zRf (zad Γ) 0), (1, zI a1)]) C 2 rfl (zdec_at dm_X11_clean 36 rfl) (Nat.le_of_ble_eq_true rfl) rfl ?_
            refine zr_goto C (zdec_at dm_X11_clean 37 rfl) rfl ?_
            obtain ⟨o33, h⟩ := h
            obtain ⟨n34, q35, q36⟩ := h
            exact zr_sub [1, 2, 0] rfl (ih18 n34 q35 _ _ q36 o33 hR16)
          · have h := h.2 g32
            refine zr_aload_n C 0 rfl (zdec_at dm_X11_clean 28 rfl) rfl ?_
            refine zr_getr (q := 5) C fk_RX11_29 fi_0_1 (zdec_at dm_X11_clean 29 rfl) ?_
            refine zr_iload_n C 2 rfl (zdec_at dm_X11_clean 30 rfl) rfl ?_
            refine zr_aload_n C 0 rfl (zdec_at dm_X11_clean 31 rfl) rfl ?_
            refine zr_getr (q := 5) C fk_RX11_29 fi_0_1 (zdec_at dm_X11_clean 32 rfl) ?_
            refine zr_iload_n C 2 rfl (zdec_at dm_X11_clean 33 rfl) rfl ?_
            obtain ⟨g42, h⟩ := h
            refine zr_callV C [v13] hS_X2_colourMostBeside ck_RX11_166 iv_X2_colourMostBeside vc_X2 oc_5 rfl rfl (zdec_at dm_X11_clean 34 rfl) ⟨rfl, rfl, rfl, rfl⟩ ⟨by decide, by decide⟩ (Nat.le_of_ble_eq_true rfl) (zall_0 z14 zall_n) ?_
            refine ⟨_, rfl, g42, fun r37 M38 p41 z40 hR39 => ?_⟩
            have h := h r37 M38 p41 z40 hR39
            show zV Γ mu_X11_clean (145, 0, 0) 66 [(0, zRf (zad Γ) 0), (1, zI a1), (2, zI v13)] [zI r37, zI v13, zRf (zad Γ) 5] M38
            obtain ⟨g47, h⟩ := h
            refine zr_callV C [v13, r37] hS_X2_paintDraft ck_RX11_169 iv_X2_paintDraft vc_X2 oc_5 rfl rfl (zdec_at dm_X11_clean 35 rfl) ⟨rfl, rfl, rfl, rfl⟩ ⟨by decide, by decide⟩ (Nat.le_of_ble_eq_true rfl) (zall_0 z14 (zall_0 z40 zall_n)) ?_
            refine ⟨_, _, rfl, g47, fun M43 p46 _ hR44 => ?_⟩
            have h := h M43 p46 hR44
            show zV Γ mu_X11_clean (145, 0, 0) 69 [(0, zRf (zad Γ) 0), (1, zI a1), (2, zI v13)] [] M43
            refine zr_iinc (L1 := [(2, zI (v13 + 1)), (0, zRf (zad Γ) 0), (1, zI a1)]) C 2 rfl (zdec_at dm_X11_clean 36 rfl) (Nat.le_of_ble_eq_true rfl) rfl ?_
            refine zr_goto C (zdec_at dm_X11_clean 37 rfl) rfl ?_
            obtain ⟨o48, h⟩ := h
            obtain ⟨n49, q50, q51⟩ := h
            exact zr_sub [1, 2, 0] rfl (ih18 n49 q50 _ _ q51 o48 hR44)
      exact zr_sub [1, 2, 0] rfl (lp19 n21 _ _ q22 (by decide) hR9)
    · have h := h.2 g2
      refine zr_iconst C (zdec_at dm_X11_clean 6 rfl) ?_
      exact zr_ireturn C rfl (zdec_at dm_X11_clean 7 rfl) rfl ⟨(by decide), h⟩

set_option maxHeartbeats 400000 in
set_option maxRecDepth 100000 in
theorem sn_X11_faceOf {pr_X0_isDot : Int → zM → Prop} {po_X0_isDot : Int → zM → Int → zM → Prop} {pr_X2_refresh : zM → Prop} {po_X2_refresh : zM → zM → Prop} {pr_X2_faceAt : Int → Int → zM → Prop} {po_X2_faceAt : Int → Int → zM → Int → zM → Prop} (hS_X0_isDot : zSnd zS 145 0 0 yX0_isDot cX0_isDot 2 (some .boolean) 0 [2, 0] (F_X0_isDot pr_X0_isDot po_X0_isDot)) (hS_X2_refresh : zSnd zS 145 0 0 yX2_refresh cX2_refresh 3 none 3 [2] (F_X2_refresh pr_X2_refresh po_X2_refresh)) (hS_X2_faceAt : zSnd zS 145 0 0 yX2_faceAt cX2_faceAt 3 (some .int) 0 [2, 0, 0] (F_X2_faceAt pr_X2_faceAt po_X2_faceAt)) : zSnd zS 145 0 0 yX11_faceOf cX11_faceOf 2 (some .int) 4 [2, 0] (fun xs P M => ∃ a1 : Int, xs = [0, a1] ∧ vc_X11_faceOf pr_X0_isDot po_X0_isDot pr_X2_refresh po_X2_refresh pr_X2_faceAt po_X2_faceAt a1 P M) := by
  refine zSnd.of rfl (fun ad xs hz => Nat.le_trans (Nat.le_of_eq (zlen ad _ xs hz)) (by decide)) ?_
  intro Γ C _ _ xs M hz hF
  obtain ⟨a1, rfl, h⟩ := hF
  have zz_a1 := zall_h (zall_t hz) (by decide)
  refine zr_rng (fun hR => ?_)
  have C : zC Γ mu_X11_faceOf := C
  change zV Γ mu_X11_faceOf (145, 0, 0) 0 [(0, zRf (zad Γ) 0), (1, zI a1)] [] M
  change vc_X11_faceOf pr_X0_isDot po_X0_isDot pr_X2_refresh po_X2_refresh pr_X2_faceAt po_X2_faceAt a1 _ M at h
  unfold vc_X11_faceOf at h
  refine zr_aload_n C 0 rfl (zdec_at dm_X11_faceOf 0 rfl) rfl ?_
  refine zr_getr (q := 1) C fk_RX11_25 fi_0_0 (zdec_at dm_X11_faceOf 1 rfl) ?_
  refine zr_iload_n C 1 rfl (zdec_at dm_X11_faceOf 2 rfl) rfl ?_
  obtain ⟨g6, h⟩ := h
  refine zr_callV C [a1] hS_X0_isDot ck_RX11_129 iv_X0_isDot vc_X0 oc_1 rfl rfl (zdec_at dm_X11_faceOf 3 rfl) ⟨rfl, rfl, rfl, rfl⟩ ⟨by decide, by decide⟩ (Nat.le_of_ble_eq_true rfl) (zall_0 zz_a1 zall_n) ?_
  refine ⟨_, rfl, g6, fun r1 M2 p5 z4 hR3 => ?_⟩
  have h := h r1 M2 p5 z4 hR3
  show zV Γ mu_X11_faceOf (145, 0, 0) 8 [(0, zRf (zad Γ) 0), (1, zI a1)] [zI r1] M2
  refine zr_if_ne C z4 (zdec_at dm_X11_faceOf 4 rfl) rfl (fun g7 => ?_) (fun g7 => ?_)
  · have h := h.1 g7
    refine zr_aload_n C 0 rfl (zdec_at dm_X11_faceOf 7 rfl) rfl ?_
    refine zr_getr (q := 5) C fk_RX11_29 fi_0_1 (zdec_at dm_X11_faceOf 8 rfl) ?_
    obtain ⟨g12, h⟩ := h
    refine zr_callV C [] hS_X2_refresh ck_RX11_158 iv_X2_refresh vc_X2 oc_5 rfl rfl (zdec_at dm_X11_faceOf 9 rfl) ⟨rfl, rfl, rfl, rfl⟩ ⟨by decide, by decide⟩ (Nat.le_of_ble_eq_true rfl) zall_n ?_
    refine ⟨rfl, g12, fun M8 p11 _ hR9 => ?_⟩
    have h := h M8 p11 hR9
    show zV Γ mu_X11_faceOf (145, 0, 0) 20 [(0, zRf (zad Γ) 0), (1, zI a1)] [] M8
    refine zr_aload_n C 0 rfl (zdec_at dm_X11_faceOf 10 rfl) rfl ?_
    refine zr_getr (q := 5) C fk_RX11_29 fi_0_1 (zdec_at dm_X11_faceOf 11 rfl) ?_
    refine zr_iload_n C 1 rfl (zdec_at dm_X11_faceOf 12 rfl) rfl ?_
    refine zr_bipush C (zdec_at dm_X11_faceOf 13 rfl) (by decide) ?_
    obtain ⟨o13, h⟩ := h
    refine zr_irem C zz_a1 (by decide) ⟨o13, by decide⟩ (zdec_at dm_X11_faceOf 14 rfl) ?_
    refine zr_iload_n C 1 rfl (zdec_at dm_X11_faceOf 15 rfl) rfl ?_
    refine zr_bipush C (zdec_at dm_X11_faceOf 16 rfl) (by decide) ?_
    refine zr_idiv C zz_a1 (by decide) ⟨o13, by decide⟩ (zdec_at dm_X11_faceOf 17 rfl) ?_
    obtain ⟨g19, h⟩ := h
    refine zr_callV C [(a1 % 16), (a1 / 16)] hS_X2_faceAt ck_RX11_173 iv_X2_faceAt vc_X2 oc_5 rfl rfl (zdec_at dm_X11_faceOf 18 rfl) ⟨rfl, rfl, rfl, rfl⟩ ⟨by decide, by decide⟩ (Nat.le_of_ble_eq_true rfl) (zall_0 (z_rz (a := a1) (b := 16) ⟨o13, by decide⟩ (by decide)) (zall_0 (z_dz2 (a := a1) (b := 16) ⟨o13, by decide⟩ zz_a1) zall_n)) ?_
    refine ⟨_, _, rfl, g19, fun r14 M15 p18 z17 hR16 => ?_⟩
    have h := h r14 M15 p18 z17 hR16
    show zV Γ mu_X11_faceOf (145, 0, 0) 35 [(0, zRf (zad Γ) 0), (1, zI a1)] [zI r14] M15
    exact zr_ireturn C rfl (zdec_at dm_X11_faceOf 19 rfl) rfl ⟨z17, h⟩
  · have h := h.2 g7
    refine zr_iconst C (zdec_at dm_X11_faceOf 5 rfl) ?_
    exact zr_ireturn C rfl (zdec_at dm_X11_faceOf 6 rfl) rfl ⟨(by decide), h⟩

set_option maxHeartbeats 400000 in
set_option maxRecDepth 100000 in
theorem sn_X11_face {pr_X11_isFace : Int → zM → Prop} {po_X11_isFace : Int → zM → Int → zM → Prop} {pr_X11_measure : Int → Int → zM → Prop} {po_X11_measure : Int → Int → zM → Int → zM → Prop} (hS_X11_isFace : zSnd zS 145 0 0 yX11_isFace cX11_isFace 2 (some .boolean) 4 [2, 0] (F_X11_isFace pr_X11_isFace po_X11_isFace)) (hS_X11_measure : zSnd zS 145 0 0 yX11_measure cX11_measure 3 (some .int) 5 [2, 0, 0] (F_X11_measure pr_X11_measure po_X11_measure)) : zSnd zS 145 0 0 yX11_face cX11_face 3 (some .int) 6 [2, 0, 0] (fun xs P M => ∃ a1 a2 : Int, xs = [0, a1, a2] ∧ vc_X11_face pr_X11_isFace po_X11_isFace pr_X11_measure po_X11_measure a1 a2 P M) := by
  refine zSnd.of rfl (fun ad xs hz => Nat.le_trans (Nat.le_of_eq (zlen ad _ xs hz)) (by decide)) ?_
  intro Γ C _ _ xs M hz hF
  obtain ⟨a1, a2, rfl, h⟩ := hF
  have zz_a1 := zall_h (zall_t hz) (by decide)
  have zz_a2 := zall_h (zall_t (zall_t hz)) (by decide)
  refine zr_rng (fun hR => ?_)
  have C : zC Γ mu_X11_face := C
  change zV Γ mu_X11_face (145, 0, 0) 0 [(0, zRf (zad Γ) 0), (1, zI a1), (2, zI a2)] [] M
  change vc_X11_face pr_X11_isFace po_X11_isFace pr_X11_measure po_X11_measure a1 a2 _ M at h
  unfold vc_X11_face at h
  refine zr_aload_n C 0 rfl (zdec_at dm_X11_face 0 rfl) rfl ?_
  refine zr_iload_n C 1 rfl (zdec_at dm_X11_face 1 rfl) rfl ?_
  obtain ⟨g6, h⟩ := h
  refine zr_callV C [a1] hS_X11_isFace ck_RX11_177 iv_X11_isFace vc_X11 oc_0 rfl rfl (zdec_at dm_X11_face 2 rfl) ⟨rfl, rfl, rfl, rfl⟩ ⟨by decide, by decide⟩ (Nat.le_of_ble_eq_true rfl) (zall_0 zz_a1 zall_n) ?_
  refine ⟨_, rfl, g6, fun r1 M2 p5 z4 hR3 => ?_⟩
  have h := h r1 M2 p5 z4 hR3
  show zV Γ mu_X11_face (145, 0, 0) 5 [(0, zRf (zad Γ) 0), (1, zI a1), (2, zI a2)] [zI r1] M2
  refine zr_if_eq C z4 (zdec_at dm_X11_face 3 rfl) rfl (fun g7 => ?_) (fun g7 => ?_)
  · have h := h.1 g7
    refine zr_iconst C (zdec_at dm_X11_face 9 rfl) ?_
    exact zr_ireturn C rfl (zdec_at dm_X11_face 10 rfl) rfl ⟨(by decide), h⟩
  · have h := h.2 g7
    refine zr_iload_n C 2 rfl (zdec_at dm_X11_face 4 rfl) rfl ?_
    refine zr_if_lt C zz_a2 (zdec_at dm_X11_face 5 rfl) rfl (fun g8 => ?_) (fun g8 => ?_)
    · have h := h.1 g8
      refine zr_iconst C (zdec_at dm_X11_face 9 rfl) ?_
      exact zr_ireturn C rfl (zdec_at dm_X11_face 10 rfl) rfl ⟨(by decide), h⟩
    · have h := h.2 g8
      refine zr_iload_n C 2 rfl (zdec_at dm_X11_face 6 rfl) rfl ?_
      refine zr_bipush C (zdec_at dm_X11_face 7 rfl) (by decide) ?_
      refine zr_icmp_lt C zz_a2 (by decide) (zdec_at dm_X11_face 8 rfl) rfl (fun g9 => ?_) (fun g9 => ?_)
      · have h := h.1 g9
        refine zr_aload_n C 0 rfl (zdec_at dm_X11_face 11 rfl) rfl ?_
        refine zr_iload_n C 1 rfl (zdec_at dm_X11_face 12 rfl) rfl ?_
        refine zr_iload_n C 2 rfl (zdec_at dm_X11_face 13 rfl) rfl ?_
        obtain ⟨g15, h⟩ := h
        refine zr_callV C [a1, a2] hS_X11_measure ck_RX11_180 iv_X11_measure vc_X11 oc_0 rfl rfl (zdec_at dm_X11_face 14 rfl) ⟨rfl, rfl, rfl, rfl⟩ ⟨by decide, by decide⟩ (Nat.le_of_ble_eq_true rfl) (zall_0 zz_a1 (zall_0 zz_a2 zall_n)) ?_
        refine ⟨_, _, rfl, g15, fun r10 M11 p14 z13 hR12 => ?_⟩
        have h := h r10 M11 p14 z13 hR12
        show zV Γ mu_X11_face (145, 0, 0) 26 [(0, zRf (zad Γ) 0), (1, zI a1), (2, zI a2)] [zI r10] M11
        exact zr_ireturn C rfl (zdec_at dm_X11_face 15 rfl) rfl ⟨z13, h⟩
      · have h := h.2 g9
        refine zr_iconst C (zdec_at dm_X11_face 9 rfl) ?_
        exact zr_ireturn C rfl (zdec_at dm_X11_face 10 rfl) rfl ⟨(by decide), h⟩

set_option maxHeartbeats 400000 in
set_option maxRecDepth 100000 in
theorem sn_X11_pair {pr_X11_isFace : Int → zM → Prop} {po_X11_isFace : Int → zM → Int → zM → Prop} {pr_X2_liesIn : Int → Int → zM → Prop} {po_X2_liesIn : Int → Int → zM → Int → zM → Prop} {pr_X11_asNumber : Int → zM → Prop} {po_X11_asNumber : Int → zM → Int → zM → Prop} {pr_X2_areBeside : Int → Int → zM → Prop} {po_X2_areBeside : Int → Int → zM → Int → zM → Prop} (hS_X11_isFace : zSnd zS 145 0 0 yX11_isFace cX11_isFace 2 (some .boolean) 4 [2, 0] (F_X11_isFace pr_X11_isFace po_X11_isFace)) (hS_X2_liesIn : zSnd zS 145 0 0 yX2_liesIn cX2_liesIn 6 (some .boolean) 3 [2, 0, 0] (F_X2_liesIn pr_X2_liesIn po_X2_liesIn)) (hS_X11_asNumber : zSnd zS 145 0 0 yX11_asNumber cX11_asNumber 1 (some .int) 0 [0] (F_X11_asNumber pr_X11_asNumber po_X11_asNumber)) (hS_X2_areBeside : zSnd zS 145 0 0 yX2_areBeside cX2_areBeside 5 (some .boolean) 2 [2, 0, 0] (F_X2_areBeside pr_X2_areBeside po_X2_areBeside)) : zSnd zS 145 0 0 yX11_pair cX11_pair 4 (some .int) 5 [2, 0, 0, 0] (fun xs P M => ∃ a1 a2 a3 : Int, xs = [0, a1, a2, a3] ∧ vc_X11_pair pr_X11_isFace po_X11_isFace pr_X2_liesIn po_X2_liesIn pr_X11_asNumber po_X11_asNumber pr_X2_areBeside po_X2_areBeside a1 a2 a3 P M) := by
  refine zSnd.of rfl (fun ad xs hz => Nat.le_trans (Nat.le_of_eq (zlen ad _ xs hz)) (by decide)) ?_
  intro Γ C _ _ xs M hz hF
  obtain ⟨a1, a2, a3, rfl, h⟩ := hF
  have zz_a1 := zall_h (zall_t hz) (by decide)
  have zz_a2 := zall_h (zall_t (zall_t hz)) (by decide)
  have zz_a3 := zall_h (zall_t (zall_t (zall_t hz))) (by decide)
  refine zr_rng (fun hR => ?_)
  have C : zC Γ mu_X11_pair := C
  change zV Γ mu_X11_pair (145, 0, 0) 0 [(0, zRf (zad Γ) 0), (1, zI a1), (2, zI a2), (3, zI a3)] [] M
  change vc_X11_pair pr_X11_isFace po_X11_isFace pr_X2_liesIn po_X2_liesIn pr_X11_asNumber po_X11_asNumber pr_X2_areBeside po_X2_areBeside a1 a2 a3 _ M at h
  unfold vc_X11_pair at h
  refine zr_aload_n C 0 rfl (zdec_at dm_X11_pair 0 rfl) rfl ?_
  refine zr_iload_n C 1 rfl (zdec_at dm_X11_pair 1 rfl) rfl ?_
  obtain ⟨g6, h⟩ := h
  refine zr_callV C [a1] hS_X11_isFace ck_RX11_177 iv_X11_isFace vc_X11 oc_0 rfl rfl (zdec_at dm_X11_pair 2 rfl) ⟨rfl, rfl, rfl, rfl⟩ ⟨by decide, by decide⟩ (Nat.le_of_ble_eq_true rfl) (zall_0 zz_a1 zall_n) ?_
  refine ⟨_, rfl, g6, fun r1 M2 p5 z4 hR3 => ?_⟩
  have h := h r1 M2 p5 z4 hR3
  show zV Γ mu_X11_pair (145, 0, 0) 5 [(0, zRf (zad Γ) 0), (1, zI a1), (2, zI a2), (3, zI a3)] [zI r1] M2
  refine zr_if_eq C z4 (zdec_at dm_X11_pair 3 rfl) rfl (fun g7 => ?_) (fun g7 => ?_)
  · have h := h.1 g7
    refine zr_iconst C (zdec_at dm_X11_pair 16 rfl) ?_
    exact zr_ireturn C rfl (zdec_at dm_X11_pair 17 rfl) rfl ⟨(by decide), h⟩
  · have h := h.2 g7
    refine zr_aload_n C 0 rfl (zdec_at dm_X11_pair 4 rfl) rfl ?_
    refine zr_iload_n C 2 rfl (zdec_at dm_X11_pair 5 rfl) rfl ?_
    obtain ⟨g13, h⟩ := h
    refine zr_callV C [a2] hS_X11_isFace ck_RX11_177 iv_X11_isFace vc_X11 oc_0 rfl rfl (zdec_at dm_X11_pair 6 rfl) ⟨rfl, rfl, rfl, rfl⟩ ⟨by decide, by decide⟩ (Nat.le_of_ble_eq_true rfl) (zall_0 zz_a2 zall_n) ?_
    refine ⟨_, rfl, g13, fun r8 M9 p12 z11 hR10 => ?_⟩
    have h := h r8 M9 p12 z11 hR10
    show zV Γ mu_X11_pair (145, 0, 0) 13 [(0, zRf (zad Γ) 0), (1, zI a1), (2, zI a2), (3, zI a3)] [zI r8] M9
    refine zr_if_eq C z11 (zdec_at dm_X11_pair 7 rfl) rfl (fun g14 => ?_) (fun g14 => ?_)
    · have h := h.1 g14
      refine zr_iconst C (zdec_at dm_X11_pair 16 rfl) ?_
      exact zr_ireturn C rfl (zdec_at dm_X11_pair 17 rfl) rfl ⟨(by decide), h⟩
    · have h := h.2 g14
      refine zr_iload_n C 1 rfl (zdec_at dm_X11_pair 8 rfl) rfl ?_
      refine zr_iload_n C 2 rfl (zdec_at dm_X11_pair 9 rfl) rfl ?_
      refine zr_icmp_eq C zz_a1 zz_a2 (zdec_at dm_X11_pair 10 rfl) rfl (fun g15 => ?_) (fun g15 => ?_)
      · have h := h.1 g15
        refine zr_iconst C (zdec_at dm_X11_pair 16 rfl) ?_
        exact zr_ireturn C rfl (zdec_at dm_X11_pair 17 rfl) rfl ⟨(by decide), h⟩
      · have h := h.2 g15
        refine zr_iload_n C 3 rfl (zdec_at dm_X11_pair 11 rfl) rfl ?_
        refine zr_if_lt C zz_a3 (zdec_at dm_X11_pair 12 rfl) rfl (fun g16 => ?_) (fun g16 => ?_)
        · have h := h.1 g16
          refine zr_iconst C (zdec_at dm_X11_pair 16 rfl) ?_
          exact zr_ireturn C rfl (zdec_at dm_X11_pair 17 rfl) rfl ⟨(by decide), h⟩
        · have h := h.2 g16
          refine zr_iload_n C 3 rfl (zdec_at dm_X11_pair 13 rfl) rfl ?_
          refine zr_iconst C (zdec_at dm_X11_pair 14 rfl) ?_
          refine zr_icmp_le C zz_a3 (by decide) (zdec_at dm_X11_pair 15 rfl) rfl (fun g17 => ?_) (fun g17 => ?_)
          · have h := h.1 g17
            refine zr_iload_n C 3 rfl (zdec_at dm_X11_pair 18 rfl) rfl ?_
            refine zr_if_ne C zz_a3 (zdec_at dm_X11_pair 19 rfl) rfl (fun g18 => ?_) (fun g18 => ?_)
            · have h := h.1 g18
              refine zr_aload_n C 0 rfl (zdec_at dm_X11_pair 26 rfl) rfl ?_
              refine zr_getr (q := 5) C fk_RX11_29 fi_0_1 (zdec_at dm_X11_pair 27 rfl) ?_
              refine zr_iload_n C 1 rfl (zdec_at dm_X11_pair 28 rfl) rfl ?_
              refine zr_iload_n C 2 rfl (zdec_at dm_X11_pair 29 rfl) rfl ?_
              obtain ⟨g24, h⟩ := h
              refine zr_callV C [a1, a2] hS_X2_liesIn ck_RX11_187 iv_X2_liesIn vc_X2 oc_5 rfl rfl (zdec_at dm_X11_pair 30 rfl) ⟨rfl, rfl, rfl, rfl⟩ ⟨by decide, by decide⟩ (Nat.le_of_ble_eq_true rfl) (zall_0 zz_a1 (zall_0 zz_a2 zall_n)) ?_
              refine ⟨_, _, rfl, g24, fun r19 M20 p23 z22 hR21 => ?_⟩
              have h := h r19 M20 p23 z22 hR21
              show zV Γ mu_X11_pair (145, 0, 0) 57 [(0, zRf (zad Γ) 0), (1, zI a1), (2, zI a2), (3, zI a3)] [zI r19] M20
              obtain ⟨g30, h⟩ := h
              refine zr_callS C [r19] hS_X11_asNumber ck_RX11_190 sv_X11_asNumber rfl rfl (zdec_at dm_X11_pair 31 rfl) ⟨rfl, rfl, rfl, rfl⟩ ⟨by decide, by decide⟩ (Nat.le_of_ble_eq_true rfl) (zall_0 z22 zall_n) ?_
              refine ⟨_, rfl, g30, fun r25 M26 p29 z28 hR27 => ?_⟩
              have h := h r25 M26 p29 z28 hR27
              show zV Γ mu_X11_pair (145, 0, 0) 60 [(0, zRf (zad Γ) 0), (1, zI a1), (2, zI a2), (3, zI a3)] [zI r25] M26
              exact zr_ireturn C rfl (zdec_at dm_X11_pair 32 rfl) rfl ⟨z28, h⟩
            · have h := h.2 g18
              refine zr_aload_n C 0 rfl (zdec_at dm_X11_pair 20 rfl) rfl ?_
              refine zr_getr (q := 5) C fk_RX11_29 fi_0_1 (zdec_at dm_X11_pair 21 rfl) ?_
              refine zr_iload_n C 1 rfl (zdec_at dm_X11_pair 22 rfl) rfl ?_
              refine zr_iload_n C 2 rfl (zdec_at dm_X11_pair 23 rfl) rfl ?_
              obtain ⟨g36, h⟩ := h
              refine zr_callV C [a1, a2] hS_X2_areBeside ck_RX11_183 iv_X2_areBeside vc_X2 oc_5 rfl rfl (zdec_at dm_X11_pair 24 rfl) ⟨rfl, rfl, rfl, rfl⟩ ⟨by decide, by decide⟩ (Nat.le_of_ble_eq_true rfl) (zall_0 zz_a1 (zall_0 zz_a2 zall_n)) ?_
              refine ⟨_, _, rfl, g36, fun r31 M32 p35 z34 hR33 => ?_⟩
              have h := h r31 M32 p35 z34 hR33
              show zV Γ mu_X11_pair (145, 0, 0) 45 [(0, zRf (zad Γ) 0), (1, zI a1), (2, zI a2), (3, zI a3)] [zI r31] M32
              refine zr_goto C (zdec_at dm_X11_pair 25 rfl) rfl ?_
              obtain ⟨g42, h⟩ := h
              refine zr_callS C [r31] hS_X11_asNumber ck_RX11_190 sv_X11_asNumber rfl rfl (zdec_at dm_X11_pair 31 rfl) ⟨rfl, rfl, rfl, rfl⟩ ⟨by decide, by decide⟩ (Nat.le_of_ble_eq_true rfl) (zall_0 z34 zall_n) ?_
              refine ⟨_, rfl, g42, fun r37 M38 p41 z40 hR39 => ?_⟩
              have h := h r37 M38 p41 z40 hR39
              show zV Γ mu_X11_pair (145, 0, 0) 60 [(0, zRf (zad Γ) 0), (1, zI a1), (2, zI a2), (3, zI a3)] [zI r37] M38
              exact zr_ireturn C rfl (zdec_at dm_X11_pair 32 rfl) rfl ⟨z40, h⟩
          · have h := h.2 g17
            refine zr_iconst C (zdec_at dm_X11_pair 16 rfl) ?_
            exact zr_ireturn C rfl (zdec_at dm_X11_pair 17 rfl) rfl ⟨(by decide), h⟩

set_option maxHeartbeats 400000 in
set_option maxRecDepth 100000 in
theorem sn_X11_step {pr_X11_isPoint : Int → Int → zM → Prop} {po_X11_isPoint : Int → Int → zM → Int → zM → Prop} {pr_X1_turnAt : Int → zM → Prop} {po_X1_turnAt : Int → zM → Int → zM → Prop} (hS_X11_isPoint : zSnd zS 145 0 0 yX11_isPoint cX11_isPoint 3 (some .boolean) 5 [2, 0, 0] (F_X11_isPoint pr_X11_isPoint po_X11_isPoint)) (hS_X1_turnAt : zSnd zS 145 0 0 yX1_turnAt cX1_turnAt 4 (some .int) 0 [2, 0] (F_X1_turnAt pr_X1_turnAt po_X1_turnAt)) : zSnd zS 145 0 0 yX11_step cX11_step 4 (some .int) 6 [2, 0, 0, 0] (fun xs P M => ∃ a1 a2 a3 : Int, xs = [0, a1, a2, a3] ∧ vc_X11_step pr_X11_isPoint po_X11_isPoint pr_X1_turnAt po_X1_turnAt a1 a2 a3 P M) := by
  refine zSnd.of rfl (fun ad xs hz => Nat.le_trans (Nat.le_of_eq (zlen ad _ xs hz)) (by decide)) ?_
  intro Γ C _ _ xs M hz hF
  obtain ⟨a1, a2, a3, rfl, h⟩ := hF
  have zz_a1 := zall_h (zall_t hz) (by decide)
  have zz_a2 := zall_h (zall_t (zall_t hz)) (by decide)
  have zz_a3 := zall_h (zall_t (zall_t (zall_t hz))) (by decide)
  refine zr_rng (fun hR => ?_)
  have C : zC Γ mu_X11_step := C
  change zV Γ mu_X11_step (145, 0, 0) 0 [(0, zRf (zad Γ) 0), (1, zI a1), (2, zI a2), (3, zI a3)] [] M
  change vc_X11_step pr_X11_isPoint po_X11_isPoint pr_X1_turnAt po_X1_turnAt a1 a2 a3 _ M at h
  unfold vc_X11_step at h
  refine zr_aload_n C 0 rfl (zdec_at dm_X11_step 0 rfl) rfl ?_
  refine zr_iload_n C 1 rfl (zdec_at dm_X11_step 1 rfl) rfl ?_
  refine zr_iload_n C 2 rfl (zdec_at dm_X11_step 2 rfl) rfl ?_
  obtain ⟨g6, h⟩ := h
  refine zr_callV C [a1, a2] hS_X11_isPoint ck_RX11_194 iv_X11_isPoint vc_X11 oc_0 rfl rfl (zdec_at dm_X11_step 3 rfl) ⟨rfl, rfl, rfl, rfl⟩ ⟨by decide, by decide⟩ (Nat.le_of_ble_eq_true rfl) (zall_0 zz_a1 (zall_0 zz_a2 zall_n)) ?_
  refine ⟨_, _, rfl, g6, fun r1 M2 p5 z4 hR3 => ?_⟩
  have h := h r1 M2 p5 z4 hR3
  show zV Γ mu_X11_step (145, 0, 0) 6 [(0, zRf (zad Γ) 0), (1, zI a1), (2, zI a2), (3, zI a3)] [zI r1] M2
  refine zr_if_eq C z4 (zdec_at dm_X11_step 4 rfl) rfl (fun g7 => ?_) (fun g7 => ?_)
  · have h := h.1 g7
    refine zr_iconst C (zdec_at dm_X11_step 10 rfl) ?_
    exact zr_ireturn C rfl (zdec_at dm_X11_step 11 rfl) rfl ⟨(by decide), h⟩
  · have h := h.2 g7
    refine zr_iload_n C 3 rfl (zdec_at dm_X11_step 5 rfl) rfl ?_
    refine zr_if_lt C zz_a3 (zdec_at dm_X11_step 6 rfl) rfl (fun g8 => ?_) (fun g8 => ?_)
    · have h := h.1 g8
      refine zr_iconst C (zdec_at dm_X11_step 10 rfl) ?_
      exact zr_ireturn C rfl (zdec_at dm_X11_step 11 rfl) rfl ⟨(by decide), h⟩
    · have h := h.2 g8
      refine zr_iload_n C 3 rfl (zdec_at dm_X11_step 7 rfl) rfl ?_
      refine zr_iconst C (zdec_at dm_X11_step 8 rfl) ?_
      refine zr_icmp_le C zz_a3 (by decide) (zdec_at dm_X11_step 9 rfl) rfl (fun g9 => ?_) (fun g9 => ?_)
      · have h := h.1 g9
        refine zr_iload_n C 3 rfl (zdec_at dm_X11_step 12 rfl) rfl ?_
        by_cases g21_0 : a3 = 0
        · have h := h.1 g21_0
          refine zr_tsin C 0 (g21_0.trans (by decide)) zz_a3 (by decide) (zdec_at dm_X11_step 13 rfl) rfl rfl ?_
          refine zr_aload_n C 0 rfl (zdec_at dm_X11_step 14 rfl) rfl ?_
          refine zr_getr (q := 17) C fk_RX11_33 fi_0_2 (zdec_at dm_X11_step 15 rfl) ?_
          refine zr_getr (q := 18) C fk_RX11_197 fi_17_2 (zdec_at dm_X11_step 16 rfl) ?_
          refine zr_iload_n C 2 rfl (zdec_at dm_X11_step 17 rfl) rfl ?_
          obtain ⟨o10, h⟩ := h
          refine zr_iald C ai_18 o10 (zdec_at dm_X11_step 18 rfl) ?_
          exact zr_ireturn C rfl (zdec_at dm_X11_step 19 rfl) rfl ⟨(hR3 _ _), h⟩
        · have h := h.2 g21_0
          by_cases g21_1 : a3 = 1
          · have h := h.1 g21_1
            refine zr_tsin C 1 (g21_1.trans (by decide)) zz_a3 (by decide) (zdec_at dm_X11_step 13 rfl) rfl rfl ?_
            refine zr_aload_n C 0 rfl (zdec_at dm_X11_step 20 rfl) rfl ?_
            refine zr_getr (q := 17) C fk_RX11_33 fi_0_2 (zdec_at dm_X11_step 21 rfl) ?_
            refine zr_getr (q := 19) C fk_RX11_200 fi_17_3 (zdec_at dm_X11_step 22 rfl) ?_
            refine zr_iload_n C 2 rfl (zdec_at dm_X11_step 23 rfl) rfl ?_
            obtain ⟨o11, h⟩ := h
            refine zr_iald C ai_19 o11 (zdec_at dm_X11_step 24 rfl) ?_
            exact zr_ireturn C rfl (zdec_at dm_X11_step 25 rfl) rfl ⟨(hR3 _ _), h⟩
          · have h := h.2 g21_1
            by_cases g21_2 : a3 = 2
            · have h := h.1 g21_2
              refine zr_tsin C 2 (g21_2.trans (by decide)) zz_a3 (by decide) (zdec_at dm_X11_step 13 rfl) rfl rfl ?_
              refine zr_aload_n C 0 rfl (zdec_at dm_X11_step 26 rfl) rfl ?_
              refine zr_getr (q := 17) C fk_RX11_33 fi_0_2 (zdec_at dm_X11_step 27 rfl) ?_
              refine zr_getr (q := 20) C fk_RX11_203 fi_17_4 (zdec_at dm_X11_step 28 rfl) ?_
              refine zr_iload_n C 2 rfl (zdec_at dm_X11_step 29 rfl) rfl ?_
              obtain ⟨o12, h⟩ := h
              refine zr_iald C ai_20 o12 (zdec_at dm_X11_step 30 rfl) ?_
              exact zr_ireturn C rfl (zdec_at dm_X11_step 31 rfl) rfl ⟨(hR3 _ _), h⟩
            · have h := h.2 g21_2
              refine zr_tsout C (zts_s 3 (zts_s 2 (zts_s 1 (zts_0 a3 0) g21_0) g21_1) g21_2) zz_a3 (zdec_at dm_X11_step 13 rfl) rfl ?_
              refine zr_aload_n C 0 rfl (zdec_at dm_X11_step 32 rfl) rfl ?_
              refine zr_getr (q := 17) C fk_RX11_33 fi_0_2 (zdec_at dm_X11_step 33 rfl) ?_
              refine zr_iload_n C 2 rfl (zdec_at dm_X11_step 34 rfl) rfl ?_
              obtain ⟨g18, h⟩ := h
              refine zr_callV C [a2] hS_X1_turnAt ck_RX11_206 iv_X1_turnAt vc_X1 oc_17 rfl rfl (zdec_at dm_X11_step 35 rfl) ⟨rfl, rfl, rfl, rfl⟩ ⟨by decide, by decide⟩ (Nat.le_of_ble_eq_true rfl) (zall_0 zz_a2 zall_n) ?_
              refine ⟨_, rfl, g18, fun r13 M14 p17 z16 hR15 => ?_⟩
              have h := h r13 M14 p17 z16 hR15
              show zV Γ mu_X11_step (145, 0, 0) 86 [(0, zRf (zad Γ) 0), (1, zI a1), (2, zI a2), (3, zI a3)] [zI r13] M14
              refine zr_iconst C (zdec_at dm_X11_step 36 rfl) ?_
              refine zr_iadd C (zdec_at dm_X11_step 37 rfl) ?_
              obtain ⟨o19, h⟩ := h
              exact zr_ireturn C rfl (zdec_at dm_X11_step 38 rfl) rfl ⟨o19, h⟩
      · have h := h.2 g9
        refine zr_iconst C (zdec_at dm_X11_step 10 rfl) ?_
        exact zr_ireturn C rfl (zdec_at dm_X11_step 11 rfl) rfl ⟨(by decide), h⟩

set_option maxHeartbeats 400000 in
set_option maxRecDepth 100000 in
theorem sn_X11_corners {pr_X11_isFace : Int → zM → Prop} {po_X11_isFace : Int → zM → Int → zM → Prop} {pr_X11_isCost : Int → zM → Prop} {po_X11_isCost : Int → zM → Int → zM → Prop} {pr_X1_trace : Int → zM → Prop} {po_X1_trace : Int → zM → zM → Prop} {pr_X1_decideCorners : Int → zM → Prop} {po_X1_decideCorners : Int → zM → Int → zM → Prop} (hS_X11_isFace : zSnd zS 145 0 0 yX11_isFace cX11_isFace 2 (some .boolean) 4 [2, 0] (F_X11_isFace pr_X11_isFace po_X11_isFace)) (hS_X11_isCost : zSnd zS 145 0 0 yX11_isCost cX11_isCost 1 (some .boolean) 0 [0] (F_X11_isCost pr_X11_isCost po_X11_isCost)) (hS_X1_trace : zSnd zS 145 0 0 yX1_trace cX1_trace 8 none 3 [2, 0] (F_X1_trace pr_X1_trace po_X1_trace)) (hS_X1_decideCorners : zSnd zS 145 0 0 yX1_decideCorners cX1_decideCorners 4 (some .int) 3 [2, 0] (F_X1_decideCorners pr_X1_decideCorners po_X1_decideCorners)) : zSnd zS 145 0 0 yX11_corners cX11_corners 3 (some .int) 5 [2, 0, 0] (fun xs P M => ∃ a1 a2 : Int, xs = [0, a1, a2] ∧ vc_X11_corners pr_X11_isFace po_X11_isFace pr_X11_isCost po_X11_isCost pr_X1_trace po_X1_trace pr_X1_decideCorners po_X1_decideCorners a1 a2 P M) := by
  refine zSnd.of rfl (fun ad xs hz => Nat.le_trans (Nat.le_of_eq (zlen ad _ xs hz)) (by decide)) ?_
  intro Γ C _ _ xs M hz hF
  obtain ⟨a1, a2, rfl, h⟩ := hF
  have zz_a1 := zall_h (zall_t hz) (by decide)
  have zz_a2 := zall_h (zall_t (zall_t hz)) (by decide)
  refine zr_rng (fun hR => ?_)
  have C : zC Γ mu_X11_corners := C
  change zV Γ mu_X11_corners (145, 0, 0) 0 [(0, zRf (zad Γ) 0), (1, zI a1), (2, zI a2)] [] M
  change vc_X11_corners pr_X11_isFace po_X11_isFace pr_X11_isCost po_X11_isCost pr_X1_trace po_X1_trace pr_X1_decideCorners po_X1_decideCorners a1 a2 _ M at h
  unfold vc_X11_corners at h
  refine zr_aload_n C 0 rfl (zdec_at dm_X11_corners 0 rfl) rfl ?_
  refine zr_iload_n C 1 rfl (zdec_at dm_X11_corners 1 rfl) rfl ?_
  obtain ⟨g6, h⟩ := h
  refine zr_callV C [a1] hS_X11_isFace ck_RX11_177 iv_X11_isFace vc_X11 oc_0 rfl rfl (zdec_at dm_X11_corners 2 rfl) ⟨rfl, rfl, rfl, rfl⟩ ⟨by decide, by decide⟩ (Nat.le_of_ble_eq_true rfl) (zall_0 zz_a1 zall_n) ?_
  refine ⟨_, rfl, g6, fun r1 M2 p5 z4 hR3 => ?_⟩
  have h := h r1 M2 p5 z4 hR3
  show zV Γ mu_X11_corners (145, 0, 0) 5 [(0, zRf (zad Γ) 0), (1, zI a1), (2, zI a2)] [zI r1] M2
  refine zr_if_eq C z4 (zdec_at dm_X11_corners 3 rfl) rfl (fun g7 => ?_) (fun g7 => ?_)
  · have h := h.1 g7
    refine zr_iconst C (zdec_at dm_X11_corners 7 rfl) ?_
    exact zr_ireturn C rfl (zdec_at dm_X11_corners 8 rfl) rfl ⟨(by decide), h⟩
  · have h := h.2 g7
    refine zr_iload_n C 2 rfl (zdec_at dm_X11_corners 4 rfl) rfl ?_
    obtain ⟨g13, h⟩ := h
    refine zr_callS C [a2] hS_X11_isCost ck_RX11_209 sv_X11_isCost rfl rfl (zdec_at dm_X11_corners 5 rfl) ⟨rfl, rfl, rfl, rfl⟩ ⟨by decide, by decide⟩ (Nat.le_of_ble_eq_true rfl) (zall_0 zz_a2 zall_n) ?_
    refine ⟨_, rfl, g13, fun r8 M9 p12 z11 hR10 => ?_⟩
    have h := h r8 M9 p12 z11 hR10
    show zV Γ mu_X11_corners (145, 0, 0) 12 [(0, zRf (zad Γ) 0), (1, zI a1), (2, zI a2)] [zI r8] M9
    refine zr_if_ne C z11 (zdec_at dm_X11_corners 6 rfl) rfl (fun g14 => ?_) (fun g14 => ?_)
    · have h := h.1 g14
      refine zr_aload_n C 0 rfl (zdec_at dm_X11_corners 9 rfl) rfl ?_
      refine zr_getr (q := 17) C fk_RX11_33 fi_0_2 (zdec_at dm_X11_corners 10 rfl) ?_
      refine zr_iload_n C 1 rfl (zdec_at dm_X11_corners 11 rfl) rfl ?_
      obtain ⟨g19, h⟩ := h
      refine zr_callV C [a1] hS_X1_trace ck_RX11_212 iv_X1_trace vc_X1 oc_17 rfl rfl (zdec_at dm_X11_corners 12 rfl) ⟨rfl, rfl, rfl, rfl⟩ ⟨by decide, by decide⟩ (Nat.le_of_ble_eq_true rfl) (zall_0 zz_a1 zall_n) ?_
      refine ⟨_, rfl, g19, fun M15 p18 _ hR16 => ?_⟩
      have h := h M15 p18 hR16
      show zV Γ mu_X11_corners (145, 0, 0) 25 [(0, zRf (zad Γ) 0), (1, zI a1), (2, zI a2)] [] M15
      refine zr_aload_n C 0 rfl (zdec_at dm_X11_corners 13 rfl) rfl ?_
      refine zr_getr (q := 17) C fk_RX11_33 fi_0_2 (zdec_at dm_X11_corners 14 rfl) ?_
      refine zr_iload_n C 2 rfl (zdec_at dm_X11_corners 15 rfl) rfl ?_
      obtain ⟨g25, h⟩ := h
      refine zr_callV C [a2] hS_X1_decideCorners ck_RX11_216 iv_X1_decideCorners vc_X1 oc_17 rfl rfl (zdec_at dm_X11_corners 16 rfl) ⟨rfl, rfl, rfl, rfl⟩ ⟨by decide, by decide⟩ (Nat.le_of_ble_eq_true rfl) (zall_0 zz_a2 zall_n) ?_
      refine ⟨_, rfl, g25, fun r20 M21 p24 z23 hR22 => ?_⟩
      have h := h r20 M21 p24 z23 hR22
      show zV Γ mu_X11_corners (145, 0, 0) 33 [(0, zRf (zad Γ) 0), (1, zI a1), (2, zI a2)] [zI r20] M21
      exact zr_ireturn C rfl (zdec_at dm_X11_corners 17 rfl) rfl ⟨z23, h⟩
    · have h := h.2 g14
      refine zr_iconst C (zdec_at dm_X11_corners 7 rfl) ?_
      exact zr_ireturn C rfl (zdec_at dm_X11_corners 8 rfl) rfl ⟨(by decide), h⟩

set_option maxHeartbeats 400000 in
set_option maxRecDepth 100000 in
theorem sn_X11_cornered {pr_X11_isPoint : Int → Int → zM → Prop} {po_X11_isPoint : Int → Int → zM → Int → zM → Prop} {pr_X11_isCost : Int → zM → Prop} {po_X11_isCost : Int → zM → Int → zM → Prop} {pr_X1_decideCorners : Int → zM → Prop} {po_X1_decideCorners : Int → zM → Int → zM → Prop} (hS_X11_isPoint : zSnd zS 145 0 0 yX11_isPoint cX11_isPoint 3 (some .boolean) 5 [2, 0, 0] (F_X11_isPoint pr_X11_isPoint po_X11_isPoint)) (hS_X11_isCost : zSnd zS 145 0 0 yX11_isCost cX11_isCost 1 (some .boolean) 0 [0] (F_X11_isCost pr_X11_isCost po_X11_isCost)) (hS_X1_decideCorners : zSnd zS 145 0 0 yX1_decideCorners cX1_decideCorners 4 (some .int) 3 [2, 0] (F_X1_decideCorners pr_X1_decideCorners po_X1_decideCorners)) : zSnd zS 145 0 0 yX11_cornered cX11_cornered 4 (some .int) 6 [2, 0, 0, 0] (fun xs P M => ∃ a1 a2 a3 : Int, xs = [0, a1, a2, a3] ∧ vc_X11_cornered pr_X11_isPoint po_X11_isPoint pr_X11_isCost po_X11_isCost pr_X1_decideCorners po_X1_decideCorners a1 a2 a3 P M) := by
  refine zSnd.of rfl (fun ad xs hz => Nat.le_trans (Nat.le_of_eq (zlen ad _ xs hz)) (by decide)) ?_
  intro Γ C _ _ xs M hz hF
  obtain ⟨a1, a2, a3, rfl, h⟩ := hF
  have zz_a1 := zall_h (zall_t hz) (by decide)
  have zz_a2 := zall_h (zall_t (zall_t hz)) (by decide)
  have zz_a3 := zall_h (zall_t (zall_t (zall_t hz))) (by decide)
  refine zr_rng (fun hR => ?_)
  have C : zC Γ mu_X11_cornered := C
  change zV Γ mu_X11_cornered (145, 0, 0) 0 [(0, zRf (zad Γ) 0), (1, zI a1), (2, zI a2), (3, zI a3)] [] M
  change vc_X11_cornered pr_X11_isPoint po_X11_isPoint pr_X11_isCost po_X11_isCost pr_X1_decideCorners po_X1_decideCorners a1 a2 a3 _ M at h
  unfold vc_X11_cornered at h
  refine zr_aload_n C 0 rfl (zdec_at dm_X11_cornered 0 rfl) rfl ?_
  refine zr_iload_n C 1 rfl (zdec_at dm_X11_cornered 1 rfl) rfl ?_
  refine zr_iload_n C 3 rfl (zdec_at dm_X11_cornered 2 rfl) rfl ?_
  obtain ⟨g6, h⟩ := h
  refine zr_callV C [a1, a3] hS_X11_isPoint ck_RX11_194 iv_X11_isPoint vc_X11 oc_0 rfl rfl (zdec_at dm_X11_cornered 3 rfl) ⟨rfl, rfl, rfl, rfl⟩ ⟨by decide, by decide⟩ (Nat.le_of_ble_eq_true rfl) (zall_0 zz_a1 (zall_0 zz_a3 zall_n)) ?_
  refine ⟨_, _, rfl, g6, fun r1 M2 p5 z4 hR3 => ?_⟩
  have h := h r1 M2 p5 z4 hR3
  show zV Γ mu_X11_cornered (145, 0, 0) 6 [(0, zRf (zad Γ) 0), (1, zI a1), (2, zI a2), (3, zI a3)] [zI r1] M2
  refine zr_if_eq C z4 (zdec_at dm_X11_cornered 4 rfl) rfl (fun g7 => ?_) (fun g7 => ?_)
  · have h := h.1 g7
    refine zr_iconst C (zdec_at dm_X11_cornered 8 rfl) ?_
    exact zr_ireturn C rfl (zdec_at dm_X11_cornered 9 rfl) rfl ⟨(by decide), h⟩
  · have h := h.2 g7
    refine zr_iload_n C 2 rfl (zdec_at dm_X11_cornered 5 rfl) rfl ?_
    obtain ⟨g13, h⟩ := h
    refine zr_callS C [a2] hS_X11_isCost ck_RX11_209 sv_X11_isCost rfl rfl (zdec_at dm_X11_cornered 6 rfl) ⟨rfl, rfl, rfl, rfl⟩ ⟨by decide, by decide⟩ (Nat.le_of_ble_eq_true rfl) (zall_0 zz_a2 zall_n) ?_
    refine ⟨_, rfl, g13, fun r8 M9 p12 z11 hR10 => ?_⟩
    have h := h r8 M9 p12 z11 hR10
    show zV Γ mu_X11_cornered (145, 0, 0) 13 [(0, zRf (zad Γ) 0), (1, zI a1), (2, zI a2), (3, zI a3)] [zI r8] M9
    refine zr_if_ne C z11 (zdec_at dm_X11_cornered 7 rfl) rfl (fun g14 => ?_) (fun g14 => ?_)
    · have h := h.1 g14
      refine zr_aload_n C 0 rfl (zdec_at dm_X11_cornered 10 rfl) rfl ?_
      refine zr_getr (q := 17) C fk_RX11_33 fi_0_2 (zdec_at dm_X11_cornered 11 rfl) ?_
      refine zr_iload_n C 2 rfl (zdec_at dm_X11_cornered 12 rfl) rfl ?_
      obtain ⟨g20, h⟩ := h
      refine zr_callV C [a2] hS_X1_decideCorners ck_RX11_216 iv_X1_decideCorners vc_X1 oc_17 rfl rfl (zdec_at dm_X11_cornered 13 rfl) ⟨rfl, rfl, rfl, rfl⟩ ⟨by decide, by decide⟩ (Nat.le_of_ble_eq_true rfl) (zall_0 zz_a2 zall_n) ?_
      refine ⟨_, rfl, g20, fun r15 M16 p19 z18 hR17 => ?_⟩
      have h := h r15 M16 p19 z18 hR17
      show zV Γ mu_X11_cornered (145, 0, 0) 26 [(0, zRf (zad Γ) 0), (1, zI a1), (2, zI a2), (3, zI a3)] [zI r15] M16
      refine zr_pop C rfl (zdec_at dm_X11_cornered 14 rfl) ?_
      refine zr_aload_n C 0 rfl (zdec_at dm_X11_cornered 15 rfl) rfl ?_
      refine zr_getr (q := 17) C fk_RX11_33 fi_0_2 (zdec_at dm_X11_cornered 16 rfl) ?_
      refine zr_getr (q := 21) C fk_RX11_219 fi_17_5 (zdec_at dm_X11_cornered 17 rfl) ?_
      refine zr_iload_n C 3 rfl (zdec_at dm_X11_cornered 18 rfl) rfl ?_
      obtain ⟨o21, h⟩ := h
      refine zr_iald C ai_21 o21 (zdec_at dm_X11_cornered 19 rfl) ?_
      exact zr_ireturn C rfl (zdec_at dm_X11_cornered 20 rfl) rfl ⟨(hR17 _ _), h⟩
    · have h := h.2 g14
      refine zr_iconst C (zdec_at dm_X11_cornered 8 rfl) ?_
      exact zr_ireturn C rfl (zdec_at dm_X11_cornered 9 rfl) rfl ⟨(by decide), h⟩

set_option maxHeartbeats 400000 in
set_option maxRecDepth 100000 in
theorem sn_X11_inBand {pr_X11_isPoint : Int → Int → zM → Prop} {po_X11_isPoint : Int → Int → zM → Int → zM → Prop} {pr_X11_isMiss : Int → zM → Prop} {po_X11_isMiss : Int → zM → Int → zM → Prop} {pr_X1_staysInBand : Int → Int → Int → zM → Prop} {po_X1_staysInBand : Int → Int → Int → zM → Int → zM → Prop} {pr_X11_asNumber : Int → zM → Prop} {po_X11_asNumber : Int → zM → Int → zM → Prop} (hS_X11_isPoint : zSnd zS 145 0 0 yX11_isPoint cX11_isPoint 3 (some .boolean) 5 [2, 0, 0] (F_X11_isPoint pr_X11_isPoint po_X11_isPoint)) (hS_X11_isMiss : zSnd zS 145 0 0 yX11_isMiss cX11_isMiss 1 (some .boolean) 0 [0] (F_X11_isMiss pr_X11_isMiss po_X11_isMiss)) (hS_X1_staysInBand : zSnd zS 145 0 0 yX1_staysInBand cX1_staysInBand 5 (some .boolean) 1 [2, 0, 0, 0] (F_X1_staysInBand pr_X1_staysInBand po_X1_staysInBand)) (hS_X11_asNumber : zSnd zS 145 0 0 yX11_asNumber cX11_asNumber 1 (some .int) 0 [0] (F_X11_asNumber pr_X11_asNumber po_X11_asNumber)) : zSnd zS 145 0 0 yX11_inBand cX11_inBand 5 (some .int) 6 [2, 0, 0, 0, 0] (fun xs P M => ∃ a1 a2 a3 a4 : Int, xs = [0, a1, a2, a3, a4] ∧ vc_X11_inBand pr_X11_isPoint po_X11_isPoint pr_X11_isMiss po_X11_isMiss pr_X1_staysInBand po_X1_staysInBand pr_X11_asNumber po_X11_asNumber a1 a2 a3 a4 P M) := by
  refine zSnd.of rfl (fun ad xs hz => Nat.le_trans (Nat.le_of_eq (zlen ad _ xs hz)) (by decide)) ?_
  intro Γ C _ _ xs M hz hF
  obtain ⟨a1, a2, a3, a4, rfl, h⟩ := hF
  have zz_a1 := zall_h (zall_t hz) (by decide)
  have zz_a2 := zall_h (zall_t (zall_t hz)) (by decide)
  have zz_a3 := zall_h (zall_t (zall_t (zall_t hz))) (by decide)
  have zz_a4 := zall_h (zall_t (zall_t (zall_t (zall_t hz)))) (by decide)
  refine zr_rng (fun hR => ?_)
  have C : zC Γ mu_X11_inBand := C
  change zV Γ mu_X11_inBand (145, 0, 0) 0 [(0, zRf (zad Γ) 0), (1, zI a1), (2, zI a2), (3, zI a3), (4, zI a4)] [] M
  change vc_X11_inBand pr_X11_isPoint po_X11_isPoint pr_X11_isMiss po_X11_isMiss pr_X1_staysInBand po_X1_staysInBand pr_X11_asNumber po_X11_asNumber a1 a2 a3 a4 _ M at h
  unfold vc_X11_inBand at h
  refine zr_aload_n C 0 rfl (zdec_at dm_X11_inBand 0 rfl) rfl ?_
  refine zr_iload_n C 1 rfl (zdec_at dm_X11_inBand 1 rfl) rfl ?_
  refine zr_iload_n C 2 rfl (zdec_at dm_X11_inBand 2 rfl) rfl ?_
  obtain ⟨g6, h⟩ := h
  refine zr_callV C [a1, a2] hS_X11_isPoint ck_RX11_194 iv_X11_isPoint vc_X11 oc_0 rfl rfl (zdec_at dm_X11_inBand 3 rfl) ⟨rfl, rfl, rfl, rfl⟩ ⟨by decide, by decide⟩ (Nat.le_of_ble_eq_true rfl) (zall_0 zz_a1 (zall_0 zz_a2 zall_n)) ?_
  refine ⟨_, _, rfl, g6, fun r1 M2 p5 z4 hR3 => ?_⟩
  have h := h r1 M2 p5 z4 hR3
  show zV Γ mu_X11_inBand (145, 0, 0) 6 [(0, zRf (zad Γ) 0), (1, zI a1), (2, zI a2), (3, zI a3), (4, zI a4)] [zI r1] M2
  refine zr_if_eq C z4 (zdec_at dm_X11_inBand 4 rfl) rfl (fun g7 => ?_) (fun g7 => ?_)
  · have h := h.1 g7
    refine zr_iconst C (zdec_at dm_X11_inBand 16 rfl) ?_
    exact zr_ireturn C rfl (zdec_at dm_X11_inBand 17 rfl) rfl ⟨(by decide), h⟩
  · have h := h.2 g7
    refine zr_iload C 4 rfl (zdec_at dm_X11_inBand 5 rfl) ?_
    obtain ⟨g13, h⟩ := h
    refine zr_callS C [a4] hS_X11_isMiss ck_RX11_222 sv_X11_isMiss rfl rfl (zdec_at dm_X11_inBand 6 rfl) ⟨rfl, rfl, rfl, rfl⟩ ⟨by decide, by decide⟩ (Nat.le_of_ble_eq_true rfl) (zall_0 zz_a4 zall_n) ?_
    refine ⟨_, rfl, g13, fun r8 M9 p12 z11 hR10 => ?_⟩
    have h := h r8 M9 p12 z11 hR10
    show zV Γ mu_X11_inBand (145, 0, 0) 14 [(0, zRf (zad Γ) 0), (1, zI a1), (2, zI a2), (3, zI a3), (4, zI a4)] [zI r8] M9
    refine zr_if_eq C z11 (zdec_at dm_X11_inBand 7 rfl) rfl (fun g14 => ?_) (fun g14 => ?_)
    · have h := h.1 g14
      refine zr_iconst C (zdec_at dm_X11_inBand 16 rfl) ?_
      exact zr_ireturn C rfl (zdec_at dm_X11_inBand 17 rfl) rfl ⟨(by decide), h⟩
    · have h := h.2 g14
      refine zr_iload_n C 3 rfl (zdec_at dm_X11_inBand 8 rfl) rfl ?_
      refine zr_iload_n C 2 rfl (zdec_at dm_X11_inBand 9 rfl) rfl ?_
      refine zr_icmp_le C zz_a3 zz_a2 (zdec_at dm_X11_inBand 10 rfl) rfl (fun g15 => ?_) (fun g15 => ?_)
      · have h := h.1 g15
        refine zr_iconst C (zdec_at dm_X11_inBand 16 rfl) ?_
        exact zr_ireturn C rfl (zdec_at dm_X11_inBand 17 rfl) rfl ⟨(by decide), h⟩
      · have h := h.2 g15
        refine zr_iload_n C 3 rfl (zdec_at dm_X11_inBand 11 rfl) rfl ?_
        refine zr_aload_n C 0 rfl (zdec_at dm_X11_inBand 12 rfl) rfl ?_
        refine zr_getr (q := 17) C fk_RX11_33 fi_0_2 (zdec_at dm_X11_inBand 13 rfl) ?_
        refine zr_geti C fk_RX11_225 fi_17_1 (zdec_at dm_X11_inBand 14 rfl) ?_
        refine zr_icmp_le C zz_a3 (hR10 _ _) (zdec_at dm_X11_inBand 15 rfl) rfl (fun g16 => ?_) (fun g16 => ?_)
        · have h := h.1 g16
          refine zr_aload_n C 0 rfl (zdec_at dm_X11_inBand 18 rfl) rfl ?_
          refine zr_getr (q := 17) C fk_RX11_33 fi_0_2 (zdec_at dm_X11_inBand 19 rfl) ?_
          refine zr_iload_n C 2 rfl (zdec_at dm_X11_inBand 20 rfl) rfl ?_
          refine zr_iload_n C 3 rfl (zdec_at dm_X11_inBand 21 rfl) rfl ?_
          refine zr_iload C 4 rfl (zdec_at dm_X11_inBand 22 rfl) ?_
          obtain ⟨g22, h⟩ := h
          refine zr_callV C [a2, a3, a4] hS_X1_staysInBand ck_RX11_228 iv_X1_staysInBand vc_X1 oc_17 rfl rfl (zdec_at dm_X11_inBand 23 rfl) ⟨rfl, rfl, rfl, rfl⟩ ⟨by decide, by decide⟩ (Nat.le_of_ble_eq_true rfl) (zall_0 zz_a2 (zall_0 zz_a3 (zall_0 zz_a4 zall_n))) ?_
          refine ⟨_, _, _, rfl, g22, fun r17 M18 p21 z20 hR19 => ?_⟩
          have h := h r17 M18 p21 z20 hR19
          show zV Γ mu_X11_inBand (145, 0, 0) 46 [(0, zRf (zad Γ) 0), (1, zI a1), (2, zI a2), (3, zI a3), (4, zI a4)] [zI r17] M18
          obtain ⟨g28, h⟩ := h
          refine zr_callS C [r17] hS_X11_asNumber ck_RX11_190 sv_X11_asNumber rfl rfl (zdec_at dm_X11_inBand 24 rfl) ⟨rfl, rfl, rfl, rfl⟩ ⟨by decide, by decide⟩ (Nat.le_of_ble_eq_true rfl) (zall_0 z20 zall_n) ?_
          refine ⟨_, rfl, g28, fun r23 M24 p27 z26 hR25 => ?_⟩
          have h := h r23 M24 p27 z26 hR25
          show zV Γ mu_X11_inBand (145, 0, 0) 49 [(0, zRf (zad Γ) 0), (1, zI a1), (2, zI a2), (3, zI a3), (4, zI a4)] [zI r23] M24
          exact zr_ireturn C rfl (zdec_at dm_X11_inBand 25 rfl) rfl ⟨z26, h⟩
        · have h := h.2 g16
          refine zr_iconst C (zdec_at dm_X11_inBand 16 rfl) ?_
          exact zr_ireturn C rfl (zdec_at dm_X11_inBand 17 rfl) rfl ⟨(by decide), h⟩

set_option maxHeartbeats 400000 in
set_option maxRecDepth 100000 in
theorem sn_X11_fewest {pr_X11_isFace : Int → zM → Prop} {po_X11_isFace : Int → zM → Int → zM → Prop} {pr_X11_isMiss : Int → zM → Prop} {po_X11_isMiss : Int → zM → Int → zM → Prop} {pr_X6_find : Int → Int → zM → Prop} {po_X6_find : Int → Int → zM → zM → Prop} (hS_X11_isFace : zSnd zS 145 0 0 yX11_isFace cX11_isFace 2 (some .boolean) 4 [2, 0] (F_X11_isFace pr_X11_isFace po_X11_isFace)) (hS_X11_isMiss : zSnd zS 145 0 0 yX11_isMiss cX11_isMiss 1 (some .boolean) 0 [0] (F_X11_isMiss pr_X11_isMiss po_X11_isMiss)) (hS_X6_find : zSnd zS 145 0 0 yX6_find cX6_find 5 none 4 [2, 0, 0] (F_X6_find pr_X6_find po_X6_find)) : zSnd zS 145 0 0 yX11_fewest cX11_fewest 4 (some .int) 5 [2, 0, 0, 0] (fun xs P M => ∃ a1 a2 a3 : Int, xs = [0, a1, a2, a3] ∧ vc_X11_fewest pr_X11_isFace po_X11_isFace pr_X11_isMiss po_X11_isMiss pr_X6_find po_X6_find a1 a2 a3 P M) := by
  refine zSnd.of rfl (fun ad xs hz => Nat.le_trans (Nat.le_of_eq (zlen ad _ xs hz)) (by decide)) ?_
  intro Γ C _ _ xs M hz hF
  obtain ⟨a1, a2, a3, rfl, h⟩ := hF
  have zz_a1 := zall_h (zall_t hz) (by decide)
  have zz_a2 := zall_h (zall_t (zall_t hz)) (by decide)
  have zz_a3 := zall_h (zall_t (zall_t (zall_t hz))) (by decide)
  refine zr_rng (fun hR => ?_)
  have C : zC Γ mu_X11_fewest := C
  change zV Γ mu_X11_fewest (145, 0, 0) 0 [(0, zRf (zad Γ) 0), (1, zI a1), (2, zI a2), (3, zI a3)] [] M
  change vc_X11_fewest pr_X11_isFace po_X11_isFace pr_X11_isMiss po_X11_isMiss pr_X6_find po_X6_find a1 a2 a3 _ M at h
  unfold vc_X11_fewest at h
  refine zr_aload_n C 0 rfl (zdec_at dm_X11_fewest 0 rfl) rfl ?_
  refine zr_iload_n C 1 rfl (zdec_at dm_X11_fewest 1 rfl) rfl ?_
  obtain ⟨g6, h⟩ := h
  refine zr_callV C [a1] hS_X11_isFace ck_RX11_177 iv_X11_isFace vc_X11 oc_0 rfl rfl (zdec_at dm_X11_fewest 2 rfl) ⟨rfl, rfl, rfl, rfl⟩ ⟨by decide, by decide⟩ (Nat.le_of_ble_eq_true rfl) (zall_0 zz_a1 zall_n) ?_
  refine ⟨_, rfl, g6, fun r1 M2 p5 z4 hR3 => ?_⟩
  have h := h r1 M2 p5 z4 hR3
  show zV Γ mu_X11_fewest (145, 0, 0) 5 [(0, zRf (zad Γ) 0), (1, zI a1), (2, zI a2), (3, zI a3)] [zI r1] M2
  refine zr_if_eq C z4 (zdec_at dm_X11_fewest 3 rfl) rfl (fun g7 => ?_) (fun g7 => ?_)
  · have h := h.1 g7
    refine zr_iconst C (zdec_at dm_X11_fewest 10 rfl) ?_
    exact zr_ireturn C rfl (zdec_at dm_X11_fewest 11 rfl) rfl ⟨(by decide), h⟩
  · have h := h.2 g7
    refine zr_iload_n C 2 rfl (zdec_at dm_X11_fewest 4 rfl) rfl ?_
    obtain ⟨g13, h⟩ := h
    refine zr_callS C [a2] hS_X11_isMiss ck_RX11_222 sv_X11_isMiss rfl rfl (zdec_at dm_X11_fewest 5 rfl) ⟨rfl, rfl, rfl, rfl⟩ ⟨by decide, by decide⟩ (Nat.le_of_ble_eq_true rfl) (zall_0 zz_a2 zall_n) ?_
    refine ⟨_, rfl, g13, fun r8 M9 p12 z11 hR10 => ?_⟩
    have h := h r8 M9 p12 z11 hR10
    show zV Γ mu_X11_fewest (145, 0, 0) 12 [(0, zRf (zad Γ) 0), (1, zI a1), (2, zI a2), (3, zI a3)] [zI r8] M9
    refine zr_if_eq C z11 (zdec_at dm_X11_fewest 6 rfl) rfl (fun g14 => ?_) (fun g14 => ?_)
    · have h := h.1 g14
      refine zr_iconst C (zdec_at dm_X11_fewest 10 rfl) ?_
      exact zr_ireturn C rfl (zdec_at dm_X11_fewest 11 rfl) rfl ⟨(by decide), h⟩
    · have h := h.2 g14
      refine zr_iload_n C 3 rfl (zdec_at dm_X11_fewest 7 rfl) rfl ?_
      refine zr_iconst C (zdec_at dm_X11_fewest 8 rfl) ?_
      refine zr_icmp_ge C zz_a3 (by decide) (zdec_at dm_X11_fewest 9 rfl) rfl (fun g15 => ?_) (fun g15 => ?_)
      · have h := h.1 g15
        refine zr_aload_n C 0 rfl (zdec_at dm_X11_fewest 12 rfl) rfl ?_
        refine zr_getr (q := 42) C fk_RX11_42 fi_0_3 (zdec_at dm_X11_fewest 13 rfl) ?_
        refine zr_iload_n C 1 rfl (zdec_at dm_X11_fewest 14 rfl) rfl ?_
        refine zr_iload_n C 2 rfl (zdec_at dm_X11_fewest 15 rfl) rfl ?_
        obtain ⟨g20, h⟩ := h
        refine zr_callV C [a1, a2] hS_X6_find ck_RX11_232 iv_X6_find vc_X6 oc_42 rfl rfl (zdec_at dm_X11_fewest 16 rfl) ⟨rfl, rfl, rfl, rfl⟩ ⟨by decide, by decide⟩ (Nat.le_of_ble_eq_true rfl) (zall_0 zz_a1 (zall_0 zz_a2 zall_n)) ?_
        refine ⟨_, _, rfl, g20, fun M16 p19 _ hR17 => ?_⟩
        have h := h M16 p19 hR17
        show zV Γ mu_X11_fewest (145, 0, 0) 31 [(0, zRf (zad Γ) 0), (1, zI a1), (2, zI a2), (3, zI a3)] [] M16
        refine zr_iload_n C 3 rfl (zdec_at dm_X11_fewest 17 rfl) rfl ?_
        refine zr_if_ge C zz_a3 (zdec_at dm_X11_fewest 18 rfl) rfl (fun g21 => ?_) (fun g21 => ?_)
        · have h := h.1 g21
          refine zr_iload_n C 3 rfl (zdec_at dm_X11_fewest 23 rfl) rfl ?_
          refine zr_aload_n C 0 rfl (zdec_at dm_X11_fewest 24 rfl) rfl ?_
          refine zr_getr (q := 42) C fk_RX11_42 fi_0_3 (zdec_at dm_X11_fewest 25 rfl) ?_
          refine zr_geti C fk_RX11_235 fi_42_1 (zdec_at dm_X11_fewest 26 rfl) ?_
          refine zr_icmp_ge C zz_a3 (hR17 _ _) (zdec_at dm_X11_fewest 27 rfl) rfl (fun g22 => ?_) (fun g22 => ?_)
          · have h := h.1 g22
            refine zr_bipush C (zdec_at dm_X11_fewest 34 rfl) (by decide) ?_
            exact zr_ireturn C rfl (zdec_at dm_X11_fewest 35 rfl) rfl ⟨(by decide), h⟩
          · have h := h.2 g22
            refine zr_aload_n C 0 rfl (zdec_at dm_X11_fewest 28 rfl) rfl ?_
            refine zr_getr (q := 42) C fk_RX11_42 fi_0_3 (zdec_at dm_X11_fewest 29 rfl) ?_
            refine zr_getr (q := 43) C fk_RX11_236 fi_42_2 (zdec_at dm_X11_fewest 30 rfl) ?_
            refine zr_iload_n C 3 rfl (zdec_at dm_X11_fewest 31 rfl) rfl ?_
            obtain ⟨o23, h⟩ := h
            refine zr_iald C ai_43 o23 (zdec_at dm_X11_fewest 32 rfl) ?_
            refine zr_goto C (zdec_at dm_X11_fewest 33 rfl) rfl ?_
            exact zr_ireturn C rfl (zdec_at dm_X11_fewest 35 rfl) rfl ⟨(hR17 _ _), h⟩
        · have h := h.2 g21
          refine zr_aload_n C 0 rfl (zdec_at dm_X11_fewest 19 rfl) rfl ?_
          refine zr_getr (q := 42) C fk_RX11_42 fi_0_3 (zdec_at dm_X11_fewest 20 rfl) ?_
          refine zr_geti C fk_RX11_235 fi_42_1 (zdec_at dm_X11_fewest 21 rfl) ?_
          exact zr_ireturn C rfl (zdec_at dm_X11_fewest 22 rfl) rfl ⟨(hR17 _ _), h⟩
      · have h := h.2 g15
        refine zr_iconst C (zdec_at dm_X11_fewest 10 rfl) ?_
        exact zr_ireturn C rfl (zdec_at dm_X11_fewest 11 rfl) rfl ⟨(by decide), h⟩

set_option maxHeartbeats 400000 in
set_option maxRecDepth 100000 in
theorem sn_X11_drawn {pr_X11_isFace : Int → zM → Prop} {po_X11_isFace : Int → zM → Int → zM → Prop} {pr_X11_isMiss : Int → zM → Prop} {po_X11_isMiss : Int → zM → Int → zM → Prop} {pr_X0_isDot : Int → zM → Prop} {po_X0_isDot : Int → zM → Int → zM → Prop} {pr_X6_find : Int → Int → zM → Prop} {po_X6_find : Int → Int → zM → zM → Prop} {pr_X6_hold : Int → Int → zM → Prop} {po_X6_hold : Int → Int → zM → Int → zM → Prop} {pr_X11_asNumber : Int → zM → Prop} {po_X11_asNumber : Int → zM → Int → zM → Prop} (hS_X11_isFace : zSnd zS 145 0 0 yX11_isFace cX11_isFace 2 (some .boolean) 4 [2, 0] (F_X11_isFace pr_X11_isFace po_X11_isFace)) (hS_X11_isMiss : zSnd zS 145 0 0 yX11_isMiss cX11_isMiss 1 (some .boolean) 0 [0] (F_X11_isMiss pr_X11_isMiss po_X11_isMiss)) (hS_X0_isDot : zSnd zS 145 0 0 yX0_isDot cX0_isDot 2 (some .boolean) 0 [2, 0] (F_X0_isDot pr_X0_isDot po_X0_isDot)) (hS_X6_find : zSnd zS 145 0 0 yX6_find cX6_find 5 none 4 [2, 0, 0] (F_X6_find pr_X6_find po_X6_find)) (hS_X6_hold : zSnd zS 145 0 0 yX6_hold cX6_hold 5 (some .boolean) 1 [2, 0, 0] (F_X6_hold pr_X6_hold po_X6_hold)) (hS_X11_asNumber : zSnd zS 145 0 0 yX11_asNumber cX11_asNumber 1 (some .int) 0 [0] (F_X11_asNumber pr_X11_asNumber po_X11_asNumber)) : zSnd zS 145 0 0 yX11_drawn cX11_drawn 4 (some .int) 5 [2, 0, 0, 0] (fun xs P M => ∃ a1 a2 a3 : Int, xs = [0, a1, a2, a3] ∧ vc_X11_drawn pr_X11_isFace po_X11_isFace pr_X11_isMiss po_X11_isMiss pr_X0_isDot po_X0_isDot pr_X6_find po_X6_find pr_X6_hold po_X6_hold pr_X11_asNumber po_X11_asNumber a1 a2 a3 P M) := by
  refine zSnd.of rfl (fun ad xs hz => Nat.le_trans (Nat.le_of_eq (zlen ad _ xs hz)) (by decide)) ?_
  intro Γ C _ _ xs M hz hF
  obtain ⟨a1, a2, a3, rfl, h⟩ := hF
  have zz_a1 := zall_h (zall_t hz) (by decide)
  have zz_a2 := zall_h (zall_t (zall_t hz)) (by decide)
  have zz_a3 := zall_h (zall_t (zall_t (zall_t hz))) (by decide)
  refine zr_rng (fun hR => ?_)
  have C : zC Γ mu_X11_drawn := C
  change zV Γ mu_X11_drawn (145, 0, 0) 0 [(0, zRf (zad Γ) 0), (1, zI a1), (2, zI a2), (3, zI a3)] [] M
  change vc_X11_drawn pr_X11_isFace po_X11_isFace pr_X11_isMiss po_X11_isMiss pr_X0_isDot po_X0_isDot pr_X6_find po_X6_find pr_X6_hold po_X6_hold pr_X11_asNumber po_X11_asNumber a1 a2 a3 _ M at h
  unfold vc_X11_drawn at h
  refine zr_aload_n C 0 rfl (zdec_at dm_X11_drawn 0 rfl) rfl ?_
  refine zr_iload_n C 1 rfl (zdec_at dm_X11_drawn 1 rfl) rfl ?_
  obtain ⟨g6, h⟩ := h
  refine zr_callV C [a1] hS_X11_isFace ck_RX11_177 iv_X11_isFace vc_X11 oc_0 rfl rfl (zdec_at dm_X11_drawn 2 rfl) ⟨rfl, rfl, rfl, rfl⟩ ⟨by decide, by decide⟩ (Nat.le_of_ble_eq_true rfl) (zall_0 zz_a1 zall_n) ?_
  refine ⟨_, rfl, g6, fun r1 M2 p5 z4 hR3 => ?_⟩
  have h := h r1 M2 p5 z4 hR3
  show zV Γ mu_X11_drawn (145, 0, 0) 5 [(0, zRf (zad Γ) 0), (1, zI a1), (2, zI a2), (3, zI a3)] [zI r1] M2
  refine zr_if_eq C z4 (zdec_at dm_X11_drawn 3 rfl) rfl (fun g7 => ?_) (fun g7 => ?_)
  · have h := h.1 g7
    refine zr_iconst C (zdec_at dm_X11_drawn 12 rfl) ?_
    exact zr_ireturn C rfl (zdec_at dm_X11_drawn 13 rfl) rfl ⟨(by decide), h⟩
  · have h := h.2 g7
    refine zr_iload_n C 2 rfl (zdec_at dm_X11_drawn 4 rfl) rfl ?_
    obtain ⟨g13, h⟩ := h
    refine zr_callS C [a2] hS_X11_isMiss ck_RX11_222 sv_X11_isMiss rfl rfl (zdec_at dm_X11_drawn 5 rfl) ⟨rfl, rfl, rfl, rfl⟩ ⟨by decide, by decide⟩ (Nat.le_of_ble_eq_true rfl) (zall_0 zz_a2 zall_n) ?_
    refine ⟨_, rfl, g13, fun r8 M9 p12 z11 hR10 => ?_⟩
    have h := h r8 M9 p12 z11 hR10
    show zV Γ mu_X11_drawn (145, 0, 0) 12 [(0, zRf (zad Γ) 0), (1, zI a1), (2, zI a2), (3, zI a3)] [zI r8] M9
    refine zr_if_eq C z11 (zdec_at dm_X11_drawn 6 rfl) rfl (fun g14 => ?_) (fun g14 => ?_)
    · have h := h.1 g14
      refine zr_iconst C (zdec_at dm_X11_drawn 12 rfl) ?_
      exact zr_ireturn C rfl (zdec_at dm_X11_drawn 13 rfl) rfl ⟨(by decide), h⟩
    · have h := h.2 g14
      refine zr_aload_n C 0 rfl (zdec_at dm_X11_drawn 7 rfl) rfl ?_
      refine zr_getr (q := 1) C fk_RX11_25 fi_0_0 (zdec_at dm_X11_drawn 8 rfl) ?_
      refine zr_iload_n C 3 rfl (zdec_at dm_X11_drawn 9 rfl) rfl ?_
      obtain ⟨g20, h⟩ := h
      refine zr_callV C [a3] hS_X0_isDot ck_RX11_129 iv_X0_isDot vc_X0 oc_1 rfl rfl (zdec_at dm_X11_drawn 10 rfl) ⟨rfl, rfl, rfl, rfl⟩ ⟨by decide, by decide⟩ (Nat.le_of_ble_eq_true rfl) (zall_0 zz_a3 zall_n) ?_
      refine ⟨_, rfl, g20, fun r15 M16 p19 z18 hR17 => ?_⟩
      have h := h r15 M16 p19 z18 hR17
      show zV Γ mu_X11_drawn (145, 0, 0) 23 [(0, zRf (zad Γ) 0), (1, zI a1), (2, zI a2), (3, zI a3)] [zI r15] M16
      refine zr_if_ne C z18 (zdec_at dm_X11_drawn 11 rfl) rfl (fun g21 => ?_) (fun g21 => ?_)
      · have h := h.1 g21
        refine zr_aload_n C 0 rfl (zdec_at dm_X11_drawn 14 rfl) rfl ?_
        refine zr_getr (q := 42) C fk_RX11_42 fi_0_3 (zdec_at dm_X11_drawn 15 rfl) ?_
        refine zr_iload_n C 1 rfl (zdec_at dm_X11_drawn 16 rfl) rfl ?_
        refine zr_iload_n C 2 rfl (zdec_at dm_X11_drawn 17 rfl) rfl ?_
        obtain ⟨g26, h⟩ := h
        refine zr_callV C [a1, a2] hS_X6_find ck_RX11_232 iv_X6_find vc_X6 oc_42 rfl rfl (zdec_at dm_X11_drawn 18 rfl) ⟨rfl, rfl, rfl, rfl⟩ ⟨by decide, by decide⟩ (Nat.le_of_ble_eq_true rfl) (zall_0 zz_a1 (zall_0 zz_a2 zall_n)) ?_
        refine ⟨_, _, rfl, g26, fun M22 p25 _ hR23 => ?_⟩
        have h := h M22 p25 hR23
        show zV Γ mu_X11_drawn (145, 0, 0) 37 [(0, zRf (zad Γ) 0), (1, zI a1), (2, zI a2), (3, zI a3)] [] M22
        refine zr_aload_n C 0 rfl (zdec_at dm_X11_drawn 19 rfl) rfl ?_
        refine zr_getr (q := 42) C fk_RX11_42 fi_0_3 (zdec_at dm_X11_drawn 20 rfl) ?_
        refine zr_iload_n C 3 rfl (zdec_at dm_X11_drawn 21 rfl) rfl ?_
        refine zr_bipush C (zdec_at dm_X11_drawn 22 rfl) (by decide) ?_
        obtain ⟨o27, h⟩ := h
        refine zr_irem C zz_a3 (by decide) ⟨o27, by decide⟩ (zdec_at dm_X11_drawn 23 rfl) ?_
        refine zr_iload_n C 3 rfl (zdec_at dm_X11_drawn 24 rfl) rfl ?_
        refine zr_bipush C (zdec_at dm_X11_drawn 25 rfl) (by decide) ?_
        refine zr_idiv C zz_a3 (by decide) ⟨o27, by decide⟩ (zdec_at dm_X11_drawn 26 rfl) ?_
        obtain ⟨g33, h⟩ := h
        refine zr_callV C [(a3 % 16), (a3 / 16)] hS_X6_hold ck_RX11_239 iv_X6_hold vc_X6 oc_42 rfl rfl (zdec_at dm_X11_drawn 27 rfl) ⟨rfl, rfl, rfl, rfl⟩ ⟨by decide, by decide⟩ (Nat.le_of_ble_eq_true rfl) (zall_0 (z_rz (a := a3) (b := 16) ⟨o27, by decide⟩ (by decide)) (zall_0 (z_dz2 (a := a3) (b := 16) ⟨o27, by decide⟩ zz_a3) zall_n)) ?_
        refine ⟨_, _, rfl, g33, fun r28 M29 p32 z31 hR30 => ?_⟩
        have h := h r28 M29 p32 z31 hR30
        show zV Γ mu_X11_drawn (145, 0, 0) 52 [(0, zRf (zad Γ) 0), (1, zI a1), (2, zI a2), (3, zI a3)] [zI r28] M29
        obtain ⟨g39, h⟩ := h
        refine zr_callS C [r28] hS_X11_asNumber ck_RX11_190 sv_X11_asNumber rfl rfl (zdec_at dm_X11_drawn 28 rfl) ⟨rfl, rfl, rfl, rfl⟩ ⟨by decide, by decide⟩ (Nat.le_of_ble_eq_true rfl) (zall_0 z31 zall_n) ?_
        refine ⟨_, rfl, g39, fun r34 M35 p38 z37 hR36 => ?_⟩
        have h := h r34 M35 p38 z37 hR36
        show zV Γ mu_X11_drawn (145, 0, 0) 55 [(0, zRf (zad Γ) 0), (1, zI a1), (2, zI a2), (3, zI a3)] [zI r34] M35
        exact zr_ireturn C rfl (zdec_at dm_X11_drawn 29 rfl) rfl ⟨z37, h⟩
      · have h := h.2 g21
        refine zr_iconst C (zdec_at dm_X11_drawn 12 rfl) ?_
        exact zr_ireturn C rfl (zdec_at dm_X11_drawn 13 rfl) rfl ⟨(by decide), h⟩

set_option maxHeartbeats 400000 in
set_option maxRecDepth 100000 in
theorem sn_X11_differ {pr_X11_isFace : Int → zM → Prop} {po_X11_isFace : Int → zM → Int → zM → Prop} {pr_X11_isMiss : Int → zM → Prop} {po_X11_isMiss : Int → zM → Int → zM → Prop} {pr_X6_find : Int → Int → zM → Prop} {po_X6_find : Int → Int → zM → zM → Prop} {pr_X2_markHoles : Int → zM → Prop} {po_X2_markHoles : Int → zM → Int → zM → Prop} {pr_X6_hold : Int → Int → zM → Prop} {po_X6_hold : Int → Int → zM → Int → zM → Prop} {pr_X2_isFilled : Int → Int → Int → zM → Prop} {po_X2_isFilled : Int → Int → Int → zM → Int → zM → Prop} (hS_X11_isFace : zSnd zS 145 0 0 yX11_isFace cX11_isFace 2 (some .boolean) 4 [2, 0] (F_X11_isFace pr_X11_isFace po_X11_isFace)) (hS_X11_isMiss : zSnd zS 145 0 0 yX11_isMiss cX11_isMiss 1 (some .boolean) 0 [0] (F_X11_isMiss pr_X11_isMiss po_X11_isMiss)) (hS_X6_find : zSnd zS 145 0 0 yX6_find cX6_find 5 none 4 [2, 0, 0] (F_X6_find pr_X6_find po_X6_find)) (hS_X2_markHoles : zSnd zS 145 0 0 yX2_markHoles cX2_markHoles 5 (some .int) 2 [2, 0] (F_X2_markHoles pr_X2_markHoles po_X2_markHoles)) (hS_X6_hold : zSnd zS 145 0 0 yX6_hold cX6_hold 5 (some .boolean) 1 [2, 0, 0] (F_X6_hold pr_X6_hold po_X6_hold)) (hS_X2_isFilled : zSnd zS 145 0 0 yX2_isFilled cX2_isFilled 4 (some .boolean) 2 [2, 0, 0, 0] (F_X2_isFilled pr_X2_isFilled po_X2_isFilled)) : zSnd zS 145 0 0 yX11_differ cX11_differ 6 (some .int) 5 [2, 0, 0] (fun xs P M => ∃ a1 a2 : Int, xs = [0, a1, a2] ∧ vc_X11_differ pr_X11_isFace po_X11_isFace pr_X11_isMiss po_X11_isMiss pr_X6_find po_X6_find pr_X2_markHoles po_X2_markHoles pr_X6_hold po_X6_hold pr_X2_isFilled po_X2_isFilled a1 a2 P M) := by
  refine zSnd.of rfl (fun ad xs hz => Nat.le_trans (Nat.le_of_eq (zlen ad _ xs hz)) (by decide)) ?_
  intro Γ C _ _ xs M hz hF
  obtain ⟨a1, a2, rfl, h⟩ := hF
  have zz_a1 := zall_h (zall_t hz) (by decide)
  have zz_a2 := zall_h (zall_t (zall_t hz)) (by decide)
  refine zr_rng (fun hR => ?_)
  have C : zC Γ mu_X11_differ := C
  change zV Γ mu_X11_differ (145, 0, 0) 0 [(0, zRf (zad Γ) 0), (1, zI a1), (2, zI a2)] [] M
  change vc_X11_differ pr_X11_isFace po_X11_isFace pr_X11_isMiss po_X11_isMiss pr_X6_find po_X6_find pr_X2_markHoles po_X2_markHoles pr_X6_hold po_X6_hold pr_X2_isFilled po_X2_isFilled a1 a2 _ M at h
  unfold vc_X11_differ at h
  refine zr_aload_n C 0 rfl (zdec_at dm_X11_differ 0 rfl) rfl ?_
  refine zr_iload_n C 1 rfl (zdec_at dm_X11_differ 1 rfl) rfl ?_
  obtain ⟨g6, h⟩ := h
  refine zr_callV C [a1] hS_X11_isFace ck_RX11_177 iv_X11_isFace vc_X11 oc_0 rfl rfl (zdec_at dm_X11_differ 2 rfl) ⟨rfl, rfl, rfl, rfl⟩ ⟨by decide, by decide⟩ (Nat.le_of_ble_eq_true rfl) (zall_0 zz_a1 zall_n) ?_
  refine ⟨_, rfl, g6, fun r1 M2 p5 z4 hR3 => ?_⟩
  have h := h r1 M2 p5 z4 hR3
  show zV Γ mu_X11_differ (145, 0, 0) 5 [(0, zRf (zad Γ) 0), (1, zI a1), (2, zI a2)] [zI r1] M2
  refine zr_if_eq C z4 (zdec_at dm_X11_differ 3 rfl) rfl (fun g7 => ?_) (fun g7 => ?_)
  · have h := h.1 g7
    refine zr_iconst C (zdec_at dm_X11_differ 7 rfl) ?_
    exact zr_ireturn C rfl (zdec_at dm_X11_differ 8 rfl) rfl ⟨(by decide), h⟩
  · have h := h.2 g7
    refine zr_iload_n C 2 rfl (zdec_at dm_X11_differ 4 rfl) rfl ?_
    obtain ⟨g13, h⟩ := h
    refine zr_callS C [a2] hS_X11_isMiss ck_RX11_222 sv_X11_isMiss rfl rfl (zdec_at dm_X11_differ 5 rfl) ⟨rfl, rfl, rfl, rfl⟩ ⟨by decide, by decide⟩ (Nat.le_of_ble_eq_true rfl) (zall_0 zz_a2 zall_n) ?_
    refine ⟨_, rfl, g13, fun r8 M9 p12 z11 hR10 => ?_⟩
    have h := h r8 M9 p12 z11 hR10
    show zV Γ mu_X11_differ (145, 0, 0) 12 [(0, zRf (zad Γ) 0), (1, zI a1), (2, zI a2)] [zI r8] M9
    refine zr_if_ne C z11 (zdec_at dm_X11_differ 6 rfl) rfl (fun g14 => ?_) (fun g14 => ?_)
    · have h := h.1 g14
      refine zr_aload_n C 0 rfl (zdec_at dm_X11_differ 9 rfl) rfl ?_
      refine zr_getr (q := 42) C fk_RX11_42 fi_0_3 (zdec_at dm_X11_differ 10 rfl) ?_
      refine zr_iload_n C 1 rfl (zdec_at dm_X11_differ 11 rfl) rfl ?_
      refine zr_iload_n C 2 rfl (zdec_at dm_X11_differ 12 rfl) rfl ?_
      obtain ⟨g19, h⟩ := h
      refine zr_callV C [a1, a2] hS_X6_find ck_RX11_232 iv_X6_find vc_X6 oc_42 rfl rfl (zdec_at dm_X11_differ 13 rfl) ⟨rfl, rfl, rfl, rfl⟩ ⟨by decide, by decide⟩ (Nat.le_of_ble_eq_true rfl) (zall_0 zz_a1 (zall_0 zz_a2 zall_n)) ?_
      refine ⟨_, _, rfl, g19, fun M15 p18 _ hR16 => ?_⟩
      have h := h M15 p18 hR16
      show zV Γ mu_X11_differ (145, 0, 0) 26 [(0, zRf (zad Γ) 0), (1, zI a1), (2, zI a2)] [] M15
      refine zr_aload_n C 0 rfl (zdec_at dm_X11_differ 14 rfl) rfl ?_
      refine zr_getr (q := 5) C fk_RX11_29 fi_0_1 (zdec_at dm_X11_differ 15 rfl) ?_
      refine zr_iload_n C 1 rfl (zdec_at dm_X11_differ 16 rfl) rfl ?_
      obtain ⟨g25, h⟩ := h
      refine zr_callV C [a1] hS_X2_markHoles ck_RX11_242 iv_X2_markHoles vc_X2 oc_5 rfl rfl (zdec_at dm_X11_differ 17 rfl) ⟨rfl, rfl, rfl, rfl⟩ ⟨by decide, by decide⟩ (Nat.le_of_ble_eq_true rfl) (zall_0 zz_a1 zall_n) ?_
      refine ⟨_, rfl, g25, fun r20 M21 p24 z23 hR22 => ?_⟩
      have h := h r20 M21 p24 z23 hR22
      show zV Γ mu_X11_differ (145, 0, 0) 34 [(0, zRf (zad Γ) 0), (1, zI a1), (2, zI a2)] [zI r20] M21
      refine zr_pop C rfl (zdec_at dm_X11_differ 18 rfl) ?_
      refine zr_iconst C (zdec_at dm_X11_differ 19 rfl) ?_
      refine zr_istore_n (L1 := [(3, zI 0), (0, zRf (zad Γ) 0), (1, zI a1), (2, zI a2)]) C (zdec_at dm_X11_differ 20 rfl) rfl (Nat.le_of_ble_eq_true rfl) rfl ?_
      refine zr_iconst C (zdec_at dm_X11_differ 21 rfl) ?_
      refine zr_istore (L1 := [(4, zI 0), (3, zI 0), (0, zRf (zad Γ) 0), (1, zI a1), (2, zI a2)]) C (zdec_at dm_X11_differ 22 rfl) (Nat.le_of_ble_eq_true rfl) rfl ?_
      obtain ⟨I40, ⟨n36, q37⟩, hI35⟩ := h
      have lp34 : ∀ (n32 : Nat) (v26 : Int) (v27 : Int) (M30 : zM), I40 v26 v27 M30 n32 → zin v26 → zin v27 → zRng M30 → zV Γ mu_X11_differ (145, 0, 0) 40 [(0, zRf (zad Γ) 0), (1, zI a1), (3, zI v26), (4, zI v27)] [] M30 := by
        intro n32
        induction n32 using Nat.strongRecOn with
        | _ n32 ih33 =>
        intro v26 v27 M30 q38 z28 z29 hR31
        have h := hI35 v26 v27 M30 n32 q38 z28 z29 hR31
        refine zr_iload C 3 rfl (zdec_at dm_X11_differ 23 rfl) ?_
        refine zr_aload_n C 0 rfl (zdec_at dm_X11_differ 24 rfl) rfl ?_
        refine zr_getr (q := 1) C fk_RX11_25 fi_0_0 (zdec_at dm_X11_differ 25 rfl) ?_
        refine zr_geti C fk_RX11_245 fi_1_1 (zdec_at dm_X11_differ 26 rfl) ?_
        refine zr_icmp_ge C z29 (hR31 _ _) (zdec_at dm_X11_differ 27 rfl) rfl (fun g39 => ?_) (fun g39 => ?_)
        · have h := h.1 g39
          refine zr_iload_n C 2 rfl (zdec_at dm_X11_differ 52 rfl) rfl ?_
          exact zr_ireturn C rfl (zdec_at dm_X11_differ 53 rfl) rfl ⟨z28, h⟩
        · have h := h.2 g39
          refine zr_iconst C (zdec_at dm_X11_differ 28 rfl) ?_
          refine zr_istore (L1 := [(5, zI 0), (0, zRf (zad Γ) 0), (1, zI a1), (3, zI v26), (4, zI v27)]) C (zdec_at dm_X11_differ 29 rfl) (Nat.le_of_ble_eq_true rfl) rfl ?_
          obtain ⟨I55, ⟨n50, q51⟩, hI49⟩ := h
          have lp48 : ∀ (n46 : Nat) (v40 : Int) (v41 : Int) (M44 : zM), I55 v40 v41 M44 n46 → zin v40 → zin v41 → zRng M44 → zV Γ mu_X11_differ (145, 0, 0) 55 [(0, zRf (zad Γ) 0), (1, zI a1), (3, zI v40), (4, zI v27), (5, zI v41)] [] M44 := by
            intro n46
            induction n46 using Nat.strongRecOn with
            | _ n46 ih47 =>
            intro v40 v41 M44 q52 z42 z43 hR45
            have h := hI49 v40 v41 M44 n46 q52 z42 z43 hR45
            refine zr_iload C 4 rfl (zdec_at dm_X11_differ 30 rfl) ?_
            refine zr_aload_n C 0 rfl (zdec_at dm_X11_differ 31 rfl) rfl ?_
            refine zr_getr (q := 1) C fk_RX11_25 fi_0_0 (zdec_at dm_X11_differ 32 rfl) ?_
            refine zr_geti C fk_RX11_248 fi_1_0 (zdec_at dm_X11_differ 33 rfl) ?_
            refine zr_icmp_ge C z43 (hR45 _ _) (zdec_at dm_X11_differ 34 rfl) rfl (fun g53 => ?_) (fun g53 => ?_)
            · have h := h.1 g53
              refine zr_iinc (L1 := [(4, zI (v27 + 1)), (0, zRf (zad Γ) 0), (1, zI a1), (3, zI v40), (5, zI v41)]) C 3 rfl (zdec_at dm_X11_differ 50 rfl) (Nat.le_of_ble_eq_true rfl) rfl ?_
              refine zr_goto C (zdec_at dm_X11_differ 51 rfl) rfl ?_
              obtain ⟨o54, h⟩ := h
              obtain ⟨n55, q56, q57⟩ := h
              exact zr_sub [1, 2, 3, 0] rfl (ih33 n55 q56 _ _ _ q57 z42 o54 hR45)
            · have h := h.2 g53
              refine zr_aload_n C 0 rfl (zdec_at dm_X11_differ 35 rfl) rfl ?_
              refine zr_getr (q := 42) C fk_RX11_42 fi_0_3 (zdec_at dm_X11_differ 36 rfl) ?_
              refine zr_iload C 4 rfl (zdec_at dm_X11_differ 37 rfl) ?_
              refine zr_iload C 3 rfl (zdec_at dm_X11_differ 38 rfl) ?_
              obtain ⟨g63, h⟩ := h
              refine zr_callV C [v41, v27] hS_X6_hold ck_RX11_239 iv_X6_hold vc_X6 oc_42 rfl rfl (zdec_at dm_X11_differ 39 rfl) ⟨rfl, rfl, rfl, rfl⟩ ⟨by decide, by decide⟩ (Nat.le_of_ble_eq_true rfl) (zall_0 z43 (zall_0 z29 zall_n)) ?_
              refine ⟨_, _, rfl, g63, fun r58 M59 p62 z61 hR60 => ?_⟩
              have h := h r58 M59 p62 z61 hR60
              show zV Γ mu_X11_differ (145, 0, 0) 78 [(0, zRf (zad Γ) 0), (1, zI a1), (3, zI v40), (4, zI v27), (5, zI v41)] [zI r58] M59
              refine zr_aload_n C 0 rfl (zdec_at dm_X11_differ 40 rfl) rfl ?_
              refine zr_getr (q := 5) C fk_RX11_29 fi_0_1 (zdec_at dm_X11_differ 41 rfl) ?_
              refine zr_iload_n C 1 rfl (zdec_at dm_X11_differ 42 rfl) rfl ?_
              refine zr_iload C 4 rfl (zdec_at dm_X11_differ 43 rfl) ?_
              refine zr_iload C 3 rfl (zdec_at dm_X11_differ 44 rfl) ?_
              obtain ⟨g69, h⟩ := h
              refine zr_callV C [a1, v41, v27] hS_X2_isFilled ck_RX11_251 iv_X2_isFilled vc_X2 oc_5 rfl rfl (zdec_at dm_X11_differ 45 rfl) ⟨rfl, rfl, rfl, rfl⟩ ⟨by decide, by decide⟩ (Nat.le_of_ble_eq_true rfl) (zall_0 zz_a1 (zall_0 z43 (zall_0 z29 zall_n))) ?_
              refine ⟨_, _, _, rfl, g69, fun r64 M65 p68 z67 hR66 => ?_⟩
              have h := h r64 M65 p68 z67 hR66
              show zV Γ mu_X11_differ (145, 0, 0) 90 [(0, zRf (zad Γ) 0), (1, zI a1), (3, zI v40), (4, zI v27), (5, zI v41)] [zI r64, zI r58] M65
              refine zr_icmp_eq C z61 z67 (zdec_at dm_X11_differ 46 rfl) rfl (fun g70 => ?_) (fun g70 => ?_)
              · have h := h.1 g70
                refine zr_iinc (L1 := [(5, zI (v41 + 1)), (0, zRf (zad Γ) 0), (1, zI a1), (3, zI v40), (4, zI v27)]) C 4 rfl (zdec_at dm_X11_differ 48 rfl) (Nat.le_of_ble_eq_true rfl) rfl ?_
                refine zr_goto C (zdec_at dm_X11_differ 49 rfl) rfl ?_
                obtain ⟨o71, h⟩ := h
                obtain ⟨n72, q73, q74⟩ := h
                exact zr_sub [1, 2, 3, 4, 0] rfl (ih47 n72 q73 _ _ _ q74 z42 o71 hR66)
              · have h := h.2 g70
                refine zr_iinc (L1 := [(3, zI (v40 + 1)), (0, zRf (zad Γ) 0), (1, zI a1), (4, zI v27), (5, zI v41)]) C 2 rfl (zdec_at dm_X11_differ 47 rfl) (Nat.le_of_ble_eq_true rfl) rfl ?_
                refine zr_iinc (L1 := [(5, zI (v41 + 1)), (3, zI (v40 + 1)), (0, zRf (zad Γ) 0), (1, zI a1), (4, zI v27)]) C 4 rfl (zdec_at dm_X11_differ 48 rfl) (Nat.le_of_ble_eq_true rfl) rfl ?_
                refine zr_goto C (zdec_at dm_X11_differ 49 rfl) rfl ?_
                obtain ⟨o75, h⟩ := h
                obtain ⟨o76, h⟩ := h
                obtain ⟨n77, q78, q79⟩ := h
                exact zr_sub [2, 3, 1, 4, 0] rfl (ih47 n77 q78 _ _ _ q79 o75 o76 hR66)
          exact zr_sub [1, 2, 3, 4, 0] rfl (lp48 n50 _ _ _ q51 z28 (by decide) hR31)
      exact zr_sub [2, 3, 1, 0] rfl (lp34 n36 _ _ _ q37 (by decide) (by decide) hR22)
    · have h := h.2 g14
      refine zr_iconst C (zdec_at dm_X11_differ 7 rfl) ?_
      exact zr_ireturn C rfl (zdec_at dm_X11_differ 8 rfl) rfl ⟨(by decide), h⟩

set_option maxHeartbeats 400000 in
set_option maxRecDepth 100000 in
theorem sn_X11_breadth {pr_X0_isDot : Int → zM → Prop} {po_X0_isDot : Int → zM → Int → zM → Prop} {pr_X2_refresh : zM → Prop} {po_X2_refresh : zM → zM → Prop} {pr_X2_faceAt : Int → Int → zM → Prop} {po_X2_faceAt : Int → Int → zM → Int → zM → Prop} {pr_X9_growSquares : Int → zM → Prop} {po_X9_growSquares : Int → zM → zM → Prop} {pr_X9_isMiddle : Int → Int → zM → Prop} {po_X9_isMiddle : Int → Int → zM → Int → zM → Prop} {pr_X11_asNumber : Int → zM → Prop} {po_X11_asNumber : Int → zM → Int → zM → Prop} {pr_X9_breadthAt : Int → Int → zM → Prop} {po_X9_breadthAt : Int → Int → zM → Int → zM → Prop} (hS_X0_isDot : zSnd zS 145 0 0 yX0_isDot cX0_isDot 2 (some .boolean) 0 [2, 0] (F_X0_isDot pr_X0_isDot po_X0_isDot)) (hS_X2_refresh : zSnd zS 145 0 0 yX2_refresh cX2_refresh 3 none 3 [2] (F_X2_refresh pr_X2_refresh po_X2_refresh)) (hS_X2_faceAt : zSnd zS 145 0 0 yX2_faceAt cX2_faceAt 3 (some .int) 0 [2, 0, 0] (F_X2_faceAt pr_X2_faceAt po_X2_faceAt)) (hS_X9_growSquares : zSnd zS 145 0 0 yX9_growSquares cX9_growSquares 5 none 1 [2, 0] (F_X9_growSquares pr_X9_growSquares po_X9_growSquares)) (hS_X9_isMiddle : zSnd zS 145 0 0 yX9_isMiddle cX9_isMiddle 7 (some .boolean) 2 [2, 0, 0] (F_X9_isMiddle pr_X9_isMiddle po_X9_isMiddle)) (hS_X11_asNumber : zSnd zS 145 0 0 yX11_asNumber cX11_asNumber 1 (some .int) 0 [0] (F_X11_asNumber pr_X11_asNumber po_X11_asNumber)) (hS_X9_breadthAt : zSnd zS 145 0 0 yX9_breadthAt cX9_breadthAt 7 (some .int) 1 [2, 0, 0] (F_X9_breadthAt pr_X9_breadthAt po_X9_breadthAt)) : zSnd zS 145 0 0 yX11_breadth cX11_breadth 5 (some .int) 4 [2, 0, 0] (fun xs P M => ∃ a1 a2 : Int, xs = [0, a1, a2] ∧ vc_X11_breadth pr_X0_isDot po_X0_isDot pr_X2_refresh po_X2_refresh pr_X2_faceAt po_X2_faceAt pr_X9_growSquares po_X9_growSquares pr_X9_isMiddle po_X9_isMiddle pr_X11_asNumber po_X11_asNumber pr_X9_breadthAt po_X9_breadthAt a1 a2 P M) := by
  refine zSnd.of rfl (fun ad xs hz => Nat.le_trans (Nat.le_of_eq (zlen ad _ xs hz)) (by decide)) ?_
  intro Γ C _ _ xs M hz hF
  obtain ⟨a1, a2, rfl, h⟩ := hF
  have zz_a1 := zall_h (zall_t hz) (by decide)
  have zz_a2 := zall_h (zall_t (zall_t hz)) (by decide)
  refine zr_rng (fun hR => ?_)
  have C : zC Γ mu_X11_breadth := C
  change zV Γ mu_X11_breadth (145, 0, 0) 0 [(0, zRf (zad Γ) 0), (1, zI a1), (2, zI a2)] [] M
  change vc_X11_breadth pr_X0_isDot po_X0_isDot pr_X2_refresh po_X2_refresh pr_X2_faceAt po_X2_faceAt pr_X9_growSquares po_X9_growSquares pr_X9_isMiddle po_X9_isMiddle pr_X11_asNumber po_X11_asNumber pr_X9_breadthAt po_X9_breadthAt a1 a2 _ M at h
  unfold vc_X11_breadth at h
  refine zr_aload_n C 0 rfl (zdec_at dm_X11_breadth 0 rfl) rfl ?_
  refine zr_getr (q := 1) C fk_RX11_25 fi_0_0 (zdec_at dm_X11_breadth 1 rfl) ?_
  refine zr_iload_n C 1 rfl (zdec_at dm_X11_breadth 2 rfl) rfl ?_
  obtain ⟨g6, h⟩ := h
  refine zr_callV C [a1] hS_X0_isDot ck_RX11_129 iv_X0_isDot vc_X0 oc_1 rfl rfl (zdec_at dm_X11_breadth 3 rfl) ⟨rfl, rfl, rfl, rfl⟩ ⟨by decide, by decide⟩ (Nat.le_of_ble_eq_true rfl) (zall_0 zz_a1 zall_n) ?_
  refine ⟨_, rfl, g6, fun r1 M2 p5 z4 hR3 => ?_⟩
  have h := h r1 M2 p5 z4 hR3
  show zV Γ mu_X11_breadth (145, 0, 0) 8 [(0, zRf (zad Γ) 0), (1, zI a1), (2, zI a2)] [zI r1] M2
  refine zr_if_eq C z4 (zdec_at dm_X11_breadth 4 rfl) rfl (fun g7 => ?_) (fun g7 => ?_)
  · have h := h.1 g7
    refine zr_iconst C (zdec_at dm_X11_breadth 10 rfl) ?_
    exact zr_ireturn C rfl (zdec_at dm_X11_breadth 11 rfl) rfl ⟨(by decide), h⟩
  · have h := h.2 g7
    refine zr_iload_n C 2 rfl (zdec_at dm_X11_breadth 5 rfl) rfl ?_
    refine zr_if_lt C zz_a2 (zdec_at dm_X11_breadth 6 rfl) rfl (fun g8 => ?_) (fun g8 => ?_)
    · have h := h.1 g8
      refine zr_iconst C (zdec_at dm_X11_breadth 10 rfl) ?_
      exact zr_ireturn C rfl (zdec_at dm_X11_breadth 11 rfl) rfl ⟨(by decide), h⟩
    · have h := h.2 g8
      refine zr_iload_n C 2 rfl (zdec_at dm_X11_breadth 7 rfl) rfl ?_
      refine zr_iconst C (zdec_at dm_X11_breadth 8 rfl) ?_
      refine zr_icmp_le C zz_a2 (by decide) (zdec_at dm_X11_breadth 9 rfl) rfl (fun g9 => ?_) (fun g9 => ?_)
      · have h := h.1 g9
        refine zr_aload_n C 0 rfl (zdec_at dm_X11_breadth 12 rfl) rfl ?_
        refine zr_getr (q := 5) C fk_RX11_29 fi_0_1 (zdec_at dm_X11_breadth 13 rfl) ?_
        obtain ⟨g14, h⟩ := h
        refine zr_callV C [] hS_X2_refresh ck_RX11_158 iv_X2_refresh vc_X2 oc_5 rfl rfl (zdec_at dm_X11_breadth 14 rfl) ⟨rfl, rfl, rfl, rfl⟩ ⟨by decide, by decide⟩ (Nat.le_of_ble_eq_true rfl) zall_n ?_
        refine ⟨rfl, g14, fun M10 p13 _ hR11 => ?_⟩
        have h := h M10 p13 hR11
        show zV Γ mu_X11_breadth (145, 0, 0) 29 [(0, zRf (zad Γ) 0), (1, zI a1), (2, zI a2)] [] M10
        refine zr_iload_n C 1 rfl (zdec_at dm_X11_breadth 15 rfl) rfl ?_
        refine zr_bipush C (zdec_at dm_X11_breadth 16 rfl) (by decide) ?_
        obtain ⟨o15, h⟩ := h
        refine zr_irem C zz_a1 (by decide) ⟨o15, by decide⟩ (zdec_at dm_X11_breadth 17 rfl) ?_
        refine zr_istore_n (L1 := [(3, zI (a1 % 16)), (0, zRf (zad Γ) 0), (1, zI a1), (2, zI a2)]) C (zdec_at dm_X11_breadth 18 rfl) rfl (Nat.le_of_ble_eq_true rfl) rfl ?_
        refine zr_iload_n C 2 rfl (zdec_at dm_X11_breadth 19 rfl) rfl ?_
        refine zr_bipush C (zdec_at dm_X11_breadth 20 rfl) (by decide) ?_
        refine zr_idiv C zz_a1 (by decide) ⟨o15, by decide⟩ (zdec_at dm_X11_breadth 21 rfl) ?_
        refine zr_istore (L1 := [(4, zI (a1 / 16)), (3, zI (a1 % 16)), (0, zRf (zad Γ) 0), (1, zI a1), (2, zI a2)]) C (zdec_at dm_X11_breadth 22 rfl) (Nat.le_of_ble_eq_true rfl) rfl ?_
        refine zr_aload_n C 2 rfl (zdec_at dm_X11_breadth 23 rfl) rfl ?_
        refine zr_getr (q := 48) C fk_RX11_49 fi_0_4 (zdec_at dm_X11_breadth 24 rfl) ?_
        refine zr_aload_n C 2 rfl (zdec_at dm_X11_breadth 25 rfl) rfl ?_
        refine zr_getr (q := 5) C fk_RX11_29 fi_0_1 (zdec_at dm_X11_breadth 26 rfl) ?_
        refine zr_iload_n C 1 rfl (zdec_at dm_X11_breadth 27 rfl) rfl ?_
        refine zr_iload C 0 rfl (zdec_at dm_X11_breadth 28 rfl) ?_
        obtain ⟨g21, h⟩ := h
        refine zr_callV C [(a1 % 16), (a1 / 16)] hS_X2_faceAt ck_RX11_173 iv_X2_faceAt vc_X2 oc_5 rfl rfl (zdec_at dm_X11_breadth 29 rfl) ⟨rfl, rfl, rfl, rfl⟩ ⟨by decide, by decide⟩ (Nat.le_of_ble_eq_true rfl) (zall_0 (z_rz (a := a1) (b := 16) ⟨o15, by decide⟩ (by decide)) (zall_0 (z_dz2 (a := a1) (b := 16) ⟨o15, by decide⟩ zz_a1) zall_n)) ?_
        refine ⟨_, _, rfl, g21, fun r16 M17 p20 z19 hR18 => ?_⟩
        have h := h r16 M17 p20 z19 hR18
        show zV Γ mu_X11_breadth (145, 0, 0) 54 [(4, zI (a1 / 16)), (3, zI (a1 % 16)), (0, zRf (zad Γ) 0), (1, zI a1), (2, zI a2)] [zI r16, zRf (zad Γ) 48] M17
        obtain ⟨g26, h⟩ := h
        refine zr_callV C [r16] hS_X9_growSquares ck_RX11_254 iv_X9_growSquares vc_X9 oc_48 rfl rfl (zdec_at dm_X11_breadth 30 rfl) ⟨rfl, rfl, rfl, rfl⟩ ⟨by decide, by decide⟩ (Nat.le_of_ble_eq_true rfl) (zall_0 z19 zall_n) ?_
        refine ⟨_, rfl, g26, fun M22 p25 _ hR23 => ?_⟩
        have h := h M22 p25 hR23
        show zV Γ mu_X11_breadth (145, 0, 0) 57 [(4, zI (a1 / 16)), (3, zI (a1 % 16)), (0, zRf (zad Γ) 0), (1, zI a1), (2, zI a2)] [] M22
        refine zr_iload_n C 4 rfl (zdec_at dm_X11_breadth 31 rfl) rfl ?_
        refine zr_if_ne C zz_a2 (zdec_at dm_X11_breadth 32 rfl) rfl (fun g27 => ?_) (fun g27 => ?_)
        · have h := h.1 g27
          refine zr_aload_n C 2 rfl (zdec_at dm_X11_breadth 39 rfl) rfl ?_
          refine zr_getr (q := 48) C fk_RX11_49 fi_0_4 (zdec_at dm_X11_breadth 40 rfl) ?_
          refine zr_iload_n C 1 rfl (zdec_at dm_X11_breadth 41 rfl) rfl ?_
          refine zr_iload C 0 rfl (zdec_at dm_X11_breadth 42 rfl) ?_
          obtain ⟨g33, h⟩ := h
          refine zr_callV C [(a1 % 16), (a1 / 16)] hS_X9_isMiddle ck_RX11_260 iv_X9_isMiddle vc_X9 oc_48 rfl rfl (zdec_at dm_X11_breadth 43 rfl) ⟨rfl, rfl, rfl, rfl⟩ ⟨by decide, by decide⟩ (Nat.le_of_ble_eq_true rfl) (zall_0 (z_rz (a := a1) (b := 16) ⟨o15, by decide⟩ (by decide)) (zall_0 (z_dz2 (a := a1) (b := 16) ⟨o15, by decide⟩ zz_a1) zall_n)) ?_
          refine ⟨_, _, rfl, g33, fun r28 M29 p32 z31 hR30 => ?_⟩
          have h := h r28 M29 p32 z31 hR30
          show zV Γ mu_X11_breadth (145, 0, 0) 84 [(4, zI (a1 / 16)), (3, zI (a1 % 16)), (0, zRf (zad Γ) 0), (1, zI a1), (2, zI a2)] [zI r28] M29
          obtain ⟨g39, h⟩ := h
          refine zr_callS C [r28] hS_X11_asNumber ck_RX11_190 sv_X11_asNumber rfl rfl (zdec_at dm_X11_breadth 44 rfl) ⟨rfl, rfl, rfl, rfl⟩ ⟨by decide, by decide⟩ (Nat.le_of_ble_eq_true rfl) (zall_0 z31 zall_n) ?_
          refine ⟨_, rfl, g39, fun r34 M35 p38 z37 hR36 => ?_⟩
          have h := h r34 M35 p38 z37 hR36
          show zV Γ mu_X11_breadth (145, 0, 0) 87 [(4, zI (a1 / 16)), (3, zI (a1 % 16)), (0, zRf (zad Γ) 0), (1, zI a1), (2, zI a2)] [zI r34] M35
          exact zr_ireturn C rfl (zdec_at dm_X11_breadth 45 rfl) rfl ⟨z37, h⟩
        · have h := h.2 g27
          refine zr_aload_n C 2 rfl (zdec_at dm_X11_breadth 33 rfl) rfl ?_
          refine zr_getr (q := 48) C fk_RX11_49 fi_0_4 (zdec_at dm_X11_breadth 34 rfl) ?_
          refine zr_iload_n C 1 rfl (zdec_at dm_X11_breadth 35 rfl) rfl ?_
          refine zr_iload C 0 rfl (zdec_at dm_X11_breadth 36 rfl) ?_
          obtain ⟨g45, h⟩ := h
          refine zr_callV C [(a1 % 16), (a1 / 16)] hS_X9_breadthAt ck_RX11_257 iv_X9_breadthAt vc_X9 oc_48 rfl rfl (zdec_at dm_X11_breadth 37 rfl) ⟨rfl, rfl, rfl, rfl⟩ ⟨by decide, by decide⟩ (Nat.le_of_ble_eq_true rfl) (zall_0 (z_rz (a := a1) (b := 16) ⟨o15, by decide⟩ (by decide)) (zall_0 (z_dz2 (a := a1) (b := 16) ⟨o15, by decide⟩ zz_a1) zall_n)) ?_
          refine ⟨_, _, rfl, g45, fun r40 M41 p44 z43 hR42 => ?_⟩
          have h := h r40 M41 p44 z43 hR42
          show zV Γ mu_X11_breadth (145, 0, 0) 71 [(4, zI (a1 / 16)), (3, zI (a1 % 16)), (0, zRf (zad Γ) 0), (1, zI a1), (2, zI a2)] [zI r40] M41
          refine zr_goto C (zdec_at dm_X11_breadth 38 rfl) rfl ?_
          exact zr_ireturn C rfl (zdec_at dm_X11_breadth 45 rfl) rfl ⟨z43, h⟩
      · have h := h.2 g9
        refine zr_iconst C (zdec_at dm_X11_breadth 10 rfl) ?_
        exact zr_ireturn C rfl (zdec_at dm_X11_breadth 11 rfl) rfl ⟨(by decide), h⟩

set_option maxHeartbeats 400000 in
set_option maxRecDepth 100000 in
theorem sn_X11_stroke {pr_X11_isFace : Int → zM → Prop} {po_X11_isFace : Int → zM → Int → zM → Prop} {pr_X9_greatestBreadth : Int → zM → Prop} {po_X9_greatestBreadth : Int → zM → Int → zM → Prop} {pr_X2_width : Int → zM → Prop} {po_X2_width : Int → zM → Int → zM → Prop} {pr_X2_height : Int → zM → Prop} {po_X2_height : Int → zM → Int → zM → Prop} {pr_X11_asNumber : Int → zM → Prop} {po_X11_asNumber : Int → zM → Int → zM → Prop} (hS_X11_isFace : zSnd zS 145 0 0 yX11_isFace cX11_isFace 2 (some .boolean) 4 [2, 0] (F_X11_isFace pr_X11_isFace po_X11_isFace)) (hS_X9_greatestBreadth : zSnd zS 145 0 0 yX9_greatestBreadth cX9_greatestBreadth 5 (some .int) 2 [2, 0] (F_X9_greatestBreadth pr_X9_greatestBreadth po_X9_greatestBreadth)) (hS_X2_width : zSnd zS 145 0 0 yX2_width cX2_width 2 (some .int) 0 [2, 0] (F_X2_width pr_X2_width po_X2_width)) (hS_X2_height : zSnd zS 145 0 0 yX2_height cX2_height 2 (some .int) 0 [2, 0] (F_X2_height pr_X2_height po_X2_height)) (hS_X11_asNumber : zSnd zS 145 0 0 yX11_asNumber cX11_asNumber 1 (some .int) 0 [0] (F_X11_asNumber pr_X11_asNumber po_X11_asNumber)) : zSnd zS 145 0 0 yX11_stroke cX11_stroke 5 (some .int) 5 [2, 0, 0] (fun xs P M => ∃ a1 a2 : Int, xs = [0, a1, a2] ∧ vc_X11_stroke pr_X11_isFace po_X11_isFace pr_X9_greatestBreadth po_X9_greatestBreadth pr_X2_width po_X2_width pr_X2_height po_X2_height pr_X11_asNumber po_X11_asNumber a1 a2 P M) := by
  refine zSnd.of rfl (fun ad xs hz => Nat.le_trans (Nat.le_of_eq (zlen ad _ xs hz)) (by decide)) ?_
  intro Γ C _ _ xs M hz hF
  obtain ⟨a1, a2, rfl, h⟩ := hF
  have zz_a1 := zall_h (zall_t hz) (by decide)
  have zz_a2 := zall_h (zall_t (zall_t hz)) (by decide)
  refine zr_rng (fun hR => ?_)
  have C : zC Γ mu_X11_stroke := C
  change zV Γ mu_X11_stroke (145, 0, 0) 0 [(0, zRf (zad Γ) 0), (1, zI a1), (2, zI a2)] [] M
  change vc_X11_stroke pr_X11_isFace po_X11_isFace pr_X9_greatestBreadth po_X9_greatestBreadth pr_X2_width po_X2_width pr_X2_height po_X2_height pr_X11_asNumber po_X11_asNumber a1 a2 _ M at h
  unfold vc_X11_stroke at h
  refine zr_aload_n C 0 rfl (zdec_at dm_X11_stroke 0 rfl) rfl ?_
  refine zr_iload_n C 1 rfl (zdec_at dm_X11_stroke 1 rfl) rfl ?_
  obtain ⟨g6, h⟩ := h
  refine zr_callV C [a1] hS_X11_isFace ck_RX11_177 iv_X11_isFace vc_X11 oc_0 rfl rfl (zdec_at dm_X11_stroke 2 rfl) ⟨rfl, rfl, rfl, rfl⟩ ⟨by decide, by decide⟩ (Nat.le_of_ble_eq_true rfl) (zall_0 zz_a1 zall_n) ?_
  refine ⟨_, rfl, g6, fun r1 M2 p5 z4 hR3 => ?_⟩
  have h := h r1 M2 p5 z4 hR3
  show zV Γ mu_X11_stroke (145, 0, 0) 5 [(0, zRf (zad Γ) 0), (1, zI a1), (2, zI a2)] [zI r1] M2
  refine zr_if_eq C z4 (zdec_at dm_X11_stroke 3 rfl) rfl (fun g7 => ?_) (fun g7 => ?_)
  · have h := h.1 g7
    refine zr_iconst C (zdec_at dm_X11_stroke 10 rfl) ?_
    exact zr_ireturn C rfl (zdec_at dm_X11_stroke 11 rfl) rfl ⟨(by decide), h⟩
  · have h := h.2 g7
    refine zr_iload_n C 2 rfl (zdec_at dm_X11_stroke 4 rfl) rfl ?_
    refine zr_iconst C (zdec_at dm_X11_stroke 5 rfl) ?_
    refine zr_icmp_lt C zz_a2 (by decide) (zdec_at dm_X11_stroke 6 rfl) rfl (fun g8 => ?_) (fun g8 => ?_)
    · have h := h.1 g8
      refine zr_iconst C (zdec_at dm_X11_stroke 10 rfl) ?_
      exact zr_ireturn C rfl (zdec_at dm_X11_stroke 11 rfl) rfl ⟨(by decide), h⟩
    · have h := h.2 g8
      refine zr_iload_n C 2 rfl (zdec_at dm_X11_stroke 7 rfl) rfl ?_
      refine zr_bipush C (zdec_at dm_X11_stroke 8 rfl) (by decide) ?_
      refine zr_icmp_le C zz_a2 (by decide) (zdec_at dm_X11_stroke 9 rfl) rfl (fun g9 => ?_) (fun g9 => ?_)
      · have h := h.1 g9
        refine zr_aload_n C 0 rfl (zdec_at dm_X11_stroke 12 rfl) rfl ?_
        refine zr_getr (q := 48) C fk_RX11_49 fi_0_4 (zdec_at dm_X11_stroke 13 rfl) ?_
        refine zr_iload_n C 1 rfl (zdec_at dm_X11_stroke 14 rfl) rfl ?_
        obtain ⟨g15, h⟩ := h
        refine zr_callV C [a1] hS_X9_greatestBreadth ck_RX11_263 iv_X9_greatestBreadth vc_X9 oc_48 rfl rfl (zdec_at dm_X11_stroke 15 rfl) ⟨rfl, rfl, rfl, rfl⟩ ⟨by decide, by decide⟩ (Nat.le_of_ble_eq_true rfl) (zall_0 zz_a1 zall_n) ?_
        refine ⟨_, rfl, g15, fun r10 M11 p14 z13 hR12 => ?_⟩
        have h := h r10 M11 p14 z13 hR12
        show zV Γ mu_X11_stroke (145, 0, 0) 29 [(0, zRf (zad Γ) 0), (1, zI a1), (2, zI a2)] [zI r10] M11
        refine zr_istore_n (L1 := [(3, zI r10), (0, zRf (zad Γ) 0), (1, zI a1), (2, zI a2)]) C (zdec_at dm_X11_stroke 16 rfl) rfl (Nat.le_of_ble_eq_true rfl) rfl ?_
        refine zr_aload_n C 1 rfl (zdec_at dm_X11_stroke 17 rfl) rfl ?_
        refine zr_getr (q := 5) C fk_RX11_29 fi_0_1 (zdec_at dm_X11_stroke 18 rfl) ?_
        refine zr_iload_n C 2 rfl (zdec_at dm_X11_stroke 19 rfl) rfl ?_
        obtain ⟨g21, h⟩ := h
        refine zr_callV C [a1] hS_X2_width ck_RX11_266 iv_X2_width vc_X2 oc_5 rfl rfl (zdec_at dm_X11_stroke 20 rfl) ⟨rfl, rfl, rfl, rfl⟩ ⟨by decide, by decide⟩ (Nat.le_of_ble_eq_true rfl) (zall_0 zz_a1 zall_n) ?_
        refine ⟨_, rfl, g21, fun r16 M17 p20 z19 hR18 => ?_⟩
        have h := h r16 M17 p20 z19 hR18
        show zV Γ mu_X11_stroke (145, 0, 0) 38 [(3, zI r10), (0, zRf (zad Γ) 0), (1, zI a1), (2, zI a2)] [zI r16] M17
        refine zr_aload_n C 1 rfl (zdec_at dm_X11_stroke 21 rfl) rfl ?_
        refine zr_getr (q := 5) C fk_RX11_29 fi_0_1 (zdec_at dm_X11_stroke 22 rfl) ?_
        refine zr_iload_n C 2 rfl (zdec_at dm_X11_stroke 23 rfl) rfl ?_
        obtain ⟨g27, h⟩ := h
        refine zr_callV C [a1] hS_X2_height ck_RX11_269 iv_X2_height vc_X2 oc_5 rfl rfl (zdec_at dm_X11_stroke 24 rfl) ⟨rfl, rfl, rfl, rfl⟩ ⟨by decide, by decide⟩ (Nat.le_of_ble_eq_true rfl) (zall_0 zz_a1 zall_n) ?_
        refine ⟨_, rfl, g27, fun r22 M23 p26 z25 hR24 => ?_⟩
        have h := h r22 M23 p26 z25 hR24
        show zV Γ mu_X11_stroke (145, 0, 0) 46 [(3, zI r10), (0, zRf (zad Γ) 0), (1, zI a1), (2, zI a2)] [zI r22, zI r16] M23
        refine zr_mmax C z19 z25 mk_RX11_272 kw_mmax_s kw_mini kw_mmax_c (by decide) ⟨rfl, rfl⟩ (Nat.le_of_ble_eq_true rfl) (zdec_at dm_X11_stroke 25 rfl) (fun z28 => ?_)
        refine zr_istore (L1 := [(4, zI (max r16 r22)), (3, zI r10), (0, zRf (zad Γ) 0), (1, zI a1), (2, zI a2)]) C (zdec_at dm_X11_stroke 26 rfl) (Nat.le_of_ble_eq_true rfl) rfl ?_
        refine zr_iload_n C 1 rfl (zdec_at dm_X11_stroke 27 rfl) rfl ?_
        refine zr_iload_n C 4 rfl (zdec_at dm_X11_stroke 28 rfl) rfl ?_
        refine zr_icmp_gt C z13 zz_a2 (zdec_at dm_X11_stroke 29 rfl) rfl (fun g29 => ?_) (fun g29 => ?_)
        · have h := h.1 g29
          refine zr_iconst C (zdec_at dm_X11_stroke 37 rfl) ?_
          obtain ⟨g35, h⟩ := h
          refine zr_callS C [0] hS_X11_asNumber ck_RX11_190 sv_X11_asNumber rfl rfl (zdec_at dm_X11_stroke 38 rfl) ⟨rfl, rfl, rfl, rfl⟩ ⟨by decide, by decide⟩ (Nat.le_of_ble_eq_true rfl) (zall_0 (by decide) zall_n) ?_
          refine ⟨_, rfl, g35, fun r30 M31 p34 z33 hR32 => ?_⟩
          have h := h r30 M31 p34 z33 hR32
          show zV Γ mu_X11_stroke (145, 0, 0) 72 [(4, zI (max r16 r22)), (3, zI r10), (0, zRf (zad Γ) 0), (1, zI a1), (2, zI a2)] [zI r30] M31
          exact zr_ireturn C rfl (zdec_at dm_X11_stroke 39 rfl) rfl ⟨z33, h⟩
        · have h := h.2 g29
          refine zr_iload C 0 rfl (zdec_at dm_X11_stroke 30 rfl) ?_
          refine zr_iconst C (zdec_at dm_X11_stroke 31 rfl) ?_
          refine zr_iload_n C 1 rfl (zdec_at dm_X11_stroke 32 rfl) rfl ?_
          refine zr_imul C (zdec_at dm_X11_stroke 33 rfl) ?_
          obtain ⟨o36, h⟩ := h
          refine zr_icmp_le C z28 o36 (zdec_at dm_X11_stroke 34 rfl) rfl (fun g37 => ?_) (fun g37 => ?_)
          · have h := h.1 g37
            refine zr_iconst C (zdec_at dm_X11_stroke 37 rfl) ?_
            obtain ⟨g43, h⟩ := h
            refine zr_callS C [0] hS_X11_asNumber ck_RX11_190 sv_X11_asNumber rfl rfl (zdec_at dm_X11_stroke 38 rfl) ⟨rfl, rfl, rfl, rfl⟩ ⟨by decide, by decide⟩ (Nat.le_of_ble_eq_true rfl) (zall_0 (by decide) zall_n) ?_
            refine ⟨_, rfl, g43, fun r38 M39 p42 z41 hR40 => ?_⟩
            have h := h r38 M39 p42 z41 hR40
            show zV Γ mu_X11_stroke (145, 0, 0) 72 [(4, zI (max r16 r22)), (3, zI r10), (0, zRf (zad Γ) 0), (1, zI a1), (2, zI a2)] [zI r38] M39
            exact zr_ireturn C rfl (zdec_at dm_X11_stroke 39 rfl) rfl ⟨z41, h⟩
          · have h := h.2 g37
            refine zr_iconst C (zdec_at dm_X11_stroke 35 rfl) ?_
            refine zr_goto C (zdec_at dm_X11_stroke 36 rfl) rfl ?_
            obtain ⟨g49, h⟩ := h
            refine zr_callS C [1] hS_X11_asNumber ck_RX11_190 sv_X11_asNumber rfl rfl (zdec_at dm_X11_stroke 38 rfl) ⟨rfl, rfl, rfl, rfl⟩ ⟨by decide, by decide⟩ (Nat.le_of_ble_eq_true rfl) (zall_0 (by decide) zall_n) ?_
            refine ⟨_, rfl, g49, fun r44 M45 p48 z47 hR46 => ?_⟩
            have h := h r44 M45 p48 z47 hR46
            show zV Γ mu_X11_stroke (145, 0, 0) 72 [(4, zI (max r16 r22)), (3, zI r10), (0, zRf (zad Γ) 0), (1, zI a1), (2, zI a2)] [zI r44] M45
            exact zr_ireturn C rfl (zdec_at dm_X11_stroke 39 rfl) rfl ⟨z47, h⟩
      · have h := h.2 g9
        refine zr_iconst C (zdec_at dm_X11_stroke 10 rfl) ?_
        exact zr_ireturn C rfl (zdec_at dm_X11_stroke 11 rfl) rfl ⟨(by decide), h⟩

set_option maxHeartbeats 400000 in
set_option maxRecDepth 100000 in
theorem sn_X11_like {pr_X11_isFace : Int → zM → Prop} {po_X11_isFace : Int → zM → Int → zM → Prop} {pr_X9_areLike : Int → Int → zM → Prop} {po_X9_areLike : Int → Int → zM → Int → zM → Prop} {pr_X11_asNumber : Int → zM → Prop} {po_X11_asNumber : Int → zM → Int → zM → Prop} (hS_X11_isFace : zSnd zS 145 0 0 yX11_isFace cX11_isFace 2 (some .boolean) 4 [2, 0] (F_X11_isFace pr_X11_isFace po_X11_isFace)) (hS_X9_areLike : zSnd zS 145 0 0 yX9_areLike cX9_areLike 4 (some .boolean) 3 [2, 0, 0] (F_X9_areLike pr_X9_areLike po_X9_areLike)) (hS_X11_asNumber : zSnd zS 145 0 0 yX11_asNumber cX11_asNumber 1 (some .int) 0 [0] (F_X11_asNumber pr_X11_asNumber po_X11_asNumber)) : zSnd zS 145 0 0 yX11_like cX11_like 3 (some .int) 5 [2, 0, 0] (fun xs P M => ∃ a1 a2 : Int, xs = [0, a1, a2] ∧ vc_X11_like pr_X11_isFace po_X11_isFace pr_X9_areLike po_X9_areLike pr_X11_asNumber po_X11_asNumber a1 a2 P M) := by
  refine zSnd.of rfl (fun ad xs hz => Nat.le_trans (Nat.le_of_eq (zlen ad _ xs hz)) (by decide)) ?_
  intro Γ C _ _ xs M hz hF
  obtain ⟨a1, a2, rfl, h⟩ := hF
  have zz_a1 := zall_h (zall_t hz) (by decide)
  have zz_a2 := zall_h (zall_t (zall_t hz)) (by decide)
  refine zr_rng (fun hR => ?_)
  have C : zC Γ mu_X11_like := C
  change zV Γ mu_X11_like (145, 0, 0) 0 [(0, zRf (zad Γ) 0), (1, zI a1), (2, zI a2)] [] M
  change vc_X11_like pr_X11_isFace po_X11_isFace pr_X9_areLike po_X9_areLike pr_X11_asNumber po_X11_asNumber a1 a2 _ M at h
  unfold vc_X11_like at h
  refine zr_aload_n C 0 rfl (zdec_at dm_X11_like 0 rfl) rfl ?_
  refine zr_iload_n C 1 rfl (zdec_at dm_X11_like 1 rfl) rfl ?_
  obtain ⟨g6, h⟩ := h
  refine zr_callV C [a1] hS_X11_isFace ck_RX11_177 iv_X11_isFace vc_X11 oc_0 rfl rfl (zdec_at dm_X11_like 2 rfl) ⟨rfl, rfl, rfl, rfl⟩ ⟨by decide, by decide⟩ (Nat.le_of_ble_eq_true rfl) (zall_0 zz_a1 zall_n) ?_
  refine ⟨_, rfl, g6, fun r1 M2 p5 z4 hR3 => ?_⟩
  have h := h r1 M2 p5 z4 hR3
  show zV Γ mu_X11_like (145, 0, 0) 5 [(0, zRf (zad Γ) 0), (1, zI a1), (2, zI a2)] [zI r1] M2
  refine zr_if_eq C z4 (zdec_at dm_X11_like 3 rfl) rfl (fun g7 => ?_) (fun g7 => ?_)
  · have h := h.1 g7
    refine zr_iconst C (zdec_at dm_X11_like 8 rfl) ?_
    exact zr_ireturn C rfl (zdec_at dm_X11_like 9 rfl) rfl ⟨(by decide), h⟩
  · have h := h.2 g7
    refine zr_aload_n C 0 rfl (zdec_at dm_X11_like 4 rfl) rfl ?_
    refine zr_iload_n C 2 rfl (zdec_at dm_X11_like 5 rfl) rfl ?_
    obtain ⟨g13, h⟩ := h
    refine zr_callV C [a2] hS_X11_isFace ck_RX11_177 iv_X11_isFace vc_X11 oc_0 rfl rfl (zdec_at dm_X11_like 6 rfl) ⟨rfl, rfl, rfl, rfl⟩ ⟨by decide, by decide⟩ (Nat.le_of_ble_eq_true rfl) (zall_0 zz_a2 zall_n) ?_
    refine ⟨_, rfl, g13, fun r8 M9 p12 z11 hR10 => ?_⟩
    have h := h r8 M9 p12 z11 hR10
    show zV Γ mu_X11_like (145, 0, 0) 13 [(0, zRf (zad Γ) 0), (1, zI a1), (2, zI a2)] [zI r8] M9
    refine zr_if_ne C z11 (zdec_at dm_X11_like 7 rfl) rfl (fun g14 => ?_) (fun g14 => ?_)
    · have h := h.1 g14
      refine zr_aload_n C 0 rfl (zdec_at dm_X11_like 10 rfl) rfl ?_
      refine zr_getr (q := 48) C fk_RX11_49 fi_0_4 (zdec_at dm_X11_like 11 rfl) ?_
      refine zr_iload_n C 1 rfl (zdec_at dm_X11_like 12 rfl) rfl ?_
      refine zr_iload_n C 2 rfl (zdec_at dm_X11_like 13 rfl) rfl ?_
      obtain ⟨g20, h⟩ := h
      refine zr_callV C [a1, a2] hS_X9_areLike ck_RX11_277 iv_X9_areLike vc_X9 oc_48 rfl rfl (zdec_at dm_X11_like 14 rfl) ⟨rfl, rfl, rfl, rfl⟩ ⟨by decide, by decide⟩ (Nat.le_of_ble_eq_true rfl) (zall_0 zz_a1 (zall_0 zz_a2 zall_n)) ?_
      refine ⟨_, _, rfl, g20, fun r15 M16 p19 z18 hR17 => ?_⟩
      have h := h r15 M16 p19 z18 hR17
      show zV Γ mu_X11_like (145, 0, 0) 27 [(0, zRf (zad Γ) 0), (1, zI a1), (2, zI a2)] [zI r15] M16
      obtain ⟨g26, h⟩ := h
      refine zr_callS C [r15] hS_X11_asNumber ck_RX11_190 sv_X11_asNumber rfl rfl (zdec_at dm_X11_like 15 rfl) ⟨rfl, rfl, rfl, rfl⟩ ⟨by decide, by decide⟩ (Nat.le_of_ble_eq_true rfl) (zall_0 z18 zall_n) ?_
      refine ⟨_, rfl, g26, fun r21 M22 p25 z24 hR23 => ?_⟩
      have h := h r21 M22 p25 z24 hR23
      show zV Γ mu_X11_like (145, 0, 0) 30 [(0, zRf (zad Γ) 0), (1, zI a1), (2, zI a2)] [zI r21] M22
      exact zr_ireturn C rfl (zdec_at dm_X11_like 16 rfl) rfl ⟨z24, h⟩
    · have h := h.2 g14
      refine zr_iconst C (zdec_at dm_X11_like 8 rfl) ?_
      exact zr_ireturn C rfl (zdec_at dm_X11_like 9 rfl) rfl ⟨(by decide), h⟩

set_option maxHeartbeats 400000 in
set_option maxRecDepth 100000 in
theorem sn_X11_butFor {pr_X11_isFace : Int → zM → Prop} {po_X11_isFace : Int → zM → Int → zM → Prop} {pr_X9_difference : Int → Int → zM → Prop} {po_X9_difference : Int → Int → zM → Int → zM → Prop} (hS_X11_isFace : zSnd zS 145 0 0 yX11_isFace cX11_isFace 2 (some .boolean) 4 [2, 0] (F_X11_isFace pr_X11_isFace po_X11_isFace)) (hS_X9_difference : zSnd zS 145 0 0 yX9_difference cX9_difference 6 (some .int) 2 [2, 0, 0] (F_X9_difference pr_X9_difference po_X9_difference)) : zSnd zS 145 0 0 yX11_butFor cX11_butFor 3 (some .int) 5 [2, 0, 0] (fun xs P M => ∃ a1 a2 : Int, xs = [0, a1, a2] ∧ vc_X11_butFor pr_X11_isFace po_X11_isFace pr_X9_difference po_X9_difference a1 a2 P M) := by
  refine zSnd.of rfl (fun ad xs hz => Nat.le_trans (Nat.le_of_eq (zlen ad _ xs hz)) (by decide)) ?_
  intro Γ C _ _ xs M hz hF
  obtain ⟨a1, a2, rfl, h⟩ := hF
  have zz_a1 := zall_h (zall_t hz) (by decide)
  have zz_a2 := zall_h (zall_t (zall_t hz)) (by decide)
  refine zr_rng (fun hR => ?_)
  have C : zC Γ mu_X11_butFor := C
  change zV Γ mu_X11_butFor (145, 0, 0) 0 [(0, zRf (zad Γ) 0), (1, zI a1), (2, zI a2)] [] M
  change vc_X11_butFor pr_X11_isFace po_X11_isFace pr_X9_difference po_X9_difference a1 a2 _ M at h
  unfold vc_X11_butFor at h
  refine zr_aload_n C 0 rfl (zdec_at dm_X11_butFor 0 rfl) rfl ?_
  refine zr_iload_n C 1 rfl (zdec_at dm_X11_butFor 1 rfl) rfl ?_
  obtain ⟨g6, h⟩ := h
  refine zr_callV C [a1] hS_X11_isFace ck_RX11_177 iv_X11_isFace vc_X11 oc_0 rfl rfl (zdec_at dm_X11_butFor 2 rfl) ⟨rfl, rfl, rfl, rfl⟩ ⟨by decide, by decide⟩ (Nat.le_of_ble_eq_true rfl) (zall_0 zz_a1 zall_n) ?_
  refine ⟨_, rfl, g6, fun r1 M2 p5 z4 hR3 => ?_⟩
  have h := h r1 M2 p5 z4 hR3
  show zV Γ mu_X11_butFor (145, 0, 0) 5 [(0, zRf (zad Γ) 0), (1, zI a1), (2, zI a2)] [zI r1] M2
  refine zr_if_eq C z4 (zdec_at dm_X11_butFor 3 rfl) rfl (fun g7 => ?_) (fun g7 => ?_)
  · have h := h.1 g7
    refine zr_iconst C (zdec_at dm_X11_butFor 8 rfl) ?_
    exact zr_ireturn C rfl (zdec_at dm_X11_butFor 9 rfl) rfl ⟨(by decide), h⟩
  · have h := h.2 g7
    refine zr_aload_n C 0 rfl (zdec_at dm_X11_butFor 4 rfl) rfl ?_
    refine zr_iload_n C 2 rfl (zdec_at dm_X11_butFor 5 rfl) rfl ?_
    obtain ⟨g13, h⟩ := h
    refine zr_callV C [a2] hS_X11_isFace ck_RX11_177 iv_X11_isFace vc_X11 oc_0 rfl rfl (zdec_at dm_X11_butFor 6 rfl) ⟨rfl, rfl, rfl, rfl⟩ ⟨by decide, by decide⟩ (Nat.le_of_ble_eq_true rfl) (zall_0 zz_a2 zall_n) ?_
    refine ⟨_, rfl, g13, fun r8 M9 p12 z11 hR10 => ?_⟩
    have h := h r8 M9 p12 z11 hR10
    show zV Γ mu_X11_butFor (145, 0, 0) 13 [(0, zRf (zad Γ) 0), (1, zI a1), (2, zI a2)] [zI r8] M9
    refine zr_if_ne C z11 (zdec_at dm_X11_butFor 7 rfl) rfl (fun g14 => ?_) (fun g14 => ?_)
    · have h := h.1 g14
      refine zr_aload_n C 0 rfl (zdec_at dm_X11_butFor 10 rfl) rfl ?_
      refine zr_getr (q := 48) C fk_RX11_49 fi_0_4 (zdec_at dm_X11_butFor 11 rfl) ?_
      refine zr_iload_n C 1 rfl (zdec_at dm_X11_butFor 12 rfl) rfl ?_
      refine zr_iload_n C 2 rfl (zdec_at dm_X11_butFor 13 rfl) rfl ?_
      obtain ⟨g20, h⟩ := h
      refine zr_callV C [a1, a2] hS_X9_difference ck_RX11_280 iv_X9_difference vc_X9 oc_48 rfl rfl (zdec_at dm_X11_butFor 14 rfl) ⟨rfl, rfl, rfl, rfl⟩ ⟨by decide, by decide⟩ (Nat.le_of_ble_eq_true rfl) (zall_0 zz_a1 (zall_0 zz_a2 zall_n)) ?_
      refine ⟨_, _, rfl, g20, fun r15 M16 p19 z18 hR17 => ?_⟩
      have h := h r15 M16 p19 z18 hR17
      show zV Γ mu_X11_butFor (145, 0, 0) 27 [(0, zRf (zad Γ) 0), (1, zI a1), (2, zI a2)] [zI r15] M16
      exact zr_ireturn C rfl (zdec_at dm_X11_butFor 15 rfl) rfl ⟨z18, h⟩
    · have h := h.2 g14
      refine zr_iconst C (zdec_at dm_X11_butFor 8 rfl) ?_
      exact zr_ireturn C rfl (zdec_at dm_X11_butFor 9 rfl) rfl ⟨(by decide), h⟩

set_option maxHeartbeats 400000 in
set_option maxRecDepth 100000 in
theorem sn_X11_leader {pr_X11_isFace : Int → zM → Prop} {po_X11_isFace : Int → zM → Int → zM → Prop} {pr_X9_firstLike : Int → zM → Prop} {po_X9_firstLike : Int → zM → Int → zM → Prop} (hS_X11_isFace : zSnd zS 145 0 0 yX11_isFace cX11_isFace 2 (some .boolean) 4 [2, 0] (F_X11_isFace pr_X11_isFace po_X11_isFace)) (hS_X9_firstLike : zSnd zS 145 0 0 yX9_firstLike cX9_firstLike 3 (some .int) 4 [2, 0] (F_X9_firstLike pr_X9_firstLike po_X9_firstLike)) : zSnd zS 145 0 0 yX11_leader cX11_leader 2 (some .int) 5 [2, 0] (fun xs P M => ∃ a1 : Int, xs = [0, a1] ∧ vc_X11_leader pr_X11_isFace po_X11_isFace pr_X9_firstLike po_X9_firstLike a1 P M) := by
  refine zSnd.of rfl (fun ad xs hz => Nat.le_trans (Nat.le_of_eq (zlen ad _ xs hz)) (by decide)) ?_
  intro Γ C _ _ xs M hz hF
  obtain ⟨a1, rfl, h⟩ := hF
  have zz_a1 := zall_h (zall_t hz) (by decide)
  refine zr_rng (fun hR => ?_)
  have C : zC Γ mu_X11_leader := C
  change zV Γ mu_X11_leader (145, 0, 0) 0 [(0, zRf (zad Γ) 0), (1, zI a1)] [] M
  change vc_X11_leader pr_X11_isFace po_X11_isFace pr_X9_firstLike po_X9_firstLike a1 _ M at h
  unfold vc_X11_leader at h
  refine zr_aload_n C 0 rfl (zdec_at dm_X11_leader 0 rfl) rfl ?_
  refine zr_iload_n C 1 rfl (zdec_at dm_X11_leader 1 rfl) rfl ?_
  obtain ⟨g6, h⟩ := h
  refine zr_callV C [a1] hS_X11_isFace ck_RX11_177 iv_X11_isFace vc_X11 oc_0 rfl rfl (zdec_at dm_X11_leader 2 rfl) ⟨rfl, rfl, rfl, rfl⟩ ⟨by decide, by decide⟩ (Nat.le_of_ble_eq_true rfl) (zall_0 zz_a1 zall_n) ?_
  refine ⟨_, rfl, g6, fun r1 M2 p5 z4 hR3 => ?_⟩
  have h := h r1 M2 p5 z4 hR3
  show zV Γ mu_X11_leader (145, 0, 0) 5 [(0, zRf (zad Γ) 0), (1, zI a1)] [zI r1] M2
  refine zr_if_eq C z4 (zdec_at dm_X11_leader 3 rfl) rfl (fun g7 => ?_) (fun g7 => ?_)
  · have h := h.1 g7
    refine zr_iconst C (zdec_at dm_X11_leader 9 rfl) ?_
    exact zr_ireturn C rfl (zdec_at dm_X11_leader 10 rfl) rfl ⟨(by decide), h⟩
  · have h := h.2 g7
    refine zr_aload_n C 0 rfl (zdec_at dm_X11_leader 4 rfl) rfl ?_
    refine zr_getr (q := 48) C fk_RX11_49 fi_0_4 (zdec_at dm_X11_leader 5 rfl) ?_
    refine zr_iload_n C 1 rfl (zdec_at dm_X11_leader 6 rfl) rfl ?_
    obtain ⟨g13, h⟩ := h
    refine zr_callV C [a1] hS_X9_firstLike ck_RX11_283 iv_X9_firstLike vc_X9 oc_48 rfl rfl (zdec_at dm_X11_leader 7 rfl) ⟨rfl, rfl, rfl, rfl⟩ ⟨by decide, by decide⟩ (Nat.le_of_ble_eq_true rfl) (zall_0 zz_a1 zall_n) ?_
    refine ⟨_, rfl, g13, fun r8 M9 p12 z11 hR10 => ?_⟩
    have h := h r8 M9 p12 z11 hR10
    show zV Γ mu_X11_leader (145, 0, 0) 16 [(0, zRf (zad Γ) 0), (1, zI a1)] [zI r8] M9
    refine zr_goto C (zdec_at dm_X11_leader 8 rfl) rfl ?_
    exact zr_ireturn C rfl (zdec_at dm_X11_leader 10 rfl) rfl ⟨z11, h⟩

set_option maxHeartbeats 400000 in
set_option maxRecDepth 100000 in
theorem sn_X11_few {pr_X4_choose : Int → zM → Prop} {po_X4_choose : Int → zM → Int → zM → Prop} (hS_X4_choose : zSnd zS 145 0 0 yX4_choose cX4_choose 6 (some .boolean) 4 [2, 0] (F_X4_choose pr_X4_choose po_X4_choose)) : zSnd zS 145 0 0 yX11_few cX11_few 3 (some .int) 5 [2, 0, 0] (fun xs P M => ∃ a1 a2 : Int, xs = [0, a1, a2] ∧ vc_X11_few pr_X4_choose po_X4_choose a1 a2 P M) := by
  refine zSnd.of rfl (fun ad xs hz => Nat.le_trans (Nat.le_of_eq (zlen ad _ xs hz)) (by decide)) ?_
  intro Γ C _ _ xs M hz hF
  obtain ⟨a1, a2, rfl, h⟩ := hF
  have zz_a1 := zall_h (zall_t hz) (by decide)
  have zz_a2 := zall_h (zall_t (zall_t hz)) (by decide)
  refine zr_rng (fun hR => ?_)
  have C : zC Γ mu_X11_few := C
  change zV Γ mu_X11_few (145, 0, 0) 0 [(0, zRf (zad Γ) 0), (1, zI a1), (2, zI a2)] [] M
  change vc_X11_few pr_X4_choose po_X4_choose a1 a2 _ M at h
  unfold vc_X11_few at h
  refine zr_iload_n C 1 rfl (zdec_at dm_X11_few 0 rfl) rfl ?_
  refine zr_iconst C (zdec_at dm_X11_few 1 rfl) ?_
  refine zr_icmp_lt C zz_a1 (by decide) (zdec_at dm_X11_few 2 rfl) rfl (fun g1 => ?_) (fun g1 => ?_)
  · have h := h.1 g1
    refine zr_iconst C (zdec_at dm_X11_few 11 rfl) ?_
    exact zr_ireturn C rfl (zdec_at dm_X11_few 12 rfl) rfl ⟨(by decide), h⟩
  · have h := h.2 g1
    refine zr_iload_n C 1 rfl (zdec_at dm_X11_few 3 rfl) rfl ?_
    refine zr_iconst C (zdec_at dm_X11_few 4 rfl) ?_
    refine zr_icmp_gt C zz_a1 (by decide) (zdec_at dm_X11_few 5 rfl) rfl (fun g2 => ?_) (fun g2 => ?_)
    · have h := h.1 g2
      refine zr_iconst C (zdec_at dm_X11_few 11 rfl) ?_
      exact zr_ireturn C rfl (zdec_at dm_X11_few 12 rfl) rfl ⟨(by decide), h⟩
    · have h := h.2 g2
      refine zr_iload_n C 2 rfl (zdec_at dm_X11_few 6 rfl) rfl ?_
      refine zr_if_lt C zz_a2 (zdec_at dm_X11_few 7 rfl) rfl (fun g3 => ?_) (fun g3 => ?_)
      · have h := h.1 g3
        refine zr_iconst C (zdec_at dm_X11_few 11 rfl) ?_
        exact zr_ireturn C rfl (zdec_at dm_X11_few 12 rfl) rfl ⟨(by decide), h⟩
      · have h := h.2 g3
        refine zr_iload_n C 2 rfl (zdec_at dm_X11_few 8 rfl) rfl ?_
        refine zr_iconst C (zdec_at dm_X11_few 9 rfl) ?_
        refine zr_icmp_le C zz_a2 (by decide) (zdec_at dm_X11_few 10 rfl) rfl (fun g4 => ?_) (fun g4 => ?_)
        · have h := h.1 g4
          refine zr_aload_n C 0 rfl (zdec_at dm_X11_few 13 rfl) rfl ?_
          refine zr_getr (q := 50) C fk_RX11_56 fi_0_5 (zdec_at dm_X11_few 14 rfl) ?_
          refine zr_iload_n C 1 rfl (zdec_at dm_X11_few 15 rfl) rfl ?_
          obtain ⟨g10, h⟩ := h
          refine zr_callV C [a1] hS_X4_choose ck_RX11_286 iv_X4_choose vc_X4 oc_50 rfl rfl (zdec_at dm_X11_few 16 rfl) ⟨rfl, rfl, rfl, rfl⟩ ⟨by decide, by decide⟩ (Nat.le_of_ble_eq_true rfl) (zall_0 zz_a1 zall_n) ?_
          refine ⟨_, rfl, g10, fun r5 M6 p9 z8 hR7 => ?_⟩
          have h := h r5 M6 p9 z8 hR7
          show zV Γ mu_X11_few (145, 0, 0) 29 [(0, zRf (zad Γ) 0), (1, zI a1), (2, zI a2)] [zI r5] M6
          refine zr_if_ne C z8 (zdec_at dm_X11_few 17 rfl) rfl (fun g11 => ?_) (fun g11 => ?_)
          · have h := h.1 g11
            refine zr_iload_n C 2 rfl (zdec_at dm_X11_few 20 rfl) rfl ?_
            refine zr_if_ne C zz_a2 (zdec_at dm_X11_few 21 rfl) rfl (fun g12 => ?_) (fun g12 => ?_)
            · have h := h.1 g12
              refine zr_aload_n C 0 rfl (zdec_at dm_X11_few 26 rfl) rfl ?_
              refine zr_getr (q := 50) C fk_RX11_56 fi_0_5 (zdec_at dm_X11_few 27 rfl) ?_
              refine zr_geti C fk_RX11_292 fi_50_2 (zdec_at dm_X11_few 28 rfl) ?_
              exact zr_ireturn C rfl (zdec_at dm_X11_few 29 rfl) rfl ⟨(hR7 _ _), h⟩
            · have h := h.2 g12
              refine zr_aload_n C 0 rfl (zdec_at dm_X11_few 22 rfl) rfl ?_
              refine zr_getr (q := 50) C fk_RX11_56 fi_0_5 (zdec_at dm_X11_few 23 rfl) ?_
              refine zr_geti C fk_RX11_289 fi_50_1 (zdec_at dm_X11_few 24 rfl) ?_
              refine zr_goto C (zdec_at dm_X11_few 25 rfl) rfl ?_
              exact zr_ireturn C rfl (zdec_at dm_X11_few 29 rfl) rfl ⟨(hR7 _ _), h⟩
          · have h := h.2 g11
            refine zr_bipush C (zdec_at dm_X11_few 18 rfl) (by decide) ?_
            exact zr_ireturn C rfl (zdec_at dm_X11_few 19 rfl) rfl ⟨(by decide), h⟩
        · have h := h.2 g4
          refine zr_iconst C (zdec_at dm_X11_few 11 rfl) ?_
          exact zr_ireturn C rfl (zdec_at dm_X11_few 12 rfl) rfl ⟨(by decide), h⟩

set_option maxHeartbeats 400000 in
set_option maxRecDepth 100000 in
theorem sn_X11_makeFew {pr_X4_choose : Int → zM → Prop} {po_X4_choose : Int → zM → Int → zM → Prop} {pr_X0_startDraft : zM → Prop} {po_X0_startDraft : zM → zM → Prop} {pr_X4_paintDraft : zM → Prop} {po_X4_paintDraft : zM → zM → Prop} {pr_X11_changeToDraft : zM → Prop} {po_X11_changeToDraft : zM → Int → zM → Prop} (hS_X4_choose : zSnd zS 145 0 0 yX4_choose cX4_choose 6 (some .boolean) 4 [2, 0] (F_X4_choose pr_X4_choose po_X4_choose)) (hS_X0_startDraft : zSnd zS 145 0 0 yX0_startDraft cX0_startDraft 1 none 1 [2] (F_X0_startDraft pr_X0_startDraft po_X0_startDraft)) (hS_X4_paintDraft : zSnd zS 145 0 0 yX4_paintDraft cX4_paintDraft 2 none 3 [2] (F_X4_paintDraft pr_X4_paintDraft po_X4_paintDraft)) (hS_X11_changeToDraft : zSnd zS 145 0 0 yX11_changeToDraft cX11_changeToDraft 2 (some .int) 2 [2] (F_X11_changeToDraft pr_X11_changeToDraft po_X11_changeToDraft)) : zSnd zS 145 0 0 yX11_makeFew cX11_makeFew 2 (some .int) 5 [2, 0] (fun xs P M => ∃ a1 : Int, xs = [0, a1] ∧ vc_X11_makeFew pr_X4_choose po_X4_choose pr_X0_startDraft po_X0_startDraft pr_X4_paintDraft po_X4_paintDraft pr_X11_changeToDraft po_X11_changeToDraft a1 P M) := by
  refine zSnd.of rfl (fun ad xs hz => Nat.le_trans (Nat.le_of_eq (zlen ad _ xs hz)) (by decide)) ?_
  intro Γ C _ _ xs M hz hF
  obtain ⟨a1, rfl, h⟩ := hF
  have zz_a1 := zall_h (zall_t hz) (by decide)
  refine zr_rng (fun hR => ?_)
  have C : zC Γ mu_X11_makeFew := C
  change zV Γ mu_X11_makeFew (145, 0, 0) 0 [(0, zRf (zad Γ) 0), (1, zI a1)] [] M
  change vc_X11_makeFew pr_X4_choose po_X4_choose pr_X0_startDraft po_X0_startDraft pr_X4_paintDraft po_X4_paintDraft pr_X11_changeToDraft po_X11_changeToDraft a1 _ M at h
  unfold vc_X11_makeFew at h
  refine zr_iload_n C 1 rfl (zdec_at dm_X11_makeFew 0 rfl) rfl ?_
  refine zr_iconst C (zdec_at dm_X11_makeFew 1 rfl) ?_
  refine zr_icmp_lt C zz_a1 (by decide) (zdec_at dm_X11_makeFew 2 rfl) rfl (fun g1 => ?_) (fun g1 => ?_)
  · have h := h.1 g1
    refine zr_iconst C (zdec_at dm_X11_makeFew 6 rfl) ?_
    exact zr_ireturn C rfl (zdec_at dm_X11_makeFew 7 rfl) rfl ⟨(by decide), h⟩
  · have h := h.2 g1
    refine zr_iload_n C 1 rfl (zdec_at dm_X11_makeFew 3 rfl) rfl ?_
    refine zr_iconst C (zdec_at dm_X11_makeFew 4 rfl) ?_
    refine zr_icmp_le C zz_a1 (by decide) (zdec_at dm_X11_makeFew 5 rfl) rfl (fun g2 => ?_) (fun g2 => ?_)
    · have h := h.1 g2
      refine zr_aload_n C 0 rfl (zdec_at dm_X11_makeFew 8 rfl) rfl ?_
      refine zr_getr (q := 50) C fk_RX11_56 fi_0_5 (zdec_at dm_X11_makeFew 9 rfl) ?_
      refine zr_iload_n C 1 rfl (zdec_at dm_X11_makeFew 10 rfl) rfl ?_
      obtain ⟨g8, h⟩ := h
      refine zr_callV C [a1] hS_X4_choose ck_RX11_286 iv_X4_choose vc_X4 oc_50 rfl rfl (zdec_at dm_X11_makeFew 11 rfl) ⟨rfl, rfl, rfl, rfl⟩ ⟨by decide, by decide⟩ (Nat.le_of_ble_eq_true rfl) (zall_0 zz_a1 zall_n) ?_
      refine ⟨_, rfl, g8, fun r3 M4 p7 z6 hR5 => ?_⟩
      have h := h r3 M4 p7 z6 hR5
      show zV Γ mu_X11_makeFew (145, 0, 0) 20 [(0, zRf (zad Γ) 0), (1, zI a1)] [zI r3] M4
      refine zr_if_ne C z6 (zdec_at dm_X11_makeFew 12 rfl) rfl (fun g9 => ?_) (fun g9 => ?_)
      · have h := h.1 g9
        refine zr_aload_n C 0 rfl (zdec_at dm_X11_makeFew 15 rfl) rfl ?_
        refine zr_getr (q := 1) C fk_RX11_25 fi_0_0 (zdec_at dm_X11_makeFew 16 rfl) ?_
        obtain ⟨g14, h⟩ := h
        refine zr_callV C [] hS_X0_startDraft ck_RX11_140 iv_X0_startDraft vc_X0 oc_1 rfl rfl (zdec_at dm_X11_makeFew 17 rfl) ⟨rfl, rfl, rfl, rfl⟩ ⟨by decide, by decide⟩ (Nat.le_of_ble_eq_true rfl) zall_n ?_
        refine ⟨rfl, g14, fun M10 p13 _ hR11 => ?_⟩
        have h := h M10 p13 hR11
        show zV Γ mu_X11_makeFew (145, 0, 0) 33 [(0, zRf (zad Γ) 0), (1, zI a1)] [] M10
        refine zr_aload_n C 0 rfl (zdec_at dm_X11_makeFew 18 rfl) rfl ?_
        refine zr_getr (q := 50) C fk_RX11_56 fi_0_5 (zdec_at dm_X11_makeFew 19 rfl) ?_
        obtain ⟨g19, h⟩ := h
        refine zr_callV C [] hS_X4_paintDraft ck_RX11_295 iv_X4_paintDraft vc_X4 oc_50 rfl rfl (zdec_at dm_X11_makeFew 20 rfl) ⟨rfl, rfl, rfl, rfl⟩ ⟨by decide, by decide⟩ (Nat.le_of_ble_eq_true rfl) zall_n ?_
        refine ⟨rfl, g19, fun M15 p18 _ hR16 => ?_⟩
        have h := h M15 p18 hR16
        show zV Γ mu_X11_makeFew (145, 0, 0) 40 [(0, zRf (zad Γ) 0), (1, zI a1)] [] M15
        refine zr_aload_n C 0 rfl (zdec_at dm_X11_makeFew 21 rfl) rfl ?_
        obtain ⟨g25, h⟩ := h
        refine zr_callV C [] hS_X11_changeToDraft ck_RX11_146 iv_X11_changeToDraft vc_X11 oc_0 rfl rfl (zdec_at dm_X11_makeFew 22 rfl) ⟨rfl, rfl, rfl, rfl⟩ ⟨by decide, by decide⟩ (Nat.le_of_ble_eq_true rfl) zall_n ?_
        refine ⟨rfl, g25, fun r20 M21 p24 z23 hR22 => ?_⟩
        have h := h r20 M21 p24 z23 hR22
        show zV Γ mu_X11_makeFew (145, 0, 0) 44 [(0, zRf (zad Γ) 0), (1, zI a1)] [zI r20] M21
        exact zr_ireturn C rfl (zdec_at dm_X11_makeFew 23 rfl) rfl ⟨z23, h⟩
      · have h := h.2 g9
        refine zr_bipush C (zdec_at dm_X11_makeFew 13 rfl) (by decide) ?_
        exact zr_ireturn C rfl (zdec_at dm_X11_makeFew 14 rfl) rfl ⟨(by decide), h⟩
    · have h := h.2 g2
      refine zr_iconst C (zdec_at dm_X11_makeFew 6 rfl) ?_
      exact zr_ireturn C rfl (zdec_at dm_X11_makeFew 7 rfl) rfl ⟨(by decide), h⟩

set_option maxHeartbeats 400000 in
set_option maxRecDepth 100000 in
theorem sn_X11_pen {pr_X11_isColour : Int → zM → Prop} {po_X11_isColour : Int → zM → Int → zM → Prop} {pr_X2_refresh : zM → Prop} {po_X2_refresh : zM → zM → Prop} {pr_X5_collect : Int → zM → Prop} {po_X5_collect : Int → zM → Int → zM → Prop} {pr_X5_plan : zM → Prop} {po_X5_plan : zM → zM → Prop} (hS_X11_isColour : zSnd zS 145 0 0 yX11_isColour cX11_isColour 1 (some .boolean) 0 [0] (F_X11_isColour pr_X11_isColour po_X11_isColour)) (hS_X2_refresh : zSnd zS 145 0 0 yX2_refresh cX2_refresh 3 none 3 [2] (F_X2_refresh pr_X2_refresh po_X2_refresh)) (hS_X5_collect : zSnd zS 145 0 0 yX5_collect cX5_collect 3 (some .boolean) 2 [2, 0] (F_X5_collect pr_X5_collect po_X5_collect)) (hS_X5_plan : zSnd zS 145 0 0 yX5_plan cX5_plan 5 none 5 [2] (F_X5_plan pr_X5_plan po_X5_plan)) : zSnd zS 145 0 0 yX11_pen cX11_pen 3 (some .int) 6 [2, 0, 0] (fun xs P M => ∃ a1 a2 : Int, xs = [0, a1, a2] ∧ vc_X11_pen pr_X11_isColour po_X11_isColour pr_X2_refresh po_X2_refresh pr_X5_collect po_X5_collect pr_X5_plan po_X5_plan a1 a2 P M) := by
  refine zSnd.of rfl (fun ad xs hz => Nat.le_trans (Nat.le_of_eq (zlen ad _ xs hz)) (by decide)) ?_
  intro Γ C _ _ xs M hz hF
  obtain ⟨a1, a2, rfl, h⟩ := hF
  have zz_a1 := zall_h (zall_t hz) (by decide)
  have zz_a2 := zall_h (zall_t (zall_t hz)) (by decide)
  refine zr_rng (fun hR => ?_)
  have C : zC Γ mu_X11_pen := C
  change zV Γ mu_X11_pen (145, 0, 0) 0 [(0, zRf (zad Γ) 0), (1, zI a1), (2, zI a2)] [] M
  change vc_X11_pen pr_X11_isColour po_X11_isColour pr_X2_refresh po_X2_refresh pr_X5_collect po_X5_collect pr_X5_plan po_X5_plan a1 a2 _ M at h
  unfold vc_X11_pen at h
  refine zr_iload_n C 1 rfl (zdec_at dm_X11_pen 0 rfl) rfl ?_
  obtain ⟨g6, h⟩ := h
  refine zr_callS C [a1] hS_X11_isColour ck_RX11_137 sv_X11_isColour rfl rfl (zdec_at dm_X11_pen 1 rfl) ⟨rfl, rfl, rfl, rfl⟩ ⟨by decide, by decide⟩ (Nat.le_of_ble_eq_true rfl) (zall_0 zz_a1 zall_n) ?_
  refine ⟨_, rfl, g6, fun r1 M2 p5 z4 hR3 => ?_⟩
  have h := h r1 M2 p5 z4 hR3
  show zV Γ mu_X11_pen (145, 0, 0) 4 [(0, zRf (zad Γ) 0), (1, zI a1), (2, zI a2)] [zI r1] M2
  refine zr_if_eq C z4 (zdec_at dm_X11_pen 2 rfl) rfl (fun g7 => ?_) (fun g7 => ?_)
  · have h := h.1 g7
    refine zr_iconst C (zdec_at dm_X11_pen 9 rfl) ?_
    exact zr_ireturn C rfl (zdec_at dm_X11_pen 10 rfl) rfl ⟨(by decide), h⟩
  · have h := h.2 g7
    refine zr_iload_n C 2 rfl (zdec_at dm_X11_pen 3 rfl) rfl ?_
    refine zr_iconst C (zdec_at dm_X11_pen 4 rfl) ?_
    refine zr_icmp_lt C zz_a2 (by decide) (zdec_at dm_X11_pen 5 rfl) rfl (fun g8 => ?_) (fun g8 => ?_)
    · have h := h.1 g8
      refine zr_iconst C (zdec_at dm_X11_pen 9 rfl) ?_
      exact zr_ireturn C rfl (zdec_at dm_X11_pen 10 rfl) rfl ⟨(by decide), h⟩
    · have h := h.2 g8
      refine zr_iload_n C 2 rfl (zdec_at dm_X11_pen 6 rfl) rfl ?_
      refine zr_bipush C (zdec_at dm_X11_pen 7 rfl) (by decide) ?_
      refine zr_icmp_lt C zz_a2 (by decide) (zdec_at dm_X11_pen 8 rfl) rfl (fun g9 => ?_) (fun g9 => ?_)
      · have h := h.1 g9
        refine zr_aload_n C 0 rfl (zdec_at dm_X11_pen 11 rfl) rfl ?_
        refine zr_getr (q := 5) C fk_RX11_29 fi_0_1 (zdec_at dm_X11_pen 12 rfl) ?_
        obtain ⟨g14, h⟩ := h
        refine zr_callV C [] hS_X2_refresh ck_RX11_158 iv_X2_refresh vc_X2 oc_5 rfl rfl (zdec_at dm_X11_pen 13 rfl) ⟨rfl, rfl, rfl, rfl⟩ ⟨by decide, by decide⟩ (Nat.le_of_ble_eq_true rfl) zall_n ?_
        refine ⟨rfl, g14, fun M10 p13 _ hR11 => ?_⟩
        have h := h M10 p13 hR11
        show zV Γ mu_X11_pen (145, 0, 0) 27 [(0, zRf (zad Γ) 0), (1, zI a1), (2, zI a2)] [] M10
        refine zr_aload_n C 0 rfl (zdec_at dm_X11_pen 14 rfl) rfl ?_
        refine zr_getr (q := 53) C fk_RX11_63 fi_0_6 (zdec_at dm_X11_pen 15 rfl) ?_
        refine zr_iload_n C 1 rfl (zdec_at dm_X11_pen 16 rfl) rfl ?_
        obtain ⟨g20, h⟩ := h
        refine zr_callV C [a1] hS_X5_collect ck_RX11_297 iv_X5_collect vc_X5 oc_53 rfl rfl (zdec_at dm_X11_pen 17 rfl) ⟨rfl, rfl, rfl, rfl⟩ ⟨by decide, by decide⟩ (Nat.le_of_ble_eq_true rfl) (zall_0 zz_a1 zall_n) ?_
        refine ⟨_, rfl, g20, fun r15 M16 p19 z18 hR17 => ?_⟩
        have h := h r15 M16 p19 z18 hR17
        show zV Γ mu_X11_pen (145, 0, 0) 35 [(0, zRf (zad Γ) 0), (1, zI a1), (2, zI a2)] [zI r15] M16
        refine zr_if_ne C z18 (zdec_at dm_X11_pen 18 rfl) rfl (fun g21 => ?_) (fun g21 => ?_)
        · have h := h.1 g21
          refine zr_iload_n C 2 rfl (zdec_at dm_X11_pen 21 rfl) rfl ?_
          refine zr_aload_n C 0 rfl (zdec_at dm_X11_pen 22 rfl) rfl ?_
          refine zr_getr (q := 53) C fk_RX11_63 fi_0_6 (zdec_at dm_X11_pen 23 rfl) ?_
          refine zr_geti C fk_RX11_300 fi_53_1 (zdec_at dm_X11_pen 24 rfl) ?_
          refine zr_icmp_ge C zz_a2 (hR17 _ _) (zdec_at dm_X11_pen 25 rfl) rfl (fun g22 => ?_) (fun g22 => ?_)
          · have h := h.1 g22
            refine zr_bipush C (zdec_at dm_X11_pen 30 rfl) (by decide) ?_
            exact zr_ireturn C rfl (zdec_at dm_X11_pen 31 rfl) rfl ⟨(by decide), h⟩
          · have h := h.2 g22
            refine zr_aload_n C 0 rfl (zdec_at dm_X11_pen 26 rfl) rfl ?_
            refine zr_getr (q := 53) C fk_RX11_63 fi_0_6 (zdec_at dm_X11_pen 27 rfl) ?_
            refine zr_geti C fk_RX11_300 fi_53_1 (zdec_at dm_X11_pen 28 rfl) ?_
            refine zr_if_ne C (hR17 _ _) (zdec_at dm_X11_pen 29 rfl) rfl (fun g23 => ?_) (fun g23 => ?_)
            · have h := h.1 g23
              refine zr_aload_n C 0 rfl (zdec_at dm_X11_pen 32 rfl) rfl ?_
              refine zr_getr (q := 53) C fk_RX11_63 fi_0_6 (zdec_at dm_X11_pen 33 rfl) ?_
              obtain ⟨g28, h⟩ := h
              refine zr_callV C [] hS_X5_plan ck_RX11_303 iv_X5_plan vc_X5 oc_53 rfl rfl (zdec_at dm_X11_pen 34 rfl) ⟨rfl, rfl, rfl, rfl⟩ ⟨by decide, by decide⟩ (Nat.le_of_ble_eq_true rfl) zall_n ?_
              refine ⟨rfl, g28, fun M24 p27 _ hR25 => ?_⟩
              have h := h M24 p27 hR25
              show zV Γ mu_X11_pen (145, 0, 0) 72 [(0, zRf (zad Γ) 0), (1, zI a1), (2, zI a2)] [] M24
              refine zr_iload_n C 2 rfl (zdec_at dm_X11_pen 35 rfl) rfl ?_
              refine zr_if_ge C zz_a2 (zdec_at dm_X11_pen 36 rfl) rfl (fun g29 => ?_) (fun g29 => ?_)
              · have h := h.1 g29
                refine zr_aload_n C 0 rfl (zdec_at dm_X11_pen 41 rfl) rfl ?_
                refine zr_getr (q := 53) C fk_RX11_63 fi_0_6 (zdec_at dm_X11_pen 42 rfl) ?_
                refine zr_getr (q := 54) C fk_RX11_307 fi_53_3 (zdec_at dm_X11_pen 43 rfl) ?_
                refine zr_iload_n C 2 rfl (zdec_at dm_X11_pen 44 rfl) rfl ?_
                obtain ⟨o30, h⟩ := h
                refine zr_iald C ai_54 o30 (zdec_at dm_X11_pen 45 rfl) ?_
                exact zr_ireturn C rfl (zdec_at dm_X11_pen 46 rfl) rfl ⟨(hR25 _ _), h⟩
              · have h := h.2 g29
                refine zr_aload_n C 0 rfl (zdec_at dm_X11_pen 37 rfl) rfl ?_
                refine zr_getr (q := 53) C fk_RX11_63 fi_0_6 (zdec_at dm_X11_pen 38 rfl) ?_
                refine zr_geti C fk_RX11_306 fi_53_2 (zdec_at dm_X11_pen 39 rfl) ?_
                refine zr_goto C (zdec_at dm_X11_pen 40 rfl) rfl ?_
                exact zr_ireturn C rfl (zdec_at dm_X11_pen 46 rfl) rfl ⟨(hR25 _ _), h⟩
            · have h := h.2 g23
              refine zr_bipush C (zdec_at dm_X11_pen 30 rfl) (by decide) ?_
              exact zr_ireturn C rfl (zdec_at dm_X11_pen 31 rfl) rfl ⟨(by decide), h⟩
        · have h := h.2 g21
          refine zr_bipush C (zdec_at dm_X11_pen 19 rfl) (by decide) ?_
          exact zr_ireturn C rfl (zdec_at dm_X11_pen 20 rfl) rfl ⟨(by decide), h⟩
      · have h := h.2 g9
        refine zr_iconst C (zdec_at dm_X11_pen 9 rfl) ?_
        exact zr_ireturn C rfl (zdec_at dm_X11_pen 10 rfl) rfl ⟨(by decide), h⟩

set_option maxHeartbeats 400000 in
set_option maxRecDepth 100000 in
theorem sn_X11_ruleFault {pr_X11_refusalOfText : Int → zM → Prop} {po_X11_refusalOfText : Int → zM → Int → zM → Prop} {pr_X11_shelfAt : Int → zM → Prop} {po_X11_shelfAt : Int → zM → Int → zM → Prop} {pr_X7_read : Int → Int → zM → Prop} {po_X7_read : Int → Int → zM → Int → zM → Prop} (hS_X11_refusalOfText : zSnd zS 145 0 0 yX11_refusalOfText cX11_refusalOfText 3 (some .int) 1 [2, 0] (F_X11_refusalOfText pr_X11_refusalOfText po_X11_refusalOfText)) (hS_X11_shelfAt : zSnd zS 145 0 0 yX11_shelfAt cX11_shelfAt 2 (some (.object "DotLines$Shelf")) 0 [2, 0] (F_X11_shelfAt pr_X11_shelfAt po_X11_shelfAt)) (hS_X7_read : zSnd zS 145 0 0 yX7_read cX7_read 4 (some .boolean) 8 [2, 2, 0] (F_X7_read pr_X7_read po_X7_read)) : zSnd zS 145 0 0 yX11_ruleFault cX11_ruleFault 4 (some .int) 9 [2, 0] (fun xs P M => ∃ a1 : Int, xs = [0, a1] ∧ vc_X11_ruleFault pr_X11_refusalOfText po_X11_refusalOfText pr_X11_shelfAt po_X11_shelfAt pr_X7_read po_X7_read a1 P M) := by
  refine zSnd.of rfl (fun ad xs hz => Nat.le_trans (Nat.le_of_eq (zlen ad _ xs hz)) (by decide)) ?_
  intro Γ C _ _ xs M hz hF
  obtain ⟨a1, rfl, h⟩ := hF
  have zz_a1 := zall_h (zall_t hz) (by decide)
  refine zr_rng (fun hR => ?_)
  have C : zC Γ mu_X11_ruleFault := C
  change zV Γ mu_X11_ruleFault (145, 0, 0) 0 [(0, zRf (zad Γ) 0), (1, zI a1)] [] M
  change vc_X11_ruleFault pr_X11_refusalOfText po_X11_refusalOfText pr_X11_shelfAt po_X11_shelfAt pr_X7_read po_X7_read a1 _ M at h
  unfold vc_X11_ruleFault at h
  refine zr_aload_n C 0 rfl (zdec_at dm_X11_ruleFault 0 rfl) rfl ?_
  refine zr_iload_n C 1 rfl (zdec_at dm_X11_ruleFault 1 rfl) rfl ?_
  obtain ⟨g6, h⟩ := h
  refine zr_callV C [a1] hS_X11_refusalOfText ck_RX11_99 iv_X11_refusalOfText vc_X11 oc_0 rfl rfl (zdec_at dm_X11_ruleFault 2 rfl) ⟨rfl, rfl, rfl, rfl⟩ ⟨by decide, by decide⟩ (Nat.le_of_ble_eq_true rfl) (zall_0 zz_a1 zall_n) ?_
  refine ⟨_, rfl, g6, fun r1 M2 p5 z4 hR3 => ?_⟩
  have h := h r1 M2 p5 z4 hR3
  show zV Γ mu_X11_ruleFault (145, 0, 0) 5 [(0, zRf (zad Γ) 0), (1, zI a1)] [zI r1] M2
  refine zr_istore_n (L1 := [(2, zI r1), (0, zRf (zad Γ) 0), (1, zI a1)]) C (zdec_at dm_X11_ruleFault 3 rfl) rfl (Nat.le_of_ble_eq_true rfl) rfl ?_
  refine zr_aload_n C 1 rfl (zdec_at dm_X11_ruleFault 4 rfl) rfl ?_
  refine zr_iload_n C 2 rfl (zdec_at dm_X11_ruleFault 5 rfl) rfl ?_
  obtain ⟨g12, h⟩ := h
  refine zr_callV C [a1] hS_X11_shelfAt ck_RX11_103 iv_X11_shelfAt vc_X11 oc_0 rfl rfl (zdec_at dm_X11_ruleFault 6 rfl) ⟨rfl, rfl, rfl, rfl⟩ ⟨by decide, by decide⟩ (Nat.le_of_ble_eq_true rfl) (zall_0 zz_a1 zall_n) ?_
  refine ⟨_, rfl, g12, fun r7 M8 p11 z10 hR9 => ?_⟩
  have h := h r7 M8 p11 z10 hR9
  show zV Γ mu_X11_ruleFault (145, 0, 0) 11 [(2, zI r1), (0, zRf (zad Γ) 0), (1, zI a1)] [zA (zad Γ) r7] M8
  refine zr_astoreA_n (L1 := [(3, zA (zad Γ) r7), (2, zI r1), (0, zRf (zad Γ) 0), (1, zI a1)]) C (zdec_at dm_X11_ruleFault 7 rfl) rfl (Nat.le_of_ble_eq_true rfl) rfl ?_
  refine zr_iload_n C 1 rfl (zdec_at dm_X11_ruleFault 8 rfl) rfl ?_
  refine zr_if_lt C z4 (zdec_at dm_X11_ruleFault 9 rfl) rfl (fun g13 => ?_) (fun g13 => ?_)
  · have h := h.1 g13
    refine zr_iload_n C 1 rfl (zdec_at dm_X11_ruleFault 12 rfl) rfl ?_
    exact zr_ireturn C rfl (zdec_at dm_X11_ruleFault 13 rfl) rfl ⟨z4, h⟩
  · have h := h.2 g13
    refine zr_aloadA_n C 0 rfl (zdec_at dm_X11_ruleFault 10 rfl) rfl ?_
    refine zr_ifnonnull C (zdec_at dm_X11_ruleFault 11 rfl) rfl (fun g14 => ?_) (fun g14 => ?_)
    · have h := h.1 g14
      rw [zA_pos g14]
      refine zr_aload_n C 2 rfl (zdec_at dm_X11_ruleFault 14 rfl) rfl ?_
      refine zr_getr (q := 74) C fk_RX11_77 fi_0_8 (zdec_at dm_X11_ruleFault 15 rfl) ?_
      refine zr_aload_n C 0 rfl (zdec_at dm_X11_ruleFault 16 rfl) rfl ?_
      obtain ⟨o15, h⟩ := h
      refine zr_getr (q := (r7 + 1)) C fk_RX11_107 (zsh_v o15) (zdec_at dm_X11_ruleFault 17 rfl) ?_
      refine zr_aload_n C 0 rfl (zdec_at dm_X11_ruleFault 18 rfl) rfl ?_
      refine zr_geti C fk_RX11_111 (zsh_f o15 2 (by decide)) (zdec_at dm_X11_ruleFault 19 rfl) ?_
      obtain ⟨g21, h⟩ := h
      refine zr_callV C [(r7 + 1), (M8 r7 2)] hS_X7_read ck_RX11_310 iv_X7_read vc_X7 oc_74 rfl rfl (zdec_at dm_X11_ruleFault 20 rfl) ⟨rfl, rfl, rfl, rfl⟩ ⟨by decide, by decide⟩ (Nat.le_of_ble_eq_true rfl) (zall_2 (zall_0 (hR9 _ _) zall_n)) ?_
      refine ⟨_, _, rfl, g21, fun r16 M17 p20 z19 hR18 => ?_⟩
      have h := h r16 M17 p20 z19 hR18
      show zV Γ mu_X11_ruleFault (145, 0, 0) 37 [(3, zRf (zad Γ) r7), (2, zI r1), (0, zRf (zad Γ) 0), (1, zI a1)] [zI r16] M17
      refine zr_pop C rfl (zdec_at dm_X11_ruleFault 21 rfl) ?_
      refine zr_aload_n C 2 rfl (zdec_at dm_X11_ruleFault 22 rfl) rfl ?_
      refine zr_getr (q := 74) C fk_RX11_77 fi_0_8 (zdec_at dm_X11_ruleFault 23 rfl) ?_
      refine zr_geti C fk_RX11_314 fi_74_1 (zdec_at dm_X11_ruleFault 24 rfl) ?_
      exact zr_ireturn C rfl (zdec_at dm_X11_ruleFault 25 rfl) rfl ⟨(hR18 _ _), h⟩
    · have h := h.2 g14
      refine zr_iload_n C 1 rfl (zdec_at dm_X11_ruleFault 12 rfl) rfl ?_
      exact zr_ireturn C rfl (zdec_at dm_X11_ruleFault 13 rfl) rfl ⟨z4, h⟩

set_option maxHeartbeats 400000 in
set_option maxRecDepth 100000 in
theorem sn_X11_rule {pr_X11_shelfAt : Int → zM → Prop} {po_X11_shelfAt : Int → zM → Int → zM → Prop} {pr_X11_refusalOfText : Int → zM → Prop} {po_X11_refusalOfText : Int → zM → Int → zM → Prop} {pr_X7_read : Int → Int → zM → Prop} {po_X7_read : Int → Int → zM → Int → zM → Prop} {pr_X8_add : Int → Int → zM → Prop} {po_X8_add : Int → Int → zM → Int → zM → Prop} (hS_X11_shelfAt : zSnd zS 145 0 0 yX11_shelfAt cX11_shelfAt 2 (some (.object "DotLines$Shelf")) 0 [2, 0] (F_X11_shelfAt pr_X11_shelfAt po_X11_shelfAt)) (hS_X11_refusalOfText : zSnd zS 145 0 0 yX11_refusalOfText cX11_refusalOfText 3 (some .int) 1 [2, 0] (F_X11_refusalOfText pr_X11_refusalOfText po_X11_refusalOfText)) (hS_X7_read : zSnd zS 145 0 0 yX7_read cX7_read 4 (some .boolean) 8 [2, 2, 0] (F_X7_read pr_X7_read po_X7_read)) (hS_X8_add : zSnd zS 145 0 0 yX8_add cX8_add 3 (some .int) 1 [2, 2, 0] (F_X8_add pr_X8_add po_X8_add)) : zSnd zS 145 0 0 yX11_rule cX11_rule 4 (some .int) 9 [2, 0] (fun xs P M => ∃ a1 : Int, xs = [0, a1] ∧ vc_X11_rule pr_X11_shelfAt po_X11_shelfAt pr_X11_refusalOfText po_X11_refusalOfText pr_X7_read po_X7_read pr_X8_add po_X8_add a1 P M) := by
  refine zSnd.of rfl (fun ad xs hz => Nat.le_trans (Nat.le_of_eq (zlen ad _ xs hz)) (by decide)) ?_
  intro Γ C _ _ xs M hz hF
  obtain ⟨a1, rfl, h⟩ := hF
  have zz_a1 := zall_h (zall_t hz) (by decide)
  refine zr_rng (fun hR => ?_)
  have C : zC Γ mu_X11_rule := C
  change zV Γ mu_X11_rule (145, 0, 0) 0 [(0, zRf (zad Γ) 0), (1, zI a1)] [] M
  change vc_X11_rule pr_X11_shelfAt po_X11_shelfAt pr_X11_refusalOfText po_X11_refusalOfText pr_X7_read po_X7_read pr_X8_add po_X8_add a1 _ M at h
  unfold vc_X11_rule at h
  refine zr_aload_n C 0 rfl (zdec_at dm_X11_rule 0 rfl) rfl ?_
  refine zr_iload_n C 1 rfl (zdec_at dm_X11_rule 1 rfl) rfl ?_
  obtain ⟨g6, h⟩ := h
  refine zr_callV C [a1] hS_X11_shelfAt ck_RX11_103 iv_X11_shelfAt vc_X11 oc_0 rfl rfl (zdec_at dm_X11_rule 2 rfl) ⟨rfl, rfl, rfl, rfl⟩ ⟨by decide, by decide⟩ (Nat.le_of_ble_eq_true rfl) (zall_0 zz_a1 zall_n) ?_
  refine ⟨_, rfl, g6, fun r1 M2 p5 z4 hR3 => ?_⟩
  have h := h r1 M2 p5 z4 hR3
  show zV Γ mu_X11_rule (145, 0, 0) 5 [(0, zRf (zad Γ) 0), (1, zI a1)] [zA (zad Γ) r1] M2
  refine zr_astoreA_n (L1 := [(2, zA (zad Γ) r1), (0, zRf (zad Γ) 0), (1, zI a1)]) C (zdec_at dm_X11_rule 3 rfl) rfl (Nat.le_of_ble_eq_true rfl) rfl ?_
  refine zr_aloadA_n C 0 rfl (zdec_at dm_X11_rule 4 rfl) rfl ?_
  refine zr_ifnonnull C (zdec_at dm_X11_rule 5 rfl) rfl (fun g7 => ?_) (fun g7 => ?_)
  · have h := h.1 g7
    rw [zA_pos g7]
    refine zr_aload_n C 1 rfl (zdec_at dm_X11_rule 8 rfl) rfl ?_
    refine zr_getr (q := 57) C fk_RX11_70 fi_0_7 (zdec_at dm_X11_rule 9 rfl) ?_
    refine zr_geti C fk_RX11_317 fi_57_0 (zdec_at dm_X11_rule 10 rfl) ?_
    refine zr_bipush C (zdec_at dm_X11_rule 11 rfl) (by decide) ?_
    refine zr_icmp_lt C (hR3 _ _) (by decide) (zdec_at dm_X11_rule 12 rfl) rfl (fun g8 => ?_) (fun g8 => ?_)
    · have h := h.1 g8
      refine zr_aload_n C 1 rfl (zdec_at dm_X11_rule 15 rfl) rfl ?_
      refine zr_iload_n C 2 rfl (zdec_at dm_X11_rule 16 rfl) rfl ?_
      obtain ⟨g14, h⟩ := h
      refine zr_callV C [a1] hS_X11_refusalOfText ck_RX11_99 iv_X11_refusalOfText vc_X11 oc_0 rfl rfl (zdec_at dm_X11_rule 17 rfl) ⟨rfl, rfl, rfl, rfl⟩ ⟨by decide, by decide⟩ (Nat.le_of_ble_eq_true rfl) (zall_0 zz_a1 zall_n) ?_
      refine ⟨_, rfl, g14, fun r9 M10 p13 z12 hR11 => ?_⟩
      have h := h r9 M10 p13 z12 hR11
      show zV Γ mu_X11_rule (145, 0, 0) 32 [(2, zRf (zad Γ) r1), (0, zRf (zad Γ) 0), (1, zI a1)] [zI r9] M10
      refine zr_istore_n (L1 := [(3, zI r9), (2, zRf (zad Γ) r1), (0, zRf (zad Γ) 0), (1, zI a1)]) C (zdec_at dm_X11_rule 18 rfl) rfl (Nat.le_of_ble_eq_true rfl) rfl ?_
      refine zr_iload_n C 0 rfl (zdec_at dm_X11_rule 19 rfl) rfl ?_
      refine zr_if_ge C z12 (zdec_at dm_X11_rule 20 rfl) rfl (fun g15 => ?_) (fun g15 => ?_)
      · have h := h.1 g15
        refine zr_aload_n C 2 rfl (zdec_at dm_X11_rule 23 rfl) rfl ?_
        refine zr_getr (q := 74) C fk_RX11_77 fi_0_8 (zdec_at dm_X11_rule 24 rfl) ?_
        refine zr_aload_n C 1 rfl (zdec_at dm_X11_rule 25 rfl) rfl ?_
        obtain ⟨o16, h⟩ := h
        refine zr_getr (q := (r1 + 1)) C fk_RX11_107 (zsh_v o16) (zdec_at dm_X11_rule 26 rfl) ?_
        refine zr_aload_n C 1 rfl (zdec_at dm_X11_rule 27 rfl) rfl ?_
        refine zr_geti C fk_RX11_111 (zsh_f o16 2 (by decide)) (zdec_at dm_X11_rule 28 rfl) ?_
        obtain ⟨g22, h⟩ := h
        refine zr_callV C [(r1 + 1), (M10 r1 2)] hS_X7_read ck_RX11_310 iv_X7_read vc_X7 oc_74 rfl rfl (zdec_at dm_X11_rule 29 rfl) ⟨rfl, rfl, rfl, rfl⟩ ⟨by decide, by decide⟩ (Nat.le_of_ble_eq_true rfl) (zall_2 (zall_0 (hR11 _ _) zall_n)) ?_
        refine ⟨_, _, rfl, g22, fun r17 M18 p21 z20 hR19 => ?_⟩
        have h := h r17 M18 p21 z20 hR19
        show zV Γ mu_X11_rule (145, 0, 0) 54 [(3, zI r9), (2, zRf (zad Γ) r1), (0, zRf (zad Γ) 0), (1, zI a1)] [zI r17] M18
        refine zr_pop C rfl (zdec_at dm_X11_rule 30 rfl) ?_
        refine zr_aload_n C 2 rfl (zdec_at dm_X11_rule 31 rfl) rfl ?_
        refine zr_getr (q := 74) C fk_RX11_77 fi_0_8 (zdec_at dm_X11_rule 32 rfl) ?_
        refine zr_geti C fk_RX11_314 fi_74_1 (zdec_at dm_X11_rule 33 rfl) ?_
        refine zr_bipush C (zdec_at dm_X11_rule 34 rfl) (by decide) ?_
        refine zr_icmp_eq C (hR19 _ _) (by decide) (zdec_at dm_X11_rule 35 rfl) rfl (fun g23 => ?_) (fun g23 => ?_)
        · have h := h.1 g23
          refine zr_aload_n C 2 rfl (zdec_at dm_X11_rule 42 rfl) rfl ?_
          refine zr_getr (q := 57) C fk_RX11_70 fi_0_7 (zdec_at dm_X11_rule 43 rfl) ?_
          refine zr_aload_n C 1 rfl (zdec_at dm_X11_rule 44 rfl) rfl ?_
          refine zr_getr (q := (r1 + 1)) C fk_RX11_107 (zsh_v o16) (zdec_at dm_X11_rule 45 rfl) ?_
          refine zr_aload_n C 1 rfl (zdec_at dm_X11_rule 46 rfl) rfl ?_
          refine zr_geti C fk_RX11_111 (zsh_f o16 2 (by decide)) (zdec_at dm_X11_rule 47 rfl) ?_
          obtain ⟨g29, h⟩ := h
          refine zr_callV C [(r1 + 1), (M18 r1 2)] hS_X8_add ck_RX11_318 iv_X8_add vc_X8 oc_57 rfl rfl (zdec_at dm_X11_rule 48 rfl) ⟨rfl, rfl, rfl, rfl⟩ ⟨by decide, by decide⟩ (Nat.le_of_ble_eq_true rfl) (zall_2 (zall_0 (hR19 _ _) zall_n)) ?_
          refine ⟨_, _, rfl, g29, fun r24 M25 p28 z27 hR26 => ?_⟩
          have h := h r24 M25 p28 z27 hR26
          show zV Γ mu_X11_rule (145, 0, 0) 93 [(3, zI r9), (2, zRf (zad Γ) r1), (0, zRf (zad Γ) 0), (1, zI a1)] [zI r24] M25
          exact zr_ireturn C rfl (zdec_at dm_X11_rule 49 rfl) rfl ⟨z27, h⟩
        · have h := h.2 g23
          refine zr_bipush C (zdec_at dm_X11_rule 36 rfl) (by decide) ?_
          refine zr_aload_n C 2 rfl (zdec_at dm_X11_rule 37 rfl) rfl ?_
          refine zr_getr (q := 74) C fk_RX11_77 fi_0_8 (zdec_at dm_X11_rule 38 rfl) ?_
          refine zr_geti C fk_RX11_314 fi_74_1 (zdec_at dm_X11_rule 39 rfl) ?_
          refine zr_isub C (zdec_at dm_X11_rule 40 rfl) ?_
          obtain ⟨o30, h⟩ := h
          exact zr_ireturn C rfl (zdec_at dm_X11_rule 41 rfl) rfl ⟨o30, h⟩
      · have h := h.2 g15
        refine zr_iload_n C 0 rfl (zdec_at dm_X11_rule 21 rfl) rfl ?_
        exact zr_ireturn C rfl (zdec_at dm_X11_rule 22 rfl) rfl ⟨z12, h⟩
    · have h := h.2 g8
      refine zr_bipush C (zdec_at dm_X11_rule 13 rfl) (by decide) ?_
      exact zr_ireturn C rfl (zdec_at dm_X11_rule 14 rfl) rfl ⟨(by decide), h⟩
  · have h := h.2 g7
    refine zr_iconst C (zdec_at dm_X11_rule 6 rfl) ?_
    exact zr_ireturn C rfl (zdec_at dm_X11_rule 7 rfl) rfl ⟨(by decide), h⟩

set_option maxHeartbeats 400000 in
set_option maxRecDepth 100000 in
theorem sn_X11_tell {pr_X11_asNumber : Int → zM → Prop} {po_X11_asNumber : Int → zM → Int → zM → Prop} (hS_X11_asNumber : zSnd zS 145 0 0 yX11_asNumber cX11_asNumber 1 (some .int) 0 [0] (F_X11_asNumber pr_X11_asNumber po_X11_asNumber)) : zSnd zS 145 0 0 yX11_tell cX11_tell 4 (some .int) 1 [2, 0, 0] (fun xs P M => ∃ a1 a2 : Int, xs = [0, a1, a2] ∧ vc_X11_tell pr_X11_asNumber po_X11_asNumber a1 a2 P M) := by
  refine zSnd.of rfl (fun ad xs hz => Nat.le_trans (Nat.le_of_eq (zlen ad _ xs hz)) (by decide)) ?_
  intro Γ C _ _ xs M hz hF
  obtain ⟨a1, a2, rfl, h⟩ := hF
  have zz_a1 := zall_h (zall_t hz) (by decide)
  have zz_a2 := zall_h (zall_t (zall_t hz)) (by decide)
  refine zr_rng (fun hR => ?_)
  have C : zC Γ mu_X11_tell := C
  change zV Γ mu_X11_tell (145, 0, 0) 0 [(0, zRf (zad Γ) 0), (1, zI a1), (2, zI a2)] [] M
  change vc_X11_tell pr_X11_asNumber po_X11_asNumber a1 a2 _ M at h
  unfold vc_X11_tell at h
  refine zr_iload_n C 1 rfl (zdec_at dm_X11_tell 0 rfl) rfl ?_
  refine zr_if_lt C zz_a1 (zdec_at dm_X11_tell 1 rfl) rfl (fun g1 => ?_) (fun g1 => ?_)
  · have h := h.1 g1
    refine zr_iconst C (zdec_at dm_X11_tell 7 rfl) ?_
    exact zr_ireturn C rfl (zdec_at dm_X11_tell 8 rfl) rfl ⟨(by decide), h⟩
  · have h := h.2 g1
    refine zr_iload_n C 1 rfl (zdec_at dm_X11_tell 2 rfl) rfl ?_
    refine zr_aload_n C 0 rfl (zdec_at dm_X11_tell 3 rfl) rfl ?_
    refine zr_getr (q := 57) C fk_RX11_70 fi_0_7 (zdec_at dm_X11_tell 4 rfl) ?_
    refine zr_geti C fk_RX11_317 fi_57_0 (zdec_at dm_X11_tell 5 rfl) ?_
    refine zr_icmp_lt C zz_a1 (hR _ _) (zdec_at dm_X11_tell 6 rfl) rfl (fun g2 => ?_) (fun g2 => ?_)
    · have h := h.1 g2
      refine zr_aload_n C 0 rfl (zdec_at dm_X11_tell 9 rfl) rfl ?_
      refine zr_getr (q := 57) C fk_RX11_70 fi_0_7 (zdec_at dm_X11_tell 10 rfl) ?_
      refine zr_getr (q := 72) C fk_RX11_321 fi_57_3 (zdec_at dm_X11_tell 11 rfl) ?_
      refine zr_iload_n C 1 rfl (zdec_at dm_X11_tell 12 rfl) rfl ?_
      obtain ⟨o3, h⟩ := h
      refine zr_zald C ai_72 o3 (zdec_at dm_X11_tell 13 rfl) ?_
      refine zr_iload_n C 2 rfl (zdec_at dm_X11_tell 14 rfl) rfl ?_
      refine zr_icmp_eq C (hR _ _) zz_a2 (zdec_at dm_X11_tell 15 rfl) rfl (fun g4 => ?_) (fun g4 => ?_)
      · have h := h.1 g4
        refine zr_iconst C (zdec_at dm_X11_tell 18 rfl) ?_
        refine zr_istore_n (L1 := [(3, zI 0), (0, zRf (zad Γ) 0), (1, zI a1), (2, zI a2)]) C (zdec_at dm_X11_tell 19 rfl) rfl (Nat.le_of_ble_eq_true rfl) rfl ?_
        refine zr_aload_n C 1 rfl (zdec_at dm_X11_tell 20 rfl) rfl ?_
        refine zr_getr (q := 57) C fk_RX11_70 fi_0_7 (zdec_at dm_X11_tell 21 rfl) ?_
        refine zr_getr (q := 72) C fk_RX11_321 fi_57_3 (zdec_at dm_X11_tell 22 rfl) ?_
        refine zr_iload_n C 2 rfl (zdec_at dm_X11_tell 23 rfl) rfl ?_
        refine zr_iload_n C 3 rfl (zdec_at dm_X11_tell 24 rfl) rfl ?_
        obtain ⟨o5, h⟩ := h
        refine zr_zast C ai_72 o3 zz_a2 o5 rfl (zdec_at dm_X11_tell 25 rfl) (fun M6 e7 => ?_)
        have h := h M6 e7
        have hR8 : zRng M6 := by rw [e7]; exact hR.set zz_a2 _ _
        refine zr_iload_n C 0 rfl (zdec_at dm_X11_tell 26 rfl) rfl ?_
        obtain ⟨g14, h⟩ := h
        refine zr_callS C [0] hS_X11_asNumber ck_RX11_190 sv_X11_asNumber rfl rfl (zdec_at dm_X11_tell 27 rfl) ⟨rfl, rfl, rfl, rfl⟩ ⟨by decide, by decide⟩ (Nat.le_of_ble_eq_true rfl) (zall_0 (by decide) zall_n) ?_
        refine ⟨_, rfl, g14, fun r9 M10 p13 z12 hR11 => ?_⟩
        have h := h r9 M10 p13 z12 hR11
        show zV Γ mu_X11_tell (145, 0, 0) 50 [(3, zI 0), (0, zRf (zad Γ) 0), (1, zI a1), (2, zI a2)] [zI r9] M10
        exact zr_ireturn C rfl (zdec_at dm_X11_tell 28 rfl) rfl ⟨z12, h⟩
      · have h := h.2 g4
        refine zr_iconst C (zdec_at dm_X11_tell 16 rfl) ?_
        refine zr_goto C (zdec_at dm_X11_tell 17 rfl) rfl ?_
        refine zr_istore_n (L1 := [(3, zI 1), (0, zRf (zad Γ) 0), (1, zI a1), (2, zI a2)]) C (zdec_at dm_X11_tell 19 rfl) rfl (Nat.le_of_ble_eq_true rfl) rfl ?_
        refine zr_aload_n C 1 rfl (zdec_at dm_X11_tell 20 rfl) rfl ?_
        refine zr_getr (q := 57) C fk_RX11_70 fi_0_7 (zdec_at dm_X11_tell 21 rfl) ?_
        refine zr_getr (q := 72) C fk_RX11_321 fi_57_3 (zdec_at dm_X11_tell 22 rfl) ?_
        refine zr_iload_n C 2 rfl (zdec_at dm_X11_tell 23 rfl) rfl ?_
        refine zr_iload_n C 3 rfl (zdec_at dm_X11_tell 24 rfl) rfl ?_
        obtain ⟨o15, h⟩ := h
        refine zr_zast C ai_72 o3 zz_a2 o15 rfl (zdec_at dm_X11_tell 25 rfl) (fun M16 e17 => ?_)
        have h := h M16 e17
        have hR18 : zRng M16 := by rw [e17]; exact hR.set zz_a2 _ _
        refine zr_iload_n C 0 rfl (zdec_at dm_X11_tell 26 rfl) rfl ?_
        obtain ⟨g24, h⟩ := h
        refine zr_callS C [1] hS_X11_asNumber ck_RX11_190 sv_X11_asNumber rfl rfl (zdec_at dm_X11_tell 27 rfl) ⟨rfl, rfl, rfl, rfl⟩ ⟨by decide, by decide⟩ (Nat.le_of_ble_eq_true rfl) (zall_0 (by decide) zall_n) ?_
        refine ⟨_, rfl, g24, fun r19 M20 p23 z22 hR21 => ?_⟩
        have h := h r19 M20 p23 z22 hR21
        show zV Γ mu_X11_tell (145, 0, 0) 50 [(3, zI 1), (0, zRf (zad Γ) 0), (1, zI a1), (2, zI a2)] [zI r19] M20
        exact zr_ireturn C rfl (zdec_at dm_X11_tell 28 rfl) rfl ⟨z22, h⟩
    · have h := h.2 g2
      refine zr_iconst C (zdec_at dm_X11_tell 7 rfl) ?_
      exact zr_ireturn C rfl (zdec_at dm_X11_tell 8 rfl) rfl ⟨(by decide), h⟩

set_option maxHeartbeats 400000 in
set_option maxRecDepth 100000 in
theorem sn_X11_sign {pr_X11_isFace : Int → zM → Prop} {po_X11_isFace : Int → zM → Int → zM → Prop} {pr_X9_countLike : Int → zM → Prop} {po_X9_countLike : Int → zM → Int → zM → Prop} {pr_X7_read : Int → Int → zM → Prop} {po_X7_read : Int → Int → zM → Int → zM → Prop} {pr_X11_measure : Int → Int → zM → Prop} {po_X11_measure : Int → Int → zM → Int → zM → Prop} (hS_X11_isFace : zSnd zS 145 0 0 yX11_isFace cX11_isFace 2 (some .boolean) 4 [2, 0] (F_X11_isFace pr_X11_isFace po_X11_isFace)) (hS_X9_countLike : zSnd zS 145 0 0 yX9_countLike cX9_countLike 4 (some .int) 4 [2, 0] (F_X9_countLike pr_X9_countLike po_X9_countLike)) (hS_X7_read : zSnd zS 145 0 0 yX7_read cX7_read 4 (some .boolean) 8 [2, 2, 0] (F_X7_read pr_X7_read po_X7_read)) (hS_X11_measure : zSnd zS 145 0 0 yX11_measure cX11_measure 3 (some .int) 5 [2, 0, 0] (F_X11_measure pr_X11_measure po_X11_measure)) : zSnd zS 145 0 0 yX11_sign cX11_sign 3 (some .int) 9 [2, 0] (fun xs P M => ∃ a1 : Int, xs = [0, a1] ∧ vc_X11_sign pr_X11_isFace po_X11_isFace pr_X9_countLike po_X9_countLike pr_X7_read po_X7_read pr_X11_measure po_X11_measure a1 P M) := by
  refine zSnd.of rfl (fun ad xs hz => Nat.le_trans (Nat.le_of_eq (zlen ad _ xs hz)) (by decide)) ?_
  intro Γ C _ _ xs M hz hF
  obtain ⟨a1, rfl, h⟩ := hF
  have zz_a1 := zall_h (zall_t hz) (by decide)
  refine zr_rng (fun hR => ?_)
  have C : zC Γ mu_X11_sign := C
  change zV Γ mu_X11_sign (145, 0, 0) 0 [(0, zRf (zad Γ) 0), (1, zI a1)] [] M
  change vc_X11_sign pr_X11_isFace po_X11_isFace pr_X9_countLike po_X9_countLike pr_X7_read po_X7_read pr_X11_measure po_X11_measure a1 _ M at h
  unfold vc_X11_sign at h
  refine zr_aload_n C 0 rfl (zdec_at dm_X11_sign 0 rfl) rfl ?_
  refine zr_iload_n C 1 rfl (zdec_at dm_X11_sign 1 rfl) rfl ?_
  obtain ⟨g6, h⟩ := h
  refine zr_callV C [a1] hS_X11_isFace ck_RX11_177 iv_X11_isFace vc_X11 oc_0 rfl rfl (zdec_at dm_X11_sign 2 rfl) ⟨rfl, rfl, rfl, rfl⟩ ⟨by decide, by decide⟩ (Nat.le_of_ble_eq_true rfl) (zall_0 zz_a1 zall_n) ?_
  refine ⟨_, rfl, g6, fun r1 M2 p5 z4 hR3 => ?_⟩
  have h := h r1 M2 p5 z4 hR3
  show zV Γ mu_X11_sign (145, 0, 0) 5 [(0, zRf (zad Γ) 0), (1, zI a1)] [zI r1] M2
  refine zr_if_ne C z4 (zdec_at dm_X11_sign 3 rfl) rfl (fun g7 => ?_) (fun g7 => ?_)
  · have h := h.1 g7
    refine zr_iconst C (zdec_at dm_X11_sign 6 rfl) ?_
    refine zr_istore_n (L1 := [(2, zI 0), (0, zRf (zad Γ) 0), (1, zI a1)]) C (zdec_at dm_X11_sign 7 rfl) rfl (Nat.le_of_ble_eq_true rfl) rfl ?_
    obtain ⟨I12, ⟨n16, q17⟩, hI15⟩ := h
    have lp14 : ∀ (n12 : Nat) (v8 : Int) (M10 : zM), I12 v8 M10 n12 → zin v8 → zRng M10 → zV Γ mu_X11_sign (145, 0, 0) 12 [(0, zRf (zad Γ) 0), (1, zI a1), (2, zI v8)] [] M10 := by
      intro n12
      induction n12 using Nat.strongRecOn with
      | _ n12 ih13 =>
      intro v8 M10 q18 z9 hR11
      have h := hI15 v8 M10 n12 q18 z9 hR11
      refine zr_iload_n C 2 rfl (zdec_at dm_X11_sign 8 rfl) rfl ?_
      refine zr_bipush C (zdec_at dm_X11_sign 9 rfl) (by decide) ?_
      refine zr_icmp_ge C z9 (by decide) (zdec_at dm_X11_sign 10 rfl) rfl (fun g19 => ?_) (fun g19 => ?_)
      · have h := h.1 g19
        refine zr_aload_n C 0 rfl (zdec_at dm_X11_sign 22 rfl) rfl ?_
        refine zr_getr (q := 74) C fk_RX11_77 fi_0_8 (zdec_at dm_X11_sign 23 rfl) ?_
        refine zr_getr (q := 75) C fk_RX11_325 fi_74_0 (zdec_at dm_X11_sign 24 rfl) ?_
        refine zr_bipush C (zdec_at dm_X11_sign 25 rfl) (by decide) ?_
        refine zr_aload_n C 0 rfl (zdec_at dm_X11_sign 26 rfl) rfl ?_
        refine zr_getr (q := 48) C fk_RX11_49 fi_0_4 (zdec_at dm_X11_sign 27 rfl) ?_
        refine zr_iload_n C 1 rfl (zdec_at dm_X11_sign 28 rfl) rfl ?_
        obtain ⟨g25, h⟩ := h
        refine zr_callV C [a1] hS_X9_countLike ck_RX11_328 iv_X9_countLike vc_X9 oc_48 rfl rfl (zdec_at dm_X11_sign 29 rfl) ⟨rfl, rfl, rfl, rfl⟩ ⟨by decide, by decide⟩ (Nat.le_of_ble_eq_true rfl) (zall_0 zz_a1 zall_n) ?_
        refine ⟨_, rfl, g25, fun r20 M21 p24 z23 hR22 => ?_⟩
        have h := h r20 M21 p24 z23 hR22
        show zV Γ mu_X11_sign (145, 0, 0) 56 [(0, zRf (zad Γ) 0), (1, zI a1), (2, zI v8)] [zI r20, zI 12, zRf (zad Γ) 75] M21
        refine zr_iast C ai_75 ⟨by decide, by decide⟩ z23 (zdec_at dm_X11_sign 30 rfl) (fun M26 e27 => ?_)
        have h := h M26 e27
        have hR28 : zRng M26 := by rw [e27]; exact hR22.set z23 _ _
        refine zr_iconst C (zdec_at dm_X11_sign 31 rfl) ?_
        refine zr_istore_n (L1 := [(2, zI 0), (0, zRf (zad Γ) 0), (1, zI a1)]) C (zdec_at dm_X11_sign 32 rfl) rfl (Nat.le_of_ble_eq_true rfl) rfl ?_
        obtain ⟨I59, ⟨n37, q38⟩, hI36⟩ := h
        have lp35 : ∀ (n33 : Nat) (v29 : Int) (M31 : zM), I59 v29 M31 n33 → zin v29 → zRng M31 → zV Γ mu_X11_sign (145, 0, 0) 59 [(0, zRf (zad Γ) 0), (2, zI v29)] [] M31 := by
          intro n33
          induction n33 using Nat.strongRecOn with
          | _ n33 ih34 =>
          intro v29 M31 q39 z30 hR32
          have h := hI36 v29 M31 n33 q39 z30 hR32
          refine zr_iload_n C 1 rfl (zdec_at dm_X11_sign 33 rfl) rfl ?_
          refine zr_aload_n C 0 rfl (zdec_at dm_X11_sign 34 rfl) rfl ?_
          refine zr_getr (q := 57) C fk_RX11_70 fi_0_7 (zdec_at dm_X11_sign 35 rfl) ?_
          refine zr_geti C fk_RX11_317 fi_57_0 (zdec_at dm_X11_sign 36 rfl) ?_
          refine zr_icmp_ge C z30 (hR32 _ _) (zdec_at dm_X11_sign 37 rfl) rfl (fun g40 => ?_) (fun g40 => ?_)
          · have h := h.1 g40
            refine zr_bipush C (zdec_at dm_X11_sign 68 rfl) (by decide) ?_
            exact zr_ireturn C rfl (zdec_at dm_X11_sign 69 rfl) rfl ⟨(by decide), h⟩
          · have h := h.2 g40
            refine zr_aload_n C 0 rfl (zdec_at dm_X11_sign 38 rfl) rfl ?_
            refine zr_getr (q := 57) C fk_RX11_70 fi_0_7 (zdec_at dm_X11_sign 39 rfl) ?_
            refine zr_getr (q := 72) C fk_RX11_321 fi_57_3 (zdec_at dm_X11_sign 40 rfl) ?_
            refine zr_iload_n C 1 rfl (zdec_at dm_X11_sign 41 rfl) rfl ?_
            obtain ⟨o41, h⟩ := h
            refine zr_zald C ai_72 o41 (zdec_at dm_X11_sign 42 rfl) ?_
            refine zr_if_eq C (hR32 _ _) (zdec_at dm_X11_sign 43 rfl) rfl (fun g42 => ?_) (fun g42 => ?_)
            · have h := h.1 g42
              refine zr_iinc (L1 := [(2, zI (v29 + 1)), (0, zRf (zad Γ) 0)]) C 1 rfl (zdec_at dm_X11_sign 66 rfl) (Nat.le_of_ble_eq_true rfl) rfl ?_
              refine zr_goto C (zdec_at dm_X11_sign 67 rfl) rfl ?_
              obtain ⟨o43, h⟩ := h
              obtain ⟨n44, q45, q46⟩ := h
              exact zr_sub [1, 0] rfl (ih34 n44 q45 _ _ q46 o43 hR32)
            · have h := h.2 g42
              refine zr_aload_n C 0 rfl (zdec_at dm_X11_sign 44 rfl) rfl ?_
              refine zr_getr (q := 74) C fk_RX11_77 fi_0_8 (zdec_at dm_X11_sign 45 rfl) ?_
              refine zr_aload_n C 0 rfl (zdec_at dm_X11_sign 46 rfl) rfl ?_
              refine zr_getr (q := 57) C fk_RX11_70 fi_0_7 (zdec_at dm_X11_sign 47 rfl) ?_
              refine zr_getr (q := 58) C fk_RX11_331 fi_57_1 (zdec_at dm_X11_sign 48 rfl) ?_
              refine zr_iload_n C 1 rfl (zdec_at dm_X11_sign 49 rfl) rfl ?_
              refine zr_aald (q := (59 + v29)) C (by decide) ai_58 o41 (zrow_tc o41) (zdec_at dm_X11_sign 50 rfl) ?_
              refine zr_aload_n C 0 rfl (zdec_at dm_X11_sign 51 rfl) rfl ?_
              refine zr_getr (q := 57) C fk_RX11_70 fi_0_7 (zdec_at dm_X11_sign 52 rfl) ?_
              refine zr_getr (q := 71) C fk_RX11_335 fi_57_2 (zdec_at dm_X11_sign 53 rfl) ?_
              refine zr_iload_n C 1 rfl (zdec_at dm_X11_sign 54 rfl) rfl ?_
              refine zr_iald C ai_71 o41 (zdec_at dm_X11_sign 55 rfl) ?_
              obtain ⟨g52, h⟩ := h
              refine zr_callV C [(59 + v29), (M31 71 v29)] hS_X7_read ck_RX11_310 iv_X7_read vc_X7 oc_74 rfl rfl (zdec_at dm_X11_sign 56 rfl) ⟨rfl, rfl, rfl, rfl⟩ ⟨by decide, by decide⟩ (Nat.le_of_ble_eq_true rfl) (zall_2 (zall_0 (hR32 _ _) zall_n)) ?_
              refine ⟨_, _, rfl, g52, fun r47 M48 p51 z50 hR49 => ?_⟩
              have h := h r47 M48 p51 z50 hR49
              show zV Γ mu_X11_sign (145, 0, 0) 107 [(0, zRf (zad Γ) 0), (2, zI v29)] [zI r47] M48
              refine zr_if_eq C z50 (zdec_at dm_X11_sign 57 rfl) rfl (fun g53 => ?_) (fun g53 => ?_)
              · have h := h.1 g53
                refine zr_iinc (L1 := [(2, zI (v29 + 1)), (0, zRf (zad Γ) 0)]) C 1 rfl (zdec_at dm_X11_sign 66 rfl) (Nat.le_of_ble_eq_true rfl) rfl ?_
                refine zr_goto C (zdec_at dm_X11_sign 67 rfl) rfl ?_
                obtain ⟨o54, h⟩ := h
                obtain ⟨n55, q56, q57⟩ := h
                exact zr_sub [1, 0] rfl (ih34 n55 q56 _ _ q57 o54 hR49)
              · have h := h.2 g53
                refine zr_aload_n C 0 rfl (zdec_at dm_X11_sign 58 rfl) rfl ?_
                refine zr_getr (q := 57) C fk_RX11_70 fi_0_7 (zdec_at dm_X11_sign 59 rfl) ?_
                refine zr_getr (q := 58) C fk_RX11_331 fi_57_1 (zdec_at dm_X11_sign 60 rfl) ?_
                refine zr_iload_n C 1 rfl (zdec_at dm_X11_sign 61 rfl) rfl ?_
                refine zr_aald (q := (59 + v29)) C (by decide) ai_58 o41 (zrow_tc o41) (zdec_at dm_X11_sign 62 rfl) ?_
                refine zr_iconst C (zdec_at dm_X11_sign 63 rfl) ?_
                refine zr_iald C (zrow_t o41) ⟨by decide, by decide⟩ (zdec_at dm_X11_sign 64 rfl) ?_
                exact zr_ireturn C rfl (zdec_at dm_X11_sign 65 rfl) rfl ⟨(hR49 _ _), h⟩
        exact zr_sub [1, 0] rfl (lp35 n37 _ _ q38 (by decide) hR28)
      · have h := h.2 g19
        refine zr_aload_n C 0 rfl (zdec_at dm_X11_sign 11 rfl) rfl ?_
        refine zr_getr (q := 74) C fk_RX11_77 fi_0_8 (zdec_at dm_X11_sign 12 rfl) ?_
        refine zr_getr (q := 75) C fk_RX11_325 fi_74_0 (zdec_at dm_X11_sign 13 rfl) ?_
        refine zr_iload_n C 2 rfl (zdec_at dm_X11_sign 14 rfl) rfl ?_
        refine zr_aload_n C 0 rfl (zdec_at dm_X11_sign 15 rfl) rfl ?_
        refine zr_iload_n C 1 rfl (zdec_at dm_X11_sign 16 rfl) rfl ?_
        refine zr_iload_n C 2 rfl (zdec_at dm_X11_sign 17 rfl) rfl ?_
        obtain ⟨g63, h⟩ := h
        refine zr_callV C [a1, v8] hS_X11_measure ck_RX11_180 iv_X11_measure vc_X11 oc_0 rfl rfl (zdec_at dm_X11_sign 18 rfl) ⟨rfl, rfl, rfl, rfl⟩ ⟨by decide, by decide⟩ (Nat.le_of_ble_eq_true rfl) (zall_0 zz_a1 (zall_0 z9 zall_n)) ?_
        refine ⟨_, _, rfl, g63, fun r58 M59 p62 z61 hR60 => ?_⟩
        have h := h r58 M59 p62 z61 hR60
        show zV Γ mu_X11_sign (145, 0, 0) 32 [(0, zRf (zad Γ) 0), (1, zI a1), (2, zI v8)] [zI r58, zI v8, zRf (zad Γ) 75] M59
        obtain ⟨o64, h⟩ := h
        refine zr_iast C ai_75 o64 z61 (zdec_at dm_X11_sign 19 rfl) (fun M65 e66 => ?_)
        have h := h M65 e66
        have hR67 : zRng M65 := by rw [e66]; exact hR60.set z61 _ _
        refine zr_iinc (L1 := [(2, zI (v8 + 1)), (0, zRf (zad Γ) 0), (1, zI a1)]) C 2 rfl (zdec_at dm_X11_sign 20 rfl) (Nat.le_of_ble_eq_true rfl) rfl ?_
        refine zr_goto C (zdec_at dm_X11_sign 21 rfl) rfl ?_
        obtain ⟨o68, h⟩ := h
        obtain ⟨n69, q70, q71⟩ := h
        exact zr_sub [1, 2, 0] rfl (ih13 n69 q70 _ _ q71 o68 hR67)
    exact zr_sub [1, 2, 0] rfl (lp14 n16 _ _ q17 (by decide) hR3)
  · have h := h.2 g7
    refine zr_iconst C (zdec_at dm_X11_sign 4 rfl) ?_
    exact zr_ireturn C rfl (zdec_at dm_X11_sign 5 rfl) rfl ⟨(by decide), h⟩

set_option maxHeartbeats 400000 in
set_option maxRecDepth 100000 in
theorem sn_X11_undo {pr_X3_canUndo : zM → Prop} {po_X3_canUndo : zM → Int → zM → Prop} {pr_X3_stepBack : zM → Prop} {po_X3_stepBack : zM → Int → zM → Prop} (hS_X3_canUndo : zSnd zS 145 0 0 yX3_canUndo cX3_canUndo 1 (some .boolean) 0 [2] (F_X3_canUndo pr_X3_canUndo po_X3_canUndo)) (hS_X3_stepBack : zSnd zS 145 0 0 yX3_stepBack cX3_stepBack 2 (some .int) 3 [2, 2] (F_X3_stepBack pr_X3_stepBack po_X3_stepBack)) : zSnd zS 145 0 0 yX11_undo cX11_undo 1 (some .int) 4 [2] (fun xs P M => xs = [0] ∧ vc_X11_undo pr_X3_canUndo po_X3_canUndo pr_X3_stepBack po_X3_stepBack P M) := by
  refine zSnd.of rfl (fun ad xs hz => Nat.le_trans (Nat.le_of_eq (zlen ad _ xs hz)) (by decide)) ?_
  intro Γ C _ _ xs M hz hF
  obtain ⟨rfl, h⟩ := hF
  refine zr_rng (fun hR => ?_)
  have C : zC Γ mu_X11_undo := C
  change zV Γ mu_X11_undo (145, 0, 0) 0 [(0, zRf (zad Γ) 0)] [] M
  change vc_X11_undo pr_X3_canUndo po_X3_canUndo pr_X3_stepBack po_X3_stepBack _ M at h
  unfold vc_X11_undo at h
  refine zr_aload_n C 0 rfl (zdec_at dm_X11_undo 0 rfl) rfl ?_
  refine zr_getr (q := 77) C fk_RX11_84 fi_0_9 (zdec_at dm_X11_undo 1 rfl) ?_
  obtain ⟨g6, h⟩ := h
  refine zr_callV C [] hS_X3_canUndo ck_RX11_338 iv_X3_canUndo vc_X3 oc_77 rfl rfl (zdec_at dm_X11_undo 2 rfl) ⟨rfl, rfl, rfl, rfl⟩ ⟨by decide, by decide⟩ (Nat.le_of_ble_eq_true rfl) zall_n ?_
  refine ⟨rfl, g6, fun r1 M2 p5 z4 hR3 => ?_⟩
  have h := h r1 M2 p5 z4 hR3
  show zV Γ mu_X11_undo (145, 0, 0) 7 [(0, zRf (zad Γ) 0)] [zI r1] M2
  refine zr_if_eq C z4 (zdec_at dm_X11_undo 3 rfl) rfl (fun g7 => ?_) (fun g7 => ?_)
  · have h := h.1 g7
    refine zr_bipush C (zdec_at dm_X11_undo 10 rfl) (by decide) ?_
    exact zr_ireturn C rfl (zdec_at dm_X11_undo 11 rfl) rfl ⟨(by decide), h⟩
  · have h := h.2 g7
    refine zr_aload_n C 0 rfl (zdec_at dm_X11_undo 4 rfl) rfl ?_
    refine zr_getr (q := 77) C fk_RX11_84 fi_0_9 (zdec_at dm_X11_undo 5 rfl) ?_
    refine zr_aload_n C 0 rfl (zdec_at dm_X11_undo 6 rfl) rfl ?_
    refine zr_getr (q := 1) C fk_RX11_25 fi_0_0 (zdec_at dm_X11_undo 7 rfl) ?_
    obtain ⟨g13, h⟩ := h
    refine zr_callV C [1] hS_X3_stepBack ck_RX11_342 iv_X3_stepBack vc_X3 oc_77 rfl rfl (zdec_at dm_X11_undo 8 rfl) ⟨rfl, rfl, rfl, rfl⟩ ⟨by decide, by decide⟩ (Nat.le_of_ble_eq_true rfl) (zall_2 zall_n) ?_
    refine ⟨rfl, g13, fun r8 M9 p12 z11 hR10 => ?_⟩
    have h := h r8 M9 p12 z11 hR10
    show zV Γ mu_X11_undo (145, 0, 0) 21 [(0, zRf (zad Γ) 0)] [zI r8] M9
    refine zr_goto C (zdec_at dm_X11_undo 9 rfl) rfl ?_
    exact zr_ireturn C rfl (zdec_at dm_X11_undo 11 rfl) rfl ⟨z11, h⟩

set_option maxHeartbeats 400000 in
set_option maxRecDepth 100000 in
theorem sn_X11_redo {pr_X3_canRedo : zM → Prop} {po_X3_canRedo : zM → Int → zM → Prop} {pr_X3_stepForth : zM → Prop} {po_X3_stepForth : zM → Int → zM → Prop} (hS_X3_canRedo : zSnd zS 145 0 0 yX3_canRedo cX3_canRedo 1 (some .boolean) 0 [2] (F_X3_canRedo pr_X3_canRedo po_X3_canRedo)) (hS_X3_stepForth : zSnd zS 145 0 0 yX3_stepForth cX3_stepForth 3 (some .int) 3 [2, 2] (F_X3_stepForth pr_X3_stepForth po_X3_stepForth)) : zSnd zS 145 0 0 yX11_redo cX11_redo 1 (some .int) 4 [2] (fun xs P M => xs = [0] ∧ vc_X11_redo pr_X3_canRedo po_X3_canRedo pr_X3_stepForth po_X3_stepForth P M) := by
  refine zSnd.of rfl (fun ad xs hz => Nat.le_trans (Nat.le_of_eq (zlen ad _ xs hz)) (by decide)) ?_
  intro Γ C _ _ xs M hz hF
  obtain ⟨rfl, h⟩ := hF
  refine zr_rng (fun hR => ?_)
  have C : zC Γ mu_X11_redo := C
  change zV Γ mu_X11_redo (145, 0, 0) 0 [(0, zRf (zad Γ) 0)] [] M
  change vc_X11_redo pr_X3_canRedo po_X3_canRedo pr_X3_stepForth po_X3_stepForth _ M at h
  unfold vc_X11_redo at h
  refine zr_aload_n C 0 rfl (zdec_at dm_X11_redo 0 rfl) rfl ?_
  refine zr_getr (q := 77) C fk_RX11_84 fi_0_9 (zdec_at dm_X11_redo 1 rfl) ?_
  obtain ⟨g6, h⟩ := h
  refine zr_callV C [] hS_X3_canRedo ck_RX11_346 iv_X3_canRedo vc_X3 oc_77 rfl rfl (zdec_at dm_X11_redo 2 rfl) ⟨rfl, rfl, rfl, rfl⟩ ⟨by decide, by decide⟩ (Nat.le_of_ble_eq_true rfl) zall_n ?_
  refine ⟨rfl, g6, fun r1 M2 p5 z4 hR3 => ?_⟩
  have h := h r1 M2 p5 z4 hR3
  show zV Γ mu_X11_redo (145, 0, 0) 7 [(0, zRf (zad Γ) 0)] [zI r1] M2
  refine zr_if_eq C z4 (zdec_at dm_X11_redo 3 rfl) rfl (fun g7 => ?_) (fun g7 => ?_)
  · have h := h.1 g7
    refine zr_bipush C (zdec_at dm_X11_redo 10 rfl) (by decide) ?_
    exact zr_ireturn C rfl (zdec_at dm_X11_redo 11 rfl) rfl ⟨(by decide), h⟩
  · have h := h.2 g7
    refine zr_aload_n C 0 rfl (zdec_at dm_X11_redo 4 rfl) rfl ?_
    refine zr_getr (q := 77) C fk_RX11_84 fi_0_9 (zdec_at dm_X11_redo 5 rfl) ?_
    refine zr_aload_n C 0 rfl (zdec_at dm_X11_redo 6 rfl) rfl ?_
    refine zr_getr (q := 1) C fk_RX11_25 fi_0_0 (zdec_at dm_X11_redo 7 rfl) ?_
    obtain ⟨g13, h⟩ := h
    refine zr_callV C [1] hS_X3_stepForth ck_RX11_349 iv_X3_stepForth vc_X3 oc_77 rfl rfl (zdec_at dm_X11_redo 8 rfl) ⟨rfl, rfl, rfl, rfl⟩ ⟨by decide, by decide⟩ (Nat.le_of_ble_eq_true rfl) (zall_2 zall_n) ?_
    refine ⟨rfl, g13, fun r8 M9 p12 z11 hR10 => ?_⟩
    have h := h r8 M9 p12 z11 hR10
    show zV Γ mu_X11_redo (145, 0, 0) 21 [(0, zRf (zad Γ) 0)] [zI r8] M9
    refine zr_goto C (zdec_at dm_X11_redo 9 rfl) rfl ?_
    exact zr_ireturn C rfl (zdec_at dm_X11_redo 11 rfl) rfl ⟨z11, h⟩

set_option maxHeartbeats 400000 in
set_option maxRecDepth 100000 in
theorem sn_X11_image {pr_X0_takeFrom_b : zM → Prop} {po_X0_takeFrom_b : zM → zM → Prop} {pr_X8_takeImage : zM → Prop} {po_X8_takeImage : zM → zM → Prop} {pr_X0_dots : zM → Prop} {po_X0_dots : zM → Int → zM → Prop} (hS_X0_takeFrom_b : zSnd zS 145 0 0 yX0_takeFrom cX0_takeFrom 2 none 1 [2, 2] (F_X0_takeFrom_b pr_X0_takeFrom_b po_X0_takeFrom_b)) (hS_X8_takeImage : zSnd zS 145 0 0 yX8_takeImage cX8_takeImage 2 none 0 [2] (F_X8_takeImage pr_X8_takeImage po_X8_takeImage)) (hS_X0_dots : zSnd zS 145 0 0 yX0_dots cX0_dots 1 (some .int) 0 [2] (F_X0_dots pr_X0_dots po_X0_dots)) : zSnd zS 145 0 0 yX11_image cX11_image 1 (some .int) 2 [2] (fun xs P M => xs = [0] ∧ vc_X11_image pr_X0_takeFrom_b po_X0_takeFrom_b pr_X8_takeImage po_X8_takeImage pr_X0_dots po_X0_dots P M) := by
  refine zSnd.of rfl (fun ad xs hz => Nat.le_trans (Nat.le_of_eq (zlen ad _ xs hz)) (by decide)) ?_
  intro Γ C _ _ xs M hz hF
  obtain ⟨rfl, h⟩ := hF
  refine zr_rng (fun hR => ?_)
  have C : zC Γ mu_X11_image := C
  change zV Γ mu_X11_image (145, 0, 0) 0 [(0, zRf (zad Γ) 0)] [] M
  change vc_X11_image pr_X0_takeFrom_b po_X0_takeFrom_b pr_X8_takeImage po_X8_takeImage pr_X0_dots po_X0_dots _ M at h
  unfold vc_X11_image at h
  refine zr_aload_n C 0 rfl (zdec_at dm_X11_image 0 rfl) rfl ?_
  refine zr_getr (q := 99) C fk_RX11_92 fi_0_11 (zdec_at dm_X11_image 1 rfl) ?_
  refine zr_aload_n C 0 rfl (zdec_at dm_X11_image 2 rfl) rfl ?_
  refine zr_getr (q := 1) C fk_RX11_25 fi_0_0 (zdec_at dm_X11_image 3 rfl) ?_
  obtain ⟨g5, h⟩ := h
  refine zr_callV C [1] hS_X0_takeFrom_b ck_RX11_352 iv_X0_takeFrom vc_X0 oc_99 rfl rfl (zdec_at dm_X11_image 4 rfl) ⟨rfl, rfl, rfl, rfl⟩ ⟨by decide, by decide⟩ (Nat.le_of_ble_eq_true rfl) (zall_2 zall_n) ?_
  refine ⟨rfl, g5, fun M1 p4 _ hR2 => ?_⟩
  have h := h M1 p4 hR2
  show zV Γ mu_X11_image (145, 0, 0) 11 [(0, zRf (zad Γ) 0)] [] M1
  refine zr_aload_n C 0 rfl (zdec_at dm_X11_image 5 rfl) rfl ?_
  refine zr_getr (q := 57) C fk_RX11_70 fi_0_7 (zdec_at dm_X11_image 6 rfl) ?_
  obtain ⟨g10, h⟩ := h
  refine zr_callV C [] hS_X8_takeImage ck_RX11_355 iv_X8_takeImage vc_X8 oc_57 rfl rfl (zdec_at dm_X11_image 7 rfl) ⟨rfl, rfl, rfl, rfl⟩ ⟨by decide, by decide⟩ (Nat.le_of_ble_eq_true rfl) zall_n ?_
  refine ⟨rfl, g10, fun M6 p9 _ hR7 => ?_⟩
  have h := h M6 p9 hR7
  show zV Γ mu_X11_image (145, 0, 0) 18 [(0, zRf (zad Γ) 0)] [] M6
  refine zr_aload_n C 0 rfl (zdec_at dm_X11_image 8 rfl) rfl ?_
  refine zr_iconst C (zdec_at dm_X11_image 9 rfl) ?_
  refine zr_putz C fk_RX11_95 fi_0_12 (by decide) (by decide) (zdec_at dm_X11_image 10 rfl) (fun M11 e12 => ?_)
  have h := h M11 e12
  have hR13 : zRng M11 := by rw [e12]; exact hR7.set (by decide) _ _
  refine zr_aload_n C 0 rfl (zdec_at dm_X11_image 11 rfl) rfl ?_
  refine zr_getr (q := 1) C fk_RX11_25 fi_0_0 (zdec_at dm_X11_image 12 rfl) ?_
  obtain ⟨g19, h⟩ := h
  refine zr_callV C [] hS_X0_dots ck_RX11_125 iv_X0_dots vc_X0 oc_1 rfl rfl (zdec_at dm_X11_image 13 rfl) ⟨rfl, rfl, rfl, rfl⟩ ⟨by decide, by decide⟩ (Nat.le_of_ble_eq_true rfl) zall_n ?_
  refine ⟨rfl, g19, fun r14 M15 p18 z17 hR16 => ?_⟩
  have h := h r14 M15 p18 z17 hR16
  show zV Γ mu_X11_image (145, 0, 0) 30 [(0, zRf (zad Γ) 0)] [zI r14] M15
  exact zr_ireturn C rfl (zdec_at dm_X11_image 14 rfl) rfl ⟨z17, h⟩

set_option maxHeartbeats 400000 in
set_option maxRecDepth 100000 in
theorem sn_X11_restore {pr_X0_takeFrom_a : zM → Prop} {po_X0_takeFrom_a : zM → zM → Prop} {pr_X8_bringBack : zM → Prop} {po_X8_bringBack : zM → zM → Prop} {pr_X3_forget : zM → Prop} {po_X3_forget : zM → zM → Prop} {pr_X0_dots : zM → Prop} {po_X0_dots : zM → Int → zM → Prop} (hS_X0_takeFrom_a : zSnd zS 145 0 0 yX0_takeFrom cX0_takeFrom 2 none 1 [2, 2] (F_X0_takeFrom_a pr_X0_takeFrom_a po_X0_takeFrom_a)) (hS_X8_bringBack : zSnd zS 145 0 0 yX8_bringBack cX8_bringBack 2 none 0 [2] (F_X8_bringBack pr_X8_bringBack po_X8_bringBack)) (hS_X3_forget : zSnd zS 145 0 0 yX3_forget cX3_forget 1 none 0 [2] (F_X3_forget pr_X3_forget po_X3_forget)) (hS_X0_dots : zSnd zS 145 0 0 yX0_dots cX0_dots 1 (some .int) 0 [2] (F_X0_dots pr_X0_dots po_X0_dots)) : zSnd zS 145 0 0 yX11_restore cX11_restore 1 (some .int) 2 [2] (fun xs P M => xs = [0] ∧ vc_X11_restore pr_X0_takeFrom_a po_X0_takeFrom_a pr_X8_bringBack po_X8_bringBack pr_X3_forget po_X3_forget pr_X0_dots po_X0_dots P M) := by
  refine zSnd.of rfl (fun ad xs hz => Nat.le_trans (Nat.le_of_eq (zlen ad _ xs hz)) (by decide)) ?_
  intro Γ C _ _ xs M hz hF
  obtain ⟨rfl, h⟩ := hF
  refine zr_rng (fun hR => ?_)
  have C : zC Γ mu_X11_restore := C
  change zV Γ mu_X11_restore (145, 0, 0) 0 [(0, zRf (zad Γ) 0)] [] M
  change vc_X11_restore pr_X0_takeFrom_a po_X0_takeFrom_a pr_X8_bringBack po_X8_bringBack pr_X3_forget po_X3_forget pr_X0_dots po_X0_dots _ M at h
  unfold vc_X11_restore at h
  refine zr_aload_n C 0 rfl (zdec_at dm_X11_restore 0 rfl) rfl ?_
  refine zr_geti C fk_RX11_95 fi_0_12 (zdec_at dm_X11_restore 1 rfl) ?_
  refine zr_if_ne C (hR _ _) (zdec_at dm_X11_restore 2 rfl) rfl (fun g1 => ?_) (fun g1 => ?_)
  · have h := h.1 g1
    refine zr_aload_n C 0 rfl (zdec_at dm_X11_restore 5 rfl) rfl ?_
    refine zr_getr (q := 1) C fk_RX11_25 fi_0_0 (zdec_at dm_X11_restore 6 rfl) ?_
    refine zr_aload_n C 0 rfl (zdec_at dm_X11_restore 7 rfl) rfl ?_
    refine zr_getr (q := 99) C fk_RX11_92 fi_0_11 (zdec_at dm_X11_restore 8 rfl) ?_
    obtain ⟨g6, h⟩ := h
    refine zr_callV C [99] hS_X0_takeFrom_a ck_RX11_352 iv_X0_takeFrom vc_X0 oc_1 rfl rfl (zdec_at dm_X11_restore 9 rfl) ⟨rfl, rfl, rfl, rfl⟩ ⟨by decide, by decide⟩ (Nat.le_of_ble_eq_true rfl) (zall_2 zall_n) ?_
    refine ⟨rfl, g6, fun M2 p5 _ hR3 => ?_⟩
    have h := h M2 p5 hR3
    show zV Γ mu_X11_restore (145, 0, 0) 21 [(0, zRf (zad Γ) 0)] [] M2
    refine zr_aload_n C 0 rfl (zdec_at dm_X11_restore 10 rfl) rfl ?_
    refine zr_getr (q := 57) C fk_RX11_70 fi_0_7 (zdec_at dm_X11_restore 11 rfl) ?_
    obtain ⟨g11, h⟩ := h
    refine zr_callV C [] hS_X8_bringBack ck_RX11_358 iv_X8_bringBack vc_X8 oc_57 rfl rfl (zdec_at dm_X11_restore 12 rfl) ⟨rfl, rfl, rfl, rfl⟩ ⟨by decide, by decide⟩ (Nat.le_of_ble_eq_true rfl) zall_n ?_
    refine ⟨rfl, g11, fun M7 p10 _ hR8 => ?_⟩
    have h := h M7 p10 hR8
    show zV Γ mu_X11_restore (145, 0, 0) 28 [(0, zRf (zad Γ) 0)] [] M7
    refine zr_aload_n C 0 rfl (zdec_at dm_X11_restore 13 rfl) rfl ?_
    refine zr_getr (q := 77) C fk_RX11_84 fi_0_9 (zdec_at dm_X11_restore 14 rfl) ?_
    obtain ⟨g16, h⟩ := h
    refine zr_callV C [] hS_X3_forget ck_RX11_122 iv_X3_forget vc_X3 oc_77 rfl rfl (zdec_at dm_X11_restore 15 rfl) ⟨rfl, rfl, rfl, rfl⟩ ⟨by decide, by decide⟩ (Nat.le_of_ble_eq_true rfl) zall_n ?_
    refine ⟨rfl, g16, fun M12 p15 _ hR13 => ?_⟩
    have h := h M12 p15 hR13
    show zV Γ mu_X11_restore (145, 0, 0) 35 [(0, zRf (zad Γ) 0)] [] M12
    refine zr_aload_n C 0 rfl (zdec_at dm_X11_restore 16 rfl) rfl ?_
    refine zr_getr (q := 1) C fk_RX11_25 fi_0_0 (zdec_at dm_X11_restore 17 rfl) ?_
    obtain ⟨g22, h⟩ := h
    refine zr_callV C [] hS_X0_dots ck_RX11_125 iv_X0_dots vc_X0 oc_1 rfl rfl (zdec_at dm_X11_restore 18 rfl) ⟨rfl, rfl, rfl, rfl⟩ ⟨by decide, by decide⟩ (Nat.le_of_ble_eq_true rfl) zall_n ?_
    refine ⟨rfl, g22, fun r17 M18 p21 z20 hR19 => ?_⟩
    have h := h r17 M18 p21 z20 hR19
    show zV Γ mu_X11_restore (145, 0, 0) 42 [(0, zRf (zad Γ) 0)] [zI r17] M18
    exact zr_ireturn C rfl (zdec_at dm_X11_restore 19 rfl) rfl ⟨z20, h⟩
  · have h := h.2 g1
    refine zr_bipush C (zdec_at dm_X11_restore 3 rfl) (by decide) ?_
    exact zr_ireturn C rfl (zdec_at dm_X11_restore 4 rfl) rfl ⟨(by decide), h⟩

set_option maxHeartbeats 400000 in
set_option maxRecDepth 100000 in
theorem sn_X11_count {pr_X2_refresh : zM → Prop} {po_X2_refresh : zM → zM → Prop} {pr_X4_countColours : zM → Prop} {po_X4_countColours : zM → Int → zM → Prop} {pr_X9_countLeaders : zM → Prop} {po_X9_countLeaders : zM → Int → zM → Prop} {pr_X8_countTold : zM → Prop} {po_X8_countTold : zM → Int → zM → Prop} {pr_X0_countUnlikeSides : zM → Prop} {po_X0_countUnlikeSides : zM → Int → zM → Prop} (hS_X2_refresh : zSnd zS 145 0 0 yX2_refresh cX2_refresh 3 none 3 [2] (F_X2_refresh pr_X2_refresh po_X2_refresh)) (hS_X4_countColours : zSnd zS 145 0 0 yX4_countColours cX4_countColours 4 (some .int) 1 [2] (F_X4_countColours pr_X4_countColours po_X4_countColours)) (hS_X9_countLeaders : zSnd zS 145 0 0 yX9_countLeaders cX9_countLeaders 3 (some .int) 5 [2] (F_X9_countLeaders pr_X9_countLeaders po_X9_countLeaders)) (hS_X8_countTold : zSnd zS 145 0 0 yX8_countTold cX8_countTold 3 (some .int) 0 [2] (F_X8_countTold pr_X8_countTold po_X8_countTold)) (hS_X0_countUnlikeSides : zSnd zS 145 0 0 yX0_countUnlikeSides cX0_countUnlikeSides 4 (some .int) 1 [2] (F_X0_countUnlikeSides pr_X0_countUnlikeSides po_X0_countUnlikeSides)) : zSnd zS 145 0 0 yX11_count cX11_count 2 (some .int) 6 [2, 0] (fun xs P M => ∃ a1 : Int, xs = [0, a1] ∧ vc_X11_count pr_X2_refresh po_X2_refresh pr_X4_countColours po_X4_countColours pr_X9_countLeaders po_X9_countLeaders pr_X8_countTold po_X8_countTold pr_X0_countUnlikeSides po_X0_countUnlikeSides a1 P M) := by
  refine zSnd.of rfl (fun ad xs hz => Nat.le_trans (Nat.le_of_eq (zlen ad _ xs hz)) (by decide)) ?_
  intro Γ C _ _ xs M hz hF
  obtain ⟨a1, rfl, h⟩ := hF
  have zz_a1 := zall_h (zall_t hz) (by decide)
  refine zr_rng (fun hR => ?_)
  have C : zC Γ mu_X11_count := C
  change zV Γ mu_X11_count (145, 0, 0) 0 [(0, zRf (zad Γ) 0), (1, zI a1)] [] M
  change vc_X11_count pr_X2_refresh po_X2_refresh pr_X4_countColours po_X4_countColours pr_X9_countLeaders po_X9_countLeaders pr_X8_countTold po_X8_countTold pr_X0_countUnlikeSides po_X0_countUnlikeSides a1 _ M at h
  unfold vc_X11_count at h
  refine zr_aload_n C 0 rfl (zdec_at dm_X11_count 0 rfl) rfl ?_
  refine zr_getr (q := 5) C fk_RX11_29 fi_0_1 (zdec_at dm_X11_count 1 rfl) ?_
  obtain ⟨g5, h⟩ := h
  refine zr_callV C [] hS_X2_refresh ck_RX11_158 iv_X2_refresh vc_X2 oc_5 rfl rfl (zdec_at dm_X11_count 2 rfl) ⟨rfl, rfl, rfl, rfl⟩ ⟨by decide, by decide⟩ (Nat.le_of_ble_eq_true rfl) zall_n ?_
  refine ⟨rfl, g5, fun M1 p4 _ hR2 => ?_⟩
  have h := h M1 p4 hR2
  show zV Γ mu_X11_count (145, 0, 0) 7 [(0, zRf (zad Γ) 0), (1, zI a1)] [] M1
  refine zr_iload_n C 1 rfl (zdec_at dm_X11_count 3 rfl) rfl ?_
  by_cases g8_0 : a1 = 0
  · have h := h.1 g8_0
    refine zr_tsin C 0 (g8_0.trans (by decide)) zz_a1 (by decide) (zdec_at dm_X11_count 4 rfl) rfl rfl ?_
    refine zr_aload_n C 0 rfl (zdec_at dm_X11_count 5 rfl) rfl ?_
    refine zr_getr (q := 1) C fk_RX11_25 fi_0_0 (zdec_at dm_X11_count 6 rfl) ?_
    refine zr_geti C fk_RX11_248 fi_1_0 (zdec_at dm_X11_count 7 rfl) ?_
    exact zr_ireturn C rfl (zdec_at dm_X11_count 8 rfl) rfl ⟨(hR2 _ _), h⟩
  · have h := h.2 g8_0
    by_cases g8_1 : a1 = 1
    · have h := h.1 g8_1
      refine zr_tsin C 1 (g8_1.trans (by decide)) zz_a1 (by decide) (zdec_at dm_X11_count 4 rfl) rfl rfl ?_
      refine zr_aload_n C 0 rfl (zdec_at dm_X11_count 9 rfl) rfl ?_
      refine zr_getr (q := 1) C fk_RX11_25 fi_0_0 (zdec_at dm_X11_count 10 rfl) ?_
      refine zr_geti C fk_RX11_245 fi_1_1 (zdec_at dm_X11_count 11 rfl) ?_
      exact zr_ireturn C rfl (zdec_at dm_X11_count 12 rfl) rfl ⟨(hR2 _ _), h⟩
    · have h := h.2 g8_1
      by_cases g8_2 : a1 = 2
      · have h := h.1 g8_2
        refine zr_tsin C 2 (g8_2.trans (by decide)) zz_a1 (by decide) (zdec_at dm_X11_count 4 rfl) rfl rfl ?_
        refine zr_aload_n C 0 rfl (zdec_at dm_X11_count 13 rfl) rfl ?_
        refine zr_getr (q := 5) C fk_RX11_29 fi_0_1 (zdec_at dm_X11_count 14 rfl) ?_
        refine zr_geti C fk_RX11_161 fi_5_2 (zdec_at dm_X11_count 15 rfl) ?_
        exact zr_ireturn C rfl (zdec_at dm_X11_count 16 rfl) rfl ⟨(hR2 _ _), h⟩
      · have h := h.2 g8_2
        by_cases g8_3 : a1 = 3
        · have h := h.1 g8_3
          refine zr_tsin C 3 (g8_3.trans (by decide)) zz_a1 (by decide) (zdec_at dm_X11_count 4 rfl) rfl rfl ?_
          refine zr_aload_n C 0 rfl (zdec_at dm_X11_count 17 rfl) rfl ?_
          refine zr_getr (q := 50) C fk_RX11_56 fi_0_5 (zdec_at dm_X11_count 18 rfl) ?_
          obtain ⟨g11, h⟩ := h
          refine zr_callV C [] hS_X4_countColours ck_RX11_361 iv_X4_countColours vc_X4 oc_50 rfl rfl (zdec_at dm_X11_count 19 rfl) ⟨rfl, rfl, rfl, rfl⟩ ⟨by decide, by decide⟩ (Nat.le_of_ble_eq_true rfl) zall_n ?_
          refine ⟨rfl, g11, fun r6 M7 p10 z9 hR8 => ?_⟩
          have h := h r6 M7 p10 z9 hR8
          show zV Γ mu_X11_count (145, 0, 0) 91 [(0, zRf (zad Γ) 0), (1, zI a1)] [zI r6] M7
          exact zr_ireturn C rfl (zdec_at dm_X11_count 20 rfl) rfl ⟨z9, h⟩
        · have h := h.2 g8_3
          by_cases g8_4 : a1 = 4
          · have h := h.1 g8_4
            refine zr_tsin C 4 (g8_4.trans (by decide)) zz_a1 (by decide) (zdec_at dm_X11_count 4 rfl) rfl rfl ?_
            refine zr_aload_n C 0 rfl (zdec_at dm_X11_count 21 rfl) rfl ?_
            refine zr_getr (q := 48) C fk_RX11_49 fi_0_4 (zdec_at dm_X11_count 22 rfl) ?_
            obtain ⟨g17, h⟩ := h
            refine zr_callV C [] hS_X9_countLeaders ck_RX11_364 iv_X9_countLeaders vc_X9 oc_48 rfl rfl (zdec_at dm_X11_count 23 rfl) ⟨rfl, rfl, rfl, rfl⟩ ⟨by decide, by decide⟩ (Nat.le_of_ble_eq_true rfl) zall_n ?_
            refine ⟨rfl, g17, fun r12 M13 p16 z15 hR14 => ?_⟩
            have h := h r12 M13 p16 z15 hR14
            show zV Γ mu_X11_count (145, 0, 0) 99 [(0, zRf (zad Γ) 0), (1, zI a1)] [zI r12] M13
            exact zr_ireturn C rfl (zdec_at dm_X11_count 24 rfl) rfl ⟨z15, h⟩
          · have h := h.2 g8_4
            by_cases g8_5 : a1 = 5
            · have h := h.1 g8_5
              refine zr_tsin C 5 (g8_5.trans (by decide)) zz_a1 (by decide) (zdec_at dm_X11_count 4 rfl) rfl rfl ?_
              refine zr_aload_n C 0 rfl (zdec_at dm_X11_count 25 rfl) rfl ?_
              refine zr_getr (q := 57) C fk_RX11_70 fi_0_7 (zdec_at dm_X11_count 26 rfl) ?_
              refine zr_geti C fk_RX11_317 fi_57_0 (zdec_at dm_X11_count 27 rfl) ?_
              exact zr_ireturn C rfl (zdec_at dm_X11_count 28 rfl) rfl ⟨(hR2 _ _), h⟩
            · have h := h.2 g8_5
              by_cases g8_6 : a1 = 6
              · have h := h.1 g8_6
                refine zr_tsin C 6 (g8_6.trans (by decide)) zz_a1 (by decide) (zdec_at dm_X11_count 4 rfl) rfl rfl ?_
                refine zr_aload_n C 0 rfl (zdec_at dm_X11_count 29 rfl) rfl ?_
                refine zr_getr (q := 57) C fk_RX11_70 fi_0_7 (zdec_at dm_X11_count 30 rfl) ?_
                obtain ⟨g23, h⟩ := h
                refine zr_callV C [] hS_X8_countTold ck_RX11_367 iv_X8_countTold vc_X8 oc_57 rfl rfl (zdec_at dm_X11_count 31 rfl) ⟨rfl, rfl, rfl, rfl⟩ ⟨by decide, by decide⟩ (Nat.le_of_ble_eq_true rfl) zall_n ?_
                refine ⟨rfl, g23, fun r18 M19 p22 z21 hR20 => ?_⟩
                have h := h r18 M19 p22 z21 hR20
                show zV Γ mu_X11_count (145, 0, 0) 115 [(0, zRf (zad Γ) 0), (1, zI a1)] [zI r18] M19
                exact zr_ireturn C rfl (zdec_at dm_X11_count 32 rfl) rfl ⟨z21, h⟩
              · have h := h.2 g8_6
                by_cases g8_7 : a1 = 7
                · have h := h.1 g8_7
                  refine zr_tsin C 7 (g8_7.trans (by decide)) zz_a1 (by decide) (zdec_at dm_X11_count 4 rfl) rfl rfl ?_
                  refine zr_aload_n C 0 rfl (zdec_at dm_X11_count 33 rfl) rfl ?_
                  refine zr_getr (q := 77) C fk_RX11_84 fi_0_9 (zdec_at dm_X11_count 34 rfl) ?_
                  refine zr_geti C fk_RX11_370 fi_77_0 (zdec_at dm_X11_count 35 rfl) ?_
                  exact zr_ireturn C rfl (zdec_at dm_X11_count 36 rfl) rfl ⟨(hR2 _ _), h⟩
                · have h := h.2 g8_7
                  by_cases g8_8 : a1 = 8
                  · have h := h.1 g8_8
                    refine zr_tsin C 8 (g8_8.trans (by decide)) zz_a1 (by decide) (zdec_at dm_X11_count 4 rfl) rfl rfl ?_
                    refine zr_aload_n C 0 rfl (zdec_at dm_X11_count 37 rfl) rfl ?_
                    refine zr_getr (q := 1) C fk_RX11_25 fi_0_0 (zdec_at dm_X11_count 38 rfl) ?_
                    obtain ⟨g29, h⟩ := h
                    refine zr_callV C [] hS_X0_countUnlikeSides ck_RX11_373 iv_X0_countUnlikeSides vc_X0 oc_1 rfl rfl (zdec_at dm_X11_count 39 rfl) ⟨rfl, rfl, rfl, rfl⟩ ⟨by decide, by decide⟩ (Nat.le_of_ble_eq_true rfl) zall_n ?_
                    refine ⟨rfl, g29, fun r24 M25 p28 z27 hR26 => ?_⟩
                    have h := h r24 M25 p28 z27 hR26
                    show zV Γ mu_X11_count (145, 0, 0) 131 [(0, zRf (zad Γ) 0), (1, zI a1)] [zI r24] M25
                    exact zr_ireturn C rfl (zdec_at dm_X11_count 40 rfl) rfl ⟨z27, h⟩
                  · have h := h.2 g8_8
                    refine zr_tsout C (zts_s 9 (zts_s 8 (zts_s 7 (zts_s 6 (zts_s 5 (zts_s 4 (zts_s 3 (zts_s 2 (zts_s 1 (zts_0 a1 0) g8_0) g8_1) g8_2) g8_3) g8_4) g8_5) g8_6) g8_7) g8_8) zz_a1 (zdec_at dm_X11_count 4 rfl) rfl ?_
                    refine zr_iconst C (zdec_at dm_X11_count 41 rfl) ?_
                    exact zr_ireturn C rfl (zdec_at dm_X11_count 42 rfl) rfl ⟨(by decide), h⟩

set_option maxHeartbeats 400000 in
set_option maxRecDepth 100000 in
theorem sn_X11_keep {pr_X11_shelfAt : Int → zM → Prop} {po_X11_shelfAt : Int → zM → Int → zM → Prop} {pr_X11_isFace : Int → zM → Prop} {po_X11_isFace : Int → zM → Int → zM → Prop} {pr_X1_trace : Int → zM → Prop} {po_X1_trace : Int → zM → zM → Prop} {pr_X9_greatestBreadth : Int → zM → Prop} {po_X9_greatestBreadth : Int → zM → Int → zM → Prop} {pr_X10_holdPiece : Int → Int → Int → Int → Int → Int → zM → Prop} {po_X10_holdPiece : Int → Int → Int → Int → Int → Int → zM → zM → Prop} {pr_X10_empty : Int → zM → Prop} {po_X10_empty : Int → zM → zM → Prop} (hS_X11_shelfAt : zSnd zS 145 0 0 yX11_shelfAt cX11_shelfAt 2 (some (.object "DotLines$Shelf")) 0 [2, 0] (F_X11_shelfAt pr_X11_shelfAt po_X11_shelfAt)) (hS_X11_isFace : zSnd zS 145 0 0 yX11_isFace cX11_isFace 2 (some .boolean) 4 [2, 0] (F_X11_isFace pr_X11_isFace po_X11_isFace)) (hS_X1_trace : zSnd zS 145 0 0 yX1_trace cX1_trace 8 none 3 [2, 0] (F_X1_trace pr_X1_trace po_X1_trace)) (hS_X9_greatestBreadth : zSnd zS 145 0 0 yX9_greatestBreadth cX9_greatestBreadth 5 (some .int) 2 [2, 0] (F_X9_greatestBreadth pr_X9_greatestBreadth po_X9_greatestBreadth)) (hS_X10_holdPiece : zSnd zS 145 0 0 yX10_holdPiece cX10_holdPiece 6 none 0 [2, 0, 0, 0, 0, 0] (F_X10_holdPiece pr_X10_holdPiece po_X10_holdPiece)) (hS_X10_empty : zSnd zS 145 0 0 yX10_empty cX10_empty 1 none 0 [2] (F_X10_empty pr_X10_empty po_X10_empty)) : zSnd zS 145 0 0 yX11_keep cX11_keep 11 (some .int) 5 [2, 0, 0, 0, 0, 0] (fun xs P M => ∃ a1 a2 a3 a4 a5 : Int, xs = [0, a1, a2, a3, a4, a5] ∧ vc_X11_keep pr_X11_shelfAt po_X11_shelfAt pr_X11_isFace po_X11_isFace pr_X1_trace po_X1_trace pr_X9_greatestBreadth po_X9_greatestBreadth pr_X10_holdPiece po_X10_holdPiece pr_X10_empty po_X10_empty a1 a2 a3 a4 a5 P M) := by
  refine zSnd.of rfl (fun ad xs hz => Nat.le_trans (Nat.le_of_eq (zlen ad _ xs hz)) (by decide)) ?_
  intro Γ C _ _ xs M hz hF
  obtain ⟨a1, a2, a3, a4, a5, rfl, h⟩ := hF
  have zz_a1 := zall_h (zall_t hz) (by decide)
  have zz_a2 := zall_h (zall_t (zall_t hz)) (by decide)
  have zz_a3 := zall_h (zall_t (zall_t (zall_t hz))) (by decide)
  have zz_a4 := zall_h (zall_t (zall_t (zall_t (zall_t hz)))) (by decide)
  have zz_a5 := zall_h (zall_t (zall_t (zall_t (zall_t (zall_t hz))))) (by decide)
  refine zr_rng (fun hR => ?_)
  have C : zC Γ mu_X11_keep := C
  change zV Γ mu_X11_keep (145, 0, 0) 0 [(0, zRf (zad Γ) 0), (1, zI a1), (2, zI a2), (3, zI a3), (4, zI a4), (5, zI a5)] [] M
  change vc_X11_keep pr_X11_shelfAt po_X11_shelfAt pr_X11_isFace po_X11_isFace pr_X1_trace po_X1_trace pr_X9_greatestBreadth po_X9_greatestBreadth pr_X10_holdPiece po_X10_holdPiece pr_X10_empty po_X10_empty a1 a2 a3 a4 a5 _ M at h
  unfold vc_X11_keep at h
  refine zr_aload_n C 0 rfl (zdec_at dm_X11_keep 0 rfl) rfl ?_
  refine zr_iload_n C 1 rfl (zdec_at dm_X11_keep 1 rfl) rfl ?_
  obtain ⟨g6, h⟩ := h
  refine zr_callV C [a1] hS_X11_shelfAt ck_RX11_103 iv_X11_shelfAt vc_X11 oc_0 rfl rfl (zdec_at dm_X11_keep 2 rfl) ⟨rfl, rfl, rfl, rfl⟩ ⟨by decide, by decide⟩ (Nat.le_of_ble_eq_true rfl) (zall_0 zz_a1 zall_n) ?_
  refine ⟨_, rfl, g6, fun r1 M2 p5 z4 hR3 => ?_⟩
  have h := h r1 M2 p5 z4 hR3
  show zV Γ mu_X11_keep (145, 0, 0) 5 [(0, zRf (zad Γ) 0), (1, zI a1), (2, zI a2), (3, zI a3), (4, zI a4), (5, zI a5)] [zA (zad Γ) r1] M2
  refine zr_astoreA (L1 := [(6, zA (zad Γ) r1), (0, zRf (zad Γ) 0), (1, zI a1), (2, zI a2), (3, zI a3), (4, zI a4), (5, zI a5)]) C (zdec_at dm_X11_keep 3 rfl) (Nat.le_of_ble_eq_true rfl) rfl ?_
  refine zr_aloadA C 0 rfl (zdec_at dm_X11_keep 4 rfl) ?_
  refine zr_ifnull C (zdec_at dm_X11_keep 5 rfl) rfl (fun g7 => ?_) (fun g7 => ?_)
  · have h := h.1 g7
    refine zr_iconst C (zdec_at dm_X11_keep 11 rfl) ?_
    exact zr_ireturn C rfl (zdec_at dm_X11_keep 12 rfl) rfl ⟨(by decide), h⟩
  · have h := h.2 g7
    rw [zA_pos g7]
    refine zr_iload_n C 3 rfl (zdec_at dm_X11_keep 6 rfl) rfl ?_
    refine zr_if_lt C zz_a2 (zdec_at dm_X11_keep 7 rfl) rfl (fun g8 => ?_) (fun g8 => ?_)
    · have h := h.1 g8
      refine zr_iconst C (zdec_at dm_X11_keep 11 rfl) ?_
      exact zr_ireturn C rfl (zdec_at dm_X11_keep 12 rfl) rfl ⟨(by decide), h⟩
    · have h := h.2 g8
      refine zr_iload_n C 3 rfl (zdec_at dm_X11_keep 8 rfl) rfl ?_
      refine zr_iconst C (zdec_at dm_X11_keep 9 rfl) ?_
      refine zr_icmp_le C zz_a2 (by decide) (zdec_at dm_X11_keep 10 rfl) rfl (fun g9 => ?_) (fun g9 => ?_)
      · have h := h.1 g9
        refine zr_iload_n C 3 rfl (zdec_at dm_X11_keep 13 rfl) rfl ?_
        refine zr_if_ne C zz_a2 (zdec_at dm_X11_keep 14 rfl) rfl (fun g10 => ?_) (fun g10 => ?_)
        · have h := h.1 g10
          refine zr_iload_n C 4 rfl (zdec_at dm_X11_keep 19 rfl) rfl ?_
          refine zr_if_lt C zz_a3 (zdec_at dm_X11_keep 20 rfl) rfl (fun g11 => ?_) (fun g11 => ?_)
          · have h := h.1 g11
            refine zr_iconst C (zdec_at dm_X11_keep 30 rfl) ?_
            exact zr_ireturn C rfl (zdec_at dm_X11_keep 31 rfl) rfl ⟨(by decide), h⟩
          · have h := h.2 g11
            refine zr_iload_n C 4 rfl (zdec_at dm_X11_keep 21 rfl) rfl ?_
            refine zr_iconst C (zdec_at dm_X11_keep 22 rfl) ?_
            refine zr_icmp_ge C zz_a3 (by decide) (zdec_at dm_X11_keep 23 rfl) rfl (fun g12 => ?_) (fun g12 => ?_)
            · have h := h.1 g12
              refine zr_iconst C (zdec_at dm_X11_keep 30 rfl) ?_
              exact zr_ireturn C rfl (zdec_at dm_X11_keep 31 rfl) rfl ⟨(by decide), h⟩
            · have h := h.2 g12
              refine zr_aload_n C 1 rfl (zdec_at dm_X11_keep 24 rfl) rfl ?_
              refine zr_iload C 5 rfl (zdec_at dm_X11_keep 25 rfl) ?_
              obtain ⟨g18, h⟩ := h
              refine zr_callV C [a4] hS_X11_isFace ck_RX11_177 iv_X11_isFace vc_X11 oc_0 rfl rfl (zdec_at dm_X11_keep 26 rfl) ⟨rfl, rfl, rfl, rfl⟩ ⟨by decide, by decide⟩ (Nat.le_of_ble_eq_true rfl) (zall_0 zz_a4 zall_n) ?_
              refine ⟨_, rfl, g18, fun r13 M14 p17 z16 hR15 => ?_⟩
              have h := h r13 M14 p17 z16 hR15
              show zV Γ mu_X11_keep (145, 0, 0) 49 [(6, zRf (zad Γ) r1), (0, zRf (zad Γ) 0), (1, zI a1), (2, zI a2), (3, zI a3), (4, zI a4), (5, zI a5)] [zI r13] M14
              refine zr_if_eq C z16 (zdec_at dm_X11_keep 27 rfl) rfl (fun g19 => ?_) (fun g19 => ?_)
              · have h := h.1 g19
                refine zr_iconst C (zdec_at dm_X11_keep 30 rfl) ?_
                exact zr_ireturn C rfl (zdec_at dm_X11_keep 31 rfl) rfl ⟨(by decide), h⟩
              · have h := h.2 g19
                refine zr_iload C 6 rfl (zdec_at dm_X11_keep 28 rfl) ?_
                refine zr_if_ge C zz_a5 (zdec_at dm_X11_keep 29 rfl) rfl (fun g20 => ?_) (fun g20 => ?_)
                · have h := h.1 g20
                  refine zr_aload_n C 1 rfl (zdec_at dm_X11_keep 32 rfl) rfl ?_
                  refine zr_getr (q := 17) C fk_RX11_33 fi_0_2 (zdec_at dm_X11_keep 33 rfl) ?_
                  refine zr_iload C 5 rfl (zdec_at dm_X11_keep 34 rfl) ?_
                  obtain ⟨g25, h⟩ := h
                  refine zr_callV C [a4] hS_X1_trace ck_RX11_212 iv_X1_trace vc_X1 oc_17 rfl rfl (zdec_at dm_X11_keep 35 rfl) ⟨rfl, rfl, rfl, rfl⟩ ⟨by decide, by decide⟩ (Nat.le_of_ble_eq_true rfl) (zall_0 zz_a4 zall_n) ?_
                  refine ⟨_, rfl, g25, fun M21 p24 _ hR22 => ?_⟩
                  have h := h M21 p24 hR22
                  show zV Γ mu_X11_keep (145, 0, 0) 68 [(6, zRf (zad Γ) r1), (0, zRf (zad Γ) 0), (1, zI a1), (2, zI a2), (3, zI a3), (4, zI a4), (5, zI a5)] [] M21
                  refine zr_iload C 6 rfl (zdec_at dm_X11_keep 36 rfl) ?_
                  refine zr_sipush C (zdec_at dm_X11_keep 37 rfl) (by decide) ?_
                  obtain ⟨o26, h⟩ := h
                  refine zr_idiv C zz_a5 (by decide) ⟨o26, by decide⟩ (zdec_at dm_X11_keep 38 rfl) ?_
                  refine zr_istore (L1 := [(7, zI (a5 / 1000)), (6, zRf (zad Γ) r1), (0, zRf (zad Γ) 0), (1, zI a1), (2, zI a2), (3, zI a3), (4, zI a4), (5, zI a5)]) C (zdec_at dm_X11_keep 39 rfl) (Nat.le_of_ble_eq_true rfl) rfl ?_
                  refine zr_iload C 7 rfl (zdec_at dm_X11_keep 40 rfl) ?_
                  refine zr_sipush C (zdec_at dm_X11_keep 41 rfl) (by decide) ?_
                  refine zr_irem C zz_a5 (by decide) ⟨o26, by decide⟩ (zdec_at dm_X11_keep 42 rfl) ?_
                  refine zr_istore (L1 := [(8, zI (a5 % 1000)), (7, zI (a5 / 1000)), (6, zRf (zad Γ) r1), (0, zRf (zad Γ) 0), (1, zI a1), (2, zI a2), (3, zI a3), (4, zI a4), (5, zI a5)]) C (zdec_at dm_X11_keep 43 rfl) (Nat.le_of_ble_eq_true rfl) rfl ?_
                  refine zr_iload C 1 rfl (zdec_at dm_X11_keep 44 rfl) ?_
                  refine zr_aload_n C 3 rfl (zdec_at dm_X11_keep 45 rfl) rfl ?_
                  refine zr_getr (q := 17) C fk_RX11_33 fi_0_2 (zdec_at dm_X11_keep 46 rfl) ?_
                  refine zr_geti C fk_RX11_225 fi_17_1 (zdec_at dm_X11_keep 47 rfl) ?_
                  refine zr_icmp_gt C (z_dz2 (a := a5) (b := 1000) ⟨o26, by decide⟩ zz_a5) (hR22 _ _) (zdec_at dm_X11_keep 48 rfl) rfl (fun g27 => ?_) (fun g27 => ?_)
                  · have h := h.1 g27
                    refine zr_iconst C (zdec_at dm_X11_keep 54 rfl) ?_
                    exact zr_ireturn C rfl (zdec_at dm_X11_keep 55 rfl) rfl ⟨(by decide), h⟩
                  · have h := h.2 g27
                    refine zr_iload C 0 rfl (zdec_at dm_X11_keep 49 rfl) ?_
                    refine zr_aload_n C 3 rfl (zdec_at dm_X11_keep 50 rfl) rfl ?_
                    refine zr_getr (q := 17) C fk_RX11_33 fi_0_2 (zdec_at dm_X11_keep 51 rfl) ?_
                    refine zr_geti C fk_RX11_225 fi_17_1 (zdec_at dm_X11_keep 52 rfl) ?_
                    refine zr_icmp_le C (z_rz (a := a5) (b := 1000) ⟨o26, by decide⟩ (by decide)) (hR22 _ _) (zdec_at dm_X11_keep 53 rfl) rfl (fun g28 => ?_) (fun g28 => ?_)
                    · have h := h.1 g28
                      refine zr_aload_n C 3 rfl (zdec_at dm_X11_keep 56 rfl) rfl ?_
                      refine zr_getr (q := 17) C fk_RX11_33 fi_0_2 (zdec_at dm_X11_keep 57 rfl) ?_
                      refine zr_getr (q := 19) C fk_RX11_200 fi_17_3 (zdec_at dm_X11_keep 58 rfl) ?_
                      refine zr_iload C 0 rfl (zdec_at dm_X11_keep 59 rfl) ?_
                      obtain ⟨o29, h⟩ := h
                      refine zr_iald C ai_19 o29 (zdec_at dm_X11_keep 60 rfl) ?_
                      refine zr_aload_n C 3 rfl (zdec_at dm_X11_keep 61 rfl) rfl ?_
                      refine zr_getr (q := 17) C fk_RX11_33 fi_0_2 (zdec_at dm_X11_keep 62 rfl) ?_
                      refine zr_getr (q := 19) C fk_RX11_200 fi_17_3 (zdec_at dm_X11_keep 63 rfl) ?_
                      refine zr_iload C 1 rfl (zdec_at dm_X11_keep 64 rfl) ?_
                      obtain ⟨o30, h⟩ := h
                      refine zr_iald C ai_19 o30 (zdec_at dm_X11_keep 65 rfl) ?_
                      refine zr_isub C (zdec_at dm_X11_keep 66 rfl) ?_
                      obtain ⟨o31, h⟩ := h
                      refine zr_mabs C o31 mk_RX11_379 kw_mabs_s kw_mini kw_mabs_c (by decide) ⟨rfl, rfl⟩ (Nat.le_of_ble_eq_true rfl) (zdec_at dm_X11_keep 67 rfl) ?_
                      refine zr_istore (L1 := [(9, zI (max ((M21 19 (a5 % 1000)) - (M21 19 (a5 / 1000))) (-((M21 19 (a5 % 1000)) - (M21 19 (a5 / 1000)))))), (8, zI (a5 % 1000)), (7, zI (a5 / 1000)), (6, zRf (zad Γ) r1), (0, zRf (zad Γ) 0), (1, zI a1), (2, zI a2), (3, zI a3), (4, zI a4), (5, zI a5)]) C (zdec_at dm_X11_keep 68 rfl) (Nat.le_of_ble_eq_true rfl) rfl ?_
                      refine zr_aload_n C 4 rfl (zdec_at dm_X11_keep 69 rfl) rfl ?_
                      refine zr_getr (q := 17) C fk_RX11_33 fi_0_2 (zdec_at dm_X11_keep 70 rfl) ?_
                      refine zr_getr (q := 20) C fk_RX11_203 fi_17_4 (zdec_at dm_X11_keep 71 rfl) ?_
                      refine zr_iload C 1 rfl (zdec_at dm_X11_keep 72 rfl) ?_
                      refine zr_iald C ai_20 o29 (zdec_at dm_X11_keep 73 rfl) ?_
                      refine zr_aload_n C 4 rfl (zdec_at dm_X11_keep 74 rfl) rfl ?_
                      refine zr_getr (q := 17) C fk_RX11_33 fi_0_2 (zdec_at dm_X11_keep 75 rfl) ?_
                      refine zr_getr (q := 20) C fk_RX11_203 fi_17_4 (zdec_at dm_X11_keep 76 rfl) ?_
                      refine zr_iload C 2 rfl (zdec_at dm_X11_keep 77 rfl) ?_
                      refine zr_iald C ai_20 o30 (zdec_at dm_X11_keep 78 rfl) ?_
                      refine zr_isub C (zdec_at dm_X11_keep 79 rfl) ?_
                      obtain ⟨o32, h⟩ := h
                      refine zr_mabs C o32 mk_RX11_379 kw_mabs_s kw_mini kw_mabs_c (by decide) ⟨rfl, rfl⟩ (Nat.le_of_ble_eq_true rfl) (zdec_at dm_X11_keep 80 rfl) ?_
                      refine zr_istore (L1 := [(10, zI (max ((M21 20 (a5 % 1000)) - (M21 20 (a5 / 1000))) (-((M21 20 (a5 % 1000)) - (M21 20 (a5 / 1000)))))), (9, zI (max ((M21 19 (a5 % 1000)) - (M21 19 (a5 / 1000))) (-((M21 19 (a5 % 1000)) - (M21 19 (a5 / 1000)))))), (8, zI (a5 % 1000)), (7, zI (a5 / 1000)), (6, zRf (zad Γ) r1), (0, zRf (zad Γ) 0), (1, zI a1), (2, zI a2), (3, zI a3), (4, zI a4), (5, zI a5)]) C (zdec_at dm_X11_keep 81 rfl) (Nat.le_of_ble_eq_true rfl) rfl ?_
                      refine zr_aload C 4 rfl (zdec_at dm_X11_keep 82 rfl) ?_
                      refine zr_iload_n C 8 rfl (zdec_at dm_X11_keep 83 rfl) rfl ?_
                      refine zr_iload C 9 rfl (zdec_at dm_X11_keep 84 rfl) ?_
                      refine zr_iload C 1 rfl (zdec_at dm_X11_keep 85 rfl) ?_
                      refine zr_iload C 0 rfl (zdec_at dm_X11_keep 86 rfl) ?_
                      refine zr_aload_n C 5 rfl (zdec_at dm_X11_keep 87 rfl) rfl ?_
                      refine zr_getr (q := 48) C fk_RX11_49 fi_0_4 (zdec_at dm_X11_keep 88 rfl) ?_
                      refine zr_iload C 9 rfl (zdec_at dm_X11_keep 89 rfl) ?_
                      obtain ⟨g38, h⟩ := h
                      refine zr_callV C [a4] hS_X9_greatestBreadth ck_RX11_263 iv_X9_greatestBreadth vc_X9 oc_48 rfl rfl (zdec_at dm_X11_keep 90 rfl) ⟨rfl, rfl, rfl, rfl⟩ ⟨by decide, by decide⟩ (Nat.le_of_ble_eq_true rfl) (zall_0 zz_a4 zall_n) ?_
                      refine ⟨_, rfl, g38, fun r33 M34 p37 z36 hR35 => ?_⟩
                      have h := h r33 M34 p37 z36 hR35
                      show zV Γ mu_X11_keep (145, 0, 0) 180 [(10, zI (max ((M21 20 (a5 % 1000)) - (M21 20 (a5 / 1000))) (-((M21 20 (a5 % 1000)) - (M21 20 (a5 / 1000)))))), (9, zI (max ((M21 19 (a5 % 1000)) - (M21 19 (a5 / 1000))) (-((M21 19 (a5 % 1000)) - (M21 19 (a5 / 1000)))))), (8, zI (a5 % 1000)), (7, zI (a5 / 1000)), (6, zRf (zad Γ) r1), (0, zRf (zad Γ) 0), (1, zI a1), (2, zI a2), (3, zI a3), (4, zI a4), (5, zI a5)] [zI r33, zI (max ((M21 20 (a5 % 1000)) - (M21 20 (a5 / 1000))) (-((M21 20 (a5 % 1000)) - (M21 20 (a5 / 1000))))), zI (max ((M21 19 (a5 % 1000)) - (M21 19 (a5 / 1000))) (-((M21 19 (a5 % 1000)) - (M21 19 (a5 / 1000))))), zI a4, zI a3, zRf (zad Γ) r1] M34
                      obtain ⟨o39, h⟩ := h
                      obtain ⟨o40, h⟩ := h
                      obtain ⟨o46, h⟩ := h
                      obtain ⟨g45, h⟩ := h
                      refine zr_callV C [a3, a4, (max ((M21 19 (a5 % 1000)) - (M21 19 (a5 / 1000))) (-((M21 19 (a5 % 1000)) - (M21 19 (a5 / 1000))))), (max ((M21 20 (a5 % 1000)) - (M21 20 (a5 / 1000))) (-((M21 20 (a5 % 1000)) - (M21 20 (a5 / 1000))))), r33] hS_X10_holdPiece ck_RX11_382 iv_X10_holdPiece vc_X10 (zsh_o o46) rfl rfl (zdec_at dm_X11_keep 91 rfl) ⟨rfl, rfl, rfl, rfl⟩ ⟨by decide, by decide⟩ (Nat.le_of_ble_eq_true rfl) (zall_0 zz_a3 (zall_0 zz_a4 (zall_0 o40 (zall_0 o39 (zall_0 z36 zall_n))))) ?_
                      refine ⟨_, _, _, _, _, _, rfl, g45, fun M41 p44 _ hR42 => ?_⟩
                      have h := h M41 p44 hR42
                      show zV Γ mu_X11_keep (145, 0, 0) 183 [(10, zI (max ((M21 20 (a5 % 1000)) - (M21 20 (a5 / 1000))) (-((M21 20 (a5 % 1000)) - (M21 20 (a5 / 1000)))))), (9, zI (max ((M21 19 (a5 % 1000)) - (M21 19 (a5 / 1000))) (-((M21 19 (a5 % 1000)) - (M21 19 (a5 / 1000)))))), (8, zI (a5 % 1000)), (7, zI (a5 / 1000)), (6, zRf (zad Γ) r1), (0, zRf (zad Γ) 0), (1, zI a1), (2, zI a2), (3, zI a3), (4, zI a4), (5, zI a5)] [] M41
                      refine zr_iconst C (zdec_at dm_X11_keep 92 rfl) ?_
                      exact zr_ireturn C rfl (zdec_at dm_X11_keep 93 rfl) rfl ⟨(by decide), h⟩
                    · have h := h.2 g28
                      refine zr_iconst C (zdec_at dm_X11_keep 54 rfl) ?_
                      exact zr_ireturn C rfl (zdec_at dm_X11_keep 55 rfl) rfl ⟨(by decide), h⟩
                · have h := h.2 g20
                  refine zr_iconst C (zdec_at dm_X11_keep 30 rfl) ?_
                  exact zr_ireturn C rfl (zdec_at dm_X11_keep 31 rfl) rfl ⟨(by decide), h⟩
        · have h := h.2 g10
          refine zr_aload C 0 rfl (zdec_at dm_X11_keep 15 rfl) ?_
          obtain ⟨o52, h⟩ := h
          obtain ⟨g51, h⟩ := h
          refine zr_callV C [] hS_X10_empty ck_RX11_376 iv_X10_empty vc_X10 (zsh_o o52) rfl rfl (zdec_at dm_X11_keep 16 rfl) ⟨rfl, rfl, rfl, rfl⟩ ⟨by decide, by decide⟩ (Nat.le_of_ble_eq_true rfl) zall_n ?_
          refine ⟨_, rfl, g51, fun M47 p50 _ hR48 => ?_⟩
          have h := h M47 p50 hR48
          show zV Γ mu_X11_keep (145, 0, 0) 32 [(6, zRf (zad Γ) r1), (0, zRf (zad Γ) 0), (1, zI a1), (2, zI a2), (3, zI a3), (4, zI a4), (5, zI a5)] [] M47
          refine zr_iconst C (zdec_at dm_X11_keep 17 rfl) ?_
          exact zr_ireturn C rfl (zdec_at dm_X11_keep 18 rfl) rfl ⟨(by decide), h⟩
      · have h := h.2 g9
        refine zr_iconst C (zdec_at dm_X11_keep 11 rfl) ?_
        exact zr_ireturn C rfl (zdec_at dm_X11_keep 12 rfl) rfl ⟨(by decide), h⟩

set_option maxHeartbeats 400000 in
set_option maxRecDepth 100000 in
theorem sn_X11_row {pr_X11_shelfAt : Int → zM → Prop} {po_X11_shelfAt : Int → zM → Int → zM → Prop} {pr_X10_holdRow : Int → Int → Int → zM → Prop} {po_X10_holdRow : Int → Int → Int → zM → zM → Prop} (hS_X11_shelfAt : zSnd zS 145 0 0 yX11_shelfAt cX11_shelfAt 2 (some (.object "DotLines$Shelf")) 0 [2, 0] (F_X11_shelfAt pr_X11_shelfAt po_X11_shelfAt)) (hS_X10_holdRow : zSnd zS 145 0 0 yX10_holdRow cX10_holdRow 3 none 1 [2, 0, 0] (F_X10_holdRow pr_X10_holdRow po_X10_holdRow)) : zSnd zS 145 0 0 yX11_row cX11_row 5 (some .int) 2 [2, 0, 0, 0] (fun xs P M => ∃ a1 a2 a3 : Int, xs = [0, a1, a2, a3] ∧ vc_X11_row pr_X11_shelfAt po_X11_shelfAt pr_X10_holdRow po_X10_holdRow a1 a2 a3 P M) := by
  refine zSnd.of rfl (fun ad xs hz => Nat.le_trans (Nat.le_of_eq (zlen ad _ xs hz)) (by decide)) ?_
  intro Γ C _ _ xs M hz hF
  obtain ⟨a1, a2, a3, rfl, h⟩ := hF
  have zz_a1 := zall_h (zall_t hz) (by decide)
  have zz_a2 := zall_h (zall_t (zall_t hz)) (by decide)
  have zz_a3 := zall_h (zall_t (zall_t (zall_t hz))) (by decide)
  refine zr_rng (fun hR => ?_)
  have C : zC Γ mu_X11_row := C
  change zV Γ mu_X11_row (145, 0, 0) 0 [(0, zRf (zad Γ) 0), (1, zI a1), (2, zI a2), (3, zI a3)] [] M
  change vc_X11_row pr_X11_shelfAt po_X11_shelfAt pr_X10_holdRow po_X10_holdRow a1 a2 a3 _ M at h
  unfold vc_X11_row at h
  refine zr_aload_n C 0 rfl (zdec_at dm_X11_row 0 rfl) rfl ?_
  refine zr_iload_n C 1 rfl (zdec_at dm_X11_row 1 rfl) rfl ?_
  obtain ⟨g6, h⟩ := h
  refine zr_callV C [a1] hS_X11_shelfAt ck_RX11_103 iv_X11_shelfAt vc_X11 oc_0 rfl rfl (zdec_at dm_X11_row 2 rfl) ⟨rfl, rfl, rfl, rfl⟩ ⟨by decide, by decide⟩ (Nat.le_of_ble_eq_true rfl) (zall_0 zz_a1 zall_n) ?_
  refine ⟨_, rfl, g6, fun r1 M2 p5 z4 hR3 => ?_⟩
  have h := h r1 M2 p5 z4 hR3
  show zV Γ mu_X11_row (145, 0, 0) 5 [(0, zRf (zad Γ) 0), (1, zI a1), (2, zI a2), (3, zI a3)] [zA (zad Γ) r1] M2
  refine zr_astoreA (L1 := [(4, zA (zad Γ) r1), (0, zRf (zad Γ) 0), (1, zI a1), (2, zI a2), (3, zI a3)]) C (zdec_at dm_X11_row 3 rfl) (Nat.le_of_ble_eq_true rfl) rfl ?_
  refine zr_aloadA C 0 rfl (zdec_at dm_X11_row 4 rfl) ?_
  refine zr_ifnull C (zdec_at dm_X11_row 5 rfl) rfl (fun g7 => ?_) (fun g7 => ?_)
  · have h := h.1 g7
    refine zr_iconst C (zdec_at dm_X11_row 14 rfl) ?_
    exact zr_ireturn C rfl (zdec_at dm_X11_row 15 rfl) rfl ⟨(by decide), h⟩
  · have h := h.2 g7
    rw [zA_pos g7]
    refine zr_iload_n C 3 rfl (zdec_at dm_X11_row 6 rfl) rfl ?_
    refine zr_if_lt C zz_a2 (zdec_at dm_X11_row 7 rfl) rfl (fun g8 => ?_) (fun g8 => ?_)
    · have h := h.1 g8
      refine zr_iconst C (zdec_at dm_X11_row 14 rfl) ?_
      exact zr_ireturn C rfl (zdec_at dm_X11_row 15 rfl) rfl ⟨(by decide), h⟩
    · have h := h.2 g8
      refine zr_iload_n C 3 rfl (zdec_at dm_X11_row 8 rfl) rfl ?_
      refine zr_iconst C (zdec_at dm_X11_row 9 rfl) ?_
      refine zr_icmp_gt C zz_a2 (by decide) (zdec_at dm_X11_row 10 rfl) rfl (fun g9 => ?_) (fun g9 => ?_)
      · have h := h.1 g9
        refine zr_iconst C (zdec_at dm_X11_row 14 rfl) ?_
        exact zr_ireturn C rfl (zdec_at dm_X11_row 15 rfl) rfl ⟨(by decide), h⟩
      · have h := h.2 g9
        refine zr_iload_n C 4 rfl (zdec_at dm_X11_row 11 rfl) rfl ?_
        refine zr_bipush C (zdec_at dm_X11_row 12 rfl) (by decide) ?_
        refine zr_icmp_le C zz_a3 (by decide) (zdec_at dm_X11_row 13 rfl) rfl (fun g10 => ?_) (fun g10 => ?_)
        · have h := h.1 g10
          refine zr_iload_n C 4 rfl (zdec_at dm_X11_row 16 rfl) rfl ?_
          refine zr_if_ge C zz_a3 (zdec_at dm_X11_row 17 rfl) rfl (fun g11 => ?_) (fun g11 => ?_)
          · have h := h.1 g11
            refine zr_aload C 0 rfl (zdec_at dm_X11_row 20 rfl) ?_
            refine zr_iload_n C 3 rfl (zdec_at dm_X11_row 21 rfl) rfl ?_
            refine zr_iload_n C 4 rfl (zdec_at dm_X11_row 22 rfl) rfl ?_
            obtain ⟨o17, h⟩ := h
            obtain ⟨g16, h⟩ := h
            refine zr_callV C [a2, a3] hS_X10_holdRow ck_RX11_386 iv_X10_holdRow vc_X10 (zsh_o o17) rfl rfl (zdec_at dm_X11_row 23 rfl) ⟨rfl, rfl, rfl, rfl⟩ ⟨by decide, by decide⟩ (Nat.le_of_ble_eq_true rfl) (zall_0 zz_a2 (zall_0 zz_a3 zall_n)) ?_
            refine ⟨_, _, _, rfl, g16, fun M12 p15 _ hR13 => ?_⟩
            have h := h M12 p15 hR13
            show zV Γ mu_X11_row (145, 0, 0) 43 [(4, zRf (zad Γ) r1), (0, zRf (zad Γ) 0), (1, zI a1), (2, zI a2), (3, zI a3)] [] M12
            refine zr_iconst C (zdec_at dm_X11_row 24 rfl) ?_
            exact zr_ireturn C rfl (zdec_at dm_X11_row 25 rfl) rfl ⟨(by decide), h⟩
          · have h := h.2 g11
            refine zr_bipush C (zdec_at dm_X11_row 18 rfl) (by decide) ?_
            exact zr_ireturn C rfl (zdec_at dm_X11_row 19 rfl) rfl ⟨(by decide), h⟩
        · have h := h.2 g10
          refine zr_iconst C (zdec_at dm_X11_row 14 rfl) ?_
          exact zr_ireturn C rfl (zdec_at dm_X11_row 15 rfl) rfl ⟨(by decide), h⟩

set_option maxHeartbeats 400000 in
set_option maxRecDepth 100000 in
theorem sn_X11_put {pr_X11_shelfAt : Int → zM → Prop} {po_X11_shelfAt : Int → zM → Int → zM → Prop} {pr_X10_set : Int → Int → Int → zM → Prop} {po_X10_set : Int → Int → Int → zM → zM → Prop} (hS_X11_shelfAt : zSnd zS 145 0 0 yX11_shelfAt cX11_shelfAt 2 (some (.object "DotLines$Shelf")) 0 [2, 0] (F_X11_shelfAt pr_X11_shelfAt po_X11_shelfAt)) (hS_X10_set : zSnd zS 145 0 0 yX10_set cX10_set 3 none 0 [2, 0, 0] (F_X10_set pr_X10_set po_X10_set)) : zSnd zS 145 0 0 yX11_put cX11_put 5 (some .int) 1 [2, 0, 0, 0] (fun xs P M => ∃ a1 a2 a3 : Int, xs = [0, a1, a2, a3] ∧ vc_X11_put pr_X11_shelfAt po_X11_shelfAt pr_X10_set po_X10_set a1 a2 a3 P M) := by
  refine zSnd.of rfl (fun ad xs hz => Nat.le_trans (Nat.le_of_eq (zlen ad _ xs hz)) (by decide)) ?_
  intro Γ C _ _ xs M hz hF
  obtain ⟨a1, a2, a3, rfl, h⟩ := hF
  have zz_a1 := zall_h (zall_t hz) (by decide)
  have zz_a2 := zall_h (zall_t (zall_t hz)) (by decide)
  have zz_a3 := zall_h (zall_t (zall_t (zall_t hz))) (by decide)
  refine zr_rng (fun hR => ?_)
  have C : zC Γ mu_X11_put := C
  change zV Γ mu_X11_put (145, 0, 0) 0 [(0, zRf (zad Γ) 0), (1, zI a1), (2, zI a2), (3, zI a3)] [] M
  change vc_X11_put pr_X11_shelfAt po_X11_shelfAt pr_X10_set po_X10_set a1 a2 a3 _ M at h
  unfold vc_X11_put at h
  refine zr_aload_n C 0 rfl (zdec_at dm_X11_put 0 rfl) rfl ?_
  refine zr_iload_n C 1 rfl (zdec_at dm_X11_put 1 rfl) rfl ?_
  obtain ⟨g6, h⟩ := h
  refine zr_callV C [a1] hS_X11_shelfAt ck_RX11_103 iv_X11_shelfAt vc_X11 oc_0 rfl rfl (zdec_at dm_X11_put 2 rfl) ⟨rfl, rfl, rfl, rfl⟩ ⟨by decide, by decide⟩ (Nat.le_of_ble_eq_true rfl) (zall_0 zz_a1 zall_n) ?_
  refine ⟨_, rfl, g6, fun r1 M2 p5 z4 hR3 => ?_⟩
  have h := h r1 M2 p5 z4 hR3
  show zV Γ mu_X11_put (145, 0, 0) 5 [(0, zRf (zad Γ) 0), (1, zI a1), (2, zI a2), (3, zI a3)] [zA (zad Γ) r1] M2
  refine zr_astoreA (L1 := [(4, zA (zad Γ) r1), (0, zRf (zad Γ) 0), (1, zI a1), (2, zI a2), (3, zI a3)]) C (zdec_at dm_X11_put 3 rfl) (Nat.le_of_ble_eq_true rfl) rfl ?_
  refine zr_aloadA C 0 rfl (zdec_at dm_X11_put 4 rfl) ?_
  refine zr_ifnonnull C (zdec_at dm_X11_put 5 rfl) rfl (fun g7 => ?_) (fun g7 => ?_)
  · have h := h.1 g7
    rw [zA_pos g7]
    refine zr_aload C 0 rfl (zdec_at dm_X11_put 8 rfl) ?_
    obtain ⟨o8, h⟩ := h
    refine zr_geti C fk_RX11_389 (zsh_f o8 0 (by decide)) (zdec_at dm_X11_put 9 rfl) ?_
    refine zr_if_ne C (hR3 _ _) (zdec_at dm_X11_put 10 rfl) rfl (fun g9 => ?_) (fun g9 => ?_)
    · have h := h.1 g9
      refine zr_aload C 0 rfl (zdec_at dm_X11_put 13 rfl) ?_
      refine zr_geti C fk_RX11_389 (zsh_f o8 0 (by decide)) (zdec_at dm_X11_put 14 rfl) ?_
      refine zr_iconst C (zdec_at dm_X11_put 15 rfl) ?_
      refine zr_icmp_eq C (hR3 _ _) (by decide) (zdec_at dm_X11_put 16 rfl) rfl (fun g10 => ?_) (fun g10 => ?_)
      · have h := h.1 g10
        refine zr_iload_n C 3 rfl (zdec_at dm_X11_put 19 rfl) rfl ?_
        refine zr_if_lt C zz_a2 (zdec_at dm_X11_put 20 rfl) rfl (fun g11 => ?_) (fun g11 => ?_)
        · have h := h.1 g11
          refine zr_bipush C (zdec_at dm_X11_put 25 rfl) (by decide) ?_
          exact zr_ireturn C rfl (zdec_at dm_X11_put 26 rfl) rfl ⟨(by decide), h⟩
        · have h := h.2 g11
          refine zr_iload_n C 3 rfl (zdec_at dm_X11_put 21 rfl) rfl ?_
          refine zr_aload C 0 rfl (zdec_at dm_X11_put 22 rfl) ?_
          refine zr_geti C fk_RX11_111 (zsh_f o8 2 (by decide)) (zdec_at dm_X11_put 23 rfl) ?_
          refine zr_icmp_lt C zz_a2 (hR3 _ _) (zdec_at dm_X11_put 24 rfl) rfl (fun g12 => ?_) (fun g12 => ?_)
          · have h := h.1 g12
            refine zr_aload C 0 rfl (zdec_at dm_X11_put 27 rfl) ?_
            refine zr_iload_n C 3 rfl (zdec_at dm_X11_put 28 rfl) rfl ?_
            refine zr_iload_n C 4 rfl (zdec_at dm_X11_put 29 rfl) rfl ?_
            obtain ⟨g17, h⟩ := h
            refine zr_callV C [a2, a3] hS_X10_set ck_RX11_392 iv_X10_set vc_X10 (zsh_o o8) rfl rfl (zdec_at dm_X11_put 30 rfl) ⟨rfl, rfl, rfl, rfl⟩ ⟨by decide, by decide⟩ (Nat.le_of_ble_eq_true rfl) (zall_0 zz_a2 (zall_0 zz_a3 zall_n)) ?_
            refine ⟨_, _, _, rfl, g17, fun M13 p16 _ hR14 => ?_⟩
            have h := h M13 p16 hR14
            show zV Γ mu_X11_put (145, 0, 0) 60 [(4, zRf (zad Γ) r1), (0, zRf (zad Γ) 0), (1, zI a1), (2, zI a2), (3, zI a3)] [] M13
            refine zr_iconst C (zdec_at dm_X11_put 31 rfl) ?_
            exact zr_ireturn C rfl (zdec_at dm_X11_put 32 rfl) rfl ⟨(by decide), h⟩
          · have h := h.2 g12
            refine zr_bipush C (zdec_at dm_X11_put 25 rfl) (by decide) ?_
            exact zr_ireturn C rfl (zdec_at dm_X11_put 26 rfl) rfl ⟨(by decide), h⟩
      · have h := h.2 g10
        refine zr_bipush C (zdec_at dm_X11_put 17 rfl) (by decide) ?_
        exact zr_ireturn C rfl (zdec_at dm_X11_put 18 rfl) rfl ⟨(by decide), h⟩
    · have h := h.2 g9
      refine zr_bipush C (zdec_at dm_X11_put 11 rfl) (by decide) ?_
      exact zr_ireturn C rfl (zdec_at dm_X11_put 12 rfl) rfl ⟨(by decide), h⟩
  · have h := h.2 g7
    refine zr_iconst C (zdec_at dm_X11_put 6 rfl) ?_
    exact zr_ireturn C rfl (zdec_at dm_X11_put 7 rfl) rfl ⟨(by decide), h⟩

set_option maxHeartbeats 400000 in
set_option maxRecDepth 100000 in
theorem sn_X11_copy {pr_X11_shelfAt : Int → zM → Prop} {po_X11_shelfAt : Int → zM → Int → zM → Prop} {pr_X10_hasPlaces : Int → Int → Int → zM → Prop} {po_X10_hasPlaces : Int → Int → Int → zM → Int → zM → Prop} (hS_X11_shelfAt : zSnd zS 145 0 0 yX11_shelfAt cX11_shelfAt 2 (some (.object "DotLines$Shelf")) 0 [2, 0] (F_X11_shelfAt pr_X11_shelfAt po_X11_shelfAt)) (hS_X10_hasPlaces : zSnd zS 145 0 0 yX10_hasPlaces cX10_hasPlaces 3 (some .boolean) 0 [2, 0, 0] (F_X10_hasPlaces pr_X10_hasPlaces po_X10_hasPlaces)) : zSnd zS 145 0 0 yX11_copy cX11_copy 8 (some .int) 1 [2, 0, 0, 0, 0, 0] (fun xs P M => ∃ a1 a2 a3 a4 a5 : Int, xs = [0, a1, a2, a3, a4, a5] ∧ vc_X11_copy pr_X11_shelfAt po_X11_shelfAt pr_X10_hasPlaces po_X10_hasPlaces a1 a2 a3 a4 a5 P M) := by
  refine zSnd.of rfl (fun ad xs hz => Nat.le_trans (Nat.le_of_eq (zlen ad _ xs hz)) (by decide)) ?_
  intro Γ C _ _ xs M hz hF
  obtain ⟨a1, a2, a3, a4, a5, rfl, h⟩ := hF
  have zz_a1 := zall_h (zall_t hz) (by decide)
  have zz_a2 := zall_h (zall_t (zall_t hz)) (by decide)
  have zz_a3 := zall_h (zall_t (zall_t (zall_t hz))) (by decide)
  have zz_a4 := zall_h (zall_t (zall_t (zall_t (zall_t hz)))) (by decide)
  have zz_a5 := zall_h (zall_t (zall_t (zall_t (zall_t (zall_t hz))))) (by decide)
  refine zr_rng (fun hR => ?_)
  have C : zC Γ mu_X11_copy := C
  change zV Γ mu_X11_copy (145, 0, 0) 0 [(0, zRf (zad Γ) 0), (1, zI a1), (2, zI a2), (3, zI a3), (4, zI a4), (5, zI a5)] [] M
  change vc_X11_copy pr_X11_shelfAt po_X11_shelfAt pr_X10_hasPlaces po_X10_hasPlaces a1 a2 a3 a4 a5 _ M at h
  unfold vc_X11_copy at h
  refine zr_aload_n C 0 rfl (zdec_at dm_X11_copy 0 rfl) rfl ?_
  refine zr_iload_n C 1 rfl (zdec_at dm_X11_copy 1 rfl) rfl ?_
  obtain ⟨g6, h⟩ := h
  refine zr_callV C [a1] hS_X11_shelfAt ck_RX11_103 iv_X11_shelfAt vc_X11 oc_0 rfl rfl (zdec_at dm_X11_copy 2 rfl) ⟨rfl, rfl, rfl, rfl⟩ ⟨by decide, by decide⟩ (Nat.le_of_ble_eq_true rfl) (zall_0 zz_a1 zall_n) ?_
  refine ⟨_, rfl, g6, fun r1 M2 p5 z4 hR3 => ?_⟩
  have h := h r1 M2 p5 z4 hR3
  show zV Γ mu_X11_copy (145, 0, 0) 5 [(0, zRf (zad Γ) 0), (1, zI a1), (2, zI a2), (3, zI a3), (4, zI a4), (5, zI a5)] [zA (zad Γ) r1] M2
  refine zr_astoreA (L1 := [(6, zA (zad Γ) r1), (0, zRf (zad Γ) 0), (1, zI a1), (2, zI a2), (3, zI a3), (4, zI a4), (5, zI a5)]) C (zdec_at dm_X11_copy 3 rfl) (Nat.le_of_ble_eq_true rfl) rfl ?_
  refine zr_aload_n C 1 rfl (zdec_at dm_X11_copy 4 rfl) rfl ?_
  refine zr_iload_n C 4 rfl (zdec_at dm_X11_copy 5 rfl) rfl ?_
  obtain ⟨g12, h⟩ := h
  refine zr_callV C [a3] hS_X11_shelfAt ck_RX11_103 iv_X11_shelfAt vc_X11 oc_0 rfl rfl (zdec_at dm_X11_copy 6 rfl) ⟨rfl, rfl, rfl, rfl⟩ ⟨by decide, by decide⟩ (Nat.le_of_ble_eq_true rfl) (zall_0 zz_a3 zall_n) ?_
  refine ⟨_, rfl, g12, fun r7 M8 p11 z10 hR9 => ?_⟩
  have h := h r7 M8 p11 z10 hR9
  show zV Γ mu_X11_copy (145, 0, 0) 12 [(6, zA (zad Γ) r1), (0, zRf (zad Γ) 0), (1, zI a1), (2, zI a2), (3, zI a3), (4, zI a4), (5, zI a5)] [zA (zad Γ) r7] M8
  refine zr_astoreA (L1 := [(7, zA (zad Γ) r7), (6, zA (zad Γ) r1), (0, zRf (zad Γ) 0), (1, zI a1), (2, zI a2), (3, zI a3), (4, zI a4), (5, zI a5)]) C (zdec_at dm_X11_copy 7 rfl) (Nat.le_of_ble_eq_true rfl) (by simp [zA_cat]) ?_
  refine zr_aloadA C 1 rfl (zdec_at dm_X11_copy 8 rfl) ?_
  refine zr_ifnull C (zdec_at dm_X11_copy 9 rfl) rfl (fun g13 => ?_) (fun g13 => ?_)
  · have h := h.1 g13
    refine zr_iconst C (zdec_at dm_X11_copy 12 rfl) ?_
    exact zr_ireturn C rfl (zdec_at dm_X11_copy 13 rfl) rfl ⟨(by decide), h⟩
  · have h := h.2 g13
    rw [zA_pos g13]
    refine zr_aloadA C 0 rfl (zdec_at dm_X11_copy 10 rfl) ?_
    refine zr_ifnonnull C (zdec_at dm_X11_copy 11 rfl) rfl (fun g14 => ?_) (fun g14 => ?_)
    · have h := h.1 g14
      rw [zA_pos g14]
      refine zr_aload C 1 rfl (zdec_at dm_X11_copy 14 rfl) ?_
      obtain ⟨o15, h⟩ := h
      refine zr_geti C fk_RX11_389 (zsh_f o15 0 (by decide)) (zdec_at dm_X11_copy 15 rfl) ?_
      refine zr_if_eq C (hR9 _ _) (zdec_at dm_X11_copy 16 rfl) rfl (fun g16 => ?_) (fun g16 => ?_)
      · have h := h.1 g16
        refine zr_bipush C (zdec_at dm_X11_copy 20 rfl) (by decide) ?_
        exact zr_ireturn C rfl (zdec_at dm_X11_copy 21 rfl) rfl ⟨(by decide), h⟩
      · have h := h.2 g16
        refine zr_aload C 0 rfl (zdec_at dm_X11_copy 17 rfl) ?_
        obtain ⟨o17, h⟩ := h
        refine zr_geti C fk_RX11_389 (zsh_f o17 0 (by decide)) (zdec_at dm_X11_copy 18 rfl) ?_
        refine zr_if_ne C (hR9 _ _) (zdec_at dm_X11_copy 19 rfl) rfl (fun g18 => ?_) (fun g18 => ?_)
        · have h := h.1 g18
          refine zr_aload C 1 rfl (zdec_at dm_X11_copy 22 rfl) ?_
          refine zr_geti C fk_RX11_389 (zsh_f o15 0 (by decide)) (zdec_at dm_X11_copy 23 rfl) ?_
          refine zr_iconst C (zdec_at dm_X11_copy 24 rfl) ?_
          refine zr_icmp_ne C (hR9 _ _) (by decide) (zdec_at dm_X11_copy 25 rfl) rfl (fun g19 => ?_) (fun g19 => ?_)
          · have h := h.1 g19
            refine zr_bipush C (zdec_at dm_X11_copy 35 rfl) (by decide) ?_
            exact zr_ireturn C rfl (zdec_at dm_X11_copy 36 rfl) rfl ⟨(by decide), h⟩
          · have h := h.2 g19
            refine zr_aload C 0 rfl (zdec_at dm_X11_copy 26 rfl) ?_
            refine zr_geti C fk_RX11_389 (zsh_f o17 0 (by decide)) (zdec_at dm_X11_copy 27 rfl) ?_
            refine zr_iconst C (zdec_at dm_X11_copy 28 rfl) ?_
            refine zr_icmp_ne C (hR9 _ _) (by decide) (zdec_at dm_X11_copy 29 rfl) rfl (fun g20 => ?_) (fun g20 => ?_)
            · have h := h.1 g20
              refine zr_bipush C (zdec_at dm_X11_copy 35 rfl) (by decide) ?_
              exact zr_ireturn C rfl (zdec_at dm_X11_copy 36 rfl) rfl ⟨(by decide), h⟩
            · have h := h.2 g20
              refine zr_aload C 1 rfl (zdec_at dm_X11_copy 30 rfl) ?_
              refine zr_geti C fk_RX11_409 (zsh_f o15 1 (by decide)) (zdec_at dm_X11_copy 31 rfl) ?_
              refine zr_aload C 0 rfl (zdec_at dm_X11_copy 32 rfl) ?_
              refine zr_geti C fk_RX11_409 (zsh_f o17 1 (by decide)) (zdec_at dm_X11_copy 33 rfl) ?_
              refine zr_icmp_eq C (hR9 _ _) (hR9 _ _) (zdec_at dm_X11_copy 34 rfl) rfl (fun g21 => ?_) (fun g21 => ?_)
              · have h := h.1 g21
                refine zr_iload C 7 rfl (zdec_at dm_X11_copy 37 rfl) ?_
                refine zr_if_lt C zz_a5 (zdec_at dm_X11_copy 38 rfl) rfl (fun g22 => ?_) (fun g22 => ?_)
                · have h := h.1 g22
                  refine zr_bipush C (zdec_at dm_X11_copy 49 rfl) (by decide) ?_
                  exact zr_ireturn C rfl (zdec_at dm_X11_copy 50 rfl) rfl ⟨(by decide), h⟩
                · have h := h.2 g22
                  refine zr_aload C 1 rfl (zdec_at dm_X11_copy 39 rfl) ?_
                  refine zr_iload_n C 4 rfl (zdec_at dm_X11_copy 40 rfl) rfl ?_
                  refine zr_iload C 7 rfl (zdec_at dm_X11_copy 41 rfl) ?_
                  obtain ⟨g28, h⟩ := h
                  refine zr_callV C [a2, a5] hS_X10_hasPlaces ck_RX11_412 iv_X10_hasPlaces vc_X10 (zsh_o o15) rfl rfl (zdec_at dm_X11_copy 42 rfl) ⟨rfl, rfl, rfl, rfl⟩ ⟨by decide, by decide⟩ (Nat.le_of_ble_eq_true rfl) (zall_0 zz_a2 (zall_0 zz_a5 zall_n)) ?_
                  refine ⟨_, _, _, rfl, g28, fun r23 M24 p27 z26 hR25 => ?_⟩
                  have h := h r23 M24 p27 z26 hR25
                  show zV Γ mu_X11_copy (145, 0, 0) 92 [(7, zRf (zad Γ) r7), (6, zRf (zad Γ) r1), (0, zRf (zad Γ) 0), (1, zI a1), (2, zI a2), (3, zI a3), (4, zI a4), (5, zI a5)] [zI r23] M24
                  refine zr_if_eq C z26 (zdec_at dm_X11_copy 43 rfl) rfl (fun g29 => ?_) (fun g29 => ?_)
                  · have h := h.1 g29
                    refine zr_bipush C (zdec_at dm_X11_copy 49 rfl) (by decide) ?_
                    exact zr_ireturn C rfl (zdec_at dm_X11_copy 50 rfl) rfl ⟨(by decide), h⟩
                  · have h := h.2 g29
                    refine zr_aload C 0 rfl (zdec_at dm_X11_copy 44 rfl) ?_
                    refine zr_iload C 6 rfl (zdec_at dm_X11_copy 45 rfl) ?_
                    refine zr_iload C 7 rfl (zdec_at dm_X11_copy 46 rfl) ?_
                    obtain ⟨g35, h⟩ := h
                    refine zr_callV C [a4, a5] hS_X10_hasPlaces ck_RX11_412 iv_X10_hasPlaces vc_X10 (zsh_o o17) rfl rfl (zdec_at dm_X11_copy 47 rfl) ⟨rfl, rfl, rfl, rfl⟩ ⟨by decide, by decide⟩ (Nat.le_of_ble_eq_true rfl) (zall_0 zz_a4 (zall_0 zz_a5 zall_n)) ?_
                    refine ⟨_, _, _, rfl, g35, fun r30 M31 p34 z33 hR32 => ?_⟩
                    have h := h r30 M31 p34 z33 hR32
                    show zV Γ mu_X11_copy (145, 0, 0) 104 [(7, zRf (zad Γ) r7), (6, zRf (zad Γ) r1), (0, zRf (zad Γ) 0), (1, zI a1), (2, zI a2), (3, zI a3), (4, zI a4), (5, zI a5)] [zI r30] M31
                    refine zr_if_ne C z33 (zdec_at dm_X11_copy 48 rfl) rfl (fun g36 => ?_) (fun g36 => ?_)
                    · have h := h.1 g36
                      refine zr_aload C 1 rfl (zdec_at dm_X11_copy 51 rfl) ?_
                      refine zr_getr (q := (r1 + 1)) C fk_RX11_107 (zsh_v o15) (zdec_at dm_X11_copy 52 rfl) ?_
                      refine zr_iload_n C 4 rfl (zdec_at dm_X11_copy 53 rfl) rfl ?_
                      refine zr_aload C 0 rfl (zdec_at dm_X11_copy 54 rfl) ?_
                      refine zr_getr (q := (r7 + 1)) C fk_RX11_107 (zsh_v o17) (zdec_at dm_X11_copy 55 rfl) ?_
                      refine zr_iload C 6 rfl (zdec_at dm_X11_copy 56 rfl) ?_
                      refine zr_iload C 7 rfl (zdec_at dm_X11_copy 57 rfl) ?_
                      obtain ⟨o37, h⟩ := h
                      refine zr_copy C (by decide) (zsh_a o15) (zsh_a o17) o37 (fun q => absurd q (by decide)) rfl (by decide) kw_copy_RX11_415 kw_cnat kw_cstat kw_cini (zdec_at dm_X11_copy 58 rfl) (fun M38 e39 => ?_)
                      have h := h M38 e39
                      have hR40 : zRng M38 := by rw [e39]; exact hR32.cpy _ _ _ _ _
                      refine zr_iload C 7 rfl (zdec_at dm_X11_copy 59 rfl) ?_
                      exact zr_ireturn C rfl (zdec_at dm_X11_copy 60 rfl) rfl ⟨zz_a5, h⟩
                    · have h := h.2 g36
                      refine zr_bipush C (zdec_at dm_X11_copy 49 rfl) (by decide) ?_
                      exact zr_ireturn C rfl (zdec_at dm_X11_copy 50 rfl) rfl ⟨(by decide), h⟩
              · have h := h.2 g21
                refine zr_bipush C (zdec_at dm_X11_copy 35 rfl) (by decide) ?_
                exact zr_ireturn C rfl (zdec_at dm_X11_copy 36 rfl) rfl ⟨(by decide), h⟩
        · have h := h.2 g18
          refine zr_bipush C (zdec_at dm_X11_copy 20 rfl) (by decide) ?_
          exact zr_ireturn C rfl (zdec_at dm_X11_copy 21 rfl) rfl ⟨(by decide), h⟩
    · have h := h.2 g14
      refine zr_iconst C (zdec_at dm_X11_copy 12 rfl) ?_
      exact zr_ireturn C rfl (zdec_at dm_X11_copy 13 rfl) rfl ⟨(by decide), h⟩

