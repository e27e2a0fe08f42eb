abbrev mu2_X7_read : zMc := (cX7_read, RX7, 4, (some .boolean), 41, zS, 145, 0, 0)
set_option maxHeartbeats 400000 in
set_option maxRecDepth 100000 in
theorem sn2_X7_read {pr_X7_byteAhead : zM → Prop} {po_X7_byteAhead : zM → Int → zM → Prop} {pr_X7_take : Int → zM → Prop} {po_X7_take : Int → zM → zM → Prop} {pr_X7_readOr : Int → zM → Prop} {po_X7_readOr : Int → zM → Int → zM → Prop} {pr_X7_stop : zM → Prop} {po_X7_stop : zM → zM → Prop} (hS_X7_byteAhead : zSnd zS 145 0 0 yX7_byteAhead cX7_byteAhead 1 (some .int) 0 [2] (F_X7_byteAhead pr_X7_byteAhead po_X7_byteAhead)) (hS_X7_take : zSnd zS 145 0 0 yX7_take cX7_take 2 none 1 [2, 0] (F_X7_take pr_X7_take po_X7_take)) (hS_X7_readOr : zSnd zS 145 0 0 yX7_readOr cX7_readOr 5 (some .boolean) 40 [2, 0] (F_X7_readOr pr_X7_readOr po_X7_readOr)) (hS_X7_stop : zSnd zS 145 0 0 yX7_stop cX7_stop 1 none 0 [2] (F_X7_stop pr_X7_stop po_X7_stop)) : zSnd zS 145 0 0 yX7_read cX7_read 4 (some .boolean) 41 [2, 2, 0] (fun xs P M => ∃ a1 a2 : Int, xs = [74, a1, a2] ∧ vc_X7_read pr_X7_byteAhead po_X7_byteAhead pr_X7_take po_X7_take pr_X7_readOr po_X7_readOr pr_X7_stop po_X7_stop a1 a2 P M) := by
  refine zSnd.of rfl (fun ad xs hz => Nat.le_trans (Nat.le_of_eq (zlen ad _ xs hz)) (by decide)) ?_
  intro Γ C _ _ xs M hz hF
  obtain ⟨a1, a2, rfl, h⟩ := hF
  have zz_a2 := zall_h (zall_t (zall_t hz)) (by decide)
  refine zr_rng (fun hR => ?_)
  have C : zC Γ mu2_X7_read := C
  change zV Γ mu2_X7_read (145, 0, 0) 0 [(0, zRf (zad Γ) 74), (1, zRf (zad Γ) a1), (2, zI a2)] [] M
  change vc_X7_read pr_X7_byteAhead po_X7_byteAhead pr_X7_take po_X7_take pr_X7_readOr po_X7_readOr pr_X7_stop po_X7_stop a1 a2 _ M at h
  unfold vc_X7_read at h
  refine zr_aload_n C 0 rfl (zdec_at dm_X7_read 0 rfl) rfl ?_
  refine zr_aload_n C 1 rfl (zdec_at dm_X7_read 1 rfl) rfl ?_
  obtain ⟨o1, h⟩ := h
  obtain ⟨o2, h⟩ := h
  refine zr_putm C fk_RX7_15 fi_74_2 o1 o2 (zdec_at dm_X7_read 2 rfl) (fun M3 e4 => ?_)
  have h := h M3 e4
  have hR5 : zRng M3 := by rw [e4]; exact hR.set o1 _ _
  refine zr_aload_n C 0 rfl (zdec_at dm_X7_read 3 rfl) rfl ?_
  refine zr_iload_n C 2 rfl (zdec_at dm_X7_read 4 rfl) rfl ?_
  refine zr_aload_n C 1 rfl (zdec_at dm_X7_read 5 rfl) rfl ?_
  obtain ⟨o6, h⟩ := h
  refine zr_alen C (by decide) o6 (zdec_at dm_X7_read 6 rfl) ?_
  rw [zln_i]
  refine zr_mmin C zz_a2 (zln_z o6) mk_RX7_22 kw_mmin_s kw_mini kw_mmin_c (by decide) ⟨rfl, rfl⟩ (Nat.le_of_ble_eq_true rfl) (zdec_at dm_X7_read 7 rfl) (fun z7 => ?_)
  refine zr_puti C fk_RX7_28 fi_74_3 z7 (zdec_at dm_X7_read 8 rfl) (fun M8 e9 => ?_)
  have h := h M8 e9
  have hR10 : zRng M8 := by rw [e9]; exact hR5.set z7 _ _
  refine zr_aload_n C 0 rfl (zdec_at dm_X7_read 9 rfl) rfl ?_
  refine zr_iconst C (zdec_at dm_X7_read 10 rfl) ?_
  refine zr_puti C fk_RX7_31 fi_74_4 (by decide) (zdec_at dm_X7_read 11 rfl) (fun M11 e12 => ?_)
  have h := h M11 e12
  have hR13 : zRng M11 := by rw [e12]; exact hR10.set (by decide) _ _
  refine zr_aload_n C 0 rfl (zdec_at dm_X7_read 12 rfl) rfl ?_
  refine zr_bipush C (zdec_at dm_X7_read 13 rfl) (by decide) ?_
  refine zr_puti C fk_RX7_18 fi_74_1 (by decide) (zdec_at dm_X7_read 14 rfl) (fun M14 e15 => ?_)
  have h := h M14 e15
  have hR16 : zRng M14 := by rw [e15]; exact hR13.set (by decide) _ _
  refine zr_aload_n C 0 rfl (zdec_at dm_X7_read 15 rfl) rfl ?_
  obtain ⟨g22, h⟩ := h
  refine zr_callV C [] hS_X7_byteAhead ck_RX7_34 iv_X7_byteAhead vc_X7 oc_74 rfl rfl (zdec_at dm_X7_read 16 rfl) ⟨rfl, rfl, rfl, rfl⟩ ⟨by decide, by decide⟩ (Nat.le_of_ble_eq_true rfl) zall_n ?_
  refine ⟨rfl, g22, fun r17 M18 p21 z20 hR19 => ?_⟩
  have h := h r17 M18 p21 z20 hR19
  show zV Γ mu2_X7_read (145, 0, 0) 30 [(0, zRf (zad Γ) 74), (1, zRf (zad Γ) a1), (2, zI a2)] [zI r17] M18
  refine zr_bipush C (zdec_at dm_X7_read 17 rfl) (by decide) ?_
  have h := h (fun M23 => zRng M23 → zV Γ mu2_X7_read (145, 0, 0) 61 [(0, zRf (zad Γ) 74)] [] M23) (fun M23 h hR24 => by
    have h := h hR24
    refine zr_aload_n C 0 rfl (zdec_at dm_X7_read 32 rfl) rfl ?_
    refine zr_bipush C (zdec_at dm_X7_read 33 rfl) (by decide) ?_
    obtain ⟨g29, h⟩ := h
    refine zr_callV C [58] hS_X7_take ck_RX7_41 iv_X7_take vc_X7 oc_74 rfl rfl (zdec_at dm_X7_read 34 rfl) ⟨rfl, rfl, rfl, rfl⟩ ⟨by decide, by decide⟩ (Nat.le_of_ble_eq_true rfl) (zall_0 (by decide) zall_n) ?_
    refine ⟨_, rfl, g29, fun M25 p28 _ hR26 => ?_⟩
    have h := h M25 p28 hR26
    show zV Γ mu2_X7_read (145, 0, 0) 67 [(0, zRf (zad Γ) 74)] [] M25
    refine zr_aload_n C 0 rfl (zdec_at dm_X7_read 35 rfl) rfl ?_
    refine zr_iconst C (zdec_at dm_X7_read 36 rfl) ?_
    obtain ⟨g35, h⟩ := h
    refine zr_callV C [0] hS_X7_readOr ck_RX7_45 iv_X7_readOr vc_X7 oc_74 rfl rfl (zdec_at dm_X7_read 37 rfl) ⟨rfl, rfl, rfl, rfl⟩ ⟨by decide, by decide⟩ (Nat.le_of_ble_eq_true rfl) (zall_0 (by decide) zall_n) ?_
    refine ⟨_, rfl, g35, fun r30 M31 p34 z33 hR32 => ?_⟩
    have h := h r30 M31 p34 z33 hR32
    show zV Γ mu2_X7_read (145, 0, 0) 72 [(0, zRf (zad Γ) 74)] [zI r30] M31
    refine zr_istore_n (L1 := [(3, zI r30), (0, zRf (zad Γ) 74)]) C (zdec_at dm_X7_read 38 rfl) rfl (Nat.le_of_ble_eq_true rfl) rfl ?_
    refine zr_aload_n C 1 rfl (zdec_at dm_X7_read 39 rfl) rfl ?_
    refine zr_geti C fk_RX7_31 fi_74_4 (zdec_at dm_X7_read 40 rfl) ?_
    refine zr_aload_n C 1 rfl (zdec_at dm_X7_read 41 rfl) rfl ?_
    refine zr_geti C fk_RX7_28 fi_74_3 (zdec_at dm_X7_read 42 rfl) ?_
    refine zr_icmp_ge C (hR32 _ _) (hR32 _ _) (zdec_at dm_X7_read 43 rfl) rfl (fun g36 => ?_) (fun g36 => ?_)
    · have h := h.1 g36
      refine zr_iload_n C 0 rfl (zdec_at dm_X7_read 46 rfl) rfl ?_
      obtain ⟨o37, h⟩ := h
      exact zr_zreturn C rfl o37 (zdec_at dm_X7_read 47 rfl) rfl ⟨z33, h⟩
    · have h := h.2 g36
      refine zr_aload_n C 1 rfl (zdec_at dm_X7_read 44 rfl) rfl ?_
      obtain ⟨g42, h⟩ := h
      refine zr_callV C [] hS_X7_stop ck_RX7_38 iv_X7_stop vc_X7 oc_74 rfl rfl (zdec_at dm_X7_read 45 rfl) ⟨rfl, rfl, rfl, rfl⟩ ⟨by decide, by decide⟩ (Nat.le_of_ble_eq_true rfl) zall_n ?_
      refine ⟨rfl, g42, fun M38 p41 _ hR39 => ?_⟩
      have h := h M38 p41 hR39
      show zV Γ mu2_X7_read (145, 0, 0) 88 [(3, zI r30), (0, zRf (zad Γ) 74)] [] M38
      refine zr_iload_n C 0 rfl (zdec_at dm_X7_read 46 rfl) rfl ?_
      obtain ⟨o43, h⟩ := h
      exact zr_zreturn C rfl o43 (zdec_at dm_X7_read 47 rfl) rfl ⟨z33, h⟩)
  have h := h (fun M44 => zRng M44 → zV Γ mu2_X7_read (145, 0, 0) 57 [(0, zRf (zad Γ) 74)] [] M44) (fun M44 h hR45 => by
    have h := h hR45
    refine zr_aload_n C 0 rfl (zdec_at dm_X7_read 30 rfl) rfl ?_
    obtain ⟨g50, h⟩ := h
    refine zr_callV C [] hS_X7_stop ck_RX7_38 iv_X7_stop vc_X7 oc_74 rfl rfl (zdec_at dm_X7_read 31 rfl) ⟨rfl, rfl, rfl, rfl⟩ ⟨by decide, by decide⟩ (Nat.le_of_ble_eq_true rfl) zall_n ?_
    refine ⟨rfl, g50, fun M46 p49 _ hR47 => ?_⟩
    have h := h M46 p49 hR47
    show zV Γ mu2_X7_read (145, 0, 0) 61 [(0, zRf (zad Γ) 74)] [] M46
    exact zr_sub [0] rfl (h hR47))
  refine zr_icmp_lt C z20 (by decide) (zdec_at dm_X7_read 18 rfl) rfl (fun g51 => ?_) (fun g51 => ?_)
  · have h := h.1 g51
    exact zr_sub [0] rfl (h hR19)
  · have h := h.2 g51
    refine zr_aload_n C 0 rfl (zdec_at dm_X7_read 19 rfl) rfl ?_
    obtain ⟨g57, h⟩ := h
    refine zr_callV C [] hS_X7_byteAhead ck_RX7_34 iv_X7_byteAhead vc_X7 oc_74 rfl rfl (zdec_at dm_X7_read 20 rfl) ⟨rfl, rfl, rfl, rfl⟩ ⟨by decide, by decide⟩ (Nat.le_of_ble_eq_true rfl) zall_n ?_
    refine ⟨rfl, g57, fun r52 M53 p56 z55 hR54 => ?_⟩
    have h := h r52 M53 p56 z55 hR54
    show zV Γ mu2_X7_read (145, 0, 0) 39 [(0, zRf (zad Γ) 74), (1, zRf (zad Γ) a1), (2, zI a2)] [zI r52] M53
    refine zr_bipush C (zdec_at dm_X7_read 21 rfl) (by decide) ?_
    refine zr_icmp_gt C z55 (by decide) (zdec_at dm_X7_read 22 rfl) rfl (fun g58 => ?_) (fun g58 => ?_)
    · have h := h.1 g58
      exact zr_sub [0] rfl (h hR54)
    · have h := h.2 g58
      refine zr_aload_n C 0 rfl (zdec_at dm_X7_read 23 rfl) rfl ?_
      refine zr_dup C rfl (zdec_at dm_X7_read 24 rfl) ?_
      refine zr_geti C fk_RX7_31 fi_74_4 (zdec_at dm_X7_read 25 rfl) ?_
      refine zr_iconst C (zdec_at dm_X7_read 26 rfl) ?_
      refine zr_iadd C (zdec_at dm_X7_read 27 rfl) ?_
      obtain ⟨o59, h⟩ := h
      refine zr_puti C fk_RX7_31 fi_74_4 o59 (zdec_at dm_X7_read 28 rfl) (fun M60 e61 => ?_)
      have h := h M60 e61
      have hR62 : zRng M60 := by rw [e61]; exact hR54.set o59 _ _
      refine zr_goto C (zdec_at dm_X7_read 29 rfl) rfl ?_
      exact zr_sub [0] rfl (h hR62)

abbrev mu2_X11_ruleFault : zMc := (cX11_ruleFault, RX11, 4, (some .int), 42, zS, 145, 0, 0)
set_option maxHeartbeats 400000 in
set_option maxRecDepth 100000 in
theorem sn2_X11_ruleFault {pr_X11_refusalOfText : Int → zM → Prop} {po_X11_refusalOfText : Int → zM → Int → zM → Prop} {pr_X11_shelfAt : Int → zM → Prop} {po_X11_shelfAt : Int → zM → Int → zM → Prop} {pr_X7_read : Int → Int → zM → Prop} {po_X7_read : Int → Int → zM → Int → zM → Prop} (hS_X11_refusalOfText : zSnd zS 145 0 0 yX11_refusalOfText cX11_refusalOfText 3 (some .int) 1 [2, 0] (F_X11_refusalOfText pr_X11_refusalOfText po_X11_refusalOfText)) (hS_X11_shelfAt : zSnd zS 145 0 0 yX11_shelfAt cX11_shelfAt 2 (some (.object "DotLines$Shelf")) 0 [2, 0] (F_X11_shelfAt pr_X11_shelfAt po_X11_shelfAt)) (hS_X7_read : zSnd zS 145 0 0 yX7_read cX7_read 4 (some .boolean) 41 [2, 2, 0] (F_X7_read pr_X7_read po_X7_read)) : zSnd zS 145 0 0 yX11_ruleFault cX11_ruleFault 4 (some .int) 42 [2, 0] (fun xs P M => ∃ a1 : Int, xs = [0, a1] ∧ vc_X11_ruleFault pr_X11_refusalOfText po_X11_refusalOfText pr_X11_shelfAt po_X11_shelfAt pr_X7_read po_X7_read a1 P M) := by
  refine zSnd.of rfl (fun ad xs hz => Nat.le_trans (Nat.le_of_eq (zlen ad _ xs hz)) (by decide)) ?_
  intro Γ C _ _ xs M hz hF
  obtain ⟨a1, rfl, h⟩ := hF
  have zz_a1 := zall_h (zall_t hz) (by decide)
  refine zr_rng (fun hR => ?_)
  have C : zC Γ mu2_X11_ruleFault := C
  change zV Γ mu2_X11_ruleFault (145, 0, 0) 0 [(0, zRf (zad Γ) 0), (1, zI a1)] [] M
  change vc_X11_ruleFault pr_X11_refusalOfText po_X11_refusalOfText pr_X11_shelfAt po_X11_shelfAt pr_X7_read po_X7_read a1 _ M at h
  unfold vc_X11_ruleFault at h
  refine zr_aload_n C 0 rfl (zdec_at dm_X11_ruleFault 0 rfl) rfl ?_
  refine zr_iload_n C 1 rfl (zdec_at dm_X11_ruleFault 1 rfl) rfl ?_
  obtain ⟨g6, h⟩ := h
  refine zr_callV C [a1] hS_X11_refusalOfText ck_RX11_99 iv_X11_refusalOfText vc_X11 oc_0 rfl rfl (zdec_at dm_X11_ruleFault 2 rfl) ⟨rfl, rfl, rfl, rfl⟩ ⟨by decide, by decide⟩ (Nat.le_of_ble_eq_true rfl) (zall_0 zz_a1 zall_n) ?_
  refine ⟨_, rfl, g6, fun r1 M2 p5 z4 hR3 => ?_⟩
  have h := h r1 M2 p5 z4 hR3
  show zV Γ mu2_X11_ruleFault (145, 0, 0) 5 [(0, zRf (zad Γ) 0), (1, zI a1)] [zI r1] M2
  refine zr_istore_n (L1 := [(2, zI r1), (0, zRf (zad Γ) 0), (1, zI a1)]) C (zdec_at dm_X11_ruleFault 3 rfl) rfl (Nat.le_of_ble_eq_true rfl) rfl ?_
  refine zr_aload_n C 1 rfl (zdec_at dm_X11_ruleFault 4 rfl) rfl ?_
  refine zr_iload_n C 2 rfl (zdec_at dm_X11_ruleFault 5 rfl) rfl ?_
  obtain ⟨g12, h⟩ := h
  refine zr_callV C [a1] hS_X11_shelfAt ck_RX11_103 iv_X11_shelfAt vc_X11 oc_0 rfl rfl (zdec_at dm_X11_ruleFault 6 rfl) ⟨rfl, rfl, rfl, rfl⟩ ⟨by decide, by decide⟩ (Nat.le_of_ble_eq_true rfl) (zall_0 zz_a1 zall_n) ?_
  refine ⟨_, rfl, g12, fun r7 M8 p11 z10 hR9 => ?_⟩
  have h := h r7 M8 p11 z10 hR9
  show zV Γ mu2_X11_ruleFault (145, 0, 0) 11 [(2, zI r1), (0, zRf (zad Γ) 0), (1, zI a1)] [zA (zad Γ) r7] M8
  refine zr_astoreA_n (L1 := [(3, zA (zad Γ) r7), (2, zI r1), (0, zRf (zad Γ) 0), (1, zI a1)]) C (zdec_at dm_X11_ruleFault 7 rfl) rfl (Nat.le_of_ble_eq_true rfl) rfl ?_
  refine zr_iload_n C 1 rfl (zdec_at dm_X11_ruleFault 8 rfl) rfl ?_
  refine zr_if_lt C z4 (zdec_at dm_X11_ruleFault 9 rfl) rfl (fun g13 => ?_) (fun g13 => ?_)
  · have h := h.1 g13
    refine zr_iload_n C 1 rfl (zdec_at dm_X11_ruleFault 12 rfl) rfl ?_
    exact zr_ireturn C rfl (zdec_at dm_X11_ruleFault 13 rfl) rfl ⟨z4, h⟩
  · have h := h.2 g13
    refine zr_aloadA_n C 0 rfl (zdec_at dm_X11_ruleFault 10 rfl) rfl ?_
    refine zr_ifnonnull C (zdec_at dm_X11_ruleFault 11 rfl) rfl (fun g14 => ?_) (fun g14 => ?_)
    · have h := h.1 g14
      rw [zA_pos g14]
      refine zr_aload_n C 2 rfl (zdec_at dm_X11_ruleFault 14 rfl) rfl ?_
      refine zr_getr (q := 74) C fk_RX11_77 fi_0_8 (zdec_at dm_X11_ruleFault 15 rfl) ?_
      refine zr_aload_n C 0 rfl (zdec_at dm_X11_ruleFault 16 rfl) rfl ?_
      obtain ⟨o15, h⟩ := h
      refine zr_getr (q := (r7 + 1)) C fk_RX11_107 (zsh_v o15) (zdec_at dm_X11_ruleFault 17 rfl) ?_
      refine zr_aload_n C 0 rfl (zdec_at dm_X11_ruleFault 18 rfl) rfl ?_
      refine zr_geti C fk_RX11_111 (zsh_f o15 2 (by decide)) (zdec_at dm_X11_ruleFault 19 rfl) ?_
      obtain ⟨g21, h⟩ := h
      refine zr_callV C [(r7 + 1), (M8 r7 2)] hS_X7_read ck_RX11_310 iv_X7_read vc_X7 oc_74 rfl rfl (zdec_at dm_X11_ruleFault 20 rfl) ⟨rfl, rfl, rfl, rfl⟩ ⟨by decide, by decide⟩ (Nat.le_of_ble_eq_true rfl) (zall_2 (zall_0 (hR9 _ _) zall_n)) ?_
      refine ⟨_, _, rfl, g21, fun r16 M17 p20 z19 hR18 => ?_⟩
      have h := h r16 M17 p20 z19 hR18
      show zV Γ mu2_X11_ruleFault (145, 0, 0) 37 [(3, zRf (zad Γ) r7), (2, zI r1), (0, zRf (zad Γ) 0), (1, zI a1)] [zI r16] M17
      refine zr_pop C rfl (zdec_at dm_X11_ruleFault 21 rfl) ?_
      refine zr_aload_n C 2 rfl (zdec_at dm_X11_ruleFault 22 rfl) rfl ?_
      refine zr_getr (q := 74) C fk_RX11_77 fi_0_8 (zdec_at dm_X11_ruleFault 23 rfl) ?_
      refine zr_geti C fk_RX11_314 fi_74_1 (zdec_at dm_X11_ruleFault 24 rfl) ?_
      exact zr_ireturn C rfl (zdec_at dm_X11_ruleFault 25 rfl) rfl ⟨(hR18 _ _), h⟩
    · have h := h.2 g14
      refine zr_iload_n C 1 rfl (zdec_at dm_X11_ruleFault 12 rfl) rfl ?_
      exact zr_ireturn C rfl (zdec_at dm_X11_ruleFault 13 rfl) rfl ⟨z4, h⟩

abbrev mu2_X11_rule : zMc := (cX11_rule, RX11, 4, (some .int), 42, zS, 145, 0, 0)
set_option maxHeartbeats 400000 in
set_option maxRecDepth 100000 in
theorem sn2_X11_rule {pr_X11_shelfAt : Int → zM → Prop} {po_X11_shelfAt : Int → zM → Int → zM → Prop} {pr_X11_refusalOfText : Int → zM → Prop} {po_X11_refusalOfText : Int → zM → Int → zM → Prop} {pr_X7_read : Int → Int → zM → Prop} {po_X7_read : Int → Int → zM → Int → zM → Prop} {pr_X8_add : Int → Int → zM → Prop} {po_X8_add : Int → Int → zM → Int → zM → Prop} (hS_X11_shelfAt : zSnd zS 145 0 0 yX11_shelfAt cX11_shelfAt 2 (some (.object "DotLines$Shelf")) 0 [2, 0] (F_X11_shelfAt pr_X11_shelfAt po_X11_shelfAt)) (hS_X11_refusalOfText : zSnd zS 145 0 0 yX11_refusalOfText cX11_refusalOfText 3 (some .int) 1 [2, 0] (F_X11_refusalOfText pr_X11_refusalOfText po_X11_refusalOfText)) (hS_X7_read : zSnd zS 145 0 0 yX7_read cX7_read 4 (some .boolean) 41 [2, 2, 0] (F_X7_read pr_X7_read po_X7_read)) (hS_X8_add : zSnd zS 145 0 0 yX8_add cX8_add 3 (some .int) 1 [2, 2, 0] (F_X8_add pr_X8_add po_X8_add)) : zSnd zS 145 0 0 yX11_rule cX11_rule 4 (some .int) 42 [2, 0] (fun xs P M => ∃ a1 : Int, xs = [0, a1] ∧ vc_X11_rule pr_X11_shelfAt po_X11_shelfAt pr_X11_refusalOfText po_X11_refusalOfText pr_X7_read po_X7_read pr_X8_add po_X8_add a1 P M) := by
  refine zSnd.of rfl (fun ad xs hz => Nat.le_trans (Nat.le_of_eq (zlen ad _ xs hz)) (by decide)) ?_
  intro Γ C _ _ xs M hz hF
  obtain ⟨a1, rfl, h⟩ := hF
  have zz_a1 := zall_h (zall_t hz) (by decide)
  refine zr_rng (fun hR => ?_)
  have C : zC Γ mu2_X11_rule := C
  change zV Γ mu2_X11_rule (145, 0, 0) 0 [(0, zRf (zad Γ) 0), (1, zI a1)] [] M
  change vc_X11_rule pr_X11_shelfAt po_X11_shelfAt pr_X11_refusalOfText po_X11_refusalOfText pr_X7_read po_X7_read pr_X8_add po_X8_add a1 _ M at h
  unfold vc_X11_rule at h
  refine zr_aload_n C 0 rfl (zdec_at dm_X11_rule 0 rfl) rfl ?_
  refine zr_iload_n C 1 rfl (zdec_at dm_X11_rule 1 rfl) rfl ?_
  obtain ⟨g6, h⟩ := h
  refine zr_callV C [a1] hS_X11_shelfAt ck_RX11_103 iv_X11_shelfAt vc_X11 oc_0 rfl rfl (zdec_at dm_X11_rule 2 rfl) ⟨rfl, rfl, rfl, rfl⟩ ⟨by decide, by decide⟩ (Nat.le_of_ble_eq_true rfl) (zall_0 zz_a1 zall_n) ?_
  refine ⟨_, rfl, g6, fun r1 M2 p5 z4 hR3 => ?_⟩
  have h := h r1 M2 p5 z4 hR3
  show zV Γ mu2_X11_rule (145, 0, 0) 5 [(0, zRf (zad Γ) 0), (1, zI a1)] [zA (zad Γ) r1] M2
  refine zr_astoreA_n (L1 := [(2, zA (zad Γ) r1), (0, zRf (zad Γ) 0), (1, zI a1)]) C (zdec_at dm_X11_rule 3 rfl) rfl (Nat.le_of_ble_eq_true rfl) rfl ?_
  refine zr_aloadA_n C 0 rfl (zdec_at dm_X11_rule 4 rfl) rfl ?_
  refine zr_ifnonnull C (zdec_at dm_X11_rule 5 rfl) rfl (fun g7 => ?_) (fun g7 => ?_)
  · have h := h.1 g7
    rw [zA_pos g7]
    refine zr_aload_n C 1 rfl (zdec_at dm_X11_rule 8 rfl) rfl ?_
    refine zr_getr (q := 57) C fk_RX11_70 fi_0_7 (zdec_at dm_X11_rule 9 rfl) ?_
    refine zr_geti C fk_RX11_317 fi_57_0 (zdec_at dm_X11_rule 10 rfl) ?_
    refine zr_bipush C (zdec_at dm_X11_rule 11 rfl) (by decide) ?_
    refine zr_icmp_lt C (hR3 _ _) (by decide) (zdec_at dm_X11_rule 12 rfl) rfl (fun g8 => ?_) (fun g8 => ?_)
    · have h := h.1 g8
      refine zr_aload_n C 1 rfl (zdec_at dm_X11_rule 15 rfl) rfl ?_
      refine zr_iload_n C 2 rfl (zdec_at dm_X11_rule 16 rfl) rfl ?_
      obtain ⟨g14, h⟩ := h
      refine zr_callV C [a1] hS_X11_refusalOfText ck_RX11_99 iv_X11_refusalOfText vc_X11 oc_0 rfl rfl (zdec_at dm_X11_rule 17 rfl) ⟨rfl, rfl, rfl, rfl⟩ ⟨by decide, by decide⟩ (Nat.le_of_ble_eq_true rfl) (zall_0 zz_a1 zall_n) ?_
      refine ⟨_, rfl, g14, fun r9 M10 p13 z12 hR11 => ?_⟩
      have h := h r9 M10 p13 z12 hR11
      show zV Γ mu2_X11_rule (145, 0, 0) 32 [(2, zRf (zad Γ) r1), (0, zRf (zad Γ) 0), (1, zI a1)] [zI r9] M10
      refine zr_istore_n (L1 := [(3, zI r9), (2, zRf (zad Γ) r1), (0, zRf (zad Γ) 0), (1, zI a1)]) C (zdec_at dm_X11_rule 18 rfl) rfl (Nat.le_of_ble_eq_true rfl) rfl ?_
      refine zr_iload_n C 0 rfl (zdec_at dm_X11_rule 19 rfl) rfl ?_
      refine zr_if_ge C z12 (zdec_at dm_X11_rule 20 rfl) rfl (fun g15 => ?_) (fun g15 => ?_)
      · have h := h.1 g15
        refine zr_aload_n C 2 rfl (zdec_at dm_X11_rule 23 rfl) rfl ?_
        refine zr_getr (q := 74) C fk_RX11_77 fi_0_8 (zdec_at dm_X11_rule 24 rfl) ?_
        refine zr_aload_n C 1 rfl (zdec_at dm_X11_rule 25 rfl) rfl ?_
        obtain ⟨o16, h⟩ := h
        refine zr_getr (q := (r1 + 1)) C fk_RX11_107 (zsh_v o16) (zdec_at dm_X11_rule 26 rfl) ?_
        refine zr_aload_n C 1 rfl (zdec_at dm_X11_rule 27 rfl) rfl ?_
        refine zr_geti C fk_RX11_111 (zsh_f o16 2 (by decide)) (zdec_at dm_X11_rule 28 rfl) ?_
        obtain ⟨g22, h⟩ := h
        refine zr_callV C [(r1 + 1), (M10 r1 2)] hS_X7_read ck_RX11_310 iv_X7_read vc_X7 oc_74 rfl rfl (zdec_at dm_X11_rule 29 rfl) ⟨rfl, rfl, rfl, rfl⟩ ⟨by decide, by decide⟩ (Nat.le_of_ble_eq_true rfl) (zall_2 (zall_0 (hR11 _ _) zall_n)) ?_
        refine ⟨_, _, rfl, g22, fun r17 M18 p21 z20 hR19 => ?_⟩
        have h := h r17 M18 p21 z20 hR19
        show zV Γ mu2_X11_rule (145, 0, 0) 54 [(3, zI r9), (2, zRf (zad Γ) r1), (0, zRf (zad Γ) 0), (1, zI a1)] [zI r17] M18
        refine zr_pop C rfl (zdec_at dm_X11_rule 30 rfl) ?_
        refine zr_aload_n C 2 rfl (zdec_at dm_X11_rule 31 rfl) rfl ?_
        refine zr_getr (q := 74) C fk_RX11_77 fi_0_8 (zdec_at dm_X11_rule 32 rfl) ?_
        refine zr_geti C fk_RX11_314 fi_74_1 (zdec_at dm_X11_rule 33 rfl) ?_
        refine zr_bipush C (zdec_at dm_X11_rule 34 rfl) (by decide) ?_
        refine zr_icmp_eq C (hR19 _ _) (by decide) (zdec_at dm_X11_rule 35 rfl) rfl (fun g23 => ?_) (fun g23 => ?_)
        · have h := h.1 g23
          refine zr_aload_n C 2 rfl (zdec_at dm_X11_rule 42 rfl) rfl ?_
          refine zr_getr (q := 57) C fk_RX11_70 fi_0_7 (zdec_at dm_X11_rule 43 rfl) ?_
          refine zr_aload_n C 1 rfl (zdec_at dm_X11_rule 44 rfl) rfl ?_
          refine zr_getr (q := (r1 + 1)) C fk_RX11_107 (zsh_v o16) (zdec_at dm_X11_rule 45 rfl) ?_
          refine zr_aload_n C 1 rfl (zdec_at dm_X11_rule 46 rfl) rfl ?_
          refine zr_geti C fk_RX11_111 (zsh_f o16 2 (by decide)) (zdec_at dm_X11_rule 47 rfl) ?_
          obtain ⟨g29, h⟩ := h
          refine zr_callV C [(r1 + 1), (M18 r1 2)] hS_X8_add ck_RX11_318 iv_X8_add vc_X8 oc_57 rfl rfl (zdec_at dm_X11_rule 48 rfl) ⟨rfl, rfl, rfl, rfl⟩ ⟨by decide, by decide⟩ (Nat.le_of_ble_eq_true rfl) (zall_2 (zall_0 (hR19 _ _) zall_n)) ?_
          refine ⟨_, _, rfl, g29, fun r24 M25 p28 z27 hR26 => ?_⟩
          have h := h r24 M25 p28 z27 hR26
          show zV Γ mu2_X11_rule (145, 0, 0) 93 [(3, zI r9), (2, zRf (zad Γ) r1), (0, zRf (zad Γ) 0), (1, zI a1)] [zI r24] M25
          exact zr_ireturn C rfl (zdec_at dm_X11_rule 49 rfl) rfl ⟨z27, h⟩
        · have h := h.2 g23
          refine zr_bipush C (zdec_at dm_X11_rule 36 rfl) (by decide) ?_
          refine zr_aload_n C 2 rfl (zdec_at dm_X11_rule 37 rfl) rfl ?_
          refine zr_getr (q := 74) C fk_RX11_77 fi_0_8 (zdec_at dm_X11_rule 38 rfl) ?_
          refine zr_geti C fk_RX11_314 fi_74_1 (zdec_at dm_X11_rule 39 rfl) ?_
          refine zr_isub C (zdec_at dm_X11_rule 40 rfl) ?_
          obtain ⟨o30, h⟩ := h
          exact zr_ireturn C rfl (zdec_at dm_X11_rule 41 rfl) rfl ⟨o30, h⟩
      · have h := h.2 g15
        refine zr_iload_n C 0 rfl (zdec_at dm_X11_rule 21 rfl) rfl ?_
        exact zr_ireturn C rfl (zdec_at dm_X11_rule 22 rfl) rfl ⟨z12, h⟩
    · have h := h.2 g8
      refine zr_bipush C (zdec_at dm_X11_rule 13 rfl) (by decide) ?_
      exact zr_ireturn C rfl (zdec_at dm_X11_rule 14 rfl) rfl ⟨(by decide), h⟩
  · have h := h.2 g7
    refine zr_iconst C (zdec_at dm_X11_rule 6 rfl) ?_
    exact zr_ireturn C rfl (zdec_at dm_X11_rule 7 rfl) rfl ⟨(by decide), h⟩

abbrev mu2_X11_sign : zMc := (cX11_sign, RX11, 3, (some .int), 42, zS, 145, 0, 0)
set_option maxHeartbeats 400000 in
set_option maxRecDepth 100000 in
theorem sn2_X11_sign {pr_X11_isFace : Int → zM → Prop} {po_X11_isFace : Int → zM → Int → zM → Prop} {pr_X9_countLike : Int → zM → Prop} {po_X9_countLike : Int → zM → Int → zM → Prop} {pr_X7_read : Int → Int → zM → Prop} {po_X7_read : Int → Int → zM → Int → zM → Prop} {pr_X11_measure : Int → Int → zM → Prop} {po_X11_measure : Int → Int → zM → Int → zM → Prop} (hS_X11_isFace : zSnd zS 145 0 0 yX11_isFace cX11_isFace 2 (some .boolean) 4 [2, 0] (F_X11_isFace pr_X11_isFace po_X11_isFace)) (hS_X9_countLike : zSnd zS 145 0 0 yX9_countLike cX9_countLike 4 (some .int) 4 [2, 0] (F_X9_countLike pr_X9_countLike po_X9_countLike)) (hS_X7_read : zSnd zS 145 0 0 yX7_read cX7_read 4 (some .boolean) 41 [2, 2, 0] (F_X7_read pr_X7_read po_X7_read)) (hS_X11_measure : zSnd zS 145 0 0 yX11_measure cX11_measure 3 (some .int) 5 [2, 0, 0] (F_X11_measure pr_X11_measure po_X11_measure)) : zSnd zS 145 0 0 yX11_sign cX11_sign 3 (some .int) 42 [2, 0] (fun xs P M => ∃ a1 : Int, xs = [0, a1] ∧ vc_X11_sign pr_X11_isFace po_X11_isFace pr_X9_countLike po_X9_countLike pr_X7_read po_X7_read pr_X11_measure po_X11_measure a1 P M) := by
  refine zSnd.of rfl (fun ad xs hz => Nat.le_trans (Nat.le_of_eq (zlen ad _ xs hz)) (by decide)) ?_
  intro Γ C _ _ xs M hz hF
  obtain ⟨a1, rfl, h⟩ := hF
  have zz_a1 := zall_h (zall_t hz) (by decide)
  refine zr_rng (fun hR => ?_)
  have C : zC Γ mu2_X11_sign := C
  change zV Γ mu2_X11_sign (145, 0, 0) 0 [(0, zRf (zad Γ) 0), (1, zI a1)] [] M
  change vc_X11_sign pr_X11_isFace po_X11_isFace pr_X9_countLike po_X9_countLike pr_X7_read po_X7_read pr_X11_measure po_X11_measure a1 _ M at h
  unfold vc_X11_sign at h
  refine zr_aload_n C 0 rfl (zdec_at dm_X11_sign 0 rfl) rfl ?_
  refine zr_iload_n C 1 rfl (zdec_at dm_X11_sign 1 rfl) rfl ?_
  obtain ⟨g6, h⟩ := h
  refine zr_callV C [a1] hS_X11_isFace ck_RX11_177 iv_X11_isFace vc_X11 oc_0 rfl rfl (zdec_at dm_X11_sign 2 rfl) ⟨rfl, rfl, rfl, rfl⟩ ⟨by decide, by decide⟩ (Nat.le_of_ble_eq_true rfl) (zall_0 zz_a1 zall_n) ?_
  refine ⟨_, rfl, g6, fun r1 M2 p5 z4 hR3 => ?_⟩
  have h := h r1 M2 p5 z4 hR3
  show zV Γ mu2_X11_sign (145, 0, 0) 5 [(0, zRf (zad Γ) 0), (1, zI a1)] [zI r1] M2
  refine zr_if_ne C z4 (zdec_at dm_X11_sign 3 rfl) rfl (fun g7 => ?_) (fun g7 => ?_)
  · have h := h.1 g7
    refine zr_iconst C (zdec_at dm_X11_sign 6 rfl) ?_
    refine zr_istore_n (L1 := [(2, zI 0), (0, zRf (zad Γ) 0), (1, zI a1)]) C (zdec_at dm_X11_sign 7 rfl) rfl (Nat.le_of_ble_eq_true rfl) rfl ?_
    obtain ⟨I12, ⟨n16, q17⟩, hI15⟩ := h
    have lp14 : ∀ (n12 : Nat) (v8 : Int) (M10 : zM), I12 v8 M10 n12 → zin v8 → zRng M10 → zV Γ mu2_X11_sign (145, 0, 0) 12 [(0, zRf (zad Γ) 0), (1, zI a1), (2, zI v8)] [] M10 := by
      intro n12
      induction n12 using Nat.strongRecOn with
      | _ n12 ih13 =>
      intro v8 M10 q18 z9 hR11
      have h := hI15 v8 M10 n12 q18 z9 hR11
      refine zr_iload_n C 2 rfl (zdec_at dm_X11_sign 8 rfl) rfl ?_
      refine zr_bipush C (zdec_at dm_X11_sign 9 rfl) (by decide) ?_
      refine zr_icmp_ge C z9 (by decide) (zdec_at dm_X11_sign 10 rfl) rfl (fun g19 => ?_) (fun g19 => ?_)
      · have h := h.1 g19
        refine zr_aload_n C 0 rfl (zdec_at dm_X11_sign 22 rfl) rfl ?_
        refine zr_getr (q := 74) C fk_RX11_77 fi_0_8 (zdec_at dm_X11_sign 23 rfl) ?_
        refine zr_getr (q := 75) C fk_RX11_325 fi_74_0 (zdec_at dm_X11_sign 24 rfl) ?_
        refine zr_bipush C (zdec_at dm_X11_sign 25 rfl) (by decide) ?_
        refine zr_aload_n C 0 rfl (zdec_at dm_X11_sign 26 rfl) rfl ?_
        refine zr_getr (q := 48) C fk_RX11_49 fi_0_4 (zdec_at dm_X11_sign 27 rfl) ?_
        refine zr_iload_n C 1 rfl (zdec_at dm_X11_sign 28 rfl) rfl ?_
        obtain ⟨g25, h⟩ := h
        refine zr_callV C [a1] hS_X9_countLike ck_RX11_328 iv_X9_countLike vc_X9 oc_48 rfl rfl (zdec_at dm_X11_sign 29 rfl) ⟨rfl, rfl, rfl, rfl⟩ ⟨by decide, by decide⟩ (Nat.le_of_ble_eq_true rfl) (zall_0 zz_a1 zall_n) ?_
        refine ⟨_, rfl, g25, fun r20 M21 p24 z23 hR22 => ?_⟩
        have h := h r20 M21 p24 z23 hR22
        show zV Γ mu2_X11_sign (145, 0, 0) 56 [(0, zRf (zad Γ) 0), (1, zI a1), (2, zI v8)] [zI r20, zI 12, zRf (zad Γ) 75] M21
        refine zr_iast C ai_75 ⟨by decide, by decide⟩ z23 (zdec_at dm_X11_sign 30 rfl) (fun M26 e27 => ?_)
        have h := h M26 e27
        have hR28 : zRng M26 := by rw [e27]; exact hR22.set z23 _ _
        refine zr_iconst C (zdec_at dm_X11_sign 31 rfl) ?_
        refine zr_istore_n (L1 := [(2, zI 0), (0, zRf (zad Γ) 0), (1, zI a1)]) C (zdec_at dm_X11_sign 32 rfl) rfl (Nat.le_of_ble_eq_true rfl) rfl ?_
        obtain ⟨I59, ⟨n37, q38⟩, hI36⟩ := h
        have lp35 : ∀ (n33 : Nat) (v29 : Int) (M31 : zM), I59 v29 M31 n33 → zin v29 → zRng M31 → zV Γ mu2_X11_sign (145, 0, 0) 59 [(0, zRf (zad Γ) 0), (2, zI v29)] [] M31 := by
          intro n33
          induction n33 using Nat.strongRecOn with
          | _ n33 ih34 =>
          intro v29 M31 q39 z30 hR32
          have h := hI36 v29 M31 n33 q39 z30 hR32
          refine zr_iload_n C 1 rfl (zdec_at dm_X11_sign 33 rfl) rfl ?_
          refine zr_aload_n C 0 rfl (zdec_at dm_X11_sign 34 rfl) rfl ?_
          refine zr_getr (q := 57) C fk_RX11_70 fi_0_7 (zdec_at dm_X11_sign 35 rfl) ?_
          refine zr_geti C fk_RX11_317 fi_57_0 (zdec_at dm_X11_sign 36 rfl) ?_
          refine zr_icmp_ge C z30 (hR32 _ _) (zdec_at dm_X11_sign 37 rfl) rfl (fun g40 => ?_) (fun g40 => ?_)
          · have h := h.1 g40
            refine zr_bipush C (zdec_at dm_X11_sign 68 rfl) (by decide) ?_
            exact zr_ireturn C rfl (zdec_at dm_X11_sign 69 rfl) rfl ⟨(by decide), h⟩
          · have h := h.2 g40
            refine zr_aload_n C 0 rfl (zdec_at dm_X11_sign 38 rfl) rfl ?_
            refine zr_getr (q := 57) C fk_RX11_70 fi_0_7 (zdec_at dm_X11_sign 39 rfl) ?_
            refine zr_getr (q := 72) C fk_RX11_321 fi_57_3 (zdec_at dm_X11_sign 40 rfl) ?_
            refine zr_iload_n C 1 rfl (zdec_at dm_X11_sign 41 rfl) rfl ?_
            obtain ⟨o41, h⟩ := h
            refine zr_zald C ai_72 o41 (zdec_at dm_X11_sign 42 rfl) ?_
            refine zr_if_eq C (hR32 _ _) (zdec_at dm_X11_sign 43 rfl) rfl (fun g42 => ?_) (fun g42 => ?_)
            · have h := h.1 g42
              refine zr_iinc (L1 := [(2, zI (v29 + 1)), (0, zRf (zad Γ) 0)]) C 1 rfl (zdec_at dm_X11_sign 66 rfl) (Nat.le_of_ble_eq_true rfl) rfl ?_
              refine zr_goto C (zdec_at dm_X11_sign 67 rfl) rfl ?_
              obtain ⟨o43, h⟩ := h
              obtain ⟨n44, q45, q46⟩ := h
              exact zr_sub [1, 0] rfl (ih34 n44 q45 _ _ q46 o43 hR32)
            · have h := h.2 g42
              refine zr_aload_n C 0 rfl (zdec_at dm_X11_sign 44 rfl) rfl ?_
              refine zr_getr (q := 74) C fk_RX11_77 fi_0_8 (zdec_at dm_X11_sign 45 rfl) ?_
              refine zr_aload_n C 0 rfl (zdec_at dm_X11_sign 46 rfl) rfl ?_
              refine zr_getr (q := 57) C fk_RX11_70 fi_0_7 (zdec_at dm_X11_sign 47 rfl) ?_
              refine zr_getr (q := 58) C fk_RX11_331 fi_57_1 (zdec_at dm_X11_sign 48 rfl) ?_
              refine zr_iload_n C 1 rfl (zdec_at dm_X11_sign 49 rfl) rfl ?_
              refine zr_aald (q := (59 + v29)) C (by decide) ai_58 o41 (zrow_tc o41) (zdec_at dm_X11_sign 50 rfl) ?_
              refine zr_aload_n C 0 rfl (zdec_at dm_X11_sign 51 rfl) rfl ?_
              refine zr_getr (q := 57) C fk_RX11_70 fi_0_7 (zdec_at dm_X11_sign 52 rfl) ?_
              refine zr_getr (q := 71) C fk_RX11_335 fi_57_2 (zdec_at dm_X11_sign 53 rfl) ?_
              refine zr_iload_n C 1 rfl (zdec_at dm_X11_sign 54 rfl) rfl ?_
              refine zr_iald C ai_71 o41 (zdec_at dm_X11_sign 55 rfl) ?_
              obtain ⟨g52, h⟩ := h
              refine zr_callV C [(59 + v29), (M31 71 v29)] hS_X7_read ck_RX11_310 iv_X7_read vc_X7 oc_74 rfl rfl (zdec_at dm_X11_sign 56 rfl) ⟨rfl, rfl, rfl, rfl⟩ ⟨by decide, by decide⟩ (Nat.le_of_ble_eq_true rfl) (zall_2 (zall_0 (hR32 _ _) zall_n)) ?_
              refine ⟨_, _, rfl, g52, fun r47 M48 p51 z50 hR49 => ?_⟩
              have h := h r47 M48 p51 z50 hR49
              show zV Γ mu2_X11_sign (145, 0, 0) 107 [(0, zRf (zad Γ) 0), (2, zI v29)] [zI r47] M48
              refine zr_if_eq C z50 (zdec_at dm_X11_sign 57 rfl) rfl (fun g53 => ?_) (fun g53 => ?_)
              · have h := h.1 g53
                refine zr_iinc (L1 := [(2, zI (v29 + 1)), (0, zRf (zad Γ) 0)]) C 1 rfl (zdec_at dm_X11_sign 66 rfl) (Nat.le_of_ble_eq_true rfl) rfl ?_
                refine zr_goto C (zdec_at dm_X11_sign 67 rfl) rfl ?_
                obtain ⟨o54, h⟩ := h
                obtain ⟨n55, q56, q57⟩ := h
                exact zr_sub [1, 0] rfl (ih34 n55 q56 _ _ q57 o54 hR49)
              · have h := h.2 g53
                refine zr_aload_n C 0 rfl (zdec_at dm_X11_sign 58 rfl) rfl ?_
                refine zr_getr (q := 57) C fk_RX11_70 fi_0_7 (zdec_at dm_X11_sign 59 rfl) ?_
                refine zr_getr (q := 58) C fk_RX11_331 fi_57_1 (zdec_at dm_X11_sign 60 rfl) ?_
                refine zr_iload_n C 1 rfl (zdec_at dm_X11_sign 61 rfl) rfl ?_
                refine zr_aald (q := (59 + v29)) C (by decide) ai_58 o41 (zrow_tc o41) (zdec_at dm_X11_sign 62 rfl) ?_
                refine zr_iconst C (zdec_at dm_X11_sign 63 rfl) ?_
                refine zr_iald C (zrow_t o41) ⟨by decide, by decide⟩ (zdec_at dm_X11_sign 64 rfl) ?_
                exact zr_ireturn C rfl (zdec_at dm_X11_sign 65 rfl) rfl ⟨(hR49 _ _), h⟩
        exact zr_sub [1, 0] rfl (lp35 n37 _ _ q38 (by decide) hR28)
      · have h := h.2 g19
        refine zr_aload_n C 0 rfl (zdec_at dm_X11_sign 11 rfl) rfl ?_
        refine zr_getr (q := 74) C fk_RX11_77 fi_0_8 (zdec_at dm_X11_sign 12 rfl) ?_
        refine zr_getr (q := 75) C fk_RX11_325 fi_74_0 (zdec_at dm_X11_sign 13 rfl) ?_
        refine zr_iload_n C 2 rfl (zdec_at dm_X11_sign 14 rfl) rfl ?_
        refine zr_aload_n C 0 rfl (zdec_at dm_X11_sign 15 rfl) rfl ?_
        refine zr_iload_n C 1 rfl (zdec_at dm_X11_sign 16 rfl) rfl ?_
        refine zr_iload_n C 2 rfl (zdec_at dm_X11_sign 17 rfl) rfl ?_
        obtain ⟨g63, h⟩ := h
        refine zr_callV C [a1, v8] hS_X11_measure ck_RX11_180 iv_X11_measure vc_X11 oc_0 rfl rfl (zdec_at dm_X11_sign 18 rfl) ⟨rfl, rfl, rfl, rfl⟩ ⟨by decide, by decide⟩ (Nat.le_of_ble_eq_true rfl) (zall_0 zz_a1 (zall_0 z9 zall_n)) ?_
        refine ⟨_, _, rfl, g63, fun r58 M59 p62 z61 hR60 => ?_⟩
        have h := h r58 M59 p62 z61 hR60
        show zV Γ mu2_X11_sign (145, 0, 0) 32 [(0, zRf (zad Γ) 0), (1, zI a1), (2, zI v8)] [zI r58, zI v8, zRf (zad Γ) 75] M59
        obtain ⟨o64, h⟩ := h
        refine zr_iast C ai_75 o64 z61 (zdec_at dm_X11_sign 19 rfl) (fun M65 e66 => ?_)
        have h := h M65 e66
        have hR67 : zRng M65 := by rw [e66]; exact hR60.set z61 _ _
        refine zr_iinc (L1 := [(2, zI (v8 + 1)), (0, zRf (zad Γ) 0), (1, zI a1)]) C 2 rfl (zdec_at dm_X11_sign 20 rfl) (Nat.le_of_ble_eq_true rfl) rfl ?_
        refine zr_goto C (zdec_at dm_X11_sign 21 rfl) rfl ?_
        obtain ⟨o68, h⟩ := h
        obtain ⟨n69, q70, q71⟩ := h
        exact zr_sub [1, 2, 0] rfl (ih13 n69 q70 _ _ q71 o68 hR67)
    exact zr_sub [1, 2, 0] rfl (lp14 n16 _ _ q17 (by decide) hR3)
  · have h := h.2 g7
    refine zr_iconst C (zdec_at dm_X11_sign 4 rfl) ?_
    exact zr_ireturn C rfl (zdec_at dm_X11_sign 5 rfl) rfl ⟨(by decide), h⟩

def bFd (M : zM) : Prop := ∀ k, 0 ≤ k → k < 13 → -100000 ≤ M 75 k ∧ M 75 k ≤ 100000
theorem bFd.w {M M' : zM} (H : bFd M) (w : bW M M') : bFd M' := fun k k0 k1 => by rw [w 75 k (by omega)]; exact H k k0 k1
theorem gStep_p {T : Int → Int} {n : Int} {φ : Int → Int} {s t : gS3} (h : gStep T n φ s = some t) (h0 : 0 ≤ s.2.2.2.1) (h1 : s.2.2.2.1 ≤ n) : s.2.2.2.1 ≤ t.2.2.2.1 ∧ t.2.2.2.1 ≤ n := by
  obtain ⟨b, w, d, p, V, S⟩ := s
  have h0 : 0 ≤ p := h0
  have h1 : p ≤ n := h1
  show p ≤ t.2.2.2.1 ∧ t.2.2.2.1 ≤ n
  have bb : ∀ c, gBy T n p = c → c ≠ -1 → p + 1 ≤ n := fun c e ne => by
    have := gBy_i (T := T) (n := n) (p := p) (by rw [e]; exact ne)
    omega
  have tb := gTs_b (T := T) (n := n) (φ := φ) h0 h1
  unfold gStep at h
  dsimp only at h
  by_cases b0 : b ≠ 0
  · rw [if_pos b0] at h; exact absurd h (by simp)
  · rw [if_neg b0] at h
    by_cases w0 : w ≠ 0
    · rw [if_pos w0] at h
      by_cases c1 : gBy T n p = 33
      · rw [if_pos c1] at h; cases h; exact ⟨by show p ≤ p + 1; omega, bb _ c1 (by decide)⟩
      · rw [if_neg c1] at h
        by_cases c2 : gBy T n p = 40
        · rw [if_pos c2] at h
          by_cases d8 : d = 8
          · rw [if_pos d8] at h; cases h; exact ⟨Int.le_refl _, h1⟩
          · rw [if_neg d8] at h; cases h; exact ⟨by show p ≤ p + 1; omega, bb _ c2 (by decide)⟩
        · rw [if_neg c2] at h
          by_cases k : (gTs T n φ p).1 = 0
          · rw [if_pos k] at h; cases h
            show p ≤ (gTs T n φ p).2.1 ∧ (gTs T n φ p).2.1 ≤ n
            omega
          · rw [if_neg k] at h; cases h
            show p ≤ (gTs T n φ p).2.1 ∧ (gTs T n φ p).2.1 ≤ n
            omega
    · rw [if_neg w0] at h
      by_cases e : n ≤ p
      · rw [if_pos e] at h
        by_cases j : (gJJ V S).2 = []
        · rw [if_pos j] at h; exact absurd h (by simp)
        · rw [if_neg j] at h; cases h; exact ⟨Int.le_refl _, h1⟩
      · rw [if_neg e] at h
        by_cases c1 : gBy T n p = 38
        · rw [if_pos c1] at h; cases h; exact ⟨by show p ≤ p + 1; omega, bb _ c1 (by decide)⟩
        · rw [if_neg c1] at h
          by_cases c2 : gBy T n p = 124
          · rw [if_pos c2] at h; cases h; exact ⟨by show p ≤ p + 1; omega, bb _ c2 (by decide)⟩
          · rw [if_neg c2] at h
            by_cases c3 : gBy T n p = 41 ∧ (gJJ V S).2.headD 0 = 40
            · rw [if_pos c3] at h; cases h; exact ⟨by show p ≤ p + 1; omega, bb _ c3.1 (by decide)⟩
            · rw [if_neg c3] at h; cases h; exact ⟨Int.le_refl _, h1⟩
theorem gTo_p {T : Int → Int} {n : Int} {φ : Int → Int} {s t : gS3} (h : gTo T n φ s t) (h0 : 0 ≤ s.2.2.2.1) (h1 : s.2.2.2.1 ≤ n) : t.2.2.2.1 ≤ n := by
  obtain ⟨k, h⟩ := h
  induction k generalizing s with
  | zero => rw [gIt] at h; cases h; exact h1
  | succ k ih =>
    cases e : gStep T n φ s with
    | none => rw [gIt, e] at h; exact absurd h (by simp)
    | some v =>
      rw [gIt_s e] at h
      have := gStep_p e h0 h1
      exact ih (by omega) this.2 h
theorem gRb.le {T : Int → Int} {n : Int} {φ : Int → Int} {q : Int} (hn : 0 ≤ n) (h : gRb T n φ q) : q ≤ n := by
  rcases h with ⟨_, a⟩ | ⟨a, _, b⟩ | ⟨_, a, b⟩
  · omega
  · have := gBy_i (T := T) (n := n) (p := 0) (by omega)
    omega
  · have := gBy_i (T := T) (n := n) (p := 1) (by omega)
    exact gTo_p b (by show (0 : Int) ≤ 2; decide) (by show (2 : Int) ≤ n; omega)
theorem zin_of_zia {a : Int} (h : zia a) : zin a := by
  unfold zia zai at h
  simp only [Bool.and_eq_true, decide_eq_true_eq] at h
  omega
abbrev pr_X7_read (a : Int) (n : Int) (M : zM) : Prop := (zia a) ∧ (a ≠ 74 ∧ 0 ≤ a) ∧ (0 ≤ n ∧ n ≤ 120 ∧ n ≤ zlni a) ∧ (bFd M)
abbrev po_X7_read (a : Int) (n : Int) (M : zM) (r : Int) (M' : zM) : Prop := (∀ c i, c ≠ 74 → M' c i = M c i) ∧ (r = 0 ∨ r = 1) ∧ ((M' 74 1 = -4 ∧ gRy (M a) n (M 75) r) ∨ (0 ≤ M' 74 1 ∧ M' 74 1 ≤ n ∧ gRb (M a) n (M 75) (M' 74 1)))
set_option maxHeartbeats 2000000 in
theorem ok_X7_read : zSnd zS 145 0 0 yX7_read cX7_read 4 (some .boolean) 41 [2, 2, 0] (F_X7_read pr_X7_read po_X7_read) := by
  refine (sn2_X7_read ok_X7_byteAhead ok_X7_take ok_X7_readOr8 ok_X7_stop).mono ?_
  rintro xs P M hz hR ⟨a, n, rfl, ⟨ha, hb, hn, hF⟩, hP⟩
  refine ⟨_, _, rfl, ?_⟩
  have z_n := zall_h (zall_t (zall_t hz)) (by decide)
  change vc_X7_read pr_X7_byteAhead po_X7_byteAhead pr_X7_take po_X7_take (pr_X7_readOr 8) po_X7_readOr pr_X7_stop po_X7_stop a n P M
  unfold vc_X7_read
  have o1 : zin a := by
    exact zin_of_zia ha
  refine ⟨o1, ?_⟩
  have o2 : 0 ≤ a := by
    exact hb.2
  refine ⟨o2, ?_⟩
  intro M3 e_M3
  have o3 : zia a := by
    exact ha
  refine ⟨o3, ?_⟩
  intro M8 e_M8
  intro M11 e_M11
  intro M14 e_M14
  have f14 : ∀ c i, c ≠ 74 → M14 c i = M c i := fun c i k => by rw [e_M14, zset_n _ (by omega), e_M11, zset_n _ (by omega), e_M8, zset_n _ (by omega), e_M3, zset_n _ (by omega)]
  have g1 : M14 74 1 = -4 := by rw [e_M14, zset_s]
  have g4 : M14 74 4 = 0 := by rw [e_M14, zset_n _ (by omega), e_M11, zset_s]
  have g3 : M14 74 3 = n := by rw [e_M14, zset_n _ (by omega), e_M11, zset_n _ (by omega), e_M8, zset_s]; have := hn.2.2; unfold zlni at this; omega
  have g2 : M14 74 2 = a := by rw [e_M14, zset_n _ (by omega), e_M11, zset_n _ (by omega), e_M8, zset_n _ (by omega), e_M3, zset_s]
  have C14 : rC M14 := ⟨by rw [g2]; exact ha, by rw [g2]; exact hb.1, by rw [g2, g3]; exact hn, by omega, fun k k0 k1 => by rw [f14 75 k (by decide)]; exact hF k k0 k1⟩
  have eB : rB M14 = gBy (M a) n 0 := by unfold rB; rw [g2, g3, g4, show M14 a = M a from funext fun i => f14 a i hb.1]
  have gc1 : pr_X7_byteAhead M14 := by
    show rC M14
    exact C14
  refine ⟨gc1, ?_⟩
  rintro r17 M18 ⟨q_rfl, e_r17⟩ z_r17 z_M18
  have q_rfl := q_rfl.symm
  subst q_rfl
  rw [if_pos g1, eB] at e_r17
  intro K61 h_K61
  have k_K61 : ∀ (M23 : zM), (∀ c i, c ≠ 74 → M23 c i = M c i) → (M23 74 2 = a) → (M23 74 3 = n) → ((M23 74 1 = -4 ∧ M23 74 4 = 1 ∧ (65 ≤ gBy (M a) n 0 ∧ gBy (M a) n 0 ≤ 90)) ∨ (M23 74 1 = 0 ∧ M23 74 4 = 0 ∧ ¬ (65 ≤ gBy (M a) n 0 ∧ gBy (M a) n 0 ≤ 90))) → K61 M23 := by
    intro M23 kf k2 k3 kk
    refine h_K61 _ ?_
    intro z_M23
    have kp : 0 ≤ M23 74 4 ∧ M23 74 4 ≤ n := by
      rcases kk with ⟨_, a1, a2⟩ | ⟨_, a1, _⟩
      · have := gBy_i (T := M a) (n := n) (p := 0) (by omega)
        omega
      · omega
    have C23 : rC M23 := ⟨by rw [k2]; exact ha, by rw [k2]; exact hb.1, by rw [k2, k3]; exact hn, by omega, fun k k0 k1 => by rw [kf 75 k (by decide)]; exact hF k k0 k1⟩
    have Ta : M23 a = M a := funext fun i => kf a i hb.1
    have F75 : M23 75 = M 75 := funext fun i => kf 75 i (by decide)
    have gc2 : pr_X7_take 58 M23 := by
      refine ⟨?_, ?_⟩
      · show rC M23  -- c2.hC
        exact C23
      · show 0 ≤ 58  -- c2.hc
        omega
    refine ⟨gc2, ?_⟩
    rintro M25 ⟨pc2_hy, pc2_hn, pc2_hb⟩ z_M25
    have cs : (M25 74 1 = -4 ∧ M25 74 4 = 2 ∧ 2 ≤ n ∧ (65 ≤ gBy (M a) n 0 ∧ gBy (M a) n 0 ≤ 90) ∧ gBy (M a) n 1 = 58) ∨ (0 ≤ M25 74 1 ∧ M25 74 1 ≤ n ∧ gRb (M a) n (M 75) (M25 74 1)) := by
      rcases kk with ⟨a1, a2, a3⟩ | ⟨a1, a2, a3⟩
      · have eb1 : rB M23 = gBy (M a) n 1 := by unfold rB; rw [k2, k3, a2, Ta]
        by_cases x : rB M23 = 58
        · have y := pc2_hy a1 x
          exact .inl ⟨by rw [y.1, zset_n _ (by omega)]; exact a1, by rw [y.1, zset_s]; omega, by omega, a3, by rw [← eb1]; exact x⟩
        · have y := pc2_hn a1 x
          refine .inr ⟨by rw [y, zset_s]; omega, by rw [y, zset_s]; omega, .inr (.inl ⟨a3, by rw [← eb1]; exact x, by rw [y, zset_s]; exact a2⟩)⟩
      · rw [pc2_hb (by omega)]
        exact .inr ⟨by omega, by omega, .inl ⟨a3, a1⟩⟩
    have f25 : ∀ c i, ¬ (c = 74 ∧ (i = 1 ∨ i = 4)) → M25 c i = M23 c i := fun c i q => by
      by_cases e : M23 74 1 = -4
      · by_cases x : rB M23 = 58
        · rw [(pc2_hy e x).1, zset_n _ (by omega)]
        · rw [pc2_hn e x, zset_n _ (by omega)]
      · rw [pc2_hb e]
    have p25 : 0 ≤ M25 74 4 ∧ M25 74 4 ≤ M23 74 3 := by
      by_cases e : M23 74 1 = -4
      · by_cases x : rB M23 = 58
        · have y := pc2_hy e x
          rw [y.1, zset_s]; omega
        · rw [pc2_hn e x, zset_n _ (by omega)]; omega
      · rw [pc2_hb e]; omega
    have C25 : rC M25 := C23.fr f25 p25
    have T25 := C23.T f25
    have gc3 : pr_X7_readOr 8 0 M25 := by
      refine ⟨?_, ?_⟩
      · show rC M25  -- c3.hC
        exact C25
      · show 8 - 8 ≤ 0 ∧ 0 ≤ 8 ∧ 0 ≤ 0  -- c3.hd
        decide
    refine ⟨gc3, ?_⟩
    rintro r30 M31 ⟨pc3_hf, pc3_hr, pc3_hp, pc3_hz, pc3_ho⟩ z_r30 z_M31
    have ho3 := pc3_ho
    unfold rTo at ho3
    rw [T25.1, T25.2.1, T25.2.2, k2, k3, Ta, F75] at ho3
    have C31 : rC M31 := C25.fr pc3_hf pc3_hp
    have T31 := C25.T pc3_hf
    have e31 : M31 74 3 = n := by rw [T31.2.1, T25.2.1, k3]
    have eB31 : rB M31 = gBy (M a) n (M31 74 4) := by unfold rB; rw [T31.1, T31.2.1, T25.1, T25.2.1, k2, k3, Ta]
    have f31 : ∀ c i, c ≠ 74 → M31 c i = M c i := fun c i q => by rw [pc3_hf c i (by omega), f25 c i (by omega)]; exact kf c i q
    have p31 : M31 74 4 ≤ n := by have := pc3_hp; have := T25.2.1; omega
    have h0 : ([] : List Int).headD 0 ≠ 33 ∧ ([] : List Int).headD 0 ≠ 38 ∧ ([] : List Int).headD 0 ≠ 124 := by decide
    refine ⟨fun b1 => ?_, fun b1 => ?_⟩
    · -- b1.1
      have o4 : (r30 = 0 ∨ r30 = 1) := by
        exact pc3_hr
      refine ⟨o4, ?_⟩
      refine hP _ _ ⟨?_, ?_, ?_⟩
      · show ∀ c i, c ≠ 74 → M31 c i = M c i  -- p1.hf
        exact f31
      · show r30 = 0 ∨ r30 = 1  -- p1.hr
        exact pc3_hr
      · show (M31 74 1 = -4 ∧ gRy (M a) n (M 75) r30) ∨ (0 ≤ M31 74 1 ∧ M31 74 1 ≤ n ∧ gRb (M a) n (M 75) (M31 74 1))  -- p1.ho
        rcases cs with ⟨a1, a2, a3, a4, a5⟩ | ⟨a1, a2, a3⟩
        · rcases ho3 a1 with ⟨b1, b2, b3, b4⟩ | ⟨b1, b4⟩
          · obtain ⟨V', S', g, e⟩ := b4 [] [] h0.1 h0.2.1 h0.2.2
            rw [a2] at g
            exact .inl ⟨b1, a4, a5, _, _, V', S', g, by omega, e⟩
          · have g := b4 [] [] h0.1 h0.2.1 h0.2.2
            rw [a2] at g
            have gg : gRb (M a) n (M 75) (M31 74 1) := .inr (.inr ⟨a4, a5, g⟩)
            exact .inr ⟨b1, gRb.le (by omega) gg, gg⟩
        · rw [pc3_hz (by omega)]; exact .inr ⟨a1, a2, a3⟩
    · -- b1.2
      have gc4 : pr_X7_stop M31 := trivial
      refine ⟨gc4, ?_⟩
      rintro M38 pc4_e z_M38
      unfold po_X7_stop at pc4_e
      have o5 : (r30 = 0 ∨ r30 = 1) := by
        exact pc3_hr
      refine ⟨o5, ?_⟩
      refine hP _ _ ⟨?_, ?_, ?_⟩
      · show ∀ c i, c ≠ 74 → M38 c i = M c i  -- p2.hf
        intro c i q; rw [pc4_e]; split
        · rw [zset_n _ (by omega)]; exact f31 c i q
        · exact f31 c i q
      · show r30 = 0 ∨ r30 = 1  -- p2.hr
        exact pc3_hr
      · show (M38 74 1 = -4 ∧ gRy (M a) n (M 75) r30) ∨ (0 ≤ M38 74 1 ∧ M38 74 1 ≤ n ∧ gRb (M a) n (M 75) (M38 74 1))  -- p2.ho
        rcases cs with ⟨a1, a2, a3, a4, a5⟩ | ⟨a1, a2, a3⟩
        · rcases ho3 a1 with ⟨b1, b2, b3, b4⟩ | ⟨b1', b4⟩
          · obtain ⟨V', S', g, e⟩ := b4 [] [] h0.1 h0.2.1 h0.2.2
            rw [a2] at g
            rw [if_pos b1] at pc4_e
            rw [eB31] at b3
            have q := g.one (gStep_else (by omega) b3.1 b3.2 (fun z => by have := z.2; rw [e] at this; exact absurd (show (0 : Int) = 40 from this) (by decide)))
            refine .inr ⟨by rw [pc4_e, zset_s]; have := pc3_hp; omega, by rw [pc4_e, zset_s]; exact p31, ?_⟩
            rw [pc4_e, zset_s]
            exact .inr (.inr ⟨a4, a5, q⟩)
          · have g := b4 [] [] h0.1 h0.2.1 h0.2.2
            rw [a2] at g
            rw [if_neg (by omega)] at pc4_e
            have gg : gRb (M a) n (M 75) (M31 74 1) := .inr (.inr ⟨a4, a5, g⟩)
            rw [pc4_e]
            exact .inr ⟨b1', gRb.le (by omega) gg, gg⟩
        · rw [pc3_hz (by omega), if_neg (by omega)] at pc4_e
          rw [pc4_e]; exact .inr ⟨a1, a2, a3⟩
  intro K57 h_K57
  have k_K57 : ∀ (M44 : zM), (¬ (65 ≤ gBy (M a) n 0 ∧ gBy (M a) n 0 ≤ 90)) → (M44 = M14) → K57 M44 := by
    intro M44 nl e44
    refine h_K57 _ ?_
    intro z_M44
    have gc5 : pr_X7_stop M44 := trivial
    refine ⟨gc5, ?_⟩
    rintro M46 pc5_e z_M46
    unfold po_X7_stop at pc5_e
    rw [e44, if_pos g1] at pc5_e
    refine k_K61 _ ?_ ?_ ?_ ?_
    · show ∀ c i, c ≠ 74 → M46 c i = M c i  -- K61.1.kf
      intro c i q; rw [pc5_e, zset_n _ (by omega)]; exact f14 c i q
    · show M46 74 2 = a  -- K61.1.k2
      rw [pc5_e, zset_n _ (by omega)]; exact g2
    · show M46 74 3 = n  -- K61.1.k3
      rw [pc5_e, zset_n _ (by omega)]; exact g3
    · show (M46 74 1 = -4 ∧ M46 74 4 = 1 ∧ (65 ≤ gBy (M a) n 0 ∧ gBy (M a) n 0 ≤ 90)) ∨ (M46 74 1 = 0 ∧ M46 74 4 = 0 ∧ ¬ (65 ≤ gBy (M a) n 0 ∧ gBy (M a) n 0 ≤ 90))  -- K61.1.kk
      exact .inr ⟨by rw [pc5_e, zset_s]; exact g4, by rw [pc5_e, zset_n _ (by omega)]; exact g4, nl⟩
  refine ⟨fun b2 => ?_, fun b2 => ?_⟩
  · -- b2.1
    refine k_K57 _ ?_ ?_
    · show ¬ (65 ≤ gBy (M a) n 0 ∧ gBy (M a) n 0 ≤ 90)  -- K57.1.nl
      omega
    · show M14 = M14  -- K57.1.e44
      rfl
  · -- b2.2
    have gc6 : pr_X7_byteAhead M14 := by
      show rC M14
      exact C14
    refine ⟨gc6, ?_⟩
    rintro r52 M53 ⟨q_rfl, e_r52⟩ z_r52 z_M53
    have q_rfl := q_rfl.symm
    subst q_rfl
    rw [if_pos g1, eB] at e_r52
    refine ⟨fun b3 => ?_, fun b3 => ?_⟩
    · -- b3.1
      refine k_K57 _ ?_ ?_
      · show ¬ (65 ≤ gBy (M a) n 0 ∧ gBy (M a) n 0 ≤ 90)  -- K57.2.nl
        omega
      · show M14 = M14  -- K57.2.e44
        rfl
    · -- b3.2
      have o6 : zin ((M14 74 4) + 1) := by
        omega
      refine ⟨o6, ?_⟩
      intro M60 e_M60
      refine k_K61 _ ?_ ?_ ?_ ?_
      · show ∀ c i, c ≠ 74 → M60 c i = M c i  -- K61.2.kf
        intro c i q; rw [e_M60, zset_n _ (by omega)]; exact f14 c i q
      · show M60 74 2 = a  -- K61.2.k2
        rw [e_M60, zset_n _ (by omega)]; exact g2
      · show M60 74 3 = n  -- K61.2.k3
        rw [e_M60, zset_n _ (by omega)]; exact g3
      · show (M60 74 1 = -4 ∧ M60 74 4 = 1 ∧ (65 ≤ gBy (M a) n 0 ∧ gBy (M a) n 0 ≤ 90)) ∨ (M60 74 1 = 0 ∧ M60 74 4 = 0 ∧ ¬ (65 ≤ gBy (M a) n 0 ∧ gBy (M a) n 0 ≤ 90))  -- K61.2.kk
        exact .inl ⟨by rw [e_M60, zset_n _ (by omega)]; exact g1, by rw [e_M60, zset_s]; omega, by omega⟩

