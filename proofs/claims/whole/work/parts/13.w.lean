set_option maxHeartbeats 400000 in
set_option maxRecDepth 100000 in
theorem sn_X11_reach {pr_X11_refusalOfPiece : Int → zM → Prop} {po_X11_refusalOfPiece : Int → zM → Int → zM → Prop} {pr_X11_shelfAt : Int → zM → Prop} {po_X11_shelfAt : Int → zM → Int → zM → Prop} {pr_X10_pieceReach : Int → zM → Prop} {po_X10_pieceReach : Int → zM → Int → zM → Prop} (hS_X11_refusalOfPiece : zSnd zS 145 0 0 yX11_refusalOfPiece cX11_refusalOfPiece 3 (some .int) 1 [2, 0] (F_X11_refusalOfPiece pr_X11_refusalOfPiece po_X11_refusalOfPiece)) (hS_X11_shelfAt : zSnd zS 145 0 0 yX11_shelfAt cX11_shelfAt 2 (some (.object "DotLines$Shelf")) 0 [2, 0] (F_X11_shelfAt pr_X11_shelfAt po_X11_shelfAt)) (hS_X10_pieceReach : zSnd zS 145 0 0 yX10_pieceReach cX10_pieceReach 2 (some .int) 1 [2] (F_X10_pieceReach pr_X10_pieceReach po_X10_pieceReach)) : zSnd zS 145 0 0 yX11_reach cX11_reach 4 (some .int) 2 [2, 0] (fun xs P M => ∃ a1 : Int, xs = [0, a1] ∧ vc_X11_reach pr_X11_refusalOfPiece po_X11_refusalOfPiece pr_X11_shelfAt po_X11_shelfAt pr_X10_pieceReach po_X10_pieceReach a1 P M) := by
  refine zSnd.of rfl (fun ad xs hz => Nat.le_trans (Nat.le_of_eq (zlen ad _ xs hz)) (by decide)) ?_
  intro Γ C _ _ xs M hz hF
  obtain ⟨a1, rfl, h⟩ := hF
  have zz_a1 := zall_h (zall_t hz) (by decide)
  refine zr_rng (fun hR => ?_)
  have C : zC Γ mu_X11_reach := C
  change zV Γ mu_X11_reach (145, 0, 0) 0 [(0, zRf (zad Γ) 0), (1, zI a1)] [] M
  change vc_X11_reach pr_X11_refusalOfPiece po_X11_refusalOfPiece pr_X11_shelfAt po_X11_shelfAt pr_X10_pieceReach po_X10_pieceReach a1 _ M at h
  unfold vc_X11_reach at h
  refine zr_aload_n C 0 rfl (zdec_at dm_X11_reach 0 rfl) rfl ?_
  refine zr_iload_n C 1 rfl (zdec_at dm_X11_reach 1 rfl) rfl ?_
  obtain ⟨g6, h⟩ := h
  refine zr_callV C [a1] hS_X11_refusalOfPiece ck_RX11_421 iv_X11_refusalOfPiece vc_X11 oc_0 rfl rfl (zdec_at dm_X11_reach 2 rfl) ⟨rfl, rfl, rfl, rfl⟩ ⟨by decide, by decide⟩ (Nat.le_of_ble_eq_true rfl) (zall_0 zz_a1 zall_n) ?_
  refine ⟨_, rfl, g6, fun r1 M2 p5 z4 hR3 => ?_⟩
  have h := h r1 M2 p5 z4 hR3
  show zV Γ mu_X11_reach (145, 0, 0) 5 [(0, zRf (zad Γ) 0), (1, zI a1)] [zI r1] M2
  refine zr_istore_n (L1 := [(2, zI r1), (0, zRf (zad Γ) 0), (1, zI a1)]) C (zdec_at dm_X11_reach 3 rfl) rfl (Nat.le_of_ble_eq_true rfl) rfl ?_
  refine zr_aload_n C 1 rfl (zdec_at dm_X11_reach 4 rfl) rfl ?_
  refine zr_iload_n C 2 rfl (zdec_at dm_X11_reach 5 rfl) rfl ?_
  obtain ⟨g12, h⟩ := h
  refine zr_callV C [a1] hS_X11_shelfAt ck_RX11_103 iv_X11_shelfAt vc_X11 oc_0 rfl rfl (zdec_at dm_X11_reach 6 rfl) ⟨rfl, rfl, rfl, rfl⟩ ⟨by decide, by decide⟩ (Nat.le_of_ble_eq_true rfl) (zall_0 zz_a1 zall_n) ?_
  refine ⟨_, rfl, g12, fun r7 M8 p11 z10 hR9 => ?_⟩
  have h := h r7 M8 p11 z10 hR9
  show zV Γ mu_X11_reach (145, 0, 0) 11 [(2, zI r1), (0, zRf (zad Γ) 0), (1, zI a1)] [zA (zad Γ) r7] M8
  refine zr_astoreA_n (L1 := [(3, zA (zad Γ) r7), (2, zI r1), (0, zRf (zad Γ) 0), (1, zI a1)]) C (zdec_at dm_X11_reach 7 rfl) rfl (Nat.le_of_ble_eq_true rfl) rfl ?_
  refine zr_iload_n C 1 rfl (zdec_at dm_X11_reach 8 rfl) rfl ?_
  refine zr_if_lt C z4 (zdec_at dm_X11_reach 9 rfl) rfl (fun g13 => ?_) (fun g13 => ?_)
  · have h := h.1 g13
    refine zr_iload_n C 1 rfl (zdec_at dm_X11_reach 12 rfl) rfl ?_
    refine zr_goto C (zdec_at dm_X11_reach 13 rfl) rfl ?_
    exact zr_ireturn C rfl (zdec_at dm_X11_reach 16 rfl) rfl ⟨z4, h⟩
  · have h := h.2 g13
    refine zr_aloadA_n C 0 rfl (zdec_at dm_X11_reach 10 rfl) rfl ?_
    refine zr_ifnonnull C (zdec_at dm_X11_reach 11 rfl) rfl (fun g14 => ?_) (fun g14 => ?_)
    · have h := h.1 g14
      rw [zA_pos g14]
      refine zr_aload_n C 0 rfl (zdec_at dm_X11_reach 14 rfl) rfl ?_
      obtain ⟨o21, h⟩ := h
      obtain ⟨g20, h⟩ := h
      refine zr_callV C [] hS_X10_pieceReach ck_RX11_424 iv_X10_pieceReach vc_X10 (zsh_o o21) rfl rfl (zdec_at dm_X11_reach 15 rfl) ⟨rfl, rfl, rfl, rfl⟩ ⟨by decide, by decide⟩ (Nat.le_of_ble_eq_true rfl) zall_n ?_
      refine ⟨_, rfl, g20, fun r15 M16 p19 z18 hR17 => ?_⟩
      have h := h r15 M16 p19 z18 hR17
      show zV Γ mu_X11_reach (145, 0, 0) 28 [(3, zRf (zad Γ) r7), (2, zI r1), (0, zRf (zad Γ) 0), (1, zI a1)] [zI r15] M16
      exact zr_ireturn C rfl (zdec_at dm_X11_reach 16 rfl) rfl ⟨z18, h⟩
    · have h := h.2 g14
      refine zr_iload_n C 1 rfl (zdec_at dm_X11_reach 12 rfl) rfl ?_
      refine zr_goto C (zdec_at dm_X11_reach 13 rfl) rfl ?_
      exact zr_ireturn C rfl (zdec_at dm_X11_reach 16 rfl) rfl ⟨z4, h⟩

set_option maxHeartbeats 400000 in
set_option maxRecDepth 100000 in
theorem sn_X11_toss {pr_X11_refusalOfPiece : Int → zM → Prop} {po_X11_refusalOfPiece : Int → zM → Int → zM → Prop} {pr_X11_shelfAt : Int → zM → Prop} {po_X11_shelfAt : Int → zM → Int → zM → Prop} {pr_X10_pieceFailure : Int → zM → Prop} {po_X10_pieceFailure : Int → zM → Int → zM → Prop} (hS_X11_refusalOfPiece : zSnd zS 145 0 0 yX11_refusalOfPiece cX11_refusalOfPiece 3 (some .int) 1 [2, 0] (F_X11_refusalOfPiece pr_X11_refusalOfPiece po_X11_refusalOfPiece)) (hS_X11_shelfAt : zSnd zS 145 0 0 yX11_shelfAt cX11_shelfAt 2 (some (.object "DotLines$Shelf")) 0 [2, 0] (F_X11_shelfAt pr_X11_shelfAt po_X11_shelfAt)) (hS_X10_pieceFailure : zSnd zS 145 0 0 yX10_pieceFailure cX10_pieceFailure 1 (some .int) 0 [2] (F_X10_pieceFailure pr_X10_pieceFailure po_X10_pieceFailure)) : zSnd zS 145 0 0 yX11_toss cX11_toss 4 (some .int) 2 [2, 0] (fun xs P M => ∃ a1 : Int, xs = [0, a1] ∧ vc_X11_toss pr_X11_refusalOfPiece po_X11_refusalOfPiece pr_X11_shelfAt po_X11_shelfAt pr_X10_pieceFailure po_X10_pieceFailure a1 P M) := by
  refine zSnd.of rfl (fun ad xs hz => Nat.le_trans (Nat.le_of_eq (zlen ad _ xs hz)) (by decide)) ?_
  intro Γ C _ _ xs M hz hF
  obtain ⟨a1, rfl, h⟩ := hF
  have zz_a1 := zall_h (zall_t hz) (by decide)
  refine zr_rng (fun hR => ?_)
  have C : zC Γ mu_X11_toss := C
  change zV Γ mu_X11_toss (145, 0, 0) 0 [(0, zRf (zad Γ) 0), (1, zI a1)] [] M
  change vc_X11_toss pr_X11_refusalOfPiece po_X11_refusalOfPiece pr_X11_shelfAt po_X11_shelfAt pr_X10_pieceFailure po_X10_pieceFailure a1 _ M at h
  unfold vc_X11_toss at h
  refine zr_aload_n C 0 rfl (zdec_at dm_X11_toss 0 rfl) rfl ?_
  refine zr_iload_n C 1 rfl (zdec_at dm_X11_toss 1 rfl) rfl ?_
  obtain ⟨g6, h⟩ := h
  refine zr_callV C [a1] hS_X11_refusalOfPiece ck_RX11_421 iv_X11_refusalOfPiece vc_X11 oc_0 rfl rfl (zdec_at dm_X11_toss 2 rfl) ⟨rfl, rfl, rfl, rfl⟩ ⟨by decide, by decide⟩ (Nat.le_of_ble_eq_true rfl) (zall_0 zz_a1 zall_n) ?_
  refine ⟨_, rfl, g6, fun r1 M2 p5 z4 hR3 => ?_⟩
  have h := h r1 M2 p5 z4 hR3
  show zV Γ mu_X11_toss (145, 0, 0) 5 [(0, zRf (zad Γ) 0), (1, zI a1)] [zI r1] M2
  refine zr_istore_n (L1 := [(2, zI r1), (0, zRf (zad Γ) 0), (1, zI a1)]) C (zdec_at dm_X11_toss 3 rfl) rfl (Nat.le_of_ble_eq_true rfl) rfl ?_
  refine zr_aload_n C 1 rfl (zdec_at dm_X11_toss 4 rfl) rfl ?_
  refine zr_iload_n C 2 rfl (zdec_at dm_X11_toss 5 rfl) rfl ?_
  obtain ⟨g12, h⟩ := h
  refine zr_callV C [a1] hS_X11_shelfAt ck_RX11_103 iv_X11_shelfAt vc_X11 oc_0 rfl rfl (zdec_at dm_X11_toss 6 rfl) ⟨rfl, rfl, rfl, rfl⟩ ⟨by decide, by decide⟩ (Nat.le_of_ble_eq_true rfl) (zall_0 zz_a1 zall_n) ?_
  refine ⟨_, rfl, g12, fun r7 M8 p11 z10 hR9 => ?_⟩
  have h := h r7 M8 p11 z10 hR9
  show zV Γ mu_X11_toss (145, 0, 0) 11 [(2, zI r1), (0, zRf (zad Γ) 0), (1, zI a1)] [zA (zad Γ) r7] M8
  refine zr_astoreA_n (L1 := [(3, zA (zad Γ) r7), (2, zI r1), (0, zRf (zad Γ) 0), (1, zI a1)]) C (zdec_at dm_X11_toss 7 rfl) rfl (Nat.le_of_ble_eq_true rfl) rfl ?_
  refine zr_iload_n C 1 rfl (zdec_at dm_X11_toss 8 rfl) rfl ?_
  refine zr_if_lt C z4 (zdec_at dm_X11_toss 9 rfl) rfl (fun g13 => ?_) (fun g13 => ?_)
  · have h := h.1 g13
    refine zr_iload_n C 1 rfl (zdec_at dm_X11_toss 12 rfl) rfl ?_
    refine zr_goto C (zdec_at dm_X11_toss 13 rfl) rfl ?_
    exact zr_ireturn C rfl (zdec_at dm_X11_toss 16 rfl) rfl ⟨z4, h⟩
  · have h := h.2 g13
    refine zr_aloadA_n C 0 rfl (zdec_at dm_X11_toss 10 rfl) rfl ?_
    refine zr_ifnonnull C (zdec_at dm_X11_toss 11 rfl) rfl (fun g14 => ?_) (fun g14 => ?_)
    · have h := h.1 g14
      rw [zA_pos g14]
      refine zr_aload_n C 0 rfl (zdec_at dm_X11_toss 14 rfl) rfl ?_
      obtain ⟨o21, h⟩ := h
      obtain ⟨g20, h⟩ := h
      refine zr_callV C [] hS_X10_pieceFailure ck_RX11_427 iv_X10_pieceFailure vc_X10 (zsh_o o21) rfl rfl (zdec_at dm_X11_toss 15 rfl) ⟨rfl, rfl, rfl, rfl⟩ ⟨by decide, by decide⟩ (Nat.le_of_ble_eq_true rfl) zall_n ?_
      refine ⟨_, rfl, g20, fun r15 M16 p19 z18 hR17 => ?_⟩
      have h := h r15 M16 p19 z18 hR17
      show zV Γ mu_X11_toss (145, 0, 0) 28 [(3, zRf (zad Γ) r7), (2, zI r1), (0, zRf (zad Γ) 0), (1, zI a1)] [zI r15] M16
      exact zr_ireturn C rfl (zdec_at dm_X11_toss 16 rfl) rfl ⟨z18, h⟩
    · have h := h.2 g14
      refine zr_iload_n C 1 rfl (zdec_at dm_X11_toss 12 rfl) rfl ?_
      refine zr_goto C (zdec_at dm_X11_toss 13 rfl) rfl ?_
      exact zr_ireturn C rfl (zdec_at dm_X11_toss 16 rfl) rfl ⟨z4, h⟩

set_option maxHeartbeats 400000 in
set_option maxRecDepth 100000 in
theorem sn_X11_asNumber : zSnd zS 145 0 0 yX11_asNumber cX11_asNumber 1 (some .int) 0 [0] (fun xs P M => ∃ a0 : Int, xs = [a0] ∧ vc_X11_asNumber a0 P M) := by
  refine zSnd.of rfl (fun ad xs hz => Nat.le_trans (Nat.le_of_eq (zlen ad _ xs hz)) (by decide)) ?_
  intro Γ C _ _ xs M hz hF
  obtain ⟨a0, rfl, h⟩ := hF
  have zz_a0 := zall_h hz (by decide)
  refine zr_rng (fun hR => ?_)
  have C : zC Γ mu_X11_asNumber := C
  change zV Γ mu_X11_asNumber (145, 0, 0) 0 [(0, zI a0)] [] M
  change vc_X11_asNumber a0 _ M at h
  unfold vc_X11_asNumber at h
  refine zr_iload_n C 0 rfl (zdec_at dm_X11_asNumber 0 rfl) rfl ?_
  refine zr_if_eq C zz_a0 (zdec_at dm_X11_asNumber 1 rfl) rfl (fun g1 => ?_) (fun g1 => ?_)
  · have h := h.1 g1
    refine zr_iconst C (zdec_at dm_X11_asNumber 4 rfl) ?_
    exact zr_ireturn C rfl (zdec_at dm_X11_asNumber 5 rfl) rfl ⟨(by decide), h⟩
  · have h := h.2 g1
    refine zr_iconst C (zdec_at dm_X11_asNumber 2 rfl) ?_
    refine zr_goto C (zdec_at dm_X11_asNumber 3 rfl) rfl ?_
    exact zr_ireturn C rfl (zdec_at dm_X11_asNumber 5 rfl) rfl ⟨(by decide), h⟩

set_option maxHeartbeats 400000 in
set_option maxRecDepth 100000 in
theorem sn_X11_isColour : zSnd zS 145 0 0 yX11_isColour cX11_isColour 1 (some .boolean) 0 [0] (fun xs P M => ∃ a0 : Int, xs = [a0] ∧ vc_X11_isColour a0 P M) := by
  refine zSnd.of rfl (fun ad xs hz => Nat.le_trans (Nat.le_of_eq (zlen ad _ xs hz)) (by decide)) ?_
  intro Γ C _ _ xs M hz hF
  obtain ⟨a0, rfl, h⟩ := hF
  have zz_a0 := zall_h hz (by decide)
  refine zr_rng (fun hR => ?_)
  have C : zC Γ mu_X11_isColour := C
  change zV Γ mu_X11_isColour (145, 0, 0) 0 [(0, zI a0)] [] M
  change vc_X11_isColour a0 _ M at h
  unfold vc_X11_isColour at h
  refine zr_iload_n C 0 rfl (zdec_at dm_X11_isColour 0 rfl) rfl ?_
  refine zr_if_lt C zz_a0 (zdec_at dm_X11_isColour 1 rfl) rfl (fun g1 => ?_) (fun g1 => ?_)
  · have h := h.1 g1
    refine zr_iconst C (zdec_at dm_X11_isColour 7 rfl) ?_
    exact zr_zreturn C rfl (by decide) (zdec_at dm_X11_isColour 8 rfl) rfl ⟨(by decide), h⟩
  · have h := h.2 g1
    refine zr_iload_n C 0 rfl (zdec_at dm_X11_isColour 2 rfl) rfl ?_
    refine zr_bipush C (zdec_at dm_X11_isColour 3 rfl) (by decide) ?_
    refine zr_icmp_ge C zz_a0 (by decide) (zdec_at dm_X11_isColour 4 rfl) rfl (fun g2 => ?_) (fun g2 => ?_)
    · have h := h.1 g2
      refine zr_iconst C (zdec_at dm_X11_isColour 7 rfl) ?_
      exact zr_zreturn C rfl (by decide) (zdec_at dm_X11_isColour 8 rfl) rfl ⟨(by decide), h⟩
    · have h := h.2 g2
      refine zr_iconst C (zdec_at dm_X11_isColour 5 rfl) ?_
      refine zr_goto C (zdec_at dm_X11_isColour 6 rfl) rfl ?_
      exact zr_zreturn C rfl (by decide) (zdec_at dm_X11_isColour 8 rfl) rfl ⟨(by decide), h⟩

set_option maxHeartbeats 400000 in
set_option maxRecDepth 100000 in
theorem sn_X11_isDigit : zSnd zS 145 0 0 yX11_isDigit cX11_isDigit 1 (some .boolean) 0 [0] (fun xs P M => ∃ a0 : Int, xs = [a0] ∧ vc_X11_isDigit a0 P M) := by
  refine zSnd.of rfl (fun ad xs hz => Nat.le_trans (Nat.le_of_eq (zlen ad _ xs hz)) (by decide)) ?_
  intro Γ C _ _ xs M hz hF
  obtain ⟨a0, rfl, h⟩ := hF
  have zz_a0 := zall_h hz (by decide)
  refine zr_rng (fun hR => ?_)
  have C : zC Γ mu_X11_isDigit := C
  change zV Γ mu_X11_isDigit (145, 0, 0) 0 [(0, zI a0)] [] M
  change vc_X11_isDigit a0 _ M at h
  unfold vc_X11_isDigit at h
  refine zr_iload_n C 0 rfl (zdec_at dm_X11_isDigit 0 rfl) rfl ?_
  refine zr_bipush C (zdec_at dm_X11_isDigit 1 rfl) (by decide) ?_
  refine zr_icmp_lt C zz_a0 (by decide) (zdec_at dm_X11_isDigit 2 rfl) rfl (fun g1 => ?_) (fun g1 => ?_)
  · have h := h.1 g1
    refine zr_iconst C (zdec_at dm_X11_isDigit 8 rfl) ?_
    exact zr_zreturn C rfl (by decide) (zdec_at dm_X11_isDigit 9 rfl) rfl ⟨(by decide), h⟩
  · have h := h.2 g1
    refine zr_iload_n C 0 rfl (zdec_at dm_X11_isDigit 3 rfl) rfl ?_
    refine zr_bipush C (zdec_at dm_X11_isDigit 4 rfl) (by decide) ?_
    refine zr_icmp_gt C zz_a0 (by decide) (zdec_at dm_X11_isDigit 5 rfl) rfl (fun g2 => ?_) (fun g2 => ?_)
    · have h := h.1 g2
      refine zr_iconst C (zdec_at dm_X11_isDigit 8 rfl) ?_
      exact zr_zreturn C rfl (by decide) (zdec_at dm_X11_isDigit 9 rfl) rfl ⟨(by decide), h⟩
    · have h := h.2 g2
      refine zr_iconst C (zdec_at dm_X11_isDigit 6 rfl) ?_
      refine zr_goto C (zdec_at dm_X11_isDigit 7 rfl) rfl ?_
      exact zr_zreturn C rfl (by decide) (zdec_at dm_X11_isDigit 9 rfl) rfl ⟨(by decide), h⟩

set_option maxHeartbeats 400000 in
set_option maxRecDepth 100000 in
theorem sn_X11_isCost : zSnd zS 145 0 0 yX11_isCost cX11_isCost 1 (some .boolean) 0 [0] (fun xs P M => ∃ a0 : Int, xs = [a0] ∧ vc_X11_isCost a0 P M) := by
  refine zSnd.of rfl (fun ad xs hz => Nat.le_trans (Nat.le_of_eq (zlen ad _ xs hz)) (by decide)) ?_
  intro Γ C _ _ xs M hz hF
  obtain ⟨a0, rfl, h⟩ := hF
  have zz_a0 := zall_h hz (by decide)
  refine zr_rng (fun hR => ?_)
  have C : zC Γ mu_X11_isCost := C
  change zV Γ mu_X11_isCost (145, 0, 0) 0 [(0, zI a0)] [] M
  change vc_X11_isCost a0 _ M at h
  unfold vc_X11_isCost at h
  refine zr_iload_n C 0 rfl (zdec_at dm_X11_isCost 0 rfl) rfl ?_
  refine zr_if_lt C zz_a0 (zdec_at dm_X11_isCost 1 rfl) rfl (fun g1 => ?_) (fun g1 => ?_)
  · have h := h.1 g1
    refine zr_iconst C (zdec_at dm_X11_isCost 7 rfl) ?_
    exact zr_zreturn C rfl (by decide) (zdec_at dm_X11_isCost 8 rfl) rfl ⟨(by decide), h⟩
  · have h := h.2 g1
    refine zr_iload_n C 0 rfl (zdec_at dm_X11_isCost 2 rfl) rfl ?_
    refine zr_bipush C (zdec_at dm_X11_isCost 3 rfl) (by decide) ?_
    refine zr_icmp_gt C zz_a0 (by decide) (zdec_at dm_X11_isCost 4 rfl) rfl (fun g2 => ?_) (fun g2 => ?_)
    · have h := h.1 g2
      refine zr_iconst C (zdec_at dm_X11_isCost 7 rfl) ?_
      exact zr_zreturn C rfl (by decide) (zdec_at dm_X11_isCost 8 rfl) rfl ⟨(by decide), h⟩
    · have h := h.2 g2
      refine zr_iconst C (zdec_at dm_X11_isCost 5 rfl) ?_
      refine zr_goto C (zdec_at dm_X11_isCost 6 rfl) rfl ?_
      exact zr_zreturn C rfl (by decide) (zdec_at dm_X11_isCost 8 rfl) rfl ⟨(by decide), h⟩

set_option maxHeartbeats 400000 in
set_option maxRecDepth 100000 in
theorem sn_X11_isMiss : zSnd zS 145 0 0 yX11_isMiss cX11_isMiss 1 (some .boolean) 0 [0] (fun xs P M => ∃ a0 : Int, xs = [a0] ∧ vc_X11_isMiss a0 P M) := by
  refine zSnd.of rfl (fun ad xs hz => Nat.le_trans (Nat.le_of_eq (zlen ad _ xs hz)) (by decide)) ?_
  intro Γ C _ _ xs M hz hF
  obtain ⟨a0, rfl, h⟩ := hF
  have zz_a0 := zall_h hz (by decide)
  refine zr_rng (fun hR => ?_)
  have C : zC Γ mu_X11_isMiss := C
  change zV Γ mu_X11_isMiss (145, 0, 0) 0 [(0, zI a0)] [] M
  change vc_X11_isMiss a0 _ M at h
  unfold vc_X11_isMiss at h
  refine zr_iload_n C 0 rfl (zdec_at dm_X11_isMiss 0 rfl) rfl ?_
  refine zr_if_lt C zz_a0 (zdec_at dm_X11_isMiss 1 rfl) rfl (fun g1 => ?_) (fun g1 => ?_)
  · have h := h.1 g1
    refine zr_iconst C (zdec_at dm_X11_isMiss 7 rfl) ?_
    exact zr_zreturn C rfl (by decide) (zdec_at dm_X11_isMiss 8 rfl) rfl ⟨(by decide), h⟩
  · have h := h.2 g1
    refine zr_iload_n C 0 rfl (zdec_at dm_X11_isMiss 2 rfl) rfl ?_
    refine zr_sipush C (zdec_at dm_X11_isMiss 3 rfl) (by decide) ?_
    refine zr_icmp_gt C zz_a0 (by decide) (zdec_at dm_X11_isMiss 4 rfl) rfl (fun g2 => ?_) (fun g2 => ?_)
    · have h := h.1 g2
      refine zr_iconst C (zdec_at dm_X11_isMiss 7 rfl) ?_
      exact zr_zreturn C rfl (by decide) (zdec_at dm_X11_isMiss 8 rfl) rfl ⟨(by decide), h⟩
    · have h := h.2 g2
      refine zr_iconst C (zdec_at dm_X11_isMiss 5 rfl) ?_
      refine zr_goto C (zdec_at dm_X11_isMiss 6 rfl) rfl ?_
      exact zr_zreturn C rfl (by decide) (zdec_at dm_X11_isMiss 8 rfl) rfl ⟨(by decide), h⟩

set_option maxHeartbeats 400000 in
set_option maxRecDepth 100000 in
theorem sn_X11_isFace {pr_X2_refresh : zM → Prop} {po_X2_refresh : zM → zM → Prop} {pr_X2_has : Int → zM → Prop} {po_X2_has : Int → zM → Int → zM → Prop} (hS_X2_refresh : zSnd zS 145 0 0 yX2_refresh cX2_refresh 3 none 3 [2] (F_X2_refresh pr_X2_refresh po_X2_refresh)) (hS_X2_has : zSnd zS 145 0 0 yX2_has cX2_has 2 (some .boolean) 0 [2, 0] (F_X2_has pr_X2_has po_X2_has)) : zSnd zS 145 0 0 yX11_isFace cX11_isFace 2 (some .boolean) 4 [2, 0] (fun xs P M => ∃ a1 : Int, xs = [0, a1] ∧ vc_X11_isFace pr_X2_refresh po_X2_refresh pr_X2_has po_X2_has a1 P M) := by
  refine zSnd.of rfl (fun ad xs hz => Nat.le_trans (Nat.le_of_eq (zlen ad _ xs hz)) (by decide)) ?_
  intro Γ C _ _ xs M hz hF
  obtain ⟨a1, rfl, h⟩ := hF
  have zz_a1 := zall_h (zall_t hz) (by decide)
  refine zr_rng (fun hR => ?_)
  have C : zC Γ mu_X11_isFace := C
  change zV Γ mu_X11_isFace (145, 0, 0) 0 [(0, zRf (zad Γ) 0), (1, zI a1)] [] M
  change vc_X11_isFace pr_X2_refresh po_X2_refresh pr_X2_has po_X2_has a1 _ M at h
  unfold vc_X11_isFace at h
  refine zr_aload_n C 0 rfl (zdec_at dm_X11_isFace 0 rfl) rfl ?_
  refine zr_getr (q := 5) C fk_RX11_29 fi_0_1 (zdec_at dm_X11_isFace 1 rfl) ?_
  obtain ⟨g5, h⟩ := h
  refine zr_callV C [] hS_X2_refresh ck_RX11_158 iv_X2_refresh vc_X2 oc_5 rfl rfl (zdec_at dm_X11_isFace 2 rfl) ⟨rfl, rfl, rfl, rfl⟩ ⟨by decide, by decide⟩ (Nat.le_of_ble_eq_true rfl) zall_n ?_
  refine ⟨rfl, g5, fun M1 p4 _ hR2 => ?_⟩
  have h := h M1 p4 hR2
  show zV Γ mu_X11_isFace (145, 0, 0) 7 [(0, zRf (zad Γ) 0), (1, zI a1)] [] M1
  refine zr_aload_n C 0 rfl (zdec_at dm_X11_isFace 3 rfl) rfl ?_
  refine zr_getr (q := 5) C fk_RX11_29 fi_0_1 (zdec_at dm_X11_isFace 4 rfl) ?_
  refine zr_iload_n C 1 rfl (zdec_at dm_X11_isFace 5 rfl) rfl ?_
  obtain ⟨g11, h⟩ := h
  refine zr_callV C [a1] hS_X2_has ck_RX11_430 iv_X2_has vc_X2 oc_5 rfl rfl (zdec_at dm_X11_isFace 6 rfl) ⟨rfl, rfl, rfl, rfl⟩ ⟨by decide, by decide⟩ (Nat.le_of_ble_eq_true rfl) (zall_0 zz_a1 zall_n) ?_
  refine ⟨_, rfl, g11, fun r6 M7 p10 z9 hR8 => ?_⟩
  have h := h r6 M7 p10 z9 hR8
  show zV Γ mu_X11_isFace (145, 0, 0) 15 [(0, zRf (zad Γ) 0), (1, zI a1)] [zI r6] M7
  obtain ⟨o12, h⟩ := h
  exact zr_zreturn C rfl o12 (zdec_at dm_X11_isFace 7 rfl) rfl ⟨z9, h⟩

set_option maxHeartbeats 400000 in
set_option maxRecDepth 100000 in
theorem sn_X11_isPoint {pr_X11_isFace : Int → zM → Prop} {po_X11_isFace : Int → zM → Int → zM → Prop} {pr_X1_trace : Int → zM → Prop} {po_X1_trace : Int → zM → zM → Prop} (hS_X11_isFace : zSnd zS 145 0 0 yX11_isFace cX11_isFace 2 (some .boolean) 4 [2, 0] (F_X11_isFace pr_X11_isFace po_X11_isFace)) (hS_X1_trace : zSnd zS 145 0 0 yX1_trace cX1_trace 8 none 3 [2, 0] (F_X1_trace pr_X1_trace po_X1_trace)) : zSnd zS 145 0 0 yX11_isPoint cX11_isPoint 3 (some .boolean) 5 [2, 0, 0] (fun xs P M => ∃ a1 a2 : Int, xs = [0, a1, a2] ∧ vc_X11_isPoint pr_X11_isFace po_X11_isFace pr_X1_trace po_X1_trace a1 a2 P M) := by
  refine zSnd.of rfl (fun ad xs hz => Nat.le_trans (Nat.le_of_eq (zlen ad _ xs hz)) (by decide)) ?_
  intro Γ C _ _ xs M hz hF
  obtain ⟨a1, a2, rfl, h⟩ := hF
  have zz_a1 := zall_h (zall_t hz) (by decide)
  have zz_a2 := zall_h (zall_t (zall_t hz)) (by decide)
  refine zr_rng (fun hR => ?_)
  have C : zC Γ mu_X11_isPoint := C
  change zV Γ mu_X11_isPoint (145, 0, 0) 0 [(0, zRf (zad Γ) 0), (1, zI a1), (2, zI a2)] [] M
  change vc_X11_isPoint pr_X11_isFace po_X11_isFace pr_X1_trace po_X1_trace a1 a2 _ M at h
  unfold vc_X11_isPoint at h
  refine zr_aload_n C 0 rfl (zdec_at dm_X11_isPoint 0 rfl) rfl ?_
  refine zr_iload_n C 1 rfl (zdec_at dm_X11_isPoint 1 rfl) rfl ?_
  obtain ⟨g6, h⟩ := h
  refine zr_callV C [a1] hS_X11_isFace ck_RX11_177 iv_X11_isFace vc_X11 oc_0 rfl rfl (zdec_at dm_X11_isPoint 2 rfl) ⟨rfl, rfl, rfl, rfl⟩ ⟨by decide, by decide⟩ (Nat.le_of_ble_eq_true rfl) (zall_0 zz_a1 zall_n) ?_
  refine ⟨_, rfl, g6, fun r1 M2 p5 z4 hR3 => ?_⟩
  have h := h r1 M2 p5 z4 hR3
  show zV Γ mu_X11_isPoint (145, 0, 0) 5 [(0, zRf (zad Γ) 0), (1, zI a1), (2, zI a2)] [zI r1] M2
  refine zr_if_ne C z4 (zdec_at dm_X11_isPoint 3 rfl) rfl (fun g7 => ?_) (fun g7 => ?_)
  · have h := h.1 g7
    refine zr_aload_n C 0 rfl (zdec_at dm_X11_isPoint 6 rfl) rfl ?_
    refine zr_getr (q := 17) C fk_RX11_33 fi_0_2 (zdec_at dm_X11_isPoint 7 rfl) ?_
    refine zr_iload_n C 1 rfl (zdec_at dm_X11_isPoint 8 rfl) rfl ?_
    obtain ⟨g12, h⟩ := h
    refine zr_callV C [a1] hS_X1_trace ck_RX11_212 iv_X1_trace vc_X1 oc_17 rfl rfl (zdec_at dm_X11_isPoint 9 rfl) ⟨rfl, rfl, rfl, rfl⟩ ⟨by decide, by decide⟩ (Nat.le_of_ble_eq_true rfl) (zall_0 zz_a1 zall_n) ?_
    refine ⟨_, rfl, g12, fun M8 p11 _ hR9 => ?_⟩
    have h := h M8 p11 hR9
    show zV Γ mu_X11_isPoint (145, 0, 0) 18 [(0, zRf (zad Γ) 0), (1, zI a1), (2, zI a2)] [] M8
    refine zr_iload_n C 2 rfl (zdec_at dm_X11_isPoint 10 rfl) rfl ?_
    refine zr_if_lt C zz_a2 (zdec_at dm_X11_isPoint 11 rfl) rfl (fun g13 => ?_) (fun g13 => ?_)
    · have h := h.1 g13
      refine zr_iconst C (zdec_at dm_X11_isPoint 19 rfl) ?_
      exact zr_zreturn C rfl (by decide) (zdec_at dm_X11_isPoint 20 rfl) rfl ⟨(by decide), h⟩
    · have h := h.2 g13
      refine zr_iload_n C 2 rfl (zdec_at dm_X11_isPoint 12 rfl) rfl ?_
      refine zr_aload_n C 0 rfl (zdec_at dm_X11_isPoint 13 rfl) rfl ?_
      refine zr_getr (q := 17) C fk_RX11_33 fi_0_2 (zdec_at dm_X11_isPoint 14 rfl) ?_
      refine zr_geti C fk_RX11_225 fi_17_1 (zdec_at dm_X11_isPoint 15 rfl) ?_
      refine zr_icmp_ge C zz_a2 (hR9 _ _) (zdec_at dm_X11_isPoint 16 rfl) rfl (fun g14 => ?_) (fun g14 => ?_)
      · have h := h.1 g14
        refine zr_iconst C (zdec_at dm_X11_isPoint 19 rfl) ?_
        exact zr_zreturn C rfl (by decide) (zdec_at dm_X11_isPoint 20 rfl) rfl ⟨(by decide), h⟩
      · have h := h.2 g14
        refine zr_iconst C (zdec_at dm_X11_isPoint 17 rfl) ?_
        refine zr_goto C (zdec_at dm_X11_isPoint 18 rfl) rfl ?_
        exact zr_zreturn C rfl (by decide) (zdec_at dm_X11_isPoint 20 rfl) rfl ⟨(by decide), h⟩
  · have h := h.2 g7
    refine zr_iconst C (zdec_at dm_X11_isPoint 4 rfl) ?_
    exact zr_zreturn C rfl (by decide) (zdec_at dm_X11_isPoint 5 rfl) rfl ⟨(by decide), h⟩

set_option maxHeartbeats 400000 in
set_option maxRecDepth 100000 in
theorem sn_X11_shelfAt : zSnd zS 145 0 0 yX11_shelfAt cX11_shelfAt 2 (some (.object "DotLines$Shelf")) 0 [2, 0] (fun xs P M => ∃ a1 : Int, xs = [0, a1] ∧ vc_X11_shelfAt a1 P M) := by
  refine zSnd.of rfl (fun ad xs hz => Nat.le_trans (Nat.le_of_eq (zlen ad _ xs hz)) (by decide)) ?_
  intro Γ C _ _ xs M hz hF
  obtain ⟨a1, rfl, h⟩ := hF
  have zz_a1 := zall_h (zall_t hz) (by decide)
  refine zr_rng (fun hR => ?_)
  have C : zC Γ mu_X11_shelfAt := C
  change zV Γ mu_X11_shelfAt (145, 0, 0) 0 [(0, zRf (zad Γ) 0), (1, zI a1)] [] M
  change vc_X11_shelfAt a1 _ M at h
  unfold vc_X11_shelfAt at h
  refine zr_iload_n C 1 rfl (zdec_at dm_X11_shelfAt 0 rfl) rfl ?_
  refine zr_if_lt C zz_a1 (zdec_at dm_X11_shelfAt 1 rfl) rfl (fun g1 => ?_) (fun g1 => ?_)
  · have h := h.1 g1
    refine zr_null C (zdec_at dm_X11_shelfAt 12 rfl) ?_
    exact zr_areturnN C rfl rfl (zdec_at dm_X11_shelfAt 13 rfl) rfl ⟨by decide, h⟩
  · have h := h.2 g1
    refine zr_iload_n C 1 rfl (zdec_at dm_X11_shelfAt 2 rfl) rfl ?_
    refine zr_aload_n C 0 rfl (zdec_at dm_X11_shelfAt 3 rfl) rfl ?_
    refine zr_getr (q := 25) C fk_RX11_88 fi_0_10 (zdec_at dm_X11_shelfAt 4 rfl) ?_
    refine zr_alenr (len := 8) C (by decide) ai_25 (zdec_at dm_X11_shelfAt 5 rfl) ?_
    refine zr_icmp_ge C zz_a1 (by decide) (zdec_at dm_X11_shelfAt 6 rfl) rfl (fun g2 => ?_) (fun g2 => ?_)
    · have h := h.1 g2
      refine zr_null C (zdec_at dm_X11_shelfAt 12 rfl) ?_
      exact zr_areturnN C rfl rfl (zdec_at dm_X11_shelfAt 13 rfl) rfl ⟨by decide, h⟩
    · have h := h.2 g2
      refine zr_aload_n C 0 rfl (zdec_at dm_X11_shelfAt 7 rfl) rfl ?_
      refine zr_getr (q := 25) C fk_RX11_88 fi_0_10 (zdec_at dm_X11_shelfAt 8 rfl) ?_
      refine zr_iload_n C 1 rfl (zdec_at dm_X11_shelfAt 9 rfl) rfl ?_
      obtain ⟨o3, h⟩ := h
      refine zr_aald (q := (26 + 2 * a1)) C (by decide) ai_25 o3 (zrow_s o3) (zdec_at dm_X11_shelfAt 10 rfl) ?_
      refine zr_goto C (zdec_at dm_X11_shelfAt 11 rfl) rfl ?_
      exact zr_areturnR C rfl (zrow_n25 o3) (zdec_at dm_X11_shelfAt 13 rfl) rfl ⟨(zrow_z25 o3), h⟩

set_option maxHeartbeats 400000 in
set_option maxRecDepth 100000 in
theorem sn_X11_refusalOfText {pr_X11_shelfAt : Int → zM → Prop} {po_X11_shelfAt : Int → zM → Int → zM → Prop} (hS_X11_shelfAt : zSnd zS 145 0 0 yX11_shelfAt cX11_shelfAt 2 (some (.object "DotLines$Shelf")) 0 [2, 0] (F_X11_shelfAt pr_X11_shelfAt po_X11_shelfAt)) : zSnd zS 145 0 0 yX11_refusalOfText cX11_refusalOfText 3 (some .int) 1 [2, 0] (fun xs P M => ∃ a1 : Int, xs = [0, a1] ∧ vc_X11_refusalOfText pr_X11_shelfAt po_X11_shelfAt a1 P M) := by
  refine zSnd.of rfl (fun ad xs hz => Nat.le_trans (Nat.le_of_eq (zlen ad _ xs hz)) (by decide)) ?_
  intro Γ C _ _ xs M hz hF
  obtain ⟨a1, rfl, h⟩ := hF
  have zz_a1 := zall_h (zall_t hz) (by decide)
  refine zr_rng (fun hR => ?_)
  have C : zC Γ mu_X11_refusalOfText := C
  change zV Γ mu_X11_refusalOfText (145, 0, 0) 0 [(0, zRf (zad Γ) 0), (1, zI a1)] [] M
  change vc_X11_refusalOfText pr_X11_shelfAt po_X11_shelfAt a1 _ M at h
  unfold vc_X11_refusalOfText at h
  refine zr_aload_n C 0 rfl (zdec_at dm_X11_refusalOfText 0 rfl) rfl ?_
  refine zr_iload_n C 1 rfl (zdec_at dm_X11_refusalOfText 1 rfl) rfl ?_
  obtain ⟨g6, h⟩ := h
  refine zr_callV C [a1] hS_X11_shelfAt ck_RX11_103 iv_X11_shelfAt vc_X11 oc_0 rfl rfl (zdec_at dm_X11_refusalOfText 2 rfl) ⟨rfl, rfl, rfl, rfl⟩ ⟨by decide, by decide⟩ (Nat.le_of_ble_eq_true rfl) (zall_0 zz_a1 zall_n) ?_
  refine ⟨_, rfl, g6, fun r1 M2 p5 z4 hR3 => ?_⟩
  have h := h r1 M2 p5 z4 hR3
  show zV Γ mu_X11_refusalOfText (145, 0, 0) 5 [(0, zRf (zad Γ) 0), (1, zI a1)] [zA (zad Γ) r1] M2
  refine zr_astoreA_n (L1 := [(2, zA (zad Γ) r1), (0, zRf (zad Γ) 0), (1, zI a1)]) C (zdec_at dm_X11_refusalOfText 3 rfl) rfl (Nat.le_of_ble_eq_true rfl) rfl ?_
  refine zr_aloadA_n C 0 rfl (zdec_at dm_X11_refusalOfText 4 rfl) rfl ?_
  refine zr_ifnonnull C (zdec_at dm_X11_refusalOfText 5 rfl) rfl (fun g7 => ?_) (fun g7 => ?_)
  · have h := h.1 g7
    rw [zA_pos g7]
    refine zr_aload_n C 0 rfl (zdec_at dm_X11_refusalOfText 8 rfl) rfl ?_
    obtain ⟨o8, h⟩ := h
    refine zr_geti C fk_RX11_389 (zsh_f o8 0 (by decide)) (zdec_at dm_X11_refusalOfText 9 rfl) ?_
    refine zr_if_ne C (hR3 _ _) (zdec_at dm_X11_refusalOfText 10 rfl) rfl (fun g9 => ?_) (fun g9 => ?_)
    · have h := h.1 g9
      refine zr_aload_n C 0 rfl (zdec_at dm_X11_refusalOfText 13 rfl) rfl ?_
      refine zr_geti C fk_RX11_389 (zsh_f o8 0 (by decide)) (zdec_at dm_X11_refusalOfText 14 rfl) ?_
      refine zr_iconst C (zdec_at dm_X11_refusalOfText 15 rfl) ?_
      refine zr_icmp_ne C (hR3 _ _) (by decide) (zdec_at dm_X11_refusalOfText 16 rfl) rfl (fun g10 => ?_) (fun g10 => ?_)
      · have h := h.1 g10
        refine zr_bipush C (zdec_at dm_X11_refusalOfText 22 rfl) (by decide) ?_
        exact zr_ireturn C rfl (zdec_at dm_X11_refusalOfText 23 rfl) rfl ⟨(by decide), h⟩
      · have h := h.2 g10
        refine zr_aload_n C 0 rfl (zdec_at dm_X11_refusalOfText 17 rfl) rfl ?_
        refine zr_geti C fk_RX11_409 (zsh_f o8 1 (by decide)) (zdec_at dm_X11_refusalOfText 18 rfl) ?_
        refine zr_if_ne C (hR3 _ _) (zdec_at dm_X11_refusalOfText 19 rfl) rfl (fun g11 => ?_) (fun g11 => ?_)
        · have h := h.1 g11
          refine zr_bipush C (zdec_at dm_X11_refusalOfText 22 rfl) (by decide) ?_
          exact zr_ireturn C rfl (zdec_at dm_X11_refusalOfText 23 rfl) rfl ⟨(by decide), h⟩
        · have h := h.2 g11
          refine zr_iconst C (zdec_at dm_X11_refusalOfText 20 rfl) ?_
          refine zr_goto C (zdec_at dm_X11_refusalOfText 21 rfl) rfl ?_
          exact zr_ireturn C rfl (zdec_at dm_X11_refusalOfText 23 rfl) rfl ⟨(by decide), h⟩
    · have h := h.2 g9
      refine zr_bipush C (zdec_at dm_X11_refusalOfText 11 rfl) (by decide) ?_
      exact zr_ireturn C rfl (zdec_at dm_X11_refusalOfText 12 rfl) rfl ⟨(by decide), h⟩
  · have h := h.2 g7
    refine zr_iconst C (zdec_at dm_X11_refusalOfText 6 rfl) ?_
    exact zr_ireturn C rfl (zdec_at dm_X11_refusalOfText 7 rfl) rfl ⟨(by decide), h⟩

set_option maxHeartbeats 400000 in
set_option maxRecDepth 100000 in
theorem sn_X11_refusalOfPiece {pr_X11_shelfAt : Int → zM → Prop} {po_X11_shelfAt : Int → zM → Int → zM → Prop} (hS_X11_shelfAt : zSnd zS 145 0 0 yX11_shelfAt cX11_shelfAt 2 (some (.object "DotLines$Shelf")) 0 [2, 0] (F_X11_shelfAt pr_X11_shelfAt po_X11_shelfAt)) : zSnd zS 145 0 0 yX11_refusalOfPiece cX11_refusalOfPiece 3 (some .int) 1 [2, 0] (fun xs P M => ∃ a1 : Int, xs = [0, a1] ∧ vc_X11_refusalOfPiece pr_X11_shelfAt po_X11_shelfAt a1 P M) := by
  refine zSnd.of rfl (fun ad xs hz => Nat.le_trans (Nat.le_of_eq (zlen ad _ xs hz)) (by decide)) ?_
  intro Γ C _ _ xs M hz hF
  obtain ⟨a1, rfl, h⟩ := hF
  have zz_a1 := zall_h (zall_t hz) (by decide)
  refine zr_rng (fun hR => ?_)
  have C : zC Γ mu_X11_refusalOfPiece := C
  change zV Γ mu_X11_refusalOfPiece (145, 0, 0) 0 [(0, zRf (zad Γ) 0), (1, zI a1)] [] M
  change vc_X11_refusalOfPiece pr_X11_shelfAt po_X11_shelfAt a1 _ M at h
  unfold vc_X11_refusalOfPiece at h
  refine zr_aload_n C 0 rfl (zdec_at dm_X11_refusalOfPiece 0 rfl) rfl ?_
  refine zr_iload_n C 1 rfl (zdec_at dm_X11_refusalOfPiece 1 rfl) rfl ?_
  obtain ⟨g6, h⟩ := h
  refine zr_callV C [a1] hS_X11_shelfAt ck_RX11_103 iv_X11_shelfAt vc_X11 oc_0 rfl rfl (zdec_at dm_X11_refusalOfPiece 2 rfl) ⟨rfl, rfl, rfl, rfl⟩ ⟨by decide, by decide⟩ (Nat.le_of_ble_eq_true rfl) (zall_0 zz_a1 zall_n) ?_
  refine ⟨_, rfl, g6, fun r1 M2 p5 z4 hR3 => ?_⟩
  have h := h r1 M2 p5 z4 hR3
  show zV Γ mu_X11_refusalOfPiece (145, 0, 0) 5 [(0, zRf (zad Γ) 0), (1, zI a1)] [zA (zad Γ) r1] M2
  refine zr_astoreA_n (L1 := [(2, zA (zad Γ) r1), (0, zRf (zad Γ) 0), (1, zI a1)]) C (zdec_at dm_X11_refusalOfPiece 3 rfl) rfl (Nat.le_of_ble_eq_true rfl) rfl ?_
  refine zr_aloadA_n C 0 rfl (zdec_at dm_X11_refusalOfPiece 4 rfl) rfl ?_
  refine zr_ifnonnull C (zdec_at dm_X11_refusalOfPiece 5 rfl) rfl (fun g7 => ?_) (fun g7 => ?_)
  · have h := h.1 g7
    rw [zA_pos g7]
    refine zr_aload_n C 0 rfl (zdec_at dm_X11_refusalOfPiece 8 rfl) rfl ?_
    obtain ⟨o8, h⟩ := h
    refine zr_geti C fk_RX11_389 (zsh_f o8 0 (by decide)) (zdec_at dm_X11_refusalOfPiece 9 rfl) ?_
    refine zr_if_ne C (hR3 _ _) (zdec_at dm_X11_refusalOfPiece 10 rfl) rfl (fun g9 => ?_) (fun g9 => ?_)
    · have h := h.1 g9
      refine zr_aload_n C 0 rfl (zdec_at dm_X11_refusalOfPiece 13 rfl) rfl ?_
      refine zr_geti C fk_RX11_389 (zsh_f o8 0 (by decide)) (zdec_at dm_X11_refusalOfPiece 14 rfl) ?_
      refine zr_iconst C (zdec_at dm_X11_refusalOfPiece 15 rfl) ?_
      refine zr_icmp_ne C (hR3 _ _) (by decide) (zdec_at dm_X11_refusalOfPiece 16 rfl) rfl (fun g10 => ?_) (fun g10 => ?_)
      · have h := h.1 g10
        refine zr_bipush C (zdec_at dm_X11_refusalOfPiece 19 rfl) (by decide) ?_
        exact zr_ireturn C rfl (zdec_at dm_X11_refusalOfPiece 20 rfl) rfl ⟨(by decide), h⟩
      · have h := h.2 g10
        refine zr_iconst C (zdec_at dm_X11_refusalOfPiece 17 rfl) ?_
        refine zr_goto C (zdec_at dm_X11_refusalOfPiece 18 rfl) rfl ?_
        exact zr_ireturn C rfl (zdec_at dm_X11_refusalOfPiece 20 rfl) rfl ⟨(by decide), h⟩
    · have h := h.2 g9
      refine zr_bipush C (zdec_at dm_X11_refusalOfPiece 11 rfl) (by decide) ?_
      exact zr_ireturn C rfl (zdec_at dm_X11_refusalOfPiece 12 rfl) rfl ⟨(by decide), h⟩
  · have h := h.2 g7
    refine zr_iconst C (zdec_at dm_X11_refusalOfPiece 6 rfl) ?_
    exact zr_ireturn C rfl (zdec_at dm_X11_refusalOfPiece 7 rfl) rfl ⟨(by decide), h⟩

set_option maxHeartbeats 400000 in
set_option maxRecDepth 100000 in
theorem sn_X11_measure {pr_X2_colour : Int → zM → Prop} {po_X2_colour : Int → zM → Int → zM → Prop} {pr_X2_width : Int → zM → Prop} {po_X2_width : Int → zM → Int → zM → Prop} {pr_X2_height : Int → zM → Prop} {po_X2_height : Int → zM → Int → zM → Prop} {pr_X2_markHoles : Int → zM → Prop} {po_X2_markHoles : Int → zM → Int → zM → Prop} {pr_X2_countBeside : Int → zM → Prop} {po_X2_countBeside : Int → zM → Int → zM → Prop} {pr_X2_depth : Int → zM → Prop} {po_X2_depth : Int → zM → Int → zM → Prop} {pr_X9_greatestBreadth : Int → zM → Prop} {po_X9_greatestBreadth : Int → zM → Int → zM → Prop} {pr_X1_trace : Int → zM → Prop} {po_X1_trace : Int → zM → zM → Prop} (hS_X2_colour : zSnd zS 145 0 0 yX2_colour cX2_colour 2 (some .int) 1 [2, 0] (F_X2_colour pr_X2_colour po_X2_colour)) (hS_X2_width : zSnd zS 145 0 0 yX2_width cX2_width 2 (some .int) 0 [2, 0] (F_X2_width pr_X2_width po_X2_width)) (hS_X2_height : zSnd zS 145 0 0 yX2_height cX2_height 2 (some .int) 0 [2, 0] (F_X2_height pr_X2_height po_X2_height)) (hS_X2_markHoles : zSnd zS 145 0 0 yX2_markHoles cX2_markHoles 5 (some .int) 2 [2, 0] (F_X2_markHoles pr_X2_markHoles po_X2_markHoles)) (hS_X2_countBeside : zSnd zS 145 0 0 yX2_countBeside cX2_countBeside 5 (some .int) 2 [2, 0] (F_X2_countBeside pr_X2_countBeside po_X2_countBeside)) (hS_X2_depth : zSnd zS 145 0 0 yX2_depth cX2_depth 4 (some .int) 4 [2, 0] (F_X2_depth pr_X2_depth po_X2_depth)) (hS_X9_greatestBreadth : zSnd zS 145 0 0 yX9_greatestBreadth cX9_greatestBreadth 5 (some .int) 2 [2, 0] (F_X9_greatestBreadth pr_X9_greatestBreadth po_X9_greatestBreadth)) (hS_X1_trace : zSnd zS 145 0 0 yX1_trace cX1_trace 8 none 3 [2, 0] (F_X1_trace pr_X1_trace po_X1_trace)) : zSnd zS 145 0 0 yX11_measure cX11_measure 3 (some .int) 5 [2, 0, 0] (fun xs P M => ∃ a1 a2 : Int, xs = [0, a1, a2] ∧ vc_X11_measure pr_X2_colour po_X2_colour pr_X2_width po_X2_width pr_X2_height po_X2_height pr_X2_markHoles po_X2_markHoles pr_X2_countBeside po_X2_countBeside pr_X2_depth po_X2_depth pr_X9_greatestBreadth po_X9_greatestBreadth pr_X1_trace po_X1_trace a1 a2 P M) := by
  refine zSnd.of rfl (fun ad xs hz => Nat.le_trans (Nat.le_of_eq (zlen ad _ xs hz)) (by decide)) ?_
  intro Γ C _ _ xs M hz hF
  obtain ⟨a1, a2, rfl, h⟩ := hF
  have zz_a1 := zall_h (zall_t hz) (by decide)
  have zz_a2 := zall_h (zall_t (zall_t hz)) (by decide)
  refine zr_rng (fun hR => ?_)
  have C : zC Γ mu_X11_measure := C
  change zV Γ mu_X11_measure (145, 0, 0) 0 [(0, zRf (zad Γ) 0), (1, zI a1), (2, zI a2)] [] M
  change vc_X11_measure pr_X2_colour po_X2_colour pr_X2_width po_X2_width pr_X2_height po_X2_height pr_X2_markHoles po_X2_markHoles pr_X2_countBeside po_X2_countBeside pr_X2_depth po_X2_depth pr_X9_greatestBreadth po_X9_greatestBreadth pr_X1_trace po_X1_trace a1 a2 _ M at h
  unfold vc_X11_measure at h
  refine zr_iload_n C 2 rfl (zdec_at dm_X11_measure 0 rfl) rfl ?_
  by_cases g1_0 : a2 = 0
  · have h := h.1 g1_0
    refine zr_tsin C 0 (g1_0.trans (by decide)) zz_a2 (by decide) (zdec_at dm_X11_measure 1 rfl) rfl rfl ?_
    refine zr_aload_n C 0 rfl (zdec_at dm_X11_measure 2 rfl) rfl ?_
    refine zr_getr (q := 5) C fk_RX11_29 fi_0_1 (zdec_at dm_X11_measure 3 rfl) ?_
    refine zr_getr (q := 6) C fk_RX11_164 fi_5_3 (zdec_at dm_X11_measure 4 rfl) ?_
    refine zr_iload_n C 1 rfl (zdec_at dm_X11_measure 5 rfl) rfl ?_
    obtain ⟨o1, h⟩ := h
    refine zr_iald C ai_6 o1 (zdec_at dm_X11_measure 6 rfl) ?_
    exact zr_ireturn C rfl (zdec_at dm_X11_measure 7 rfl) rfl ⟨(hR _ _), h⟩
  · have h := h.2 g1_0
    by_cases g1_1 : a2 = 1
    · have h := h.1 g1_1
      refine zr_tsin C 1 (g1_1.trans (by decide)) zz_a2 (by decide) (zdec_at dm_X11_measure 1 rfl) rfl rfl ?_
      refine zr_aload_n C 0 rfl (zdec_at dm_X11_measure 8 rfl) rfl ?_
      refine zr_getr (q := 5) C fk_RX11_29 fi_0_1 (zdec_at dm_X11_measure 9 rfl) ?_
      refine zr_iload_n C 1 rfl (zdec_at dm_X11_measure 10 rfl) rfl ?_
      obtain ⟨g7, h⟩ := h
      refine zr_callV C [a1] hS_X2_colour ck_RX11_433 iv_X2_colour vc_X2 oc_5 rfl rfl (zdec_at dm_X11_measure 11 rfl) ⟨rfl, rfl, rfl, rfl⟩ ⟨by decide, by decide⟩ (Nat.le_of_ble_eq_true rfl) (zall_0 zz_a1 zall_n) ?_
      refine ⟨_, rfl, g7, fun r2 M3 p6 z5 hR4 => ?_⟩
      have h := h r2 M3 p6 z5 hR4
      show zV Γ mu_X11_measure (145, 0, 0) 78 [(0, zRf (zad Γ) 0), (1, zI a1), (2, zI a2)] [zI r2] M3
      exact zr_ireturn C rfl (zdec_at dm_X11_measure 12 rfl) rfl ⟨z5, h⟩
    · have h := h.2 g1_1
      by_cases g1_2 : a2 = 2
      · have h := h.1 g1_2
        refine zr_tsin C 2 (g1_2.trans (by decide)) zz_a2 (by decide) (zdec_at dm_X11_measure 1 rfl) rfl rfl ?_
        refine zr_aload_n C 0 rfl (zdec_at dm_X11_measure 13 rfl) rfl ?_
        refine zr_getr (q := 5) C fk_RX11_29 fi_0_1 (zdec_at dm_X11_measure 14 rfl) ?_
        refine zr_getr (q := 7) C fk_RX11_436 fi_5_4 (zdec_at dm_X11_measure 15 rfl) ?_
        refine zr_iload_n C 1 rfl (zdec_at dm_X11_measure 16 rfl) rfl ?_
        obtain ⟨o8, h⟩ := h
        refine zr_iald C ai_7 o8 (zdec_at dm_X11_measure 17 rfl) ?_
        exact zr_ireturn C rfl (zdec_at dm_X11_measure 18 rfl) rfl ⟨(hR _ _), h⟩
      · have h := h.2 g1_2
        by_cases g1_3 : a2 = 3
        · have h := h.1 g1_3
          refine zr_tsin C 3 (g1_3.trans (by decide)) zz_a2 (by decide) (zdec_at dm_X11_measure 1 rfl) rfl rfl ?_
          refine zr_aload_n C 0 rfl (zdec_at dm_X11_measure 19 rfl) rfl ?_
          refine zr_getr (q := 5) C fk_RX11_29 fi_0_1 (zdec_at dm_X11_measure 20 rfl) ?_
          refine zr_getr (q := 8) C fk_RX11_439 fi_5_5 (zdec_at dm_X11_measure 21 rfl) ?_
          refine zr_iload_n C 1 rfl (zdec_at dm_X11_measure 22 rfl) rfl ?_
          obtain ⟨o9, h⟩ := h
          refine zr_iald C ai_8 o9 (zdec_at dm_X11_measure 23 rfl) ?_
          exact zr_ireturn C rfl (zdec_at dm_X11_measure 24 rfl) rfl ⟨(hR _ _), h⟩
        · have h := h.2 g1_3
          by_cases g1_4 : a2 = 4
          · have h := h.1 g1_4
            refine zr_tsin C 4 (g1_4.trans (by decide)) zz_a2 (by decide) (zdec_at dm_X11_measure 1 rfl) rfl rfl ?_
            refine zr_aload_n C 0 rfl (zdec_at dm_X11_measure 25 rfl) rfl ?_
            refine zr_getr (q := 5) C fk_RX11_29 fi_0_1 (zdec_at dm_X11_measure 26 rfl) ?_
            refine zr_getr (q := 9) C fk_RX11_442 fi_5_6 (zdec_at dm_X11_measure 27 rfl) ?_
            refine zr_iload_n C 1 rfl (zdec_at dm_X11_measure 28 rfl) rfl ?_
            obtain ⟨o10, h⟩ := h
            refine zr_iald C ai_9 o10 (zdec_at dm_X11_measure 29 rfl) ?_
            exact zr_ireturn C rfl (zdec_at dm_X11_measure 30 rfl) rfl ⟨(hR _ _), h⟩
          · have h := h.2 g1_4
            by_cases g1_5 : a2 = 5
            · have h := h.1 g1_5
              refine zr_tsin C 5 (g1_5.trans (by decide)) zz_a2 (by decide) (zdec_at dm_X11_measure 1 rfl) rfl rfl ?_
              refine zr_aload_n C 0 rfl (zdec_at dm_X11_measure 31 rfl) rfl ?_
              refine zr_getr (q := 5) C fk_RX11_29 fi_0_1 (zdec_at dm_X11_measure 32 rfl) ?_
              refine zr_iload_n C 1 rfl (zdec_at dm_X11_measure 33 rfl) rfl ?_
              obtain ⟨g16, h⟩ := h
              refine zr_callV C [a1] hS_X2_width ck_RX11_266 iv_X2_width vc_X2 oc_5 rfl rfl (zdec_at dm_X11_measure 34 rfl) ⟨rfl, rfl, rfl, rfl⟩ ⟨by decide, by decide⟩ (Nat.le_of_ble_eq_true rfl) (zall_0 zz_a1 zall_n) ?_
              refine ⟨_, rfl, g16, fun r11 M12 p15 z14 hR13 => ?_⟩
              have h := h r11 M12 p15 z14 hR13
              show zV Γ mu_X11_measure (145, 0, 0) 117 [(0, zRf (zad Γ) 0), (1, zI a1), (2, zI a2)] [zI r11] M12
              exact zr_ireturn C rfl (zdec_at dm_X11_measure 35 rfl) rfl ⟨z14, h⟩
            · have h := h.2 g1_5
              by_cases g1_6 : a2 = 6
              · have h := h.1 g1_6
                refine zr_tsin C 6 (g1_6.trans (by decide)) zz_a2 (by decide) (zdec_at dm_X11_measure 1 rfl) rfl rfl ?_
                refine zr_aload_n C 0 rfl (zdec_at dm_X11_measure 36 rfl) rfl ?_
                refine zr_getr (q := 5) C fk_RX11_29 fi_0_1 (zdec_at dm_X11_measure 37 rfl) ?_
                refine zr_iload_n C 1 rfl (zdec_at dm_X11_measure 38 rfl) rfl ?_
                obtain ⟨g22, h⟩ := h
                refine zr_callV C [a1] hS_X2_height ck_RX11_269 iv_X2_height vc_X2 oc_5 rfl rfl (zdec_at dm_X11_measure 39 rfl) ⟨rfl, rfl, rfl, rfl⟩ ⟨by decide, by decide⟩ (Nat.le_of_ble_eq_true rfl) (zall_0 zz_a1 zall_n) ?_
                refine ⟨_, rfl, g22, fun r17 M18 p21 z20 hR19 => ?_⟩
                have h := h r17 M18 p21 z20 hR19
                show zV Γ mu_X11_measure (145, 0, 0) 126 [(0, zRf (zad Γ) 0), (1, zI a1), (2, zI a2)] [zI r17] M18
                exact zr_ireturn C rfl (zdec_at dm_X11_measure 40 rfl) rfl ⟨z20, h⟩
              · have h := h.2 g1_6
                by_cases g1_7 : a2 = 7
                · have h := h.1 g1_7
                  refine zr_tsin C 7 (g1_7.trans (by decide)) zz_a2 (by decide) (zdec_at dm_X11_measure 1 rfl) rfl rfl ?_
                  refine zr_aload_n C 0 rfl (zdec_at dm_X11_measure 41 rfl) rfl ?_
                  refine zr_getr (q := 5) C fk_RX11_29 fi_0_1 (zdec_at dm_X11_measure 42 rfl) ?_
                  refine zr_iload_n C 1 rfl (zdec_at dm_X11_measure 43 rfl) rfl ?_
                  obtain ⟨g28, h⟩ := h
                  refine zr_callV C [a1] hS_X2_markHoles ck_RX11_242 iv_X2_markHoles vc_X2 oc_5 rfl rfl (zdec_at dm_X11_measure 44 rfl) ⟨rfl, rfl, rfl, rfl⟩ ⟨by decide, by decide⟩ (Nat.le_of_ble_eq_true rfl) (zall_0 zz_a1 zall_n) ?_
                  refine ⟨_, rfl, g28, fun r23 M24 p27 z26 hR25 => ?_⟩
                  have h := h r23 M24 p27 z26 hR25
                  show zV Γ mu_X11_measure (145, 0, 0) 135 [(0, zRf (zad Γ) 0), (1, zI a1), (2, zI a2)] [zI r23] M24
                  exact zr_ireturn C rfl (zdec_at dm_X11_measure 45 rfl) rfl ⟨z26, h⟩
                · have h := h.2 g1_7
                  by_cases g1_8 : a2 = 8
                  · have h := h.1 g1_8
                    refine zr_tsin C 8 (g1_8.trans (by decide)) zz_a2 (by decide) (zdec_at dm_X11_measure 1 rfl) rfl rfl ?_
                    refine zr_aload_n C 0 rfl (zdec_at dm_X11_measure 46 rfl) rfl ?_
                    refine zr_getr (q := 5) C fk_RX11_29 fi_0_1 (zdec_at dm_X11_measure 47 rfl) ?_
                    refine zr_iload_n C 1 rfl (zdec_at dm_X11_measure 48 rfl) rfl ?_
                    obtain ⟨g34, h⟩ := h
                    refine zr_callV C [a1] hS_X2_countBeside ck_RX11_445 iv_X2_countBeside vc_X2 oc_5 rfl rfl (zdec_at dm_X11_measure 49 rfl) ⟨rfl, rfl, rfl, rfl⟩ ⟨by decide, by decide⟩ (Nat.le_of_ble_eq_true rfl) (zall_0 zz_a1 zall_n) ?_
                    refine ⟨_, rfl, g34, fun r29 M30 p33 z32 hR31 => ?_⟩
                    have h := h r29 M30 p33 z32 hR31
                    show zV Γ mu_X11_measure (145, 0, 0) 144 [(0, zRf (zad Γ) 0), (1, zI a1), (2, zI a2)] [zI r29] M30
                    exact zr_ireturn C rfl (zdec_at dm_X11_measure 50 rfl) rfl ⟨z32, h⟩
                  · have h := h.2 g1_8
                    by_cases g1_9 : a2 = 9
                    · have h := h.1 g1_9
                      refine zr_tsin C 9 (g1_9.trans (by decide)) zz_a2 (by decide) (zdec_at dm_X11_measure 1 rfl) rfl rfl ?_
                      refine zr_aload_n C 0 rfl (zdec_at dm_X11_measure 51 rfl) rfl ?_
                      refine zr_getr (q := 5) C fk_RX11_29 fi_0_1 (zdec_at dm_X11_measure 52 rfl) ?_
                      refine zr_iload_n C 1 rfl (zdec_at dm_X11_measure 53 rfl) rfl ?_
                      obtain ⟨g40, h⟩ := h
                      refine zr_callV C [a1] hS_X2_depth ck_RX11_448 iv_X2_depth vc_X2 oc_5 rfl rfl (zdec_at dm_X11_measure 54 rfl) ⟨rfl, rfl, rfl, rfl⟩ ⟨by decide, by decide⟩ (Nat.le_of_ble_eq_true rfl) (zall_0 zz_a1 zall_n) ?_
                      refine ⟨_, rfl, g40, fun r35 M36 p39 z38 hR37 => ?_⟩
                      have h := h r35 M36 p39 z38 hR37
                      show zV Γ mu_X11_measure (145, 0, 0) 153 [(0, zRf (zad Γ) 0), (1, zI a1), (2, zI a2)] [zI r35] M36
                      exact zr_ireturn C rfl (zdec_at dm_X11_measure 55 rfl) rfl ⟨z38, h⟩
                    · have h := h.2 g1_9
                      by_cases g1_10 : a2 = 10
                      · have h := h.1 g1_10
                        refine zr_tsin C 10 (g1_10.trans (by decide)) zz_a2 (by decide) (zdec_at dm_X11_measure 1 rfl) rfl rfl ?_
                        refine zr_aload_n C 0 rfl (zdec_at dm_X11_measure 56 rfl) rfl ?_
                        refine zr_getr (q := 48) C fk_RX11_49 fi_0_4 (zdec_at dm_X11_measure 57 rfl) ?_
                        refine zr_iload_n C 1 rfl (zdec_at dm_X11_measure 58 rfl) rfl ?_
                        obtain ⟨g46, h⟩ := h
                        refine zr_callV C [a1] hS_X9_greatestBreadth ck_RX11_263 iv_X9_greatestBreadth vc_X9 oc_48 rfl rfl (zdec_at dm_X11_measure 59 rfl) ⟨rfl, rfl, rfl, rfl⟩ ⟨by decide, by decide⟩ (Nat.le_of_ble_eq_true rfl) (zall_0 zz_a1 zall_n) ?_
                        refine ⟨_, rfl, g46, fun r41 M42 p45 z44 hR43 => ?_⟩
                        have h := h r41 M42 p45 z44 hR43
                        show zV Γ mu_X11_measure (145, 0, 0) 162 [(0, zRf (zad Γ) 0), (1, zI a1), (2, zI a2)] [zI r41] M42
                        exact zr_ireturn C rfl (zdec_at dm_X11_measure 60 rfl) rfl ⟨z44, h⟩
                      · have h := h.2 g1_10
                        refine zr_tsout C (zts_s 11 (zts_s 10 (zts_s 9 (zts_s 8 (zts_s 7 (zts_s 6 (zts_s 5 (zts_s 4 (zts_s 3 (zts_s 2 (zts_s 1 (zts_0 a2 0) g1_0) g1_1) g1_2) g1_3) g1_4) g1_5) g1_6) g1_7) g1_8) g1_9) g1_10) zz_a2 (zdec_at dm_X11_measure 1 rfl) rfl ?_
                        refine zr_aload_n C 0 rfl (zdec_at dm_X11_measure 61 rfl) rfl ?_
                        refine zr_getr (q := 17) C fk_RX11_33 fi_0_2 (zdec_at dm_X11_measure 62 rfl) ?_
                        refine zr_iload_n C 1 rfl (zdec_at dm_X11_measure 63 rfl) rfl ?_
                        obtain ⟨g51, h⟩ := h
                        refine zr_callV C [a1] hS_X1_trace ck_RX11_212 iv_X1_trace vc_X1 oc_17 rfl rfl (zdec_at dm_X11_measure 64 rfl) ⟨rfl, rfl, rfl, rfl⟩ ⟨by decide, by decide⟩ (Nat.le_of_ble_eq_true rfl) (zall_0 zz_a1 zall_n) ?_
                        refine ⟨_, rfl, g51, fun M47 p50 _ hR48 => ?_⟩
                        have h := h M47 p50 hR48
                        show zV Γ mu_X11_measure (145, 0, 0) 171 [(0, zRf (zad Γ) 0), (1, zI a1), (2, zI a2)] [] M47
                        refine zr_aload_n C 0 rfl (zdec_at dm_X11_measure 65 rfl) rfl ?_
                        refine zr_getr (q := 17) C fk_RX11_33 fi_0_2 (zdec_at dm_X11_measure 66 rfl) ?_
                        refine zr_geti C fk_RX11_225 fi_17_1 (zdec_at dm_X11_measure 67 rfl) ?_
                        exact zr_ireturn C rfl (zdec_at dm_X11_measure 68 rfl) rfl ⟨(hR48 _ _), h⟩

set_option maxHeartbeats 400000 in
set_option maxRecDepth 100000 in
theorem sn_X11_changeToDraft {pr_X0_countDraftChanges : zM → Prop} {po_X0_countDraftChanges : zM → Int → zM → Prop} {pr_X3_remember : zM → Prop} {po_X3_remember : zM → zM → Prop} {pr_X0_takeDraft : zM → Prop} {po_X0_takeDraft : zM → zM → Prop} (hS_X0_countDraftChanges : zSnd zS 145 0 0 yX0_countDraftChanges cX0_countDraftChanges 3 (some .int) 0 [2] (F_X0_countDraftChanges pr_X0_countDraftChanges po_X0_countDraftChanges)) (hS_X3_remember : zSnd zS 145 0 0 yX3_remember cX3_remember 2 none 1 [2, 2] (F_X3_remember pr_X3_remember po_X3_remember)) (hS_X0_takeDraft : zSnd zS 145 0 0 yX0_takeDraft cX0_takeDraft 1 none 1 [2] (F_X0_takeDraft pr_X0_takeDraft po_X0_takeDraft)) : zSnd zS 145 0 0 yX11_changeToDraft cX11_changeToDraft 2 (some .int) 2 [2] (fun xs P M => xs = [0] ∧ vc_X11_changeToDraft pr_X0_countDraftChanges po_X0_countDraftChanges pr_X3_remember po_X3_remember pr_X0_takeDraft po_X0_takeDraft P M) := by
  refine zSnd.of rfl (fun ad xs hz => Nat.le_trans (Nat.le_of_eq (zlen ad _ xs hz)) (by decide)) ?_
  intro Γ C _ _ xs M hz hF
  obtain ⟨rfl, h⟩ := hF
  refine zr_rng (fun hR => ?_)
  have C : zC Γ mu_X11_changeToDraft := C
  change zV Γ mu_X11_changeToDraft (145, 0, 0) 0 [(0, zRf (zad Γ) 0)] [] M
  change vc_X11_changeToDraft pr_X0_countDraftChanges po_X0_countDraftChanges pr_X3_remember po_X3_remember pr_X0_takeDraft po_X0_takeDraft _ M at h
  unfold vc_X11_changeToDraft at h
  refine zr_aload_n C 0 rfl (zdec_at dm_X11_changeToDraft 0 rfl) rfl ?_
  refine zr_getr (q := 1) C fk_RX11_25 fi_0_0 (zdec_at dm_X11_changeToDraft 1 rfl) ?_
  obtain ⟨g6, h⟩ := h
  refine zr_callV C [] hS_X0_countDraftChanges ck_RX11_451 iv_X0_countDraftChanges vc_X0 oc_1 rfl rfl (zdec_at dm_X11_changeToDraft 2 rfl) ⟨rfl, rfl, rfl, rfl⟩ ⟨by decide, by decide⟩ (Nat.le_of_ble_eq_true rfl) zall_n ?_
  refine ⟨rfl, g6, fun r1 M2 p5 z4 hR3 => ?_⟩
  have h := h r1 M2 p5 z4 hR3
  show zV Γ mu_X11_changeToDraft (145, 0, 0) 7 [(0, zRf (zad Γ) 0)] [zI r1] M2
  refine zr_istore_n (L1 := [(1, zI r1), (0, zRf (zad Γ) 0)]) C (zdec_at dm_X11_changeToDraft 3 rfl) rfl (Nat.le_of_ble_eq_true rfl) rfl ?_
  refine zr_iload_n C 0 rfl (zdec_at dm_X11_changeToDraft 4 rfl) rfl ?_
  refine zr_if_le C z4 (zdec_at dm_X11_changeToDraft 5 rfl) rfl (fun g7 => ?_) (fun g7 => ?_)
  · have h := h.1 g7
    refine zr_iload_n C 0 rfl (zdec_at dm_X11_changeToDraft 15 rfl) rfl ?_
    exact zr_ireturn C rfl (zdec_at dm_X11_changeToDraft 16 rfl) rfl ⟨z4, h⟩
  · have h := h.2 g7
    refine zr_aload_n C 1 rfl (zdec_at dm_X11_changeToDraft 6 rfl) rfl ?_
    refine zr_getr (q := 77) C fk_RX11_84 fi_0_9 (zdec_at dm_X11_changeToDraft 7 rfl) ?_
    refine zr_aload_n C 1 rfl (zdec_at dm_X11_changeToDraft 8 rfl) rfl ?_
    refine zr_getr (q := 1) C fk_RX11_25 fi_0_0 (zdec_at dm_X11_changeToDraft 9 rfl) ?_
    refine zr_getr (q := 2) C fk_RX11_133 fi_1_4 (zdec_at dm_X11_changeToDraft 10 rfl) ?_
    obtain ⟨g12, h⟩ := h
    refine zr_callV C [2] hS_X3_remember ck_RX11_454 iv_X3_remember vc_X3 oc_77 rfl rfl (zdec_at dm_X11_changeToDraft 11 rfl) ⟨rfl, rfl, rfl, rfl⟩ ⟨by decide, by decide⟩ (Nat.le_of_ble_eq_true rfl) (zall_2 zall_n) ?_
    refine ⟨rfl, g12, fun M8 p11 _ hR9 => ?_⟩
    have h := h M8 p11 hR9
    show zV Γ mu_X11_changeToDraft (145, 0, 0) 26 [(1, zI r1), (0, zRf (zad Γ) 0)] [] M8
    refine zr_aload_n C 1 rfl (zdec_at dm_X11_changeToDraft 12 rfl) rfl ?_
    refine zr_getr (q := 1) C fk_RX11_25 fi_0_0 (zdec_at dm_X11_changeToDraft 13 rfl) ?_
    obtain ⟨g17, h⟩ := h
    refine zr_callV C [] hS_X0_takeDraft ck_RX11_458 iv_X0_takeDraft vc_X0 oc_1 rfl rfl (zdec_at dm_X11_changeToDraft 14 rfl) ⟨rfl, rfl, rfl, rfl⟩ ⟨by decide, by decide⟩ (Nat.le_of_ble_eq_true rfl) zall_n ?_
    refine ⟨rfl, g17, fun M13 p16 _ hR14 => ?_⟩
    have h := h M13 p16 hR14
    show zV Γ mu_X11_changeToDraft (145, 0, 0) 33 [(1, zI r1), (0, zRf (zad Γ) 0)] [] M13
    refine zr_iload_n C 0 rfl (zdec_at dm_X11_changeToDraft 15 rfl) rfl ?_
    exact zr_ireturn C rfl (zdec_at dm_X11_changeToDraft 16 rfl) rfl ⟨z4, h⟩

set_option maxHeartbeats 400000 in
set_option maxRecDepth 100000 in
theorem sn_X12_thrown : zSnd zS 145 0 0 yX12_thrown cX12_thrown 1 (some .int) 0 [2] (fun xs P M => xs = [103] ∧ vc_X12_thrown P M) := by
  refine zSnd.of rfl (fun ad xs hz => Nat.le_trans (Nat.le_of_eq (zlen ad _ xs hz)) (by decide)) ?_
  intro Γ C _ _ xs M hz hF
  obtain ⟨rfl, h⟩ := hF
  refine zr_rng (fun hR => ?_)
  have C : zC Γ mu_X12_thrown := C
  change zV Γ mu_X12_thrown (145, 0, 0) 0 [(0, zRf (zad Γ) 103)] [] M
  change vc_X12_thrown _ M at h
  unfold vc_X12_thrown at h
  refine zr_aload_n C 0 rfl (zdec_at dm_X12_thrown 0 rfl) rfl ?_
  refine zr_geti C fk_RX12_140 fi_103_0 (zdec_at dm_X12_thrown 1 rfl) ?_
  exact zr_ireturn C rfl (zdec_at dm_X12_thrown 2 rfl) rfl ⟨(hR _ _), h⟩

set_option maxHeartbeats 400000 in
set_option maxRecDepth 100000 in
theorem sn_X12_in : zSnd zS 145 0 0 yX12_in cX12_in 6 (some .boolean) 0 [1, 1, 1] (fun xs P M => ∃ a0 a1 a2 : Int, xs = [a0, a1, a2] ∧ vc_X12_in a0 a1 a2 P M) := by
  refine zSnd.of rfl (fun ad xs hz => Nat.le_trans (Nat.le_of_eq (zlen ad _ xs hz)) (by decide)) ?_
  intro Γ C _ _ xs M hz hF
  obtain ⟨a0, a1, a2, rfl, h⟩ := hF
  have zz_a0 := zall_h hz (by decide)
  have zz_a1 := zall_h (zall_t hz) (by decide)
  have zz_a2 := zall_h (zall_t (zall_t hz)) (by decide)
  refine zr_rng (fun hR => ?_)
  have C : zC Γ mu_X12_in := C
  change zV Γ mu_X12_in (145, 0, 0) 0 [(0, zJ a0), (2, zJ a1), (4, zJ a2)] [] M
  change vc_X12_in a0 a1 a2 _ M at h
  unfold vc_X12_in at h
  refine zr_lload_n C 0 rfl (zdec_at dm_X12_in 0 rfl) rfl ?_
  refine zr_lload_n C 1 rfl (zdec_at dm_X12_in 1 rfl) rfl ?_
  refine zr_lcmp_lt C (z64 zz_a0) (z64 zz_a1) (zdec_at dm_X12_in 2 rfl) (zdec_at dm_X12_in 3 rfl) rfl (fun g1 => ?_) (fun g1 => ?_)
  · have h := h.1 g1
    refine zr_iconst C (zdec_at dm_X12_in 10 rfl) ?_
    exact zr_zreturn C rfl (by decide) (zdec_at dm_X12_in 11 rfl) rfl ⟨(by decide), h⟩
  · have h := h.2 g1
    refine zr_lload_n C 0 rfl (zdec_at dm_X12_in 4 rfl) rfl ?_
    refine zr_lload C 2 rfl (zdec_at dm_X12_in 5 rfl) ?_
    refine zr_lcmp_gt C (z64 zz_a0) (z64 zz_a2) (zdec_at dm_X12_in 6 rfl) (zdec_at dm_X12_in 7 rfl) rfl (fun g2 => ?_) (fun g2 => ?_)
    · have h := h.1 g2
      refine zr_iconst C (zdec_at dm_X12_in 10 rfl) ?_
      exact zr_zreturn C rfl (by decide) (zdec_at dm_X12_in 11 rfl) rfl ⟨(by decide), h⟩
    · have h := h.2 g2
      refine zr_iconst C (zdec_at dm_X12_in 8 rfl) ?_
      refine zr_goto C (zdec_at dm_X12_in 9 rfl) rfl ?_
      exact zr_zreturn C rfl (by decide) (zdec_at dm_X12_in 11 rfl) rfl ⟨(by decide), h⟩

set_option maxHeartbeats 400000 in
set_option maxRecDepth 100000 in
theorem sn_X12_isDot : zSnd zS 145 0 0 yX12_isDot cX12_isDot 2 (some .boolean) 0 [2, 0] (fun xs P M => ∃ a1 : Int, xs = [103, a1] ∧ vc_X12_isDot a1 P M) := by
  refine zSnd.of rfl (fun ad xs hz => Nat.le_trans (Nat.le_of_eq (zlen ad _ xs hz)) (by decide)) ?_
  intro Γ C _ _ xs M hz hF
  obtain ⟨a1, rfl, h⟩ := hF
  have zz_a1 := zall_h (zall_t hz) (by decide)
  refine zr_rng (fun hR => ?_)
  have C : zC Γ mu_X12_isDot := C
  change zV Γ mu_X12_isDot (145, 0, 0) 0 [(0, zRf (zad Γ) 103), (1, zI a1)] [] M
  change vc_X12_isDot a1 _ M at h
  unfold vc_X12_isDot at h
  refine zr_iload_n C 1 rfl (zdec_at dm_X12_isDot 0 rfl) rfl ?_
  refine zr_if_lt C zz_a1 (zdec_at dm_X12_isDot 1 rfl) rfl (fun g1 => ?_) (fun g1 => ?_)
  · have h := h.1 g1
    refine zr_iconst C (zdec_at dm_X12_isDot 16 rfl) ?_
    exact zr_zreturn C rfl (by decide) (zdec_at dm_X12_isDot 17 rfl) rfl ⟨(by decide), h⟩
  · have h := h.2 g1
    refine zr_iload_n C 1 rfl (zdec_at dm_X12_isDot 2 rfl) rfl ?_
    refine zr_bipush C (zdec_at dm_X12_isDot 3 rfl) (by decide) ?_
    obtain ⟨o2, h⟩ := h
    refine zr_irem C zz_a1 (by decide) ⟨o2, by decide⟩ (zdec_at dm_X12_isDot 4 rfl) ?_
    refine zr_aload_n C 0 rfl (zdec_at dm_X12_isDot 5 rfl) rfl ?_
    refine zr_geti C fk_RX12_7 fi_103_1 (zdec_at dm_X12_isDot 6 rfl) ?_
    refine zr_icmp_ge C (z_rz (a := a1) (b := 16) ⟨o2, by decide⟩ (by decide)) (hR _ _) (zdec_at dm_X12_isDot 7 rfl) rfl (fun g3 => ?_) (fun g3 => ?_)
    · have h := h.1 g3
      refine zr_iconst C (zdec_at dm_X12_isDot 16 rfl) ?_
      exact zr_zreturn C rfl (by decide) (zdec_at dm_X12_isDot 17 rfl) rfl ⟨(by decide), h⟩
    · have h := h.2 g3
      refine zr_iload_n C 1 rfl (zdec_at dm_X12_isDot 8 rfl) rfl ?_
      refine zr_bipush C (zdec_at dm_X12_isDot 9 rfl) (by decide) ?_
      refine zr_idiv C zz_a1 (by decide) ⟨o2, by decide⟩ (zdec_at dm_X12_isDot 10 rfl) ?_
      refine zr_aload_n C 0 rfl (zdec_at dm_X12_isDot 11 rfl) rfl ?_
      refine zr_geti C fk_RX12_13 fi_103_2 (zdec_at dm_X12_isDot 12 rfl) ?_
      refine zr_icmp_ge C (z_dz2 (a := a1) (b := 16) ⟨o2, by decide⟩ zz_a1) (hR _ _) (zdec_at dm_X12_isDot 13 rfl) rfl (fun g4 => ?_) (fun g4 => ?_)
      · have h := h.1 g4
        refine zr_iconst C (zdec_at dm_X12_isDot 16 rfl) ?_
        exact zr_zreturn C rfl (by decide) (zdec_at dm_X12_isDot 17 rfl) rfl ⟨(by decide), h⟩
      · have h := h.2 g4
        refine zr_iconst C (zdec_at dm_X12_isDot 14 rfl) ?_
        refine zr_goto C (zdec_at dm_X12_isDot 15 rfl) rfl ?_
        exact zr_zreturn C rfl (by decide) (zdec_at dm_X12_isDot 17 rfl) rfl ⟨(by decide), h⟩

set_option maxHeartbeats 400000 in
set_option maxRecDepth 100000 in
theorem sn_X12_here : zSnd zS 145 0 0 yX12_here cX12_here 1 (some .int) 0 [2] (fun xs P M => xs = [103] ∧ vc_X12_here P M) := by
  refine zSnd.of rfl (fun ad xs hz => Nat.le_trans (Nat.le_of_eq (zlen ad _ xs hz)) (by decide)) ?_
  intro Γ C _ _ xs M hz hF
  obtain ⟨rfl, h⟩ := hF
  refine zr_rng (fun hR => ?_)
  have C : zC Γ mu_X12_here := C
  change zV Γ mu_X12_here (145, 0, 0) 0 [(0, zRf (zad Γ) 103)] [] M
  change vc_X12_here _ M at h
  unfold vc_X12_here at h
  refine zr_aload_n C 0 rfl (zdec_at dm_X12_here 0 rfl) rfl ?_
  refine zr_geti C fk_RX12_143 fi_103_23 (zdec_at dm_X12_here 1 rfl) ?_
  refine zr_aload_n C 0 rfl (zdec_at dm_X12_here 2 rfl) rfl ?_
  refine zr_geti C fk_RX12_146 fi_103_22 (zdec_at dm_X12_here 3 rfl) ?_
  refine zr_icmp_lt C (hR _ _) (hR _ _) (zdec_at dm_X12_here 4 rfl) rfl (fun g1 => ?_) (fun g1 => ?_)
  · have h := h.1 g1
    refine zr_aload_n C 0 rfl (zdec_at dm_X12_here 7 rfl) rfl ?_
    refine zr_getr (q := 142) C fk_RX12_133 fi_103_73 (zdec_at dm_X12_here 8 rfl) ?_
    refine zr_aload_n C 0 rfl (zdec_at dm_X12_here 9 rfl) rfl ?_
    refine zr_geti C fk_RX12_149 fi_103_21 (zdec_at dm_X12_here 10 rfl) ?_
    refine zr_aload_n C 0 rfl (zdec_at dm_X12_here 11 rfl) rfl ?_
    refine zr_geti C fk_RX12_143 fi_103_23 (zdec_at dm_X12_here 12 rfl) ?_
    refine zr_iadd C (zdec_at dm_X12_here 13 rfl) ?_
    obtain ⟨o2, h⟩ := h
    refine zr_lald C ai_142 o2 (zdec_at dm_X12_here 14 rfl) ?_
    refine zr_l2i C (zdec_at dm_X12_here 15 rfl) ?_
    refine zr_sipush C (zdec_at dm_X12_here 16 rfl) (by decide) ?_
    refine zr_iand C (zdec_at dm_X12_here 17 rfl) ?_
    exact zr_ireturn C rfl (zdec_at dm_X12_here 18 rfl) rfl ⟨(zland_z _ _), h⟩
  · have h := h.2 g1
    refine zr_iconst C (zdec_at dm_X12_here 5 rfl) ?_
    refine zr_goto C (zdec_at dm_X12_here 6 rfl) rfl ?_
    exact zr_ireturn C rfl (zdec_at dm_X12_here 18 rfl) rfl ⟨(by decide), h⟩

set_option maxHeartbeats 400000 in
set_option maxRecDepth 100000 in
theorem sn_X12_colourOf {pr_X12_in : Int → Int → Int → zM → Prop} {po_X12_in : Int → Int → Int → zM → Int → zM → Prop} (hS_X12_in : zSnd zS 145 0 0 yX12_in cX12_in 6 (some .boolean) 0 [1, 1, 1] (F_X12_in pr_X12_in po_X12_in)) : zSnd zS 145 0 0 yX12_colourOf cX12_colourOf 1 (some .int) 1 [0] (fun xs P M => ∃ a0 : Int, xs = [a0] ∧ vc_X12_colourOf pr_X12_in po_X12_in a0 P M) := by
  refine zSnd.of rfl (fun ad xs hz => Nat.le_trans (Nat.le_of_eq (zlen ad _ xs hz)) (by decide)) ?_
  intro Γ C _ _ xs M hz hF
  obtain ⟨a0, rfl, h⟩ := hF
  have zz_a0 := zall_h hz (by decide)
  refine zr_rng (fun hR => ?_)
  have C : zC Γ mu_X12_colourOf := C
  change zV Γ mu_X12_colourOf (145, 0, 0) 0 [(0, zI a0)] [] M
  change vc_X12_colourOf pr_X12_in po_X12_in a0 _ M at h
  unfold vc_X12_colourOf at h
  refine zr_iload_n C 0 rfl (zdec_at dm_X12_colourOf 0 rfl) rfl ?_
  refine zr_i2l C zz_a0 (zdec_at dm_X12_colourOf 1 rfl) ?_
  refine zr_ldc2 C (zdec_at dm_X12_colourOf 2 rfl) kc_RX12_152 ?_
  refine zr_ldc2 C (zdec_at dm_X12_colourOf 3 rfl) kc_RX12_154 ?_
  obtain ⟨g6, h⟩ := h
  refine zr_callS C [a0, 48, 57] hS_X12_in ck_RX12_156 sv_X12_in rfl rfl (zdec_at dm_X12_colourOf 4 rfl) ⟨rfl, rfl, rfl, rfl⟩ ⟨by decide, by decide⟩ (Nat.le_of_ble_eq_true rfl) (zall_1 zz_a0 (zall_1 (by decide) (zall_1 (by decide) zall_n))) ?_
  refine ⟨_, _, _, rfl, g6, fun r1 M2 p5 z4 hR3 => ?_⟩
  have h := h r1 M2 p5 z4 hR3
  show zV Γ mu_X12_colourOf (145, 0, 0) 11 [(0, zI a0)] [zI r1] M2
  refine zr_if_eq C z4 (zdec_at dm_X12_colourOf 5 rfl) rfl (fun g7 => ?_) (fun g7 => ?_)
  · have h := h.1 g7
    refine zr_iload_n C 0 rfl (zdec_at dm_X12_colourOf 10 rfl) rfl ?_
    refine zr_i2l C zz_a0 (zdec_at dm_X12_colourOf 11 rfl) ?_
    refine zr_ldc2 C (zdec_at dm_X12_colourOf 12 rfl) kc_RX12_160 ?_
    refine zr_ldc2 C (zdec_at dm_X12_colourOf 13 rfl) kc_RX12_162 ?_
    obtain ⟨g13, h⟩ := h
    refine zr_callS C [a0, 97, 102] hS_X12_in ck_RX12_156 sv_X12_in rfl rfl (zdec_at dm_X12_colourOf 14 rfl) ⟨rfl, rfl, rfl, rfl⟩ ⟨by decide, by decide⟩ (Nat.le_of_ble_eq_true rfl) (zall_1 zz_a0 (zall_1 (by decide) (zall_1 (by decide) zall_n))) ?_
    refine ⟨_, _, _, rfl, g13, fun r8 M9 p12 z11 hR10 => ?_⟩
    have h := h r8 M9 p12 z11 hR10
    show zV Γ mu_X12_colourOf (145, 0, 0) 32 [(0, zI a0)] [zI r8] M9
    refine zr_if_eq C z11 (zdec_at dm_X12_colourOf 15 rfl) rfl (fun g14 => ?_) (fun g14 => ?_)
    · have h := h.1 g14
      refine zr_iconst C (zdec_at dm_X12_colourOf 22 rfl) ?_
      exact zr_ireturn C rfl (zdec_at dm_X12_colourOf 23 rfl) rfl ⟨(by decide), h⟩
    · have h := h.2 g14
      refine zr_iload_n C 0 rfl (zdec_at dm_X12_colourOf 16 rfl) rfl ?_
      refine zr_bipush C (zdec_at dm_X12_colourOf 17 rfl) (by decide) ?_
      refine zr_isub C (zdec_at dm_X12_colourOf 18 rfl) ?_
      refine zr_bipush C (zdec_at dm_X12_colourOf 19 rfl) (by decide) ?_
      refine zr_iadd C (zdec_at dm_X12_colourOf 20 rfl) ?_
      refine zr_goto C (zdec_at dm_X12_colourOf 21 rfl) rfl ?_
      obtain ⟨o15, h⟩ := h
      exact zr_ireturn C rfl (zdec_at dm_X12_colourOf 23 rfl) rfl ⟨o15, h⟩
  · have h := h.2 g7
    refine zr_iload_n C 0 rfl (zdec_at dm_X12_colourOf 6 rfl) rfl ?_
    refine zr_bipush C (zdec_at dm_X12_colourOf 7 rfl) (by decide) ?_
    refine zr_isub C (zdec_at dm_X12_colourOf 8 rfl) ?_
    refine zr_goto C (zdec_at dm_X12_colourOf 9 rfl) rfl ?_
    obtain ⟨o16, h⟩ := h
    exact zr_ireturn C rfl (zdec_at dm_X12_colourOf 23 rfl) rfl ⟨o16, h⟩

set_option maxHeartbeats 400000 in
set_option maxRecDepth 100000 in
theorem sn_X12_isDigit {pr_X12_in : Int → Int → Int → zM → Prop} {po_X12_in : Int → Int → Int → zM → Int → zM → Prop} (hS_X12_in : zSnd zS 145 0 0 yX12_in cX12_in 6 (some .boolean) 0 [1, 1, 1] (F_X12_in pr_X12_in po_X12_in)) : zSnd zS 145 0 0 yX12_isDigit cX12_isDigit 1 (some .boolean) 1 [0] (fun xs P M => ∃ a0 : Int, xs = [a0] ∧ vc_X12_isDigit pr_X12_in po_X12_in a0 P M) := by
  refine zSnd.of rfl (fun ad xs hz => Nat.le_trans (Nat.le_of_eq (zlen ad _ xs hz)) (by decide)) ?_
  intro Γ C _ _ xs M hz hF
  obtain ⟨a0, rfl, h⟩ := hF
  have zz_a0 := zall_h hz (by decide)
  refine zr_rng (fun hR => ?_)
  have C : zC Γ mu_X12_isDigit := C
  change zV Γ mu_X12_isDigit (145, 0, 0) 0 [(0, zI a0)] [] M
  change vc_X12_isDigit pr_X12_in po_X12_in a0 _ M at h
  unfold vc_X12_isDigit at h
  refine zr_iload_n C 0 rfl (zdec_at dm_X12_isDigit 0 rfl) rfl ?_
  refine zr_i2l C zz_a0 (zdec_at dm_X12_isDigit 1 rfl) ?_
  refine zr_ldc2 C (zdec_at dm_X12_isDigit 2 rfl) kc_RX12_152 ?_
  refine zr_ldc2 C (zdec_at dm_X12_isDigit 3 rfl) kc_RX12_154 ?_
  obtain ⟨g6, h⟩ := h
  refine zr_callS C [a0, 48, 57] hS_X12_in ck_RX12_156 sv_X12_in rfl rfl (zdec_at dm_X12_isDigit 4 rfl) ⟨rfl, rfl, rfl, rfl⟩ ⟨by decide, by decide⟩ (Nat.le_of_ble_eq_true rfl) (zall_1 zz_a0 (zall_1 (by decide) (zall_1 (by decide) zall_n))) ?_
  refine ⟨_, _, _, rfl, g6, fun r1 M2 p5 z4 hR3 => ?_⟩
  have h := h r1 M2 p5 z4 hR3
  show zV Γ mu_X12_isDigit (145, 0, 0) 11 [(0, zI a0)] [zI r1] M2
  obtain ⟨o7, h⟩ := h
  exact zr_zreturn C rfl o7 (zdec_at dm_X12_isDigit 5 rfl) rfl ⟨z4, h⟩

set_option maxHeartbeats 400000 in
set_option maxRecDepth 100000 in
theorem sn_X12_pictureFault {pr_X12_readLine : zM → Prop} {po_X12_readLine : zM → zM → Prop} {pr_X12_here : zM → Prop} {po_X12_here : zM → Int → zM → Prop} (hS_X12_readLine : zSnd zS 145 0 0 yX12_readLine cX12_readLine 7 none 3 [2] (F_X12_readLine pr_X12_readLine po_X12_readLine)) (hS_X12_here : zSnd zS 145 0 0 yX12_here cX12_here 1 (some .int) 0 [2] (F_X12_here pr_X12_here po_X12_here)) : zSnd zS 145 0 0 yX12_pictureFault cX12_pictureFault 3 (some .int) 4 [2, 0] (fun xs P M => ∃ a1 : Int, xs = [103, a1] ∧ vc_X12_pictureFault pr_X12_readLine po_X12_readLine pr_X12_here po_X12_here a1 P M) := by
  refine zSnd.of rfl (fun ad xs hz => Nat.le_trans (Nat.le_of_eq (zlen ad _ xs hz)) (by decide)) ?_
  intro Γ C _ _ xs M hz hF
  obtain ⟨a1, rfl, h⟩ := hF
  have zz_a1 := zall_h (zall_t hz) (by decide)
  refine zr_rng (fun hR => ?_)
  have C : zC Γ mu_X12_pictureFault := C
  change zV Γ mu_X12_pictureFault (145, 0, 0) 0 [(0, zRf (zad Γ) 103), (1, zI a1)] [] M
  change vc_X12_pictureFault pr_X12_readLine po_X12_readLine pr_X12_here po_X12_here a1 _ M at h
  unfold vc_X12_pictureFault at h
  refine zr_aload_n C 0 rfl (zdec_at dm_X12_pictureFault 0 rfl) rfl ?_
  refine zr_bipush C (zdec_at dm_X12_pictureFault 1 rfl) (by decide) ?_
  refine zr_iload_n C 1 rfl (zdec_at dm_X12_pictureFault 2 rfl) rfl ?_
  refine zr_imul C (zdec_at dm_X12_pictureFault 3 rfl) ?_
  obtain ⟨o1, h⟩ := h
  refine zr_puti C fk_RX12_149 fi_103_21 o1 (zdec_at dm_X12_pictureFault 4 rfl) (fun M2 e3 => ?_)
  have h := h M2 e3
  have hR4 : zRng M2 := by rw [e3]; exact hR.set o1 _ _
  refine zr_aload_n C 0 rfl (zdec_at dm_X12_pictureFault 5 rfl) rfl ?_
  refine zr_aload_n C 0 rfl (zdec_at dm_X12_pictureFault 6 rfl) rfl ?_
  refine zr_getr (q := 141) C fk_RX12_130 fi_103_72 (zdec_at dm_X12_pictureFault 7 rfl) ?_
  refine zr_iload_n C 1 rfl (zdec_at dm_X12_pictureFault 8 rfl) rfl ?_
  obtain ⟨o5, h⟩ := h
  refine zr_iald C ai_141 o5 (zdec_at dm_X12_pictureFault 9 rfl) ?_
  refine zr_puti C fk_RX12_146 fi_103_22 (hR4 _ _) (zdec_at dm_X12_pictureFault 10 rfl) (fun M6 e7 => ?_)
  have h := h M6 e7
  have hR8 : zRng M6 := by rw [e7]; exact hR4.set (hR4 _ _) _ _
  refine zr_aload_n C 0 rfl (zdec_at dm_X12_pictureFault 11 rfl) rfl ?_
  refine zr_iconst C (zdec_at dm_X12_pictureFault 12 rfl) ?_
  refine zr_puti C fk_RX12_143 fi_103_23 (by decide) (zdec_at dm_X12_pictureFault 13 rfl) (fun M9 e10 => ?_)
  have h := h M9 e10
  have hR11 : zRng M9 := by rw [e10]; exact hR8.set (by decide) _ _
  refine zr_aload_n C 0 rfl (zdec_at dm_X12_pictureFault 14 rfl) rfl ?_
  refine zr_iconst C (zdec_at dm_X12_pictureFault 15 rfl) ?_
  refine zr_putz C fk_RX12_164 fi_103_24 (by decide) (by decide) (zdec_at dm_X12_pictureFault 16 rfl) (fun M12 e13 => ?_)
  have h := h M12 e13
  have hR14 : zRng M12 := by rw [e13]; exact hR11.set (by decide) _ _
  refine zr_aload_n C 0 rfl (zdec_at dm_X12_pictureFault 17 rfl) rfl ?_
  refine zr_iconst C (zdec_at dm_X12_pictureFault 18 rfl) ?_
  refine zr_puti C fk_RX12_168 fi_103_26 (by decide) (zdec_at dm_X12_pictureFault 19 rfl) (fun M15 e16 => ?_)
  have h := h M15 e16
  have hR17 : zRng M15 := by rw [e16]; exact hR14.set (by decide) _ _
  refine zr_aload_n C 0 rfl (zdec_at dm_X12_pictureFault 20 rfl) rfl ?_
  refine zr_iconst C (zdec_at dm_X12_pictureFault 21 rfl) ?_
  refine zr_puti C fk_RX12_171 fi_103_27 (by decide) (zdec_at dm_X12_pictureFault 22 rfl) (fun M18 e19 => ?_)
  have h := h M18 e19
  have hR20 : zRng M18 := by rw [e19]; exact hR17.set (by decide) _ _
  refine zr_iconst C (zdec_at dm_X12_pictureFault 23 rfl) ?_
  refine zr_istore_n (L1 := [(2, zI 1), (0, zRf (zad Γ) 103), (1, zI a1)]) C (zdec_at dm_X12_pictureFault 24 rfl) rfl (Nat.le_of_ble_eq_true rfl) rfl ?_
  obtain ⟨I40, ⟨n29, q30⟩, hI28⟩ := h
  have lp27 : ∀ (n25 : Nat) (v21 : Int) (M23 : zM), I40 v21 M23 n25 → zin v21 → zRng M23 → zV Γ mu_X12_pictureFault (145, 0, 0) 40 [(0, zRf (zad Γ) 103), (2, zI v21)] [] M23 := by
    intro n25
    induction n25 using Nat.strongRecOn with
    | _ n25 ih26 =>
    intro v21 M23 q31 z22 hR24
    have h := hI28 v21 M23 n25 q31 z22 hR24
    refine zr_aload_n C 0 rfl (zdec_at dm_X12_pictureFault 25 rfl) rfl ?_
    refine zr_geti C fk_RX12_164 fi_103_24 (zdec_at dm_X12_pictureFault 26 rfl) ?_
    have h := h (zV Γ mu_X12_pictureFault (145, 0, 0) 123 [(0, zRf (zad Γ) 103)] [] M23) (fun h => by
      refine zr_aload_n C 0 rfl (zdec_at dm_X12_pictureFault 66 rfl) rfl ?_
      refine zr_aload_n C 0 rfl (zdec_at dm_X12_pictureFault 67 rfl) rfl ?_
      refine zr_geti C fk_RX12_164 fi_103_24 (zdec_at dm_X12_pictureFault 68 rfl) ?_
      have h := h (fun v32 => zin v32 → zV Γ mu_X12_pictureFault (145, 0, 0) 147 [(0, zRf (zad Γ) 103)] [zI v32, zRf (zad Γ) 103] M23) (fun v32 h z33 => by
        have h := h z33
        obtain ⟨o34, h⟩ := h
        refine zr_putz C fk_RX12_164 fi_103_24 z33 o34 (zdec_at dm_X12_pictureFault 78 rfl) (fun M35 e36 => ?_)
        have h := h M35 e36
        have hR37 : zRng M35 := by rw [e36]; exact hR24.set z33 _ _
        refine zr_aload_n C 0 rfl (zdec_at dm_X12_pictureFault 79 rfl) rfl ?_
        refine zr_geti C fk_RX12_164 fi_103_24 (zdec_at dm_X12_pictureFault 80 rfl) ?_
        refine zr_if_eq C (hR37 _ _) (zdec_at dm_X12_pictureFault 81 rfl) rfl (fun g38 => ?_) (fun g38 => ?_)
        · have h := h.1 g38
          refine zr_iconst C (zdec_at dm_X12_pictureFault 85 rfl) ?_
          exact zr_ireturn C rfl (zdec_at dm_X12_pictureFault 86 rfl) rfl ⟨(by decide), h⟩
        · have h := h.2 g38
          refine zr_aload_n C 0 rfl (zdec_at dm_X12_pictureFault 82 rfl) rfl ?_
          refine zr_geti C fk_RX12_143 fi_103_23 (zdec_at dm_X12_pictureFault 83 rfl) ?_
          refine zr_goto C (zdec_at dm_X12_pictureFault 84 rfl) rfl ?_
          exact zr_ireturn C rfl (zdec_at dm_X12_pictureFault 86 rfl) rfl ⟨(hR37 _ _), h⟩)
      have h := h (zV Γ mu_X12_pictureFault (145, 0, 0) 142 [(0, zRf (zad Γ) 103)] [zRf (zad Γ) 103] M23) (fun h => by
        refine zr_iconst C (zdec_at dm_X12_pictureFault 75 rfl) ?_
        refine zr_goto C (zdec_at dm_X12_pictureFault 76 rfl) rfl ?_
        exact zr_sub [0] rfl (h (by decide)))
      refine zr_if_ne C (hR24 _ _) (zdec_at dm_X12_pictureFault 69 rfl) rfl (fun g39 => ?_) (fun g39 => ?_)
      · have h := h.1 g39
        exact zr_sub [0] rfl (h)
      · have h := h.2 g39
        refine zr_aload_n C 0 rfl (zdec_at dm_X12_pictureFault 70 rfl) rfl ?_
        refine zr_geti C fk_RX12_143 fi_103_23 (zdec_at dm_X12_pictureFault 71 rfl) ?_
        refine zr_aload_n C 0 rfl (zdec_at dm_X12_pictureFault 72 rfl) rfl ?_
        refine zr_geti C fk_RX12_146 fi_103_22 (zdec_at dm_X12_pictureFault 73 rfl) ?_
        refine zr_icmp_ge C (hR24 _ _) (hR24 _ _) (zdec_at dm_X12_pictureFault 74 rfl) rfl (fun g40 => ?_) (fun g40 => ?_)
        · have h := h.1 g40
          refine zr_iconst C (zdec_at dm_X12_pictureFault 77 rfl) ?_
          exact zr_sub [0] rfl (h (by decide))
        · have h := h.2 g40
          exact zr_sub [0] rfl (h))
    refine zr_if_ne C (hR24 _ _) (zdec_at dm_X12_pictureFault 27 rfl) rfl (fun g41 => ?_) (fun g41 => ?_)
    · have h := h.1 g41
      exact zr_sub [0] rfl (h)
    · have h := h.2 g41
      refine zr_iload_n C 1 rfl (zdec_at dm_X12_pictureFault 28 rfl) rfl ?_
      refine zr_if_eq C z22 (zdec_at dm_X12_pictureFault 29 rfl) rfl (fun g42 => ?_) (fun g42 => ?_)
      · have h := h.1 g42
        exact zr_sub [0] rfl (h)
      · have h := h.2 g42
        refine zr_aload_n C 0 rfl (zdec_at dm_X12_pictureFault 30 rfl) rfl ?_
        obtain ⟨g47, h⟩ := h
        refine zr_callV C [] hS_X12_readLine ck_RX12_174 iv_X12_readLine vc_X12 oc_103 rfl rfl (zdec_at dm_X12_pictureFault 31 rfl) ⟨rfl, rfl, rfl, rfl⟩ ⟨by decide, by decide⟩ (Nat.le_of_ble_eq_true rfl) zall_n ?_
        refine ⟨rfl, g47, fun M43 p46 _ hR44 => ?_⟩
        have h := h M43 p46 hR44
        show zV Γ mu_X12_pictureFault (145, 0, 0) 55 [(0, zRf (zad Γ) 103), (2, zI v21)] [] M43
        refine zr_aload_n C 0 rfl (zdec_at dm_X12_pictureFault 32 rfl) rfl ?_
        refine zr_geti C fk_RX12_164 fi_103_24 (zdec_at dm_X12_pictureFault 33 rfl) ?_
        have h := h (fun v48 M50 => zin v48 → zRng M50 → zV Γ mu_X12_pictureFault (145, 0, 0) 76 [(0, zRf (zad Γ) 103)] [zI v48] M50) (fun v48 M50 h z49 hR51 => by
          have h := h z49 hR51
          refine zr_istore_n (L1 := [(2, zI v48), (0, zRf (zad Γ) 103)]) C (zdec_at dm_X12_pictureFault 42 rfl) rfl (Nat.le_of_ble_eq_true rfl) rfl ?_
          refine zr_iload_n C 0 rfl (zdec_at dm_X12_pictureFault 43 rfl) rfl ?_
          refine zr_if_eq C z49 (zdec_at dm_X12_pictureFault 44 rfl) rfl (fun g52 => ?_) (fun g52 => ?_)
          · have h := h.1 g52
            obtain ⟨n53, q54, q55⟩ := h
            exact zr_sub [1, 0] rfl (ih26 n53 q54 _ _ q55 z49 hR51)
          · have h := h.2 g52
            refine zr_aload_n C 1 rfl (zdec_at dm_X12_pictureFault 45 rfl) rfl ?_
            refine zr_aload_n C 1 rfl (zdec_at dm_X12_pictureFault 46 rfl) rfl ?_
            refine zr_geti C fk_RX12_171 fi_103_27 (zdec_at dm_X12_pictureFault 47 rfl) ?_
            refine zr_bipush C (zdec_at dm_X12_pictureFault 48 rfl) (by decide) ?_
            have h := h (fun v56 => zin v56 → zV Γ mu_X12_pictureFault (145, 0, 0) 96 [(0, zRf (zad Γ) 103), (2, zI v48)] [zI v56, zRf (zad Γ) 103] M50) (fun v56 h z57 => by
              have h := h z57
              obtain ⟨o58, h⟩ := h
              refine zr_putz C fk_RX12_164 fi_103_24 z57 o58 (zdec_at dm_X12_pictureFault 53 rfl) (fun M59 e60 => ?_)
              have h := h M59 e60
              have hR61 : zRng M59 := by rw [e60]; exact hR51.set z57 _ _
              refine zr_aload_n C 0 rfl (zdec_at dm_X12_pictureFault 54 rfl) rfl ?_
              refine zr_dup C rfl (zdec_at dm_X12_pictureFault 55 rfl) ?_
              refine zr_geti C fk_RX12_143 fi_103_23 (zdec_at dm_X12_pictureFault 56 rfl) ?_
              refine zr_aload_n C 0 rfl (zdec_at dm_X12_pictureFault 57 rfl) rfl ?_
              refine zr_geti C fk_RX12_164 fi_103_24 (zdec_at dm_X12_pictureFault 58 rfl) ?_
              refine zr_if_eq C (hR61 _ _) (zdec_at dm_X12_pictureFault 59 rfl) rfl (fun g62 => ?_) (fun g62 => ?_)
              · have h := h.1 g62
                refine zr_iconst C (zdec_at dm_X12_pictureFault 62 rfl) ?_
                refine zr_iadd C (zdec_at dm_X12_pictureFault 63 rfl) ?_
                obtain ⟨o63, h⟩ := h
                refine zr_puti C fk_RX12_143 fi_103_23 o63 (zdec_at dm_X12_pictureFault 64 rfl) (fun M64 e65 => ?_)
                have h := h M64 e65
                have hR66 : zRng M64 := by rw [e65]; exact hR61.set o63 _ _
                refine zr_goto C (zdec_at dm_X12_pictureFault 65 rfl) rfl ?_
                obtain ⟨n67, q68, q69⟩ := h
                exact zr_sub [0, 1] rfl (ih26 n67 q68 _ _ q69 z49 hR66)
              · have h := h.2 g62
                refine zr_iconst C (zdec_at dm_X12_pictureFault 60 rfl) ?_
                refine zr_goto C (zdec_at dm_X12_pictureFault 61 rfl) rfl ?_
                refine zr_iadd C (zdec_at dm_X12_pictureFault 63 rfl) ?_
                obtain ⟨o70, h⟩ := h
                refine zr_puti C fk_RX12_143 fi_103_23 o70 (zdec_at dm_X12_pictureFault 64 rfl) (fun M71 e72 => ?_)
                have h := h M71 e72
                have hR73 : zRng M71 := by rw [e72]; exact hR61.set o70 _ _
                refine zr_goto C (zdec_at dm_X12_pictureFault 65 rfl) rfl ?_
                obtain ⟨n74, q75, q76⟩ := h
                exact zr_sub [0, 1] rfl (ih26 n74 q75 _ _ q76 z49 hR73))
            refine zr_icmp_ne C (hR51 _ _) (by decide) (zdec_at dm_X12_pictureFault 49 rfl) rfl (fun g77 => ?_) (fun g77 => ?_)
            · have h := h.1 g77
              refine zr_iconst C (zdec_at dm_X12_pictureFault 52 rfl) ?_
              exact zr_sub [1, 0] rfl (h (by decide))
            · have h := h.2 g77
              refine zr_iconst C (zdec_at dm_X12_pictureFault 50 rfl) ?_
              refine zr_goto C (zdec_at dm_X12_pictureFault 51 rfl) rfl ?_
              exact zr_sub [1, 0] rfl (h (by decide)))
        have h := h (fun M78 => zRng M78 → zV Γ mu_X12_pictureFault (145, 0, 0) 75 [(0, zRf (zad Γ) 103)] [] M78) (fun M78 h hR79 => by
          have h := h hR79
          refine zr_iconst C (zdec_at dm_X12_pictureFault 41 rfl) ?_
          exact zr_sub [0] rfl (h (by decide) hR79))
        refine zr_if_ne C (hR44 _ _) (zdec_at dm_X12_pictureFault 34 rfl) rfl (fun g80 => ?_) (fun g80 => ?_)
        · have h := h.1 g80
          exact zr_sub [0] rfl (h hR44)
        · have h := h.2 g80
          refine zr_aload_n C 0 rfl (zdec_at dm_X12_pictureFault 35 rfl) rfl ?_
          obtain ⟨g86, h⟩ := h
          refine zr_callV C [] hS_X12_here ck_RX12_177 iv_X12_here vc_X12 oc_103 rfl rfl (zdec_at dm_X12_pictureFault 36 rfl) ⟨rfl, rfl, rfl, rfl⟩ ⟨by decide, by decide⟩ (Nat.le_of_ble_eq_true rfl) zall_n ?_
          refine ⟨rfl, g86, fun r81 M82 p85 z84 hR83 => ?_⟩
          have h := h r81 M82 p85 z84 hR83
          show zV Γ mu_X12_pictureFault (145, 0, 0) 66 [(0, zRf (zad Γ) 103), (2, zI v21)] [zI r81] M82
          refine zr_bipush C (zdec_at dm_X12_pictureFault 37 rfl) (by decide) ?_
          refine zr_icmp_ne C z84 (by decide) (zdec_at dm_X12_pictureFault 38 rfl) rfl (fun g87 => ?_) (fun g87 => ?_)
          · have h := h.1 g87
            exact zr_sub [0] rfl (h hR83)
          · have h := h.2 g87
            refine zr_iconst C (zdec_at dm_X12_pictureFault 39 rfl) ?_
            refine zr_goto C (zdec_at dm_X12_pictureFault 40 rfl) rfl ?_
            exact zr_sub [0] rfl (h (by decide) hR83)
  exact zr_sub [1, 0] rfl (lp27 n29 _ _ q30 (by decide) hR20)

set_option maxHeartbeats 400000 in
set_option maxRecDepth 100000 in
theorem sn_X12_readLine {pr_X12_here : zM → Prop} {po_X12_here : zM → Int → zM → Prop} {pr_X12_colourOf : Int → zM → Prop} {po_X12_colourOf : Int → zM → Int → zM → Prop} {pr_X12_readNumber : Int → zM → Prop} {po_X12_readNumber : Int → zM → Int → zM → Prop} (hS_X12_here : zSnd zS 145 0 0 yX12_here cX12_here 1 (some .int) 0 [2] (F_X12_here pr_X12_here po_X12_here)) (hS_X12_colourOf : zSnd zS 145 0 0 yX12_colourOf cX12_colourOf 1 (some .int) 1 [0] (F_X12_colourOf pr_X12_colourOf po_X12_colourOf)) (hS_X12_readNumber : zSnd zS 145 0 0 yX12_readNumber cX12_readNumber 5 (some .int) 2 [2, 0] (F_X12_readNumber pr_X12_readNumber po_X12_readNumber)) : zSnd zS 145 0 0 yX12_readLine cX12_readLine 7 none 3 [2] (fun xs P M => xs = [103] ∧ vc_X12_readLine pr_X12_here po_X12_here pr_X12_colourOf po_X12_colourOf pr_X12_readNumber po_X12_readNumber P M) := by
  refine zSnd.of rfl (fun ad xs hz => Nat.le_trans (Nat.le_of_eq (zlen ad _ xs hz)) (by decide)) ?_
  intro Γ C _ _ xs M hz hF
  obtain ⟨rfl, h⟩ := hF
  refine zr_rng (fun hR => ?_)
  have C : zC Γ mu_X12_readLine := C
  change zV Γ mu_X12_readLine (145, 0, 0) 0 [(0, zRf (zad Γ) 103)] [] M
  change vc_X12_readLine pr_X12_here po_X12_here pr_X12_colourOf po_X12_colourOf pr_X12_readNumber po_X12_readNumber _ M at h
  unfold vc_X12_readLine at h
  refine zr_aload_n C 0 rfl (zdec_at dm_X12_readLine 0 rfl) rfl ?_
  refine zr_geti C fk_RX12_171 fi_103_27 (zdec_at dm_X12_readLine 1 rfl) ?_
  refine zr_if_ne C (hR _ _) (zdec_at dm_X12_readLine 2 rfl) rfl (fun g1 => ?_) (fun g1 => ?_)
  · have h := h.1 g1
    refine zr_aload_n C 0 rfl (zdec_at dm_X12_readLine 5 rfl) rfl ?_
    refine zr_geti C fk_RX12_168 fi_103_26 (zdec_at dm_X12_readLine 6 rfl) ?_
    refine zr_istore_n (L1 := [(1, zI (M 103 26)), (0, zRf (zad Γ) 103)]) C (zdec_at dm_X12_readLine 7 rfl) rfl (Nat.le_of_ble_eq_true rfl) rfl ?_
    refine zr_iconst C (zdec_at dm_X12_readLine 8 rfl) ?_
    refine zr_istore_n (L1 := [(2, zI 0), (1, zI (M 103 26)), (0, zRf (zad Γ) 103)]) C (zdec_at dm_X12_readLine 9 rfl) rfl (Nat.le_of_ble_eq_true rfl) rfl ?_
    refine zr_iconst C (zdec_at dm_X12_readLine 10 rfl) ?_
    refine zr_istore_n (L1 := [(3, zI 1), (2, zI 0), (1, zI (M 103 26)), (0, zRf (zad Γ) 103)]) C (zdec_at dm_X12_readLine 11 rfl) rfl (Nat.le_of_ble_eq_true rfl) rfl ?_
    obtain ⟨I21, ⟨n12, q13⟩, hI11⟩ := h
    have lp10 : ∀ (n8 : Nat) (v2 : Int) (v3 : Int) (M6 : zM), I21 v2 v3 M6 n8 → zin v2 → zin v3 → zRng M6 → zV Γ mu_X12_readLine (145, 0, 0) 21 [(0, zRf (zad Γ) 103), (1, zI (M 103 26)), (2, zI v2), (3, zI v3)] [] M6 := by
      intro n8
      induction n8 using Nat.strongRecOn with
      | _ n8 ih9 =>
      intro v2 v3 M6 q14 z4 z5 hR7
      have h := hI11 v2 v3 M6 n8 q14 z4 z5 hR7
      refine zr_aload_n C 0 rfl (zdec_at dm_X12_readLine 12 rfl) rfl ?_
      refine zr_geti C fk_RX12_164 fi_103_24 (zdec_at dm_X12_readLine 13 rfl) ?_
      have h := h (zV Γ mu_X12_readLine (145, 0, 0) 186 [(0, zRf (zad Γ) 103), (2, zI v2)] [] M6) (fun h => by
        refine zr_aload_n C 0 rfl (zdec_at dm_X12_readLine 96 rfl) rfl ?_
        refine zr_aload_n C 0 rfl (zdec_at dm_X12_readLine 97 rfl) rfl ?_
        refine zr_geti C fk_RX12_164 fi_103_24 (zdec_at dm_X12_readLine 98 rfl) ?_
        have h := h (fun v15 => zin v15 → zV Γ mu_X12_readLine (145, 0, 0) 214 [(0, zRf (zad Γ) 103), (2, zI v2)] [zI v15, zRf (zad Γ) 103] M6) (fun v15 h z16 => by
          have h := h z16
          obtain ⟨o17, h⟩ := h
          refine zr_putz C fk_RX12_164 fi_103_24 z16 o17 (zdec_at dm_X12_readLine 110 rfl) (fun M18 e19 => ?_)
          have h := h M18 e19
          have hR20 : zRng M18 := by rw [e19]; exact hR7.set z16 _ _
          refine zr_aload_n C 0 rfl (zdec_at dm_X12_readLine 111 rfl) rfl ?_
          refine zr_geti C fk_RX12_164 fi_103_24 (zdec_at dm_X12_readLine 112 rfl) ?_
          refine zr_if_ne C (hR20 _ _) (zdec_at dm_X12_readLine 113 rfl) rfl (fun g21 => ?_) (fun g21 => ?_)
          · have h := h.1 g21
            exact zr_return C rfl rfl (zdec_at dm_X12_readLine 123 rfl) rfl ⟨by decide, h⟩
          · have h := h.2 g21
            refine zr_aload_n C 0 rfl (zdec_at dm_X12_readLine 114 rfl) rfl ?_
            refine zr_iload_n C 1 rfl (zdec_at dm_X12_readLine 115 rfl) rfl ?_
            refine zr_puti C fk_RX12_168 fi_103_26 z4 (zdec_at dm_X12_readLine 116 rfl) (fun M22 e23 => ?_)
            have h := h M22 e23
            have hR24 : zRng M22 := by rw [e23]; exact hR20.set z4 _ _
            refine zr_aload_n C 0 rfl (zdec_at dm_X12_readLine 117 rfl) rfl ?_
            refine zr_dup C rfl (zdec_at dm_X12_readLine 118 rfl) ?_
            refine zr_geti C fk_RX12_171 fi_103_27 (zdec_at dm_X12_readLine 119 rfl) ?_
            refine zr_iconst C (zdec_at dm_X12_readLine 120 rfl) ?_
            refine zr_iadd C (zdec_at dm_X12_readLine 121 rfl) ?_
            obtain ⟨o25, h⟩ := h
            refine zr_puti C fk_RX12_171 fi_103_27 o25 (zdec_at dm_X12_readLine 122 rfl) (fun M26 e27 => ?_)
            have h := h M26 e27
            have hR28 : zRng M26 := by rw [e27]; exact hR24.set o25 _ _
            exact zr_return C rfl rfl (zdec_at dm_X12_readLine 123 rfl) rfl ⟨by decide, h⟩)
        have h := h (zV Γ mu_X12_readLine (145, 0, 0) 209 [(0, zRf (zad Γ) 103), (2, zI v2)] [zRf (zad Γ) 103] M6) (fun h => by
          refine zr_iconst C (zdec_at dm_X12_readLine 107 rfl) ?_
          refine zr_goto C (zdec_at dm_X12_readLine 108 rfl) rfl ?_
          exact zr_sub [0, 1] rfl (h (by decide)))
        refine zr_if_ne C (hR7 _ _) (zdec_at dm_X12_readLine 99 rfl) rfl (fun g29 => ?_) (fun g29 => ?_)
        · have h := h.1 g29
          exact zr_sub [0, 1] rfl (h)
        · have h := h.2 g29
          refine zr_aload_n C 0 rfl (zdec_at dm_X12_readLine 100 rfl) rfl ?_
          refine zr_geti C fk_RX12_171 fi_103_27 (zdec_at dm_X12_readLine 101 rfl) ?_
          have h := h (zV Γ mu_X12_readLine (145, 0, 0) 213 [(0, zRf (zad Γ) 103), (2, zI v2)] [zRf (zad Γ) 103] M6) (fun h => by
            refine zr_iconst C (zdec_at dm_X12_readLine 109 rfl) ?_
            exact zr_sub [0, 1] rfl (h (by decide)))
          refine zr_if_le C (hR7 _ _) (zdec_at dm_X12_readLine 102 rfl) rfl (fun g30 => ?_) (fun g30 => ?_)
          · have h := h.1 g30
            exact zr_sub [0, 1] rfl (h)
          · have h := h.2 g30
            refine zr_iload_n C 1 rfl (zdec_at dm_X12_readLine 103 rfl) rfl ?_
            refine zr_aload_n C 0 rfl (zdec_at dm_X12_readLine 104 rfl) rfl ?_
            refine zr_geti C fk_RX12_168 fi_103_26 (zdec_at dm_X12_readLine 105 rfl) ?_
            refine zr_icmp_ge C z4 (hR7 _ _) (zdec_at dm_X12_readLine 106 rfl) rfl (fun g31 => ?_) (fun g31 => ?_)
            · have h := h.1 g31
              exact zr_sub [0, 1] rfl (h)
            · have h := h.2 g31
              exact zr_sub [0, 1] rfl (h))
      refine zr_if_ne C (hR7 _ _) (zdec_at dm_X12_readLine 14 rfl) rfl (fun g32 => ?_) (fun g32 => ?_)
      · have h := h.1 g32
        exact zr_sub [0, 2] rfl (h)
      · have h := h.2 g32
        refine zr_iload_n C 3 rfl (zdec_at dm_X12_readLine 15 rfl) rfl ?_
        refine zr_if_eq C z5 (zdec_at dm_X12_readLine 16 rfl) rfl (fun g33 => ?_) (fun g33 => ?_)
        · have h := h.1 g33
          exact zr_sub [0, 2] rfl (h)
        · have h := h.2 g33
          refine zr_aload_n C 0 rfl (zdec_at dm_X12_readLine 17 rfl) rfl ?_
          obtain ⟨g39, h⟩ := h
          refine zr_callV C [] hS_X12_here ck_RX12_177 iv_X12_here vc_X12 oc_103 rfl rfl (zdec_at dm_X12_readLine 18 rfl) ⟨rfl, rfl, rfl, rfl⟩ ⟨by decide, by decide⟩ (Nat.le_of_ble_eq_true rfl) zall_n ?_
          refine ⟨rfl, g39, fun r34 M35 p38 z37 hR36 => ?_⟩
          have h := h r34 M35 p38 z37 hR36
          show zV Γ mu_X12_readLine (145, 0, 0) 36 [(0, zRf (zad Γ) 103), (1, zI (M 103 26)), (2, zI v2), (3, zI v3)] [zI r34] M35
          obtain ⟨g45, h⟩ := h
          refine zr_callS C [r34] hS_X12_colourOf ck_RX12_181 sv_X12_colourOf rfl rfl (zdec_at dm_X12_readLine 19 rfl) ⟨rfl, rfl, rfl, rfl⟩ ⟨by decide, by decide⟩ (Nat.le_of_ble_eq_true rfl) (zall_0 z37 zall_n) ?_
          refine ⟨_, rfl, g45, fun r40 M41 p44 z43 hR42 => ?_⟩
          have h := h r40 M41 p44 z43 hR42
          show zV Γ mu_X12_readLine (145, 0, 0) 39 [(0, zRf (zad Γ) 103), (1, zI (M 103 26)), (2, zI v2), (3, zI v3)] [zI r40] M41
          refine zr_istore (L1 := [(4, zI r40), (0, zRf (zad Γ) 103), (1, zI (M 103 26)), (2, zI v2), (3, zI v3)]) C (zdec_at dm_X12_readLine 20 rfl) (Nat.le_of_ble_eq_true rfl) rfl ?_
          refine zr_aload_n C 1 rfl (zdec_at dm_X12_readLine 21 rfl) rfl ?_
          refine zr_iload C 0 rfl (zdec_at dm_X12_readLine 22 rfl) ?_
          have h := h (fun v46 => zin v46 → zV Γ mu_X12_readLine (145, 0, 0) 57 [(0, zRf (zad Γ) 103), (1, zI (M 103 26)), (2, zI v2), (4, zI r40)] [zI v46, zRf (zad Γ) 103] M41) (fun v46 h z47 => by
            have h := h z47
            obtain ⟨o48, h⟩ := h
            refine zr_putz C fk_RX12_164 fi_103_24 z47 o48 (zdec_at dm_X12_readLine 30 rfl) (fun M49 e50 => ?_)
            have h := h M49 e50
            have hR51 : zRng M49 := by rw [e50]; exact hR42.set z47 _ _
            refine zr_aload_n C 0 rfl (zdec_at dm_X12_readLine 31 rfl) rfl ?_
            refine zr_geti C fk_RX12_164 fi_103_24 (zdec_at dm_X12_readLine 32 rfl) ?_
            have h := h (fun v52 M54 => zin v52 → zRng M54 → zV Γ mu_X12_readLine (145, 0, 0) 150 [(0, zRf (zad Γ) 103), (1, zI (M 103 26)), (2, zI v52)] [] M54) (fun v52 M54 h z53 hR55 => by
              have h := h z53 hR55
              refine zr_aload_n C 0 rfl (zdec_at dm_X12_readLine 79 rfl) rfl ?_
              refine zr_geti C fk_RX12_164 fi_103_24 (zdec_at dm_X12_readLine 80 rfl) ?_
              refine zr_if_ne C (hR55 _ _) (zdec_at dm_X12_readLine 81 rfl) rfl (fun g56 => ?_) (fun g56 => ?_)
              · have h := h.1 g56
                refine zr_iconst C (zdec_at dm_X12_readLine 93 rfl) ?_
                refine zr_istore_n (L1 := [(3, zI 0), (0, zRf (zad Γ) 103), (1, zI (M 103 26)), (2, zI v52)]) C (zdec_at dm_X12_readLine 94 rfl) rfl (Nat.le_of_ble_eq_true rfl) rfl ?_
                refine zr_goto C (zdec_at dm_X12_readLine 95 rfl) rfl ?_
                obtain ⟨n57, q58, q59⟩ := h
                exact zr_sub [1, 2, 3, 0] rfl (ih9 n57 q58 _ _ _ q59 z53 (by decide) hR55)
              · have h := h.2 g56
                refine zr_aload_n C 0 rfl (zdec_at dm_X12_readLine 82 rfl) rfl ?_
                refine zr_geti C fk_RX12_143 fi_103_23 (zdec_at dm_X12_readLine 83 rfl) ?_
                refine zr_aload_n C 0 rfl (zdec_at dm_X12_readLine 84 rfl) rfl ?_
                refine zr_geti C fk_RX12_146 fi_103_22 (zdec_at dm_X12_readLine 85 rfl) ?_
                refine zr_icmp_ge C (hR55 _ _) (hR55 _ _) (zdec_at dm_X12_readLine 86 rfl) rfl (fun g60 => ?_) (fun g60 => ?_)
                · have h := h.1 g60
                  refine zr_iconst C (zdec_at dm_X12_readLine 93 rfl) ?_
                  refine zr_istore_n (L1 := [(3, zI 0), (0, zRf (zad Γ) 103), (1, zI (M 103 26)), (2, zI v52)]) C (zdec_at dm_X12_readLine 94 rfl) rfl (Nat.le_of_ble_eq_true rfl) rfl ?_
                  refine zr_goto C (zdec_at dm_X12_readLine 95 rfl) rfl ?_
                  obtain ⟨n61, q62, q63⟩ := h
                  exact zr_sub [1, 2, 3, 0] rfl (ih9 n61 q62 _ _ _ q63 z53 (by decide) hR55)
                · have h := h.2 g60
                  refine zr_aload_n C 0 rfl (zdec_at dm_X12_readLine 87 rfl) rfl ?_
                  obtain ⟨g69, h⟩ := h
                  refine zr_callV C [] hS_X12_here ck_RX12_177 iv_X12_here vc_X12 oc_103 rfl rfl (zdec_at dm_X12_readLine 88 rfl) ⟨rfl, rfl, rfl, rfl⟩ ⟨by decide, by decide⟩ (Nat.le_of_ble_eq_true rfl) zall_n ?_
                  refine ⟨rfl, g69, fun r64 M65 p68 z67 hR66 => ?_⟩
                  have h := h r64 M65 p68 z67 hR66
                  show zV Γ mu_X12_readLine (145, 0, 0) 172 [(0, zRf (zad Γ) 103), (1, zI (M 103 26)), (2, zI v52)] [zI r64] M65
                  refine zr_bipush C (zdec_at dm_X12_readLine 89 rfl) (by decide) ?_
                  refine zr_icmp_eq C z67 (by decide) (zdec_at dm_X12_readLine 90 rfl) rfl (fun g70 => ?_) (fun g70 => ?_)
                  · have h := h.1 g70
                    refine zr_iconst C (zdec_at dm_X12_readLine 93 rfl) ?_
                    refine zr_istore_n (L1 := [(3, zI 0), (0, zRf (zad Γ) 103), (1, zI (M 103 26)), (2, zI v52)]) C (zdec_at dm_X12_readLine 94 rfl) rfl (Nat.le_of_ble_eq_true rfl) rfl ?_
                    refine zr_goto C (zdec_at dm_X12_readLine 95 rfl) rfl ?_
                    obtain ⟨n71, q72, q73⟩ := h
                    exact zr_sub [1, 2, 3, 0] rfl (ih9 n71 q72 _ _ _ q73 z53 (by decide) hR66)
                  · have h := h.2 g70
                    refine zr_iconst C (zdec_at dm_X12_readLine 91 rfl) ?_
                    refine zr_goto C (zdec_at dm_X12_readLine 92 rfl) rfl ?_
                    refine zr_istore_n (L1 := [(3, zI 1), (0, zRf (zad Γ) 103), (1, zI (M 103 26)), (2, zI v52)]) C (zdec_at dm_X12_readLine 94 rfl) rfl (Nat.le_of_ble_eq_true rfl) rfl ?_
                    refine zr_goto C (zdec_at dm_X12_readLine 95 rfl) rfl ?_
                    obtain ⟨n74, q75, q76⟩ := h
                    exact zr_sub [1, 2, 3, 0] rfl (ih9 n74 q75 _ _ _ q76 z53 (by decide) hR66))
            refine zr_if_ne C (hR51 _ _) (zdec_at dm_X12_readLine 33 rfl) rfl (fun g77 => ?_) (fun g77 => ?_)
            · have h := h.1 g77
              exact zr_sub [0, 1, 2] rfl (h z4 hR51)
            · have h := h.2 g77
              refine zr_aload_n C 0 rfl (zdec_at dm_X12_readLine 34 rfl) rfl ?_
              refine zr_dup C rfl (zdec_at dm_X12_readLine 35 rfl) ?_
              refine zr_geti C fk_RX12_143 fi_103_23 (zdec_at dm_X12_readLine 36 rfl) ?_
              refine zr_iconst C (zdec_at dm_X12_readLine 37 rfl) ?_
              refine zr_iadd C (zdec_at dm_X12_readLine 38 rfl) ?_
              obtain ⟨o78, h⟩ := h
              refine zr_puti C fk_RX12_143 fi_103_23 o78 (zdec_at dm_X12_readLine 39 rfl) (fun M79 e80 => ?_)
              have h := h M79 e80
              have hR81 : zRng M79 := by rw [e80]; exact hR51.set o78 _ _
              refine zr_iconst C (zdec_at dm_X12_readLine 40 rfl) ?_
              refine zr_istore (L1 := [(5, zI 1), (0, zRf (zad Γ) 103), (1, zI (M 103 26)), (2, zI v2), (4, zI r40)]) C (zdec_at dm_X12_readLine 41 rfl) (Nat.le_of_ble_eq_true rfl) rfl ?_
              refine zr_aload_n C 1 rfl (zdec_at dm_X12_readLine 42 rfl) rfl ?_
              obtain ⟨g87, h⟩ := h
              refine zr_callV C [] hS_X12_here ck_RX12_177 iv_X12_here vc_X12 oc_103 rfl rfl (zdec_at dm_X12_readLine 43 rfl) ⟨rfl, rfl, rfl, rfl⟩ ⟨by decide, by decide⟩ (Nat.le_of_ble_eq_true rfl) zall_n ?_
              refine ⟨rfl, g87, fun r82 M83 p86 z85 hR84 => ?_⟩
              have h := h r82 M83 p86 z85 hR84
              show zV Γ mu_X12_readLine (145, 0, 0) 84 [(5, zI 1), (0, zRf (zad Γ) 103), (1, zI (M 103 26)), (2, zI v2), (4, zI r40)] [zI r82] M83
              refine zr_bipush C (zdec_at dm_X12_readLine 44 rfl) (by decide) ?_
              refine zr_icmp_ne C z85 (by decide) (zdec_at dm_X12_readLine 45 rfl) rfl (fun g88 => ?_) (fun g88 => ?_)
              · have h := h.1 g88
                refine zr_iconst C (zdec_at dm_X12_readLine 58 rfl) ?_
                refine zr_istore (L1 := [(6, zI 0), (5, zI 1), (0, zRf (zad Γ) 103), (1, zI (M 103 26)), (2, zI v2), (4, zI r40)]) C (zdec_at dm_X12_readLine 59 rfl) (Nat.le_of_ble_eq_true rfl) rfl ?_
                obtain ⟨I111, ⟨n99, q100⟩, hI98⟩ := h
                have lp97 : ∀ (n95 : Nat) (v89 : Int) (v90 : Int) (M93 : zM), I111 v89 v90 M93 n95 → zin v89 → zin v90 → zRng M93 → zV Γ mu_X12_readLine (145, 0, 0) 111 [(0, zRf (zad Γ) 103), (1, zI (M 103 26)), (2, zI v89), (4, zI r40), (5, zI 1), (6, zI v90)] [] M93 := by
                  intro n95
                  induction n95 using Nat.strongRecOn with
                  | _ n95 ih96 =>
                  intro v89 v90 M93 q101 z91 z92 hR94
                  have h := hI98 v89 v90 M93 n95 q101 z91 z92 hR94
                  refine zr_iload C 5 rfl (zdec_at dm_X12_readLine 60 rfl) ?_
                  refine zr_iload C 4 rfl (zdec_at dm_X12_readLine 61 rfl) ?_
                  refine zr_icmp_ge C z92 (by decide) (zdec_at dm_X12_readLine 62 rfl) rfl (fun g102 => ?_) (fun g102 => ?_)
                  · have h := h.1 g102
                    exact zr_sub [0, 1, 2] rfl (h z91 hR94)
                  · have h := h.2 g102
                    refine zr_aload_n C 0 rfl (zdec_at dm_X12_readLine 63 rfl) rfl ?_
                    refine zr_geti C fk_RX12_164 fi_103_24 (zdec_at dm_X12_readLine 64 rfl) ?_
                    refine zr_if_ne C (hR94 _ _) (zdec_at dm_X12_readLine 65 rfl) rfl (fun g103 => ?_) (fun g103 => ?_)
                    · have h := h.1 g103
                      exact zr_sub [0, 1, 2] rfl (h z91 hR94)
                    · have h := h.2 g103
                      refine zr_aload_n C 0 rfl (zdec_at dm_X12_readLine 66 rfl) rfl ?_
                      refine zr_getr (q := 113) C fk_RX12_45 fi_103_25 (zdec_at dm_X12_readLine 67 rfl) ?_
                      refine zr_bipush C (zdec_at dm_X12_readLine 68 rfl) (by decide) ?_
                      refine zr_aload_n C 0 rfl (zdec_at dm_X12_readLine 69 rfl) rfl ?_
                      refine zr_geti C fk_RX12_171 fi_103_27 (zdec_at dm_X12_readLine 70 rfl) ?_
                      refine zr_imul C (zdec_at dm_X12_readLine 71 rfl) ?_
                      refine zr_iload_n C 2 rfl (zdec_at dm_X12_readLine 72 rfl) rfl ?_
                      refine zr_iadd C (zdec_at dm_X12_readLine 73 rfl) ?_
                      refine zr_iload C 3 rfl (zdec_at dm_X12_readLine 74 rfl) ?_
                      obtain ⟨o104, h⟩ := h
                      refine zr_iast C ai_113 o104 z43 (zdec_at dm_X12_readLine 75 rfl) (fun M105 e106 => ?_)
                      have h := h M105 e106
                      have hR107 : zRng M105 := by rw [e106]; exact hR94.set z43 _ _
                      refine zr_iinc (L1 := [(2, zI (v89 + 1)), (0, zRf (zad Γ) 103), (1, zI (M 103 26)), (4, zI r40), (5, zI 1), (6, zI v90)]) C 2 rfl (zdec_at dm_X12_readLine 76 rfl) (Nat.le_of_ble_eq_true rfl) rfl ?_
                      refine zr_iinc (L1 := [(6, zI (v90 + 1)), (2, zI (v89 + 1)), (0, zRf (zad Γ) 103), (1, zI (M 103 26)), (4, zI r40), (5, zI 1)]) C 5 rfl (zdec_at dm_X12_readLine 77 rfl) (Nat.le_of_ble_eq_true rfl) rfl ?_
                      refine zr_goto C (zdec_at dm_X12_readLine 78 rfl) rfl ?_
                      obtain ⟨o108, h⟩ := h
                      obtain ⟨o109, h⟩ := h
                      obtain ⟨n110, q111, q112⟩ := h
                      exact zr_sub [2, 3, 1, 4, 5, 0] rfl (ih96 n110 q111 _ _ _ q112 o108 o109 hR107)
                exact zr_sub [2, 3, 4, 5, 1, 0] rfl (lp97 n99 _ _ _ q100 z4 (by decide) hR84)
              · have h := h.2 g88
                refine zr_aload_n C 1 rfl (zdec_at dm_X12_readLine 46 rfl) rfl ?_
                refine zr_dup C rfl (zdec_at dm_X12_readLine 47 rfl) ?_
                refine zr_geti C fk_RX12_143 fi_103_23 (zdec_at dm_X12_readLine 48 rfl) ?_
                refine zr_iconst C (zdec_at dm_X12_readLine 49 rfl) ?_
                refine zr_iadd C (zdec_at dm_X12_readLine 50 rfl) ?_
                obtain ⟨o113, h⟩ := h
                refine zr_puti C fk_RX12_143 fi_103_23 o113 (zdec_at dm_X12_readLine 51 rfl) (fun M114 e115 => ?_)
                have h := h M114 e115
                have hR116 : zRng M114 := by rw [e115]; exact hR84.set o113 _ _
                refine zr_aload_n C 1 rfl (zdec_at dm_X12_readLine 52 rfl) rfl ?_
                refine zr_iload_n C 2 rfl (zdec_at dm_X12_readLine 53 rfl) rfl ?_
                refine zr_iload_n C 3 rfl (zdec_at dm_X12_readLine 54 rfl) rfl ?_
                refine zr_isub C (zdec_at dm_X12_readLine 55 rfl) ?_
                obtain ⟨o117, h⟩ := h
                obtain ⟨g123, h⟩ := h
                refine zr_callV C [((M 103 26) - v2)] hS_X12_readNumber ck_RX12_185 iv_X12_readNumber vc_X12 oc_103 rfl rfl (zdec_at dm_X12_readLine 56 rfl) ⟨rfl, rfl, rfl, rfl⟩ ⟨by decide, by decide⟩ (Nat.le_of_ble_eq_true rfl) (zall_0 o117 zall_n) ?_
                refine ⟨_, rfl, g123, fun r118 M119 p122 z121 hR120 => ?_⟩
                have h := h r118 M119 p122 z121 hR120
                show zV Γ mu_X12_readLine (145, 0, 0) 106 [(5, zI 1), (0, zRf (zad Γ) 103), (1, zI (M 103 26)), (2, zI v2), (4, zI r40)] [zI r118] M119
                refine zr_istore (L1 := [(5, zI r118), (0, zRf (zad Γ) 103), (1, zI (M 103 26)), (2, zI v2), (4, zI r40)]) C (zdec_at dm_X12_readLine 57 rfl) (Nat.le_of_ble_eq_true rfl) rfl ?_
                refine zr_iconst C (zdec_at dm_X12_readLine 58 rfl) ?_
                refine zr_istore (L1 := [(6, zI 0), (5, zI r118), (0, zRf (zad Γ) 103), (1, zI (M 103 26)), (2, zI v2), (4, zI r40)]) C (zdec_at dm_X12_readLine 59 rfl) (Nat.le_of_ble_eq_true rfl) rfl ?_
                obtain ⟨I111, ⟨n134, q135⟩, hI133⟩ := h
                have lp132 : ∀ (n130 : Nat) (v124 : Int) (v125 : Int) (M128 : zM), I111 v124 v125 M128 n130 → zin v124 → zin v125 → zRng M128 → zV Γ mu_X12_readLine (145, 0, 0) 111 [(0, zRf (zad Γ) 103), (1, zI (M 103 26)), (2, zI v124), (4, zI r40), (5, zI r118), (6, zI v125)] [] M128 := by
                  intro n130
                  induction n130 using Nat.strongRecOn with
                  | _ n130 ih131 =>
                  intro v124 v125 M128 q136 z126 z127 hR129
                  have h := hI133 v124 v125 M128 n130 q136 z126 z127 hR129
                  refine zr_iload C 5 rfl (zdec_at dm_X12_readLine 60 rfl) ?_
                  refine zr_iload C 4 rfl (zdec_at dm_X12_readLine 61 rfl) ?_
                  refine zr_icmp_ge C z127 z121 (zdec_at dm_X12_readLine 62 rfl) rfl (fun g137 => ?_) (fun g137 => ?_)
                  · have h := h.1 g137
                    exact zr_sub [0, 1, 2] rfl (h z126 hR129)
                  · have h := h.2 g137
                    refine zr_aload_n C 0 rfl (zdec_at dm_X12_readLine 63 rfl) rfl ?_
                    refine zr_geti C fk_RX12_164 fi_103_24 (zdec_at dm_X12_readLine 64 rfl) ?_
                    refine zr_if_ne C (hR129 _ _) (zdec_at dm_X12_readLine 65 rfl) rfl (fun g138 => ?_) (fun g138 => ?_)
                    · have h := h.1 g138
                      exact zr_sub [0, 1, 2] rfl (h z126 hR129)
                    · have h := h.2 g138
                      refine zr_aload_n C 0 rfl (zdec_at dm_X12_readLine 66 rfl) rfl ?_
                      refine zr_getr (q := 113) C fk_RX12_45 fi_103_25 (zdec_at dm_X12_readLine 67 rfl) ?_
                      refine zr_bipush C (zdec_at dm_X12_readLine 68 rfl) (by decide) ?_
                      refine zr_aload_n C 0 rfl (zdec_at dm_X12_readLine 69 rfl) rfl ?_
                      refine zr_geti C fk_RX12_171 fi_103_27 (zdec_at dm_X12_readLine 70 rfl) ?_
                      refine zr_imul C (zdec_at dm_X12_readLine 71 rfl) ?_
                      refine zr_iload_n C 2 rfl (zdec_at dm_X12_readLine 72 rfl) rfl ?_
                      refine zr_iadd C (zdec_at dm_X12_readLine 73 rfl) ?_
                      refine zr_iload C 3 rfl (zdec_at dm_X12_readLine 74 rfl) ?_
                      obtain ⟨o139, h⟩ := h
                      refine zr_iast C ai_113 o139 z43 (zdec_at dm_X12_readLine 75 rfl) (fun M140 e141 => ?_)
                      have h := h M140 e141
                      have hR142 : zRng M140 := by rw [e141]; exact hR129.set z43 _ _
                      refine zr_iinc (L1 := [(2, zI (v124 + 1)), (0, zRf (zad Γ) 103), (1, zI (M 103 26)), (4, zI r40), (5, zI r118), (6, zI v125)]) C 2 rfl (zdec_at dm_X12_readLine 76 rfl) (Nat.le_of_ble_eq_true rfl) rfl ?_
                      refine zr_iinc (L1 := [(6, zI (v125 + 1)), (2, zI (v124 + 1)), (0, zRf (zad Γ) 103), (1, zI (M 103 26)), (4, zI r40), (5, zI r118)]) C 5 rfl (zdec_at dm_X12_readLine 77 rfl) (Nat.le_of_ble_eq_true rfl) rfl ?_
                      refine zr_goto C (zdec_at dm_X12_readLine 78 rfl) rfl ?_
                      obtain ⟨o143, h⟩ := h
                      obtain ⟨o144, h⟩ := h
                      obtain ⟨n145, q146, q147⟩ := h
                      exact zr_sub [2, 3, 1, 4, 5, 0] rfl (ih131 n145 q146 _ _ _ q147 o143 o144 hR142)
                exact zr_sub [2, 3, 4, 5, 1, 0] rfl (lp132 n134 _ _ _ q135 z4 (by decide) hR120))
          have h := h (zV Γ mu_X12_readLine (145, 0, 0) 52 [(0, zRf (zad Γ) 103), (1, zI (M 103 26)), (2, zI v2), (4, zI r40)] [zRf (zad Γ) 103] M41) (fun h => by
            refine zr_iconst C (zdec_at dm_X12_readLine 27 rfl) ?_
            refine zr_goto C (zdec_at dm_X12_readLine 28 rfl) rfl ?_
            exact zr_sub [0, 1, 2, 3] rfl (h (by decide)))
          refine zr_if_lt C z43 (zdec_at dm_X12_readLine 23 rfl) rfl (fun g148 => ?_) (fun g148 => ?_)
          · have h := h.1 g148
            exact zr_sub [1, 2, 3, 0] rfl (h)
          · have h := h.2 g148
            refine zr_iload_n C 3 rfl (zdec_at dm_X12_readLine 24 rfl) rfl ?_
            refine zr_iload_n C 2 rfl (zdec_at dm_X12_readLine 25 rfl) rfl ?_
            refine zr_icmp_ne C z4 (hR _ _) (zdec_at dm_X12_readLine 26 rfl) rfl (fun g149 => ?_) (fun g149 => ?_)
            · have h := h.1 g149
              refine zr_iconst C (zdec_at dm_X12_readLine 29 rfl) ?_
              exact zr_sub [1, 2, 3, 0] rfl (h (by decide))
            · have h := h.2 g149
              exact zr_sub [1, 2, 3, 0] rfl (h)
    exact zr_sub [3, 2, 1, 0] rfl (lp10 n12 _ _ _ q13 (by decide) (by decide) hR)
  · have h := h.2 g1
    refine zr_bipush C (zdec_at dm_X12_readLine 3 rfl) (by decide) ?_
    refine zr_goto C (zdec_at dm_X12_readLine 4 rfl) rfl ?_
    refine zr_istore_n (L1 := [(1, zI 16), (0, zRf (zad Γ) 103)]) C (zdec_at dm_X12_readLine 7 rfl) rfl (Nat.le_of_ble_eq_true rfl) rfl ?_
    refine zr_iconst C (zdec_at dm_X12_readLine 8 rfl) ?_
    refine zr_istore_n (L1 := [(2, zI 0), (1, zI 16), (0, zRf (zad Γ) 103)]) C (zdec_at dm_X12_readLine 9 rfl) rfl (Nat.le_of_ble_eq_true rfl) rfl ?_
    refine zr_iconst C (zdec_at dm_X12_readLine 10 rfl) ?_
    refine zr_istore_n (L1 := [(3, zI 1), (2, zI 0), (1, zI 16), (0, zRf (zad Γ) 103)]) C (zdec_at dm_X12_readLine 11 rfl) rfl (Nat.le_of_ble_eq_true rfl) rfl ?_
    obtain ⟨I21, ⟨n160, q161⟩, hI159⟩ := h
    have lp158 : ∀ (n156 : Nat) (v150 : Int) (v151 : Int) (M154 : zM), I21 v150 v151 M154 n156 → zin v150 → zin v151 → zRng M154 → zV Γ mu_X12_readLine (145, 0, 0) 21 [(0, zRf (zad Γ) 103), (1, zI 16), (2, zI v150), (3, zI v151)] [] M154 := by
      intro n156
      induction n156 using Nat.strongRecOn with
      | _ n156 ih157 =>
      intro v150 v151 M154 q162 z152 z153 hR155
      have h := hI159 v150 v151 M154 n156 q162 z152 z153 hR155
      refine zr_aload_n C 0 rfl (zdec_at dm_X12_readLine 12 rfl) rfl ?_
      refine zr_geti C fk_RX12_164 fi_103_24 (zdec_at dm_X12_readLine 13 rfl) ?_
      have h := h (zV Γ mu_X12_readLine (145, 0, 0) 186 [(0, zRf (zad Γ) 103), (2, zI v150)] [] M154) (fun h => by
        refine zr_aload_n C 0 rfl (zdec_at dm_X12_readLine 96 rfl) rfl ?_
        refine zr_aload_n C 0 rfl (zdec_at dm_X12_readLine 97 rfl) rfl ?_
        refine zr_geti C fk_RX12_164 fi_103_24 (zdec_at dm_X12_readLine 98 rfl) ?_
        have h := h (fun v163 => zin v163 → zV Γ mu_X12_readLine (145, 0, 0) 214 [(0, zRf (zad Γ) 103), (2, zI v150)] [zI v163, zRf (zad Γ) 103] M154) (fun v163 h z164 => by
          have h := h z164
          obtain ⟨o165, h⟩ := h
          refine zr_putz C fk_RX12_164 fi_103_24 z164 o165 (zdec_at dm_X12_readLine 110 rfl) (fun M166 e167 => ?_)
          have h := h M166 e167
          have hR168 : zRng M166 := by rw [e167]; exact hR155.set z164 _ _
          refine zr_aload_n C 0 rfl (zdec_at dm_X12_readLine 111 rfl) rfl ?_
          refine zr_geti C fk_RX12_164 fi_103_24 (zdec_at dm_X12_readLine 112 rfl) ?_
          refine zr_if_ne C (hR168 _ _) (zdec_at dm_X12_readLine 113 rfl) rfl (fun g169 => ?_) (fun g169 => ?_)
          · have h := h.1 g169
            exact zr_return C rfl rfl (zdec_at dm_X12_readLine 123 rfl) rfl ⟨by decide, h⟩
          · have h := h.2 g169
            refine zr_aload_n C 0 rfl (zdec_at dm_X12_readLine 114 rfl) rfl ?_
            refine zr_iload_n C 1 rfl (zdec_at dm_X12_readLine 115 rfl) rfl ?_
            refine zr_puti C fk_RX12_168 fi_103_26 z152 (zdec_at dm_X12_readLine 116 rfl) (fun M170 e171 => ?_)
            have h := h M170 e171
            have hR172 : zRng M170 := by rw [e171]; exact hR168.set z152 _ _
            refine zr_aload_n C 0 rfl (zdec_at dm_X12_readLine 117 rfl) rfl ?_
            refine zr_dup C rfl (zdec_at dm_X12_readLine 118 rfl) ?_
            refine zr_geti C fk_RX12_171 fi_103_27 (zdec_at dm_X12_readLine 119 rfl) ?_
            refine zr_iconst C (zdec_at dm_X12_readLine 120 rfl) ?_
            refine zr_iadd C (zdec_at dm_X12_readLine 121 rfl) ?_
            obtain ⟨o173, h⟩ := h
            refine zr_puti C fk_RX12_171 fi_103_27 o173 (zdec_at dm_X12_readLine 122 rfl) (fun M174 e175 => ?_)
            have h := h M174 e175
            have hR176 : zRng M174 := by rw [e175]; exact hR172.set o173 _ _
            exact zr_return C rfl rfl (zdec_at dm_X12_readLine 123 rfl) rfl ⟨by decide, h⟩)
        have h := h (zV Γ mu_X12_readLine (145, 0, 0) 209 [(0, zRf (zad Γ) 103), (2, zI v150)] [zRf (zad Γ) 103] M154) (fun h => by
          refine zr_iconst C (zdec_at dm_X12_readLine 107 rfl) ?_
          refine zr_goto C (zdec_at dm_X12_readLine 108 rfl) rfl ?_
          exact zr_sub [0, 1] rfl (h (by decide)))
        refine zr_if_ne C (hR155 _ _) (zdec_at dm_X12_readLine 99 rfl) rfl (fun g177 => ?_) (fun g177 => ?_)
        · have h := h.1 g177
          exact zr_sub [0, 1] rfl (h)
        · have h := h.2 g177
          refine zr_aload_n C 0 rfl (zdec_at dm_X12_readLine 100 rfl) rfl ?_
          refine zr_geti C fk_RX12_171 fi_103_27 (zdec_at dm_X12_readLine 101 rfl) ?_
          have h := h (zV Γ mu_X12_readLine (145, 0, 0) 213 [(0, zRf (zad Γ) 103), (2, zI v150)] [zRf (zad Γ) 103] M154) (fun h => by
            refine zr_iconst C (zdec_at dm_X12_readLine 109 rfl) ?_
            exact zr_sub [0, 1] rfl (h (by decide)))
          refine zr_if_le C (hR155 _ _) (zdec_at dm_X12_readLine 102 rfl) rfl (fun g178 => ?_) (fun g178 => ?_)
          · have h := h.1 g178
            exact zr_sub [0, 1] rfl (h)
          · have h := h.2 g178
            refine zr_iload_n C 1 rfl (zdec_at dm_X12_readLine 103 rfl) rfl ?_
            refine zr_aload_n C 0 rfl (zdec_at dm_X12_readLine 104 rfl) rfl ?_
            refine zr_geti C fk_RX12_168 fi_103_26 (zdec_at dm_X12_readLine 105 rfl) ?_
            refine zr_icmp_ge C z152 (hR155 _ _) (zdec_at dm_X12_readLine 106 rfl) rfl (fun g179 => ?_) (fun g179 => ?_)
            · have h := h.1 g179
              exact zr_sub [0, 1] rfl (h)
            · have h := h.2 g179
              exact zr_sub [0, 1] rfl (h))
      refine zr_if_ne C (hR155 _ _) (zdec_at dm_X12_readLine 14 rfl) rfl (fun g180 => ?_) (fun g180 => ?_)
      · have h := h.1 g180
        exact zr_sub [0, 2] rfl (h)
      · have h := h.2 g180
        refine zr_iload_n C 3 rfl (zdec_at dm_X12_readLine 15 rfl) rfl ?_
        refine zr_if_eq C z153 (zdec_at dm_X12_readLine 16 rfl) rfl (fun g181 => ?_) (fun g181 => ?_)
        · have h := h.1 g181
          exact zr_sub [0, 2] rfl (h)
        · have h := h.2 g181
          refine zr_aload_n C 0 rfl (zdec_at dm_X12_readLine 17 rfl) rfl ?_
          obtain ⟨g187, h⟩ := h
          refine zr_callV C [] hS_X12_here ck_RX12_177 iv_X12_here vc_X12 oc_103 rfl rfl (zdec_at dm_X12_readLine 18 rfl) ⟨rfl, rfl, rfl, rfl⟩ ⟨by decide, by decide⟩ (Nat.le_of_ble_eq_true rfl) zall_n ?_
          refine ⟨rfl, g187, fun r182 M183 p186 z185 hR184 => ?_⟩
          have h := h r182 M183 p186 z185 hR184
          show zV Γ mu_X12_readLine (145, 0, 0) 36 [(0, zRf (zad Γ) 103), (1, zI 16), (2, zI v150), (3, zI v151)] [zI r182] M183
          obtain ⟨g193, h⟩ := h
          refine zr_callS C [r182] hS_X12_colourOf ck_RX12_181 sv_X12_colourOf rfl rfl (zdec_at dm_X12_readLine 19 rfl) ⟨rfl, rfl, rfl, rfl⟩ ⟨by decide, by decide⟩ (Nat.le_of_ble_eq_true rfl) (zall_0 z185 zall_n) ?_
          refine ⟨_, rfl, g193, fun r188 M189 p192 z191 hR190 => ?_⟩
          have h := h r188 M189 p192 z191 hR190
          show zV Γ mu_X12_readLine (145, 0, 0) 39 [(0, zRf (zad Γ) 103), (1, zI 16), (2, zI v150), (3, zI v151)] [zI r188] M189
          refine zr_istore (L1 := [(4, zI r188), (0, zRf (zad Γ) 103), (1, zI 16), (2, zI v150), (3, zI v151)]) C (zdec_at dm_X12_readLine 20 rfl) (Nat.le_of_ble_eq_true rfl) rfl ?_
          refine zr_aload_n C 1 rfl (zdec_at dm_X12_readLine 21 rfl) rfl ?_
          refine zr_iload C 0 rfl (zdec_at dm_X12_readLine 22 rfl) ?_
          have h := h (fun v194 => zin v194 → zV Γ mu_X12_readLine (145, 0, 0) 57 [(0, zRf (zad Γ) 103), (1, zI 16), (2, zI v150), (4, zI r188)] [zI v194, zRf (zad Γ) 103] M189) (fun v194 h z195 => by
            have h := h z195
            obtain ⟨o196, h⟩ := h
            refine zr_putz C fk_RX12_164 fi_103_24 z195 o196 (zdec_at dm_X12_readLine 30 rfl) (fun M197 e198 => ?_)
            have h := h M197 e198
            have hR199 : zRng M197 := by rw [e198]; exact hR190.set z195 _ _
            refine zr_aload_n C 0 rfl (zdec_at dm_X12_readLine 31 rfl) rfl ?_
            refine zr_geti C fk_RX12_164 fi_103_24 (zdec_at dm_X12_readLine 32 rfl) ?_
            have h := h (fun v200 M202 => zin v200 → zRng M202 → zV Γ mu_X12_readLine (145, 0, 0) 150 [(0, zRf (zad Γ) 103), (1, zI 16), (2, zI v200)] [] M202) (fun v200 M202 h z201 hR203 => by
              have h := h z201 hR203
              refine zr_aload_n C 0 rfl (zdec_at dm_X12_readLine 79 rfl) rfl ?_
              refine zr_geti C fk_RX12_164 fi_103_24 (zdec_at dm_X12_readLine 80 rfl) ?_
              refine zr_if_ne C (hR203 _ _) (zdec_at dm_X12_readLine 81 rfl) rfl (fun g204 => ?_) (fun g204 => ?_)
              · have h := h.1 g204
                refine zr_iconst C (zdec_at dm_X12_readLine 93 rfl) ?_
                refine zr_istore_n (L1 := [(3, zI 0), (0, zRf (zad Γ) 103), (1, zI 16), (2, zI v200)]) C (zdec_at dm_X12_readLine 94 rfl) rfl (Nat.le_of_ble_eq_true rfl) rfl ?_
                refine zr_goto C (zdec_at dm_X12_readLine 95 rfl) rfl ?_
                obtain ⟨n205, q206, q207⟩ := h
                exact zr_sub [1, 2, 3, 0] rfl (ih157 n205 q206 _ _ _ q207 z201 (by decide) hR203)
              · have h := h.2 g204
                refine zr_aload_n C 0 rfl (zdec_at dm_X12_readLine 82 rfl) rfl ?_
                refine zr_geti C fk_RX12_143 fi_103_23 (zdec_at dm_X12_readLine 83 rfl) ?_
                refine zr_aload_n C 0 rfl (zdec_at dm_X12_readLine 84 rfl) rfl ?_
                refine zr_geti C fk_RX12_146 fi_103_22 (zdec_at dm_X12_readLine 85 rfl) ?_
                refine zr_icmp_ge C (hR203 _ _) (hR203 _ _) (zdec_at dm_X12_readLine 86 rfl) rfl (fun g208 => ?_) (fun g208 => ?_)
                · have h := h.1 g208
                  refine zr_iconst C (zdec_at dm_X12_readLine 93 rfl) ?_
                  refine zr_istore_n (L1 := [(3, zI 0), (0, zRf (zad Γ) 103), (1, zI 16), (2, zI v200)]) C (zdec_at dm_X12_readLine 94 rfl) rfl (Nat.le_of_ble_eq_true rfl) rfl ?_
                  refine zr_goto C (zdec_at dm_X12_readLine 95 rfl) rfl ?_
                  obtain ⟨n209, q210, q211⟩ := h
                  exact zr_sub [1, 2, 3, 0] rfl (ih157 n209 q210 _ _ _ q211 z201 (by decide) hR203)
                · have h := h.2 g208
                  refine zr_aload_n C 0 rfl (zdec_at dm_X12_readLine 87 rfl) rfl ?_
                  obtain ⟨g217, h⟩ := h
                  refine zr_callV C [] hS_X12_here ck_RX12_177 iv_X12_here vc_X12 oc_103 rfl rfl (zdec_at dm_X12_readLine 88 rfl) ⟨rfl, rfl, rfl, rfl⟩ ⟨by decide, by decide⟩ (Nat.le_of_ble_eq_true rfl) zall_n ?_
                  refine ⟨rfl, g217, fun r212 M213 p216 z215 hR214 => ?_⟩
                  have h := h r212 M213 p216 z215 hR214
                  show zV Γ mu_X12_readLine (145, 0, 0) 172 [(0, zRf (zad Γ) 103), (1, zI 16), (2, zI v200)] [zI r212] M213
                  refine zr_bipush C (zdec_at dm_X12_readLine 89 rfl) (by decide) ?_
                  refine zr_icmp_eq C z215 (by decide) (zdec_at dm_X12_readLine 90 rfl) rfl (fun g218 => ?_) (fun g218 => ?_)
                  · have h := h.1 g218
                    refine zr_iconst C (zdec_at dm_X12_readLine 93 rfl) ?_
                    refine zr_istore_n (L1 := [(3, zI 0), (0, zRf (zad Γ) 103), (1, zI 16), (2, zI v200)]) C (zdec_at dm_X12_readLine 94 rfl) rfl (Nat.le_of_ble_eq_true rfl) rfl ?_
                    refine zr_goto C (zdec_at dm_X12_readLine 95 rfl) rfl ?_
                    obtain ⟨n219, q220, q221⟩ := h
                    exact zr_sub [1, 2, 3, 0] rfl (ih157 n219 q220 _ _ _ q221 z201 (by decide) hR214)
                  · have h := h.2 g218
                    refine zr_iconst C (zdec_at dm_X12_readLine 91 rfl) ?_
                    refine zr_goto C (zdec_at dm_X12_readLine 92 rfl) rfl ?_
                    refine zr_istore_n (L1 := [(3, zI 1), (0, zRf (zad Γ) 103), (1, zI 16), (2, zI v200)]) C (zdec_at dm_X12_readLine 94 rfl) rfl (Nat.le_of_ble_eq_true rfl) rfl ?_
                    refine zr_goto C (zdec_at dm_X12_readLine 95 rfl) rfl ?_
                    obtain ⟨n222, q223, q224⟩ := h
                    exact zr_sub [1, 2, 3, 0] rfl (ih157 n222 q223 _ _ _ q224 z201 (by decide) hR214))
            refine zr_if_ne C (hR199 _ _) (zdec_at dm_X12_readLine 33 rfl) rfl (fun g225 => ?_) (fun g225 => ?_)
            · have h := h.1 g225
              exact zr_sub [0, 1, 2] rfl (h z152 hR199)
            · have h := h.2 g225
              refine zr_aload_n C 0 rfl (zdec_at dm_X12_readLine 34 rfl) rfl ?_
              refine zr_dup C rfl (zdec_at dm_X12_readLine 35 rfl) ?_
              refine zr_geti C fk_RX12_143 fi_103_23 (zdec_at dm_X12_readLine 36 rfl) ?_
              refine zr_iconst C (zdec_at dm_X12_readLine 37 rfl) ?_
              refine zr_iadd C (zdec_at dm_X12_readLine 38 rfl) ?_
              obtain ⟨o226, h⟩ := h
              refine zr_puti C fk_RX12_143 fi_103_23 o226 (zdec_at dm_X12_readLine 39 rfl) (fun M227 e228 => ?_)
              have h := h M227 e228
              have hR229 : zRng M227 := by rw [e228]; exact hR199.set o226 _ _
              refine zr_iconst C (zdec_at dm_X12_readLine 40 rfl) ?_
              refine zr_istore (L1 := [(5, zI 1), (0, zRf (zad Γ) 103), (1, zI 16), (2, zI v150), (4, zI r188)]) C (zdec_at dm_X12_readLine 41 rfl) (Nat.le_of_ble_eq_true rfl) rfl ?_
              refine zr_aload_n C 1 rfl (zdec_at dm_X12_readLine 42 rfl) rfl ?_
              obtain ⟨g235, h⟩ := h
              refine zr_callV C [] hS_X12_here ck_RX12_177 iv_X12_here vc_X12 oc_103 rfl rfl (zdec_at dm_X12_readLine 43 rfl) ⟨rfl, rfl, rfl, rfl⟩ ⟨by decide, by decide⟩ (Nat.le_of_ble_eq_true rfl) zall_n ?_
              refine ⟨rfl, g235, fun r230 M231 p234 z233 hR232 => ?_⟩
              have h := h r230 M231 p234 z233 hR232
              show zV Γ mu_X12_readLine (145, 0, 0) 84 [(5, zI 1), (0, zRf (zad Γ) 103), (1, zI 16), (2, zI v150), (4, zI r188)] [zI r230] M231
              refine zr_bipush C (zdec_at dm_X12_readLine 44 rfl) (by decide) ?_
              refine zr_icmp_ne C z233 (by decide) (zdec_at dm_X12_readLine 45 rfl) rfl (fun g236 => ?_) (fun g236 => ?_)
              · have h := h.1 g236
                refine zr_iconst C (zdec_at dm_X12_readLine 58 rfl) ?_
                refine zr_istore (L1 := [(6, zI 0), (5, zI 1), (0, zRf (zad Γ) 103), (1, zI 16), (2, zI v150), (4, zI r188)]) C (zdec_at dm_X12_readLine 59 rfl) (Nat.le_of_ble_eq_true rfl) rfl ?_
                obtain ⟨I111, ⟨n247, q248⟩, hI246⟩ := h
                have lp245 : ∀ (n243 : Nat) (v237 : Int) (v238 : Int) (M241 : zM), I111 v237 v238 M241 n243 → zin v237 → zin v238 → zRng M241 → zV Γ mu_X12_readLine (145, 0, 0) 111 [(0, zRf (zad Γ) 103), (1, zI 16), (2, zI v237), (4, zI r188), (5, zI 1), (6, zI v238)] [] M241 := by
                  intro n243
                  induction n243 using Nat.strongRecOn with
                  | _ n243 ih244 =>
                  intro v237 v238 M241 q249 z239 z240 hR242
                  have h := hI246 v237 v238 M241 n243 q249 z239 z240 hR242
                  refine zr_iload C 5 rfl (zdec_at dm_X12_readLine 60 rfl) ?_
                  refine zr_iload C 4 rfl (zdec_at dm_X12_readLine 61 rfl) ?_
                  refine zr_icmp_ge C z240 (by decide) (zdec_at dm_X12_readLine 62 rfl) rfl (fun g250 => ?_) (fun g250 => ?_)
                  · have h := h.1 g250
                    exact zr_sub [0, 1, 2] rfl (h z239 hR242)
                  · have h := h.2 g250
                    refine zr_aload_n C 0 rfl (zdec_at dm_X12_readLine 63 rfl) rfl ?_
                    refine zr_geti C fk_RX12_164 fi_103_24 (zdec_at dm_X12_readLine 64 rfl) ?_
                    refine zr_if_ne C (hR242 _ _) (zdec_at dm_X12_readLine 65 rfl) rfl (fun g251 => ?_) (fun g251 => ?_)
                    · have h := h.1 g251
                      exact zr_sub [0, 1, 2] rfl (h z239 hR242)
                    · have h := h.2 g251
                      refine zr_aload_n C 0 rfl (zdec_at dm_X12_readLine 66 rfl) rfl ?_
                      refine zr_getr (q := 113) C fk_RX12_45 fi_103_25 (zdec_at dm_X12_readLine 67 rfl) ?_
                      refine zr_bipush C (zdec_at dm_X12_readLine 68 rfl) (by decide) ?_
                      refine zr_aload_n C 0 rfl (zdec_at dm_X12_readLine 69 rfl) rfl ?_
                      refine zr_geti C fk_RX12_171 fi_103_27 (zdec_at dm_X12_readLine 70 rfl) ?_
                      refine zr_imul C (zdec_at dm_X12_readLine 71 rfl) ?_
                      refine zr_iload_n C 2 rfl (zdec_at dm_X12_readLine 72 rfl) rfl ?_
                      refine zr_iadd C (zdec_at dm_X12_readLine 73 rfl) ?_
                      refine zr_iload C 3 rfl (zdec_at dm_X12_readLine 74 rfl) ?_
                      obtain ⟨o252, h⟩ := h
                      refine zr_iast C ai_113 o252 z191 (zdec_at dm_X12_readLine 75 rfl) (fun M253 e254 => ?_)
                      have h := h M253 e254
                      have hR255 : zRng M253 := by rw [e254]; exact hR242.set z191 _ _
                      refine zr_iinc (L1 := [(2, zI (v237 + 1)), (0, zRf (zad Γ) 103), (1, zI 16), (4, zI r188), (5, zI 1), (6, zI v238)]) C 2 rfl (zdec_at dm_X12_readLine 76 rfl) (Nat.le_of_ble_eq_true rfl) rfl ?_
                      refine zr_iinc (L1 := [(6, zI (v238 + 1)), (2, zI (v237 + 1)), (0, zRf (zad Γ) 103), (1, zI 16), (4, zI r188), (5, zI 1)]) C 5 rfl (zdec_at dm_X12_readLine 77 rfl) (Nat.le_of_ble_eq_true rfl) rfl ?_
                      refine zr_goto C (zdec_at dm_X12_readLine 78 rfl) rfl ?_
                      obtain ⟨o256, h⟩ := h
                      obtain ⟨o257, h⟩ := h
                      obtain ⟨n258, q259, q260⟩ := h
                      exact zr_sub [2, 3, 1, 4, 5, 0] rfl (ih244 n258 q259 _ _ _ q260 o256 o257 hR255)
                exact zr_sub [2, 3, 4, 5, 1, 0] rfl (lp245 n247 _ _ _ q248 z152 (by decide) hR232)
              · have h := h.2 g236
                refine zr_aload_n C 1 rfl (zdec_at dm_X12_readLine 46 rfl) rfl ?_
                refine zr_dup C rfl (zdec_at dm_X12_readLine 47 rfl) ?_
                refine zr_geti C fk_RX12_143 fi_103_23 (zdec_at dm_X12_readLine 48 rfl) ?_
                refine zr_iconst C (zdec_at dm_X12_readLine 49 rfl) ?_
                refine zr_iadd C (zdec_at dm_X12_readLine 50 rfl) ?_
                obtain ⟨o261, h⟩ := h
                refine zr_puti C fk_RX12_143 fi_103_23 o261 (zdec_at dm_X12_readLine 51 rfl) (fun M262 e263 => ?_)
                have h := h M262 e263
                have hR264 : zRng M262 := by rw [e263]; exact hR232.set o261 _ _
                refine zr_aload_n C 1 rfl (zdec_at dm_X12_readLine 52 rfl) rfl ?_
                refine zr_iload_n C 2 rfl (zdec_at dm_X12_readLine 53 rfl) rfl ?_
                refine zr_iload_n C 3 rfl (zdec_at dm_X12_readLine 54 rfl) rfl ?_
                refine zr_isub C (zdec_at dm_X12_readLine 55 rfl) ?_
                obtain ⟨o265, h⟩ := h
                obtain ⟨g271, h⟩ := h
                refine zr_callV C [(16 - v150)] hS_X12_readNumber ck_RX12_185 iv_X12_readNumber vc_X12 oc_103 rfl rfl (zdec_at dm_X12_readLine 56 rfl) ⟨rfl, rfl, rfl, rfl⟩ ⟨by decide, by decide⟩ (Nat.le_of_ble_eq_true rfl) (zall_0 o265 zall_n) ?_
                refine ⟨_, rfl, g271, fun r266 M267 p270 z269 hR268 => ?_⟩
                have h := h r266 M267 p270 z269 hR268
                show zV Γ mu_X12_readLine (145, 0, 0) 106 [(5, zI 1), (0, zRf (zad Γ) 103), (1, zI 16), (2, zI v150), (4, zI r188)] [zI r266] M267
                refine zr_istore (L1 := [(5, zI r266), (0, zRf (zad Γ) 103), (1, zI 16), (2, zI v150), (4, zI r188)]) C (zdec_at dm_X12_readLine 57 rfl) (Nat.le_of_ble_eq_true rfl) rfl ?_
                refine zr_iconst C (zdec_at dm_X12_readLine 58 rfl) ?_
                refine zr_istore (L1 := [(6, zI 0), (5, zI r266), (0, zRf (zad Γ) 103), (1, zI 16), (2, zI v150), (4, zI r188)]) C (zdec_at dm_X12_readLine 59 rfl) (Nat.le_of_ble_eq_true rfl) rfl ?_
                obtain ⟨I111, ⟨n282, q283⟩, hI281⟩ := h
                have lp280 : ∀ (n278 : Nat) (v272 : Int) (v273 : Int) (M276 : zM), I111 v272 v273 M276 n278 → zin v272 → zin v273 → zRng M276 → zV Γ mu_X12_readLine (145, 0, 0) 111 [(0, zRf (zad Γ) 103), (1, zI 16), (2, zI v272), (4, zI r188), (5, zI r266), (6, zI v273)] [] M276 := by
                  intro n278
                  induction n278 using Nat.strongRecOn with
                  | _ n278 ih279 =>
                  intro v272 v273 M276 q284 z274 z275 hR277
                  have h := hI281 v272 v273 M276 n278 q284 z274 z275 hR277
                  refine zr_iload C 5 rfl (zdec_at dm_X12_readLine 60 rfl) ?_
                  refine zr_iload C 4 rfl (zdec_at dm_X12_readLine 61 rfl) ?_
                  refine zr_icmp_ge C z275 z269 (zdec_at dm_X12_readLine 62 rfl) rfl (fun g285 => ?_) (fun g285 => ?_)
                  · have h := h.1 g285
                    exact zr_sub [0, 1, 2] rfl (h z274 hR277)
                  · have h := h.2 g285
                    refine zr_aload_n C 0 rfl (zdec_at dm_X12_readLine 63 rfl) rfl ?_
                    refine zr_geti C fk_RX12_164 fi_103_24 (zdec_at dm_X12_readLine 64 rfl) ?_
                    refine zr_if_ne C (hR277 _ _) (zdec_at dm_X12_readLine 65 rfl) rfl (fun g286 => ?_) (fun g286 => ?_)
                    · have h := h.1 g286
                      exact zr_sub [0, 1, 2] rfl (h z274 hR277)
                    · have h := h.2 g286
                      refine zr_aload_n C 0 rfl (zdec_at dm_X12_readLine 66 rfl) rfl ?_
                      refine zr_getr (q := 113) C fk_RX12_45 fi_103_25 (zdec_at dm_X12_readLine 67 rfl) ?_
                      refine zr_bipush C (zdec_at dm_X12_readLine 68 rfl) (by decide) ?_
                      refine zr_aload_n C 0 rfl (zdec_at dm_X12_readLine 69 rfl) rfl ?_
                      refine zr_geti C fk_RX12_171 fi_103_27 (zdec_at dm_X12_readLine 70 rfl) ?_
                      refine zr_imul C (zdec_at dm_X12_readLine 71 rfl) ?_
                      refine zr_iload_n C 2 rfl (zdec_at dm_X12_readLine 72 rfl) rfl ?_
                      refine zr_iadd C (zdec_at dm_X12_readLine 73 rfl) ?_
                      refine zr_iload C 3 rfl (zdec_at dm_X12_readLine 74 rfl) ?_
                      obtain ⟨o287, h⟩ := h
                      refine zr_iast C ai_113 o287 z191 (zdec_at dm_X12_readLine 75 rfl) (fun M288 e289 => ?_)
                      have h := h M288 e289
                      have hR290 : zRng M288 := by rw [e289]; exact hR277.set z191 _ _
                      refine zr_iinc (L1 := [(2, zI (v272 + 1)), (0, zRf (zad Γ) 103), (1, zI 16), (4, zI r188), (5, zI r266), (6, zI v273)]) C 2 rfl (zdec_at dm_X12_readLine 76 rfl) (Nat.le_of_ble_eq_true rfl) rfl ?_
                      refine zr_iinc (L1 := [(6, zI (v273 + 1)), (2, zI (v272 + 1)), (0, zRf (zad Γ) 103), (1, zI 16), (4, zI r188), (5, zI r266)]) C 5 rfl (zdec_at dm_X12_readLine 77 rfl) (Nat.le_of_ble_eq_true rfl) rfl ?_
                      refine zr_goto C (zdec_at dm_X12_readLine 78 rfl) rfl ?_
                      obtain ⟨o291, h⟩ := h
                      obtain ⟨o292, h⟩ := h
                      obtain ⟨n293, q294, q295⟩ := h
                      exact zr_sub [2, 3, 1, 4, 5, 0] rfl (ih279 n293 q294 _ _ _ q295 o291 o292 hR290)
                exact zr_sub [2, 3, 4, 5, 1, 0] rfl (lp280 n282 _ _ _ q283 z152 (by decide) hR268))
          have h := h (zV Γ mu_X12_readLine (145, 0, 0) 52 [(0, zRf (zad Γ) 103), (1, zI 16), (2, zI v150), (4, zI r188)] [zRf (zad Γ) 103] M189) (fun h => by
            refine zr_iconst C (zdec_at dm_X12_readLine 27 rfl) ?_
            refine zr_goto C (zdec_at dm_X12_readLine 28 rfl) rfl ?_
            exact zr_sub [0, 1, 2, 3] rfl (h (by decide)))
          refine zr_if_lt C z191 (zdec_at dm_X12_readLine 23 rfl) rfl (fun g296 => ?_) (fun g296 => ?_)
          · have h := h.1 g296
            exact zr_sub [1, 2, 3, 0] rfl (h)
          · have h := h.2 g296
            refine zr_iload_n C 3 rfl (zdec_at dm_X12_readLine 24 rfl) rfl ?_
            refine zr_iload_n C 2 rfl (zdec_at dm_X12_readLine 25 rfl) rfl ?_
            refine zr_icmp_ne C z152 (by decide) (zdec_at dm_X12_readLine 26 rfl) rfl (fun g297 => ?_) (fun g297 => ?_)
            · have h := h.1 g297
              refine zr_iconst C (zdec_at dm_X12_readLine 29 rfl) ?_
              exact zr_sub [1, 2, 3, 0] rfl (h (by decide))
            · have h := h.2 g297
              exact zr_sub [1, 2, 3, 0] rfl (h)
    exact zr_sub [3, 2, 1, 0] rfl (lp158 n160 _ _ _ q161 (by decide) (by decide) hR)

set_option maxHeartbeats 400000 in
set_option maxRecDepth 100000 in
theorem sn_X12_readNumber {pr_X12_here : zM → Prop} {po_X12_here : zM → Int → zM → Prop} {pr_X12_in : Int → Int → Int → zM → Prop} {po_X12_in : Int → Int → Int → zM → Int → zM → Prop} {pr_X12_isDigit : Int → zM → Prop} {po_X12_isDigit : Int → zM → Int → zM → Prop} (hS_X12_here : zSnd zS 145 0 0 yX12_here cX12_here 1 (some .int) 0 [2] (F_X12_here pr_X12_here po_X12_here)) (hS_X12_in : zSnd zS 145 0 0 yX12_in cX12_in 6 (some .boolean) 0 [1, 1, 1] (F_X12_in pr_X12_in po_X12_in)) (hS_X12_isDigit : zSnd zS 145 0 0 yX12_isDigit cX12_isDigit 1 (some .boolean) 1 [0] (F_X12_isDigit pr_X12_isDigit po_X12_isDigit)) : zSnd zS 145 0 0 yX12_readNumber cX12_readNumber 5 (some .int) 2 [2, 0] (fun xs P M => ∃ a1 : Int, xs = [103, a1] ∧ vc_X12_readNumber pr_X12_here po_X12_here pr_X12_in po_X12_in pr_X12_isDigit po_X12_isDigit a1 P M) := by
  refine zSnd.of rfl (fun ad xs hz => Nat.le_trans (Nat.le_of_eq (zlen ad _ xs hz)) (by decide)) ?_
  intro Γ C _ _ xs M hz hF
  obtain ⟨a1, rfl, h⟩ := hF
  have zz_a1 := zall_h (zall_t hz) (by decide)
  refine zr_rng (fun hR => ?_)
  have C : zC Γ mu_X12_readNumber := C
  change zV Γ mu_X12_readNumber (145, 0, 0) 0 [(0, zRf (zad Γ) 103), (1, zI a1)] [] M
  change vc_X12_readNumber pr_X12_here po_X12_here pr_X12_in po_X12_in pr_X12_isDigit po_X12_isDigit a1 _ M at h
  unfold vc_X12_readNumber at h
  refine zr_aload_n C 0 rfl (zdec_at dm_X12_readNumber 0 rfl) rfl ?_
  refine zr_geti C fk_RX12_143 fi_103_23 (zdec_at dm_X12_readNumber 1 rfl) ?_
  refine zr_istore_n (L1 := [(2, zI (M 103 23)), (0, zRf (zad Γ) 103), (1, zI a1)]) C (zdec_at dm_X12_readNumber 2 rfl) rfl (Nat.le_of_ble_eq_true rfl) rfl ?_
  refine zr_aload_n C 1 rfl (zdec_at dm_X12_readNumber 3 rfl) rfl ?_
  obtain ⟨g6, h⟩ := h
  refine zr_callV C [] hS_X12_here ck_RX12_177 iv_X12_here vc_X12 oc_103 rfl rfl (zdec_at dm_X12_readNumber 4 rfl) ⟨rfl, rfl, rfl, rfl⟩ ⟨by decide, by decide⟩ (Nat.le_of_ble_eq_true rfl) zall_n ?_
  refine ⟨rfl, g6, fun r1 M2 p5 z4 hR3 => ?_⟩
  have h := h r1 M2 p5 z4 hR3
  show zV Γ mu_X12_readNumber (145, 0, 0) 9 [(2, zI (M 103 23)), (0, zRf (zad Γ) 103), (1, zI a1)] [zI r1] M2
  refine zr_istore_n (L1 := [(3, zI r1), (2, zI (M 103 23)), (0, zRf (zad Γ) 103), (1, zI a1)]) C (zdec_at dm_X12_readNumber 5 rfl) rfl (Nat.le_of_ble_eq_true rfl) rfl ?_
  refine zr_iload_n C 0 rfl (zdec_at dm_X12_readNumber 6 rfl) rfl ?_
  refine zr_i2l C z4 (zdec_at dm_X12_readNumber 7 rfl) ?_
  refine zr_ldc2 C (zdec_at dm_X12_readNumber 8 rfl) kc_RX12_188 ?_
  refine zr_ldc2 C (zdec_at dm_X12_readNumber 9 rfl) kc_RX12_154 ?_
  obtain ⟨g12, h⟩ := h
  refine zr_callS C [r1, 49, 57] hS_X12_in ck_RX12_156 sv_X12_in rfl rfl (zdec_at dm_X12_readNumber 10 rfl) ⟨rfl, rfl, rfl, rfl⟩ ⟨by decide, by decide⟩ (Nat.le_of_ble_eq_true rfl) (zall_1 z4 (zall_1 (by decide) (zall_1 (by decide) zall_n))) ?_
  refine ⟨_, _, _, rfl, g12, fun r7 M8 p11 z10 hR9 => ?_⟩
  have h := h r7 M8 p11 z10 hR9
  show zV Γ mu_X12_readNumber (145, 0, 0) 21 [(3, zI r1), (2, zI (M 103 23)), (0, zRf (zad Γ) 103), (1, zI a1)] [zI r7] M8
  refine zr_if_ne C z10 (zdec_at dm_X12_readNumber 11 rfl) rfl (fun g13 => ?_) (fun g13 => ?_)
  · have h := h.1 g13
    refine zr_iload_n C 0 rfl (zdec_at dm_X12_readNumber 17 rfl) rfl ?_
    refine zr_bipush C (zdec_at dm_X12_readNumber 18 rfl) (by decide) ?_
    refine zr_isub C (zdec_at dm_X12_readNumber 19 rfl) ?_
    refine zr_istore (L1 := [(4, zI (r1 - 48)), (3, zI r1), (2, zI (M 103 23)), (0, zRf (zad Γ) 103), (1, zI a1)]) C (zdec_at dm_X12_readNumber 20 rfl) (Nat.le_of_ble_eq_true rfl) rfl ?_
    refine zr_aload_n C 3 rfl (zdec_at dm_X12_readNumber 21 rfl) rfl ?_
    refine zr_dup C rfl (zdec_at dm_X12_readNumber 22 rfl) ?_
    refine zr_geti C fk_RX12_143 fi_103_23 (zdec_at dm_X12_readNumber 23 rfl) ?_
    refine zr_iconst C (zdec_at dm_X12_readNumber 24 rfl) ?_
    refine zr_iadd C (zdec_at dm_X12_readNumber 25 rfl) ?_
    obtain ⟨o14, h⟩ := h
    refine zr_puti C fk_RX12_143 fi_103_23 o14 (zdec_at dm_X12_readNumber 26 rfl) (fun M15 e16 => ?_)
    have h := h M15 e16
    have hR17 : zRng M15 := by rw [e16]; exact hR9.set o14 _ _
    refine zr_aload_n C 3 rfl (zdec_at dm_X12_readNumber 27 rfl) rfl ?_
    obtain ⟨g23, h⟩ := h
    refine zr_callV C [] hS_X12_here ck_RX12_177 iv_X12_here vc_X12 oc_103 rfl rfl (zdec_at dm_X12_readNumber 28 rfl) ⟨rfl, rfl, rfl, rfl⟩ ⟨by decide, by decide⟩ (Nat.le_of_ble_eq_true rfl) zall_n ?_
    refine ⟨rfl, g23, fun r18 M19 p22 z21 hR20 => ?_⟩
    have h := h r18 M19 p22 z21 hR20
    show zV Γ mu_X12_readNumber (145, 0, 0) 51 [(4, zI (r1 - 48)), (3, zI r1), (2, zI (M 103 23)), (0, zRf (zad Γ) 103), (1, zI a1)] [zI r18] M19
    obtain ⟨g29, h⟩ := h
    refine zr_callS C [r18] hS_X12_isDigit ck_RX12_190 sv_X12_isDigit rfl rfl (zdec_at dm_X12_readNumber 29 rfl) ⟨rfl, rfl, rfl, rfl⟩ ⟨by decide, by decide⟩ (Nat.le_of_ble_eq_true rfl) (zall_0 z21 zall_n) ?_
    refine ⟨_, rfl, g29, fun r24 M25 p28 z27 hR26 => ?_⟩
    have h := h r24 M25 p28 z27 hR26
    show zV Γ mu_X12_readNumber (145, 0, 0) 54 [(4, zI (r1 - 48)), (3, zI r1), (2, zI (M 103 23)), (0, zRf (zad Γ) 103), (1, zI a1)] [zI r24] M25
    have h := h (fun v30 M32 => zin v30 → zRng M32 → zV Γ mu_X12_readNumber (145, 0, 0) 82 [(0, zRf (zad Γ) 103), (1, zI a1), (2, zI (M 103 23)), (4, zI v30)] [] M32) (fun v30 M32 h z31 hR33 => by
      have h := h z31 hR33
      refine zr_iload C 3 rfl (zdec_at dm_X12_readNumber 46 rfl) ?_
      refine zr_bipush C (zdec_at dm_X12_readNumber 47 rfl) (by decide) ?_
      refine zr_icmp_gt C z31 (by decide) (zdec_at dm_X12_readNumber 48 rfl) rfl (fun g34 => ?_) (fun g34 => ?_)
      · have h := h.1 g34
        refine zr_aload_n C 0 rfl (zdec_at dm_X12_readNumber 52 rfl) rfl ?_
        refine zr_iconst C (zdec_at dm_X12_readNumber 53 rfl) ?_
        refine zr_putz C fk_RX12_164 fi_103_24 (by decide) (by decide) (zdec_at dm_X12_readNumber 54 rfl) (fun M35 e36 => ?_)
        have h := h M35 e36
        have hR37 : zRng M35 := by rw [e36]; exact hR33.set (by decide) _ _
        refine zr_aload_n C 0 rfl (zdec_at dm_X12_readNumber 55 rfl) rfl ?_
        refine zr_iload_n C 2 rfl (zdec_at dm_X12_readNumber 56 rfl) rfl ?_
        refine zr_puti C fk_RX12_143 fi_103_23 (hR _ _) (zdec_at dm_X12_readNumber 57 rfl) (fun M38 e39 => ?_)
        have h := h M38 e39
        have hR40 : zRng M38 := by rw [e39]; exact hR37.set (hR _ _) _ _
        refine zr_iload C 3 rfl (zdec_at dm_X12_readNumber 58 rfl) ?_
        exact zr_ireturn C rfl (zdec_at dm_X12_readNumber 59 rfl) rfl ⟨z31, h⟩
      · have h := h.2 g34
        refine zr_iload C 3 rfl (zdec_at dm_X12_readNumber 49 rfl) ?_
        refine zr_iload_n C 1 rfl (zdec_at dm_X12_readNumber 50 rfl) rfl ?_
        refine zr_icmp_le C z31 zz_a1 (zdec_at dm_X12_readNumber 51 rfl) rfl (fun g41 => ?_) (fun g41 => ?_)
        · have h := h.1 g41
          refine zr_iload C 3 rfl (zdec_at dm_X12_readNumber 58 rfl) ?_
          exact zr_ireturn C rfl (zdec_at dm_X12_readNumber 59 rfl) rfl ⟨z31, h⟩
        · have h := h.2 g41
          refine zr_aload_n C 0 rfl (zdec_at dm_X12_readNumber 52 rfl) rfl ?_
          refine zr_iconst C (zdec_at dm_X12_readNumber 53 rfl) ?_
          refine zr_putz C fk_RX12_164 fi_103_24 (by decide) (by decide) (zdec_at dm_X12_readNumber 54 rfl) (fun M42 e43 => ?_)
          have h := h M42 e43
          have hR44 : zRng M42 := by rw [e43]; exact hR33.set (by decide) _ _
          refine zr_aload_n C 0 rfl (zdec_at dm_X12_readNumber 55 rfl) rfl ?_
          refine zr_iload_n C 2 rfl (zdec_at dm_X12_readNumber 56 rfl) rfl ?_
          refine zr_puti C fk_RX12_143 fi_103_23 (hR _ _) (zdec_at dm_X12_readNumber 57 rfl) (fun M45 e46 => ?_)
          have h := h M45 e46
          have hR47 : zRng M45 := by rw [e46]; exact hR44.set (hR _ _) _ _
          refine zr_iload C 3 rfl (zdec_at dm_X12_readNumber 58 rfl) ?_
          exact zr_ireturn C rfl (zdec_at dm_X12_readNumber 59 rfl) rfl ⟨z31, h⟩)
    refine zr_if_eq C z27 (zdec_at dm_X12_readNumber 30 rfl) rfl (fun g48 => ?_) (fun g48 => ?_)
    · have h := h.1 g48
      obtain ⟨o49, h⟩ := h
      exact zr_sub [3, 4, 2, 0] rfl (h o49 hR26)
    · have h := h.2 g48
      refine zr_bipush C (zdec_at dm_X12_readNumber 31 rfl) (by decide) ?_
      refine zr_iload C 0 rfl (zdec_at dm_X12_readNumber 32 rfl) ?_
      refine zr_imul C (zdec_at dm_X12_readNumber 33 rfl) ?_
      refine zr_aload_n C 3 rfl (zdec_at dm_X12_readNumber 34 rfl) rfl ?_
      obtain ⟨g55, h⟩ := h
      refine zr_callV C [] hS_X12_here ck_RX12_177 iv_X12_here vc_X12 oc_103 rfl rfl (zdec_at dm_X12_readNumber 35 rfl) ⟨rfl, rfl, rfl, rfl⟩ ⟨by decide, by decide⟩ (Nat.le_of_ble_eq_true rfl) zall_n ?_
      refine ⟨rfl, g55, fun r50 M51 p54 z53 hR52 => ?_⟩
      have h := h r50 M51 p54 z53 hR52
      show zV Γ mu_X12_readNumber (145, 0, 0) 66 [(4, zI (r1 - 48)), (3, zI r1), (2, zI (M 103 23)), (0, zRf (zad Γ) 103), (1, zI a1)] [zI r50, zI (10 * (r1 - 48))] M51
      refine zr_iadd C (zdec_at dm_X12_readNumber 36 rfl) ?_
      refine zr_bipush C (zdec_at dm_X12_readNumber 37 rfl) (by decide) ?_
      refine zr_isub C (zdec_at dm_X12_readNumber 38 rfl) ?_
      refine zr_istore (L1 := [(4, zI (((10 * (r1 - 48)) + r50) - 48)), (3, zI r1), (2, zI (M 103 23)), (0, zRf (zad Γ) 103), (1, zI a1)]) C (zdec_at dm_X12_readNumber 39 rfl) (Nat.le_of_ble_eq_true rfl) rfl ?_
      refine zr_aload_n C 3 rfl (zdec_at dm_X12_readNumber 40 rfl) rfl ?_
      refine zr_dup C rfl (zdec_at dm_X12_readNumber 41 rfl) ?_
      refine zr_geti C fk_RX12_143 fi_103_23 (zdec_at dm_X12_readNumber 42 rfl) ?_
      refine zr_iconst C (zdec_at dm_X12_readNumber 43 rfl) ?_
      refine zr_iadd C (zdec_at dm_X12_readNumber 44 rfl) ?_
      obtain ⟨o56, h⟩ := h
      refine zr_puti C fk_RX12_143 fi_103_23 o56 (zdec_at dm_X12_readNumber 45 rfl) (fun M57 e58 => ?_)
      have h := h M57 e58
      have hR59 : zRng M57 := by rw [e58]; exact hR52.set o56 _ _
      obtain ⟨o60, h⟩ := h
      exact zr_sub [3, 4, 2, 0] rfl (h o60 hR59)
  · have h := h.2 g13
    refine zr_aload_n C 2 rfl (zdec_at dm_X12_readNumber 12 rfl) rfl ?_
    refine zr_iconst C (zdec_at dm_X12_readNumber 13 rfl) ?_
    refine zr_putz C fk_RX12_164 fi_103_24 (by decide) (by decide) (zdec_at dm_X12_readNumber 14 rfl) (fun M61 e62 => ?_)
    have h := h M61 e62
    have hR63 : zRng M61 := by rw [e62]; exact hR9.set (by decide) _ _
    refine zr_iconst C (zdec_at dm_X12_readNumber 15 rfl) ?_
    exact zr_ireturn C rfl (zdec_at dm_X12_readNumber 16 rfl) rfl ⟨(by decide), h⟩

set_option maxHeartbeats 400000 in
set_option maxRecDepth 100000 in
theorem sn_X12_lacks {pr_X12_in : Int → Int → Int → zM → Prop} {po_X12_in : Int → Int → Int → zM → Int → zM → Prop} (hS_X12_in : zSnd zS 145 0 0 yX12_in cX12_in 6 (some .boolean) 0 [1, 1, 1] (F_X12_in pr_X12_in po_X12_in)) : zSnd zS 145 0 0 yX12_lacks cX12_lacks 2 (some .int) 1 [2, 0] (fun xs P M => ∃ a1 : Int, xs = [103, a1] ∧ vc_X12_lacks pr_X12_in po_X12_in a1 P M) := by
  refine zSnd.of rfl (fun ad xs hz => Nat.le_trans (Nat.le_of_eq (zlen ad _ xs hz)) (by decide)) ?_
  intro Γ C _ _ xs M hz hF
  obtain ⟨a1, rfl, h⟩ := hF
  have zz_a1 := zall_h (zall_t hz) (by decide)
  refine zr_rng (fun hR => ?_)
  have C : zC Γ mu_X12_lacks := C
  change zV Γ mu_X12_lacks (145, 0, 0) 0 [(0, zRf (zad Γ) 103), (1, zI a1)] [] M
  change vc_X12_lacks pr_X12_in po_X12_in a1 _ M at h
  unfold vc_X12_lacks at h
  refine zr_iload_n C 1 rfl (zdec_at dm_X12_lacks 0 rfl) rfl ?_
  refine zr_i2l C zz_a1 (zdec_at dm_X12_lacks 1 rfl) ?_
  refine zr_lconst (v := 0) C (zdec_at dm_X12_lacks 2 rfl) rfl ?_
  refine zr_ldc2 C (zdec_at dm_X12_lacks 3 rfl) kc_RX12_194 ?_
  obtain ⟨g6, h⟩ := h
  refine zr_callS C [a1, 0, 7] hS_X12_in ck_RX12_156 sv_X12_in rfl rfl (zdec_at dm_X12_lacks 4 rfl) ⟨rfl, rfl, rfl, rfl⟩ ⟨by decide, by decide⟩ (Nat.le_of_ble_eq_true rfl) (zall_1 zz_a1 (zall_1 (by decide) (zall_1 (by decide) zall_n))) ?_
  refine ⟨_, _, _, rfl, g6, fun r1 M2 p5 z4 hR3 => ?_⟩
  have h := h r1 M2 p5 z4 hR3
  show zV Γ mu_X12_lacks (145, 0, 0) 9 [(0, zRf (zad Γ) 103), (1, zI a1)] [zI r1] M2
  refine zr_if_ne C z4 (zdec_at dm_X12_lacks 5 rfl) rfl (fun g7 => ?_) (fun g7 => ?_)
  · have h := h.1 g7
    refine zr_aload_n C 0 rfl (zdec_at dm_X12_lacks 8 rfl) rfl ?_
    refine zr_getr (q := 134) C fk_RX12_109 fi_103_65 (zdec_at dm_X12_lacks 9 rfl) ?_
    refine zr_iload_n C 1 rfl (zdec_at dm_X12_lacks 10 rfl) rfl ?_
    obtain ⟨o8, h⟩ := h
    refine zr_iald C ai_134 o8 (zdec_at dm_X12_lacks 11 rfl) ?_
    refine zr_if_ne C (hR3 _ _) (zdec_at dm_X12_lacks 12 rfl) rfl (fun g9 => ?_) (fun g9 => ?_)
    · have h := h.1 g9
      refine zr_aload_n C 0 rfl (zdec_at dm_X12_lacks 15 rfl) rfl ?_
      refine zr_getr (q := 134) C fk_RX12_109 fi_103_65 (zdec_at dm_X12_lacks 16 rfl) ?_
      refine zr_iload_n C 1 rfl (zdec_at dm_X12_lacks 17 rfl) rfl ?_
      refine zr_iald C ai_134 o8 (zdec_at dm_X12_lacks 18 rfl) ?_
      refine zr_iconst C (zdec_at dm_X12_lacks 19 rfl) ?_
      refine zr_icmp_ne C (hR3 _ _) (by decide) (zdec_at dm_X12_lacks 20 rfl) rfl (fun g10 => ?_) (fun g10 => ?_)
      · have h := h.1 g10
        refine zr_bipush C (zdec_at dm_X12_lacks 26 rfl) (by decide) ?_
        refine zr_goto C (zdec_at dm_X12_lacks 27 rfl) rfl ?_
        exact zr_ireturn C rfl (zdec_at dm_X12_lacks 29 rfl) rfl ⟨(by decide), h⟩
      · have h := h.2 g10
        refine zr_aload_n C 0 rfl (zdec_at dm_X12_lacks 21 rfl) rfl ?_
        refine zr_getr (q := 140) C fk_RX12_127 fi_103_71 (zdec_at dm_X12_lacks 22 rfl) ?_
        refine zr_iload_n C 1 rfl (zdec_at dm_X12_lacks 23 rfl) rfl ?_
        refine zr_iald C ai_140 o8 (zdec_at dm_X12_lacks 24 rfl) ?_
        refine zr_if_eq C (hR3 _ _) (zdec_at dm_X12_lacks 25 rfl) rfl (fun g11 => ?_) (fun g11 => ?_)
        · have h := h.1 g11
          refine zr_iconst C (zdec_at dm_X12_lacks 28 rfl) ?_
          exact zr_ireturn C rfl (zdec_at dm_X12_lacks 29 rfl) rfl ⟨(by decide), h⟩
        · have h := h.2 g11
          refine zr_bipush C (zdec_at dm_X12_lacks 26 rfl) (by decide) ?_
          refine zr_goto C (zdec_at dm_X12_lacks 27 rfl) rfl ?_
          exact zr_ireturn C rfl (zdec_at dm_X12_lacks 29 rfl) rfl ⟨(by decide), h⟩
    · have h := h.2 g9
      refine zr_bipush C (zdec_at dm_X12_lacks 13 rfl) (by decide) ?_
      refine zr_goto C (zdec_at dm_X12_lacks 14 rfl) rfl ?_
      exact zr_ireturn C rfl (zdec_at dm_X12_lacks 29 rfl) rfl ⟨(by decide), h⟩
  · have h := h.2 g7
    refine zr_iconst C (zdec_at dm_X12_lacks 6 rfl) ?_
    exact zr_ireturn C rfl (zdec_at dm_X12_lacks 7 rfl) rfl ⟨(by decide), h⟩

set_option maxHeartbeats 400000 in
set_option maxRecDepth 100000 in
theorem sn_X12_fault {pr_X12_lacks : Int → zM → Prop} {po_X12_lacks : Int → zM → Int → zM → Prop} {pr_X12_pictureFault : Int → zM → Prop} {po_X12_pictureFault : Int → zM → Int → zM → Prop} (hS_X12_lacks : zSnd zS 145 0 0 yX12_lacks cX12_lacks 2 (some .int) 1 [2, 0] (F_X12_lacks pr_X12_lacks po_X12_lacks)) (hS_X12_pictureFault : zSnd zS 145 0 0 yX12_pictureFault cX12_pictureFault 3 (some .int) 4 [2, 0] (F_X12_pictureFault pr_X12_pictureFault po_X12_pictureFault)) : zSnd zS 145 0 0 yX12_fault cX12_fault 4 (some .int) 5 [2, 0] (fun xs P M => ∃ a1 : Int, xs = [103, a1] ∧ vc_X12_fault pr_X12_lacks po_X12_lacks pr_X12_pictureFault po_X12_pictureFault a1 P M) := by
  refine zSnd.of rfl (fun ad xs hz => Nat.le_trans (Nat.le_of_eq (zlen ad _ xs hz)) (by decide)) ?_
  intro Γ C _ _ xs M hz hF
  obtain ⟨a1, rfl, h⟩ := hF
  have zz_a1 := zall_h (zall_t hz) (by decide)
  refine zr_rng (fun hR => ?_)
  have C : zC Γ mu_X12_fault := C
  change zV Γ mu_X12_fault (145, 0, 0) 0 [(0, zRf (zad Γ) 103), (1, zI a1)] [] M
  change vc_X12_fault pr_X12_lacks po_X12_lacks pr_X12_pictureFault po_X12_pictureFault a1 _ M at h
  unfold vc_X12_fault at h
  refine zr_aload_n C 0 rfl (zdec_at dm_X12_fault 0 rfl) rfl ?_
  refine zr_iconst C (zdec_at dm_X12_fault 1 rfl) ?_
  refine zr_puti C fk_RX12_140 fi_103_0 (by decide) (zdec_at dm_X12_fault 2 rfl) (fun M1 e2 => ?_)
  have h := h M1 e2
  have hR3 : zRng M1 := by rw [e2]; exact hR.set (by decide) _ _
  refine zr_aload_n C 0 rfl (zdec_at dm_X12_fault 3 rfl) rfl ?_
  refine zr_iload_n C 1 rfl (zdec_at dm_X12_fault 4 rfl) rfl ?_
  obtain ⟨g9, h⟩ := h
  refine zr_callV C [a1] hS_X12_lacks ck_RX12_196 iv_X12_lacks vc_X12 oc_103 rfl rfl (zdec_at dm_X12_fault 5 rfl) ⟨rfl, rfl, rfl, rfl⟩ ⟨by decide, by decide⟩ (Nat.le_of_ble_eq_true rfl) (zall_0 zz_a1 zall_n) ?_
  refine ⟨_, rfl, g9, fun r4 M5 p8 z7 hR6 => ?_⟩
  have h := h r4 M5 p8 z7 hR6
  show zV Γ mu_X12_fault (145, 0, 0) 10 [(0, zRf (zad Γ) 103), (1, zI a1)] [zI r4] M5
  refine zr_istore_n (L1 := [(2, zI r4), (0, zRf (zad Γ) 103), (1, zI a1)]) C (zdec_at dm_X12_fault 6 rfl) rfl (Nat.le_of_ble_eq_true rfl) rfl ?_
  refine zr_iload_n C 0 rfl (zdec_at dm_X12_fault 7 rfl) rfl ?_
  refine zr_if_ge C z7 (zdec_at dm_X12_fault 8 rfl) rfl (fun g10 => ?_) (fun g10 => ?_)
  · have h := h.1 g10
    refine zr_aload_n C 1 rfl (zdec_at dm_X12_fault 11 rfl) rfl ?_
    refine zr_iload_n C 2 rfl (zdec_at dm_X12_fault 12 rfl) rfl ?_
    obtain ⟨g16, h⟩ := h
    refine zr_callV C [a1] hS_X12_pictureFault ck_RX12_199 iv_X12_pictureFault vc_X12 oc_103 rfl rfl (zdec_at dm_X12_fault 13 rfl) ⟨rfl, rfl, rfl, rfl⟩ ⟨by decide, by decide⟩ (Nat.le_of_ble_eq_true rfl) (zall_0 zz_a1 zall_n) ?_
    refine ⟨_, rfl, g16, fun r11 M12 p15 z14 hR13 => ?_⟩
    have h := h r11 M12 p15 z14 hR13
    show zV Γ mu_X12_fault (145, 0, 0) 22 [(2, zI r4), (0, zRf (zad Γ) 103), (1, zI a1)] [zI r11] M12
    refine zr_istore_n (L1 := [(3, zI r11), (2, zI r4), (0, zRf (zad Γ) 103), (1, zI a1)]) C (zdec_at dm_X12_fault 14 rfl) rfl (Nat.le_of_ble_eq_true rfl) rfl ?_
    refine zr_iload_n C 0 rfl (zdec_at dm_X12_fault 15 rfl) rfl ?_
    refine zr_if_ge C z14 (zdec_at dm_X12_fault 16 rfl) rfl (fun g17 => ?_) (fun g17 => ?_)
    · have h := h.1 g17
      refine zr_iload_n C 0 rfl (zdec_at dm_X12_fault 19 rfl) rfl ?_
      exact zr_ireturn C rfl (zdec_at dm_X12_fault 20 rfl) rfl ⟨z14, h⟩
    · have h := h.2 g17
      refine zr_bipush C (zdec_at dm_X12_fault 17 rfl) (by decide) ?_
      refine zr_goto C (zdec_at dm_X12_fault 18 rfl) rfl ?_
      exact zr_ireturn C rfl (zdec_at dm_X12_fault 20 rfl) rfl ⟨(by decide), h⟩
  · have h := h.2 g10
    refine zr_iload_n C 0 rfl (zdec_at dm_X12_fault 9 rfl) rfl ?_
    exact zr_ireturn C rfl (zdec_at dm_X12_fault 10 rfl) rfl ⟨z7, h⟩

set_option maxHeartbeats 400000 in
set_option maxRecDepth 100000 in
theorem sn_X12_picture {pr_X12_lacks : Int → zM → Prop} {po_X12_lacks : Int → zM → Int → zM → Prop} {pr_X12_pictureFault : Int → zM → Prop} {po_X12_pictureFault : Int → zM → Int → zM → Prop} {pr_X12_isDot : Int → zM → Prop} {po_X12_isDot : Int → zM → Int → zM → Prop} (hS_X12_lacks : zSnd zS 145 0 0 yX12_lacks cX12_lacks 2 (some .int) 1 [2, 0] (F_X12_lacks pr_X12_lacks po_X12_lacks)) (hS_X12_pictureFault : zSnd zS 145 0 0 yX12_pictureFault cX12_pictureFault 3 (some .int) 4 [2, 0] (F_X12_pictureFault pr_X12_pictureFault po_X12_pictureFault)) (hS_X12_isDot : zSnd zS 145 0 0 yX12_isDot cX12_isDot 2 (some .boolean) 0 [2, 0] (F_X12_isDot pr_X12_isDot po_X12_isDot)) : zSnd zS 145 0 0 yX12_picture cX12_picture 5 (some .int) 5 [2, 0] (fun xs P M => ∃ a1 : Int, xs = [103, a1] ∧ vc_X12_picture pr_X12_lacks po_X12_lacks pr_X12_pictureFault po_X12_pictureFault pr_X12_isDot po_X12_isDot a1 P M) := by
  refine zSnd.of rfl (fun ad xs hz => Nat.le_trans (Nat.le_of_eq (zlen ad _ xs hz)) (by decide)) ?_
  intro Γ C _ _ xs M hz hF
  obtain ⟨a1, rfl, h⟩ := hF
  have zz_a1 := zall_h (zall_t hz) (by decide)
  refine zr_rng (fun hR => ?_)
  have C : zC Γ mu_X12_picture := C
  change zV Γ mu_X12_picture (145, 0, 0) 0 [(0, zRf (zad Γ) 103), (1, zI a1)] [] M
  change vc_X12_picture pr_X12_lacks po_X12_lacks pr_X12_pictureFault po_X12_pictureFault pr_X12_isDot po_X12_isDot a1 _ M at h
  unfold vc_X12_picture at h
  refine zr_aload_n C 0 rfl (zdec_at dm_X12_picture 0 rfl) rfl ?_
  refine zr_iconst C (zdec_at dm_X12_picture 1 rfl) ?_
  refine zr_puti C fk_RX12_140 fi_103_0 (by decide) (zdec_at dm_X12_picture 2 rfl) (fun M1 e2 => ?_)
  have h := h M1 e2
  have hR3 : zRng M1 := by rw [e2]; exact hR.set (by decide) _ _
  refine zr_aload_n C 0 rfl (zdec_at dm_X12_picture 3 rfl) rfl ?_
  refine zr_iload_n C 1 rfl (zdec_at dm_X12_picture 4 rfl) rfl ?_
  obtain ⟨g9, h⟩ := h
  refine zr_callV C [a1] hS_X12_lacks ck_RX12_196 iv_X12_lacks vc_X12 oc_103 rfl rfl (zdec_at dm_X12_picture 5 rfl) ⟨rfl, rfl, rfl, rfl⟩ ⟨by decide, by decide⟩ (Nat.le_of_ble_eq_true rfl) (zall_0 zz_a1 zall_n) ?_
  refine ⟨_, rfl, g9, fun r4 M5 p8 z7 hR6 => ?_⟩
  have h := h r4 M5 p8 z7 hR6
  show zV Γ mu_X12_picture (145, 0, 0) 10 [(0, zRf (zad Γ) 103), (1, zI a1)] [zI r4] M5
  refine zr_istore_n (L1 := [(2, zI r4), (0, zRf (zad Γ) 103), (1, zI a1)]) C (zdec_at dm_X12_picture 6 rfl) rfl (Nat.le_of_ble_eq_true rfl) rfl ?_
  refine zr_iload_n C 0 rfl (zdec_at dm_X12_picture 7 rfl) rfl ?_
  refine zr_if_ge C z7 (zdec_at dm_X12_picture 8 rfl) rfl (fun g10 => ?_) (fun g10 => ?_)
  · have h := h.1 g10
    refine zr_aload_n C 1 rfl (zdec_at dm_X12_picture 11 rfl) rfl ?_
    refine zr_iload_n C 2 rfl (zdec_at dm_X12_picture 12 rfl) rfl ?_
    obtain ⟨g16, h⟩ := h
    refine zr_callV C [a1] hS_X12_pictureFault ck_RX12_199 iv_X12_pictureFault vc_X12 oc_103 rfl rfl (zdec_at dm_X12_picture 13 rfl) ⟨rfl, rfl, rfl, rfl⟩ ⟨by decide, by decide⟩ (Nat.le_of_ble_eq_true rfl) (zall_0 zz_a1 zall_n) ?_
    refine ⟨_, rfl, g16, fun r11 M12 p15 z14 hR13 => ?_⟩
    have h := h r11 M12 p15 z14 hR13
    show zV Γ mu_X12_picture (145, 0, 0) 22 [(2, zI r4), (0, zRf (zad Γ) 103), (1, zI a1)] [zI r11] M12
    refine zr_istore_n (L1 := [(3, zI r11), (2, zI r4), (0, zRf (zad Γ) 103), (1, zI a1)]) C (zdec_at dm_X12_picture 14 rfl) rfl (Nat.le_of_ble_eq_true rfl) rfl ?_
    refine zr_iload_n C 0 rfl (zdec_at dm_X12_picture 15 rfl) rfl ?_
    refine zr_if_lt C z14 (zdec_at dm_X12_picture 16 rfl) rfl (fun g17 => ?_) (fun g17 => ?_)
    · have h := h.1 g17
      refine zr_aload_n C 2 rfl (zdec_at dm_X12_picture 21 rfl) rfl ?_
      refine zr_aload_n C 2 rfl (zdec_at dm_X12_picture 22 rfl) rfl ?_
      refine zr_geti C fk_RX12_168 fi_103_26 (zdec_at dm_X12_picture 23 rfl) ?_
      refine zr_puti C fk_RX12_7 fi_103_1 (hR13 _ _) (zdec_at dm_X12_picture 24 rfl) (fun M18 e19 => ?_)
      have h := h M18 e19
      have hR20 : zRng M18 := by rw [e19]; exact hR13.set (hR13 _ _) _ _
      refine zr_aload_n C 2 rfl (zdec_at dm_X12_picture 25 rfl) rfl ?_
      refine zr_aload_n C 2 rfl (zdec_at dm_X12_picture 26 rfl) rfl ?_
      refine zr_geti C fk_RX12_171 fi_103_27 (zdec_at dm_X12_picture 27 rfl) ?_
      refine zr_puti C fk_RX12_13 fi_103_2 (hR20 _ _) (zdec_at dm_X12_picture 28 rfl) (fun M21 e22 => ?_)
      have h := h M21 e22
      have hR23 : zRng M21 := by rw [e22]; exact hR20.set (hR20 _ _) _ _
      refine zr_iconst C (zdec_at dm_X12_picture 29 rfl) ?_
      refine zr_istore (L1 := [(4, zI 0), (3, zI r11), (2, zI r4), (0, zRf (zad Γ) 103), (1, zI a1)]) C (zdec_at dm_X12_picture 30 rfl) (Nat.le_of_ble_eq_true rfl) rfl ?_
      obtain ⟨I51, ⟨n32, q33⟩, hI31⟩ := h
      have lp30 : ∀ (n28 : Nat) (v24 : Int) (M26 : zM), I51 v24 M26 n28 → zin v24 → zRng M26 → zV Γ mu_X12_picture (145, 0, 0) 51 [(0, zRf (zad Γ) 103), (4, zI v24)] [] M26 := by
        intro n28
        induction n28 using Nat.strongRecOn with
        | _ n28 ih29 =>
        intro v24 M26 q34 z25 hR27
        have h := hI31 v24 M26 n28 q34 z25 hR27
        refine zr_iload C 1 rfl (zdec_at dm_X12_picture 31 rfl) ?_
        refine zr_sipush C (zdec_at dm_X12_picture 32 rfl) (by decide) ?_
        refine zr_icmp_ge C z25 (by decide) (zdec_at dm_X12_picture 33 rfl) rfl (fun g35 => ?_) (fun g35 => ?_)
        · have h := h.1 g35
          refine zr_aload_n C 0 rfl (zdec_at dm_X12_picture 50 rfl) rfl ?_
          refine zr_iconst C (zdec_at dm_X12_picture 51 rfl) ?_
          refine zr_puti C fk_RX12_205 fi_103_7 (by decide) (zdec_at dm_X12_picture 52 rfl) (fun M36 e37 => ?_)
          have h := h M36 e37
          have hR38 : zRng M36 := by rw [e37]; exact hR27.set (by decide) _ _
          refine zr_aload_n C 0 rfl (zdec_at dm_X12_picture 53 rfl) rfl ?_
          refine zr_iconst C (zdec_at dm_X12_picture 54 rfl) ?_
          refine zr_puti C fk_RX12_208 fi_103_8 (by decide) (zdec_at dm_X12_picture 55 rfl) (fun M39 e40 => ?_)
          have h := h M39 e40
          have hR41 : zRng M39 := by rw [e40]; exact hR38.set (by decide) _ _
          refine zr_aload_n C 0 rfl (zdec_at dm_X12_picture 56 rfl) rfl ?_
          refine zr_geti C fk_RX12_7 fi_103_1 (zdec_at dm_X12_picture 57 rfl) ?_
          refine zr_aload_n C 0 rfl (zdec_at dm_X12_picture 58 rfl) rfl ?_
          refine zr_geti C fk_RX12_13 fi_103_2 (zdec_at dm_X12_picture 59 rfl) ?_
          refine zr_imul C (zdec_at dm_X12_picture 60 rfl) ?_
          obtain ⟨o42, h⟩ := h
          exact zr_ireturn C rfl (zdec_at dm_X12_picture 61 rfl) rfl ⟨o42, h⟩
        · have h := h.2 g35
          refine zr_aload_n C 0 rfl (zdec_at dm_X12_picture 34 rfl) rfl ?_
          refine zr_getr (q := 104) C fk_RX12_16 fi_103_3 (zdec_at dm_X12_picture 35 rfl) ?_
          refine zr_iload C 1 rfl (zdec_at dm_X12_picture 36 rfl) ?_
          refine zr_aload_n C 0 rfl (zdec_at dm_X12_picture 37 rfl) rfl ?_
          refine zr_iload C 1 rfl (zdec_at dm_X12_picture 38 rfl) ?_
          obtain ⟨g48, h⟩ := h
          refine zr_callV C [v24] hS_X12_isDot ck_RX12_202 iv_X12_isDot vc_X12 oc_103 rfl rfl (zdec_at dm_X12_picture 39 rfl) ⟨rfl, rfl, rfl, rfl⟩ ⟨by decide, by decide⟩ (Nat.le_of_ble_eq_true rfl) (zall_0 z25 zall_n) ?_
          refine ⟨_, rfl, g48, fun r43 M44 p47 z46 hR45 => ?_⟩
          have h := h r43 M44 p47 z46 hR45
          show zV Γ mu_X12_picture (145, 0, 0) 71 [(0, zRf (zad Γ) 103), (4, zI v24)] [zI r43, zI v24, zRf (zad Γ) 104] M44
          refine zr_if_eq C z46 (zdec_at dm_X12_picture 40 rfl) rfl (fun g49 => ?_) (fun g49 => ?_)
          · have h := h.1 g49
            refine zr_iconst C (zdec_at dm_X12_picture 46 rfl) ?_
            obtain ⟨o50, h⟩ := h
            refine zr_iast C ai_104 o50 (by decide) (zdec_at dm_X12_picture 47 rfl) (fun M51 e52 => ?_)
            have h := h M51 e52
            have hR53 : zRng M51 := by rw [e52]; exact hR45.set (by decide) _ _
            refine zr_iinc (L1 := [(4, zI (v24 + 1)), (0, zRf (zad Γ) 103)]) C 1 rfl (zdec_at dm_X12_picture 48 rfl) (Nat.le_of_ble_eq_true rfl) rfl ?_
            refine zr_goto C (zdec_at dm_X12_picture 49 rfl) rfl ?_
            obtain ⟨o54, h⟩ := h
            obtain ⟨n55, q56, q57⟩ := h
            exact zr_sub [1, 0] rfl (ih29 n55 q56 _ _ q57 o54 hR53)
          · have h := h.2 g49
            refine zr_aload_n C 0 rfl (zdec_at dm_X12_picture 41 rfl) rfl ?_
            refine zr_getr (q := 113) C fk_RX12_45 fi_103_25 (zdec_at dm_X12_picture 42 rfl) ?_
            refine zr_iload C 1 rfl (zdec_at dm_X12_picture 43 rfl) ?_
            obtain ⟨o58, h⟩ := h
            refine zr_iald C ai_113 o58 (zdec_at dm_X12_picture 44 rfl) ?_
            refine zr_goto C (zdec_at dm_X12_picture 45 rfl) rfl ?_
            refine zr_iast C ai_104 o58 (hR45 _ _) (zdec_at dm_X12_picture 47 rfl) (fun M59 e60 => ?_)
            have h := h M59 e60
            have hR61 : zRng M59 := by rw [e60]; exact hR45.set (hR45 _ _) _ _
            refine zr_iinc (L1 := [(4, zI (v24 + 1)), (0, zRf (zad Γ) 103)]) C 1 rfl (zdec_at dm_X12_picture 48 rfl) (Nat.le_of_ble_eq_true rfl) rfl ?_
            refine zr_goto C (zdec_at dm_X12_picture 49 rfl) rfl ?_
            obtain ⟨o62, h⟩ := h
            obtain ⟨n63, q64, q65⟩ := h
            exact zr_sub [1, 0] rfl (ih29 n63 q64 _ _ q65 o62 hR61)
      exact zr_sub [3, 0] rfl (lp30 n32 _ _ q33 (by decide) hR23)
    · have h := h.2 g17
      refine zr_bipush C (zdec_at dm_X12_picture 17 rfl) (by decide) ?_
      refine zr_iload_n C 0 rfl (zdec_at dm_X12_picture 18 rfl) rfl ?_
      refine zr_isub C (zdec_at dm_X12_picture 19 rfl) ?_
      obtain ⟨o66, h⟩ := h
      exact zr_ireturn C rfl (zdec_at dm_X12_picture 20 rfl) rfl ⟨o66, h⟩
  · have h := h.2 g10
    refine zr_iload_n C 0 rfl (zdec_at dm_X12_picture 9 rfl) rfl ?_
    exact zr_ireturn C rfl (zdec_at dm_X12_picture 10 rfl) rfl ⟨z7, h⟩

set_option maxHeartbeats 400000 in
set_option maxRecDepth 100000 in
theorem sn_X12_dot {pr_X12_isDot : Int → zM → Prop} {po_X12_isDot : Int → zM → Int → zM → Prop} (hS_X12_isDot : zSnd zS 145 0 0 yX12_isDot cX12_isDot 2 (some .boolean) 0 [2, 0] (F_X12_isDot pr_X12_isDot po_X12_isDot)) : zSnd zS 145 0 0 yX12_dot cX12_dot 2 (some .int) 1 [2, 0] (fun xs P M => ∃ a1 : Int, xs = [103, a1] ∧ vc_X12_dot pr_X12_isDot po_X12_isDot a1 P M) := by
  refine zSnd.of rfl (fun ad xs hz => Nat.le_trans (Nat.le_of_eq (zlen ad _ xs hz)) (by decide)) ?_
  intro Γ C _ _ xs M hz hF
  obtain ⟨a1, rfl, h⟩ := hF
  have zz_a1 := zall_h (zall_t hz) (by decide)
  refine zr_rng (fun hR => ?_)
  have C : zC Γ mu_X12_dot := C
  change zV Γ mu_X12_dot (145, 0, 0) 0 [(0, zRf (zad Γ) 103), (1, zI a1)] [] M
  change vc_X12_dot pr_X12_isDot po_X12_isDot a1 _ M at h
  unfold vc_X12_dot at h
  refine zr_aload_n C 0 rfl (zdec_at dm_X12_dot 0 rfl) rfl ?_
  refine zr_iconst C (zdec_at dm_X12_dot 1 rfl) ?_
  refine zr_puti C fk_RX12_140 fi_103_0 (by decide) (zdec_at dm_X12_dot 2 rfl) (fun M1 e2 => ?_)
  have h := h M1 e2
  have hR3 : zRng M1 := by rw [e2]; exact hR.set (by decide) _ _
  refine zr_aload_n C 0 rfl (zdec_at dm_X12_dot 3 rfl) rfl ?_
  refine zr_iload_n C 1 rfl (zdec_at dm_X12_dot 4 rfl) rfl ?_
  obtain ⟨g9, h⟩ := h
  refine zr_callV C [a1] hS_X12_isDot ck_RX12_202 iv_X12_isDot vc_X12 oc_103 rfl rfl (zdec_at dm_X12_dot 5 rfl) ⟨rfl, rfl, rfl, rfl⟩ ⟨by decide, by decide⟩ (Nat.le_of_ble_eq_true rfl) (zall_0 zz_a1 zall_n) ?_
  refine ⟨_, rfl, g9, fun r4 M5 p8 z7 hR6 => ?_⟩
  have h := h r4 M5 p8 z7 hR6
  show zV Γ mu_X12_dot (145, 0, 0) 10 [(0, zRf (zad Γ) 103), (1, zI a1)] [zI r4] M5
  refine zr_if_eq C z7 (zdec_at dm_X12_dot 6 rfl) rfl (fun g10 => ?_) (fun g10 => ?_)
  · have h := h.1 g10
    refine zr_iconst C (zdec_at dm_X12_dot 12 rfl) ?_
    exact zr_ireturn C rfl (zdec_at dm_X12_dot 13 rfl) rfl ⟨(by decide), h⟩
  · have h := h.2 g10
    refine zr_aload_n C 0 rfl (zdec_at dm_X12_dot 7 rfl) rfl ?_
    refine zr_getr (q := 104) C fk_RX12_16 fi_103_3 (zdec_at dm_X12_dot 8 rfl) ?_
    refine zr_iload_n C 1 rfl (zdec_at dm_X12_dot 9 rfl) rfl ?_
    obtain ⟨o11, h⟩ := h
    refine zr_iald C ai_104 o11 (zdec_at dm_X12_dot 10 rfl) ?_
    refine zr_goto C (zdec_at dm_X12_dot 11 rfl) rfl ?_
    exact zr_ireturn C rfl (zdec_at dm_X12_dot 13 rfl) rfl ⟨(hR6 _ _), h⟩

set_option maxHeartbeats 400000 in
set_option maxRecDepth 100000 in
theorem sn_X12_copyDots : zSnd zS 145 0 0 yX12_copyDots cX12_copyDots 2 none 0 [2] (fun xs P M => xs = [103] ∧ vc_X12_copyDots P M) := by
  refine zSnd.of rfl (fun ad xs hz => Nat.le_trans (Nat.le_of_eq (zlen ad _ xs hz)) (by decide)) ?_
  intro Γ C _ _ xs M hz hF
  obtain ⟨rfl, h⟩ := hF
  refine zr_rng (fun hR => ?_)
  have C : zC Γ mu_X12_copyDots := C
  change zV Γ mu_X12_copyDots (145, 0, 0) 0 [(0, zRf (zad Γ) 103)] [] M
  change vc_X12_copyDots _ M at h
  unfold vc_X12_copyDots at h
  refine zr_iconst C (zdec_at dm_X12_copyDots 0 rfl) ?_
  refine zr_istore_n (L1 := [(1, zI 0), (0, zRf (zad Γ) 103)]) C (zdec_at dm_X12_copyDots 1 rfl) rfl (Nat.le_of_ble_eq_true rfl) rfl ?_
  obtain ⟨I2, ⟨n9, q10⟩, hI8⟩ := h
  have lp7 : ∀ (n5 : Nat) (v1 : Int) (M3 : zM), I2 v1 M3 n5 → zin v1 → zRng M3 → zV Γ mu_X12_copyDots (145, 0, 0) 2 [(0, zRf (zad Γ) 103), (1, zI v1)] [] M3 := by
    intro n5
    induction n5 using Nat.strongRecOn with
    | _ n5 ih6 =>
    intro v1 M3 q11 z2 hR4
    have h := hI8 v1 M3 n5 q11 z2 hR4
    refine zr_iload_n C 1 rfl (zdec_at dm_X12_copyDots 2 rfl) rfl ?_
    refine zr_sipush C (zdec_at dm_X12_copyDots 3 rfl) (by decide) ?_
    refine zr_icmp_ge C z2 (by decide) (zdec_at dm_X12_copyDots 4 rfl) rfl (fun g12 => ?_) (fun g12 => ?_)
    · have h := h.1 g12
      exact zr_return C rfl rfl (zdec_at dm_X12_copyDots 15 rfl) rfl ⟨by decide, h⟩
    · have h := h.2 g12
      refine zr_aload_n C 0 rfl (zdec_at dm_X12_copyDots 5 rfl) rfl ?_
      refine zr_getr (q := 114) C fk_RX12_48 fi_103_28 (zdec_at dm_X12_copyDots 6 rfl) ?_
      refine zr_iload_n C 1 rfl (zdec_at dm_X12_copyDots 7 rfl) rfl ?_
      refine zr_aload_n C 0 rfl (zdec_at dm_X12_copyDots 8 rfl) rfl ?_
      refine zr_getr (q := 104) C fk_RX12_16 fi_103_3 (zdec_at dm_X12_copyDots 9 rfl) ?_
      refine zr_iload_n C 1 rfl (zdec_at dm_X12_copyDots 10 rfl) rfl ?_
      obtain ⟨o13, h⟩ := h
      refine zr_iald C ai_104 o13 (zdec_at dm_X12_copyDots 11 rfl) ?_
      refine zr_iast C ai_114 o13 (hR4 _ _) (zdec_at dm_X12_copyDots 12 rfl) (fun M14 e15 => ?_)
      have h := h M14 e15
      have hR16 : zRng M14 := by rw [e15]; exact hR4.set (hR4 _ _) _ _
      refine zr_iinc (L1 := [(1, zI (v1 + 1)), (0, zRf (zad Γ) 103)]) C 1 rfl (zdec_at dm_X12_copyDots 13 rfl) (Nat.le_of_ble_eq_true rfl) rfl ?_
      refine zr_goto C (zdec_at dm_X12_copyDots 14 rfl) rfl ?_
      obtain ⟨o17, h⟩ := h
      obtain ⟨n18, q19, q20⟩ := h
      exact zr_sub [1, 0] rfl (ih6 n18 q19 _ _ q20 o17 hR16)
  exact zr_sub [1, 0] rfl (lp7 n9 _ _ q10 (by decide) hR)

set_option maxHeartbeats 400000 in
set_option maxRecDepth 100000 in
theorem sn_X12_change : zSnd zS 145 0 0 yX12_change cX12_change 3 (some .int) 0 [2] (fun xs P M => xs = [103] ∧ vc_X12_change P M) := by
  refine zSnd.of rfl (fun ad xs hz => Nat.le_trans (Nat.le_of_eq (zlen ad _ xs hz)) (by decide)) ?_
  intro Γ C _ _ xs M hz hF
  obtain ⟨rfl, h⟩ := hF
  refine zr_rng (fun hR => ?_)
  have C : zC Γ mu_X12_change := C
  change zV Γ mu_X12_change (145, 0, 0) 0 [(0, zRf (zad Γ) 103)] [] M
  change vc_X12_change _ M at h
  unfold vc_X12_change at h
  refine zr_iconst C (zdec_at dm_X12_change 0 rfl) ?_
  refine zr_istore_n (L1 := [(1, zI 0), (0, zRf (zad Γ) 103)]) C (zdec_at dm_X12_change 1 rfl) rfl (Nat.le_of_ble_eq_true rfl) rfl ?_
  refine zr_iconst C (zdec_at dm_X12_change 2 rfl) ?_
  refine zr_istore_n (L1 := [(2, zI 0), (1, zI 0), (0, zRf (zad Γ) 103)]) C (zdec_at dm_X12_change 3 rfl) rfl (Nat.le_of_ble_eq_true rfl) rfl ?_
  obtain ⟨I4, ⟨n9, q10⟩, hI8⟩ := h
  have lp7 : ∀ (n5 : Nat) (v1 : Int) (v2 : Int), I4 v1 v2 n5 → zin v1 → zin v2 → zV Γ mu_X12_change (145, 0, 0) 4 [(0, zRf (zad Γ) 103), (1, zI v1), (2, zI v2)] [] M := by
    intro n5
    induction n5 using Nat.strongRecOn with
    | _ n5 ih6 =>
    intro v1 v2 q11 z3 z4
    have h := hI8 v1 v2 n5 q11 z3 z4
    refine zr_iload_n C 2 rfl (zdec_at dm_X12_change 4 rfl) rfl ?_
    refine zr_sipush C (zdec_at dm_X12_change 5 rfl) (by decide) ?_
    refine zr_icmp_ge C z4 (by decide) (zdec_at dm_X12_change 6 rfl) rfl (fun g12 => ?_) (fun g12 => ?_)
    · have h := h.1 g12
      refine zr_iload_n C 1 rfl (zdec_at dm_X12_change 24 rfl) rfl ?_
      refine zr_if_ne C z3 (zdec_at dm_X12_change 25 rfl) rfl (fun g13 => ?_) (fun g13 => ?_)
      · have h := h.1 g13
        refine zr_aload_n C 0 rfl (zdec_at dm_X12_change 28 rfl) rfl ?_
        refine zr_geti C fk_RX12_208 fi_103_8 (zdec_at dm_X12_change 29 rfl) ?_
        refine zr_bipush C (zdec_at dm_X12_change 30 rfl) (by decide) ?_
        refine zr_icmp_ne C (hR _ _) (by decide) (zdec_at dm_X12_change 31 rfl) rfl (fun g14 => ?_) (fun g14 => ?_)
        · have h := h.1 g14
          refine zr_iconst C (zdec_at dm_X12_change 55 rfl) ?_
          refine zr_istore_n (L1 := [(2, zI 0), (0, zRf (zad Γ) 103), (1, zI v1)]) C (zdec_at dm_X12_change 56 rfl) rfl (Nat.le_of_ble_eq_true rfl) rfl ?_
          obtain ⟨I98, ⟨n23, q24⟩, hI22⟩ := h
          have lp21 : ∀ (n19 : Nat) (v15 : Int) (M17 : zM), I98 v15 M17 n19 → zin v15 → zRng M17 → zV Γ mu_X12_change (145, 0, 0) 98 [(0, zRf (zad Γ) 103), (1, zI v1), (2, zI v15)] [] M17 := by
            intro n19
            induction n19 using Nat.strongRecOn with
            | _ n19 ih20 =>
            intro v15 M17 q25 z16 hR18
            have h := hI22 v15 M17 n19 q25 z16 hR18
            refine zr_iload_n C 2 rfl (zdec_at dm_X12_change 57 rfl) rfl ?_
            refine zr_sipush C (zdec_at dm_X12_change 58 rfl) (by decide) ?_
            refine zr_icmp_ge C z16 (by decide) (zdec_at dm_X12_change 59 rfl) rfl (fun g26 => ?_) (fun g26 => ?_)
            · have h := h.1 g26
              refine zr_aload_n C 0 rfl (zdec_at dm_X12_change 83 rfl) rfl ?_
              refine zr_dup C rfl (zdec_at dm_X12_change 84 rfl) ?_
              refine zr_geti C fk_RX12_208 fi_103_8 (zdec_at dm_X12_change 85 rfl) ?_
              refine zr_iconst C (zdec_at dm_X12_change 86 rfl) ?_
              refine zr_iadd C (zdec_at dm_X12_change 87 rfl) ?_
              obtain ⟨o27, h⟩ := h
              refine zr_puti C fk_RX12_208 fi_103_8 o27 (zdec_at dm_X12_change 88 rfl) (fun M28 e29 => ?_)
              have h := h M28 e29
              have hR30 : zRng M28 := by rw [e29]; exact hR18.set o27 _ _
              refine zr_aload_n C 0 rfl (zdec_at dm_X12_change 89 rfl) rfl ?_
              refine zr_aload_n C 0 rfl (zdec_at dm_X12_change 90 rfl) rfl ?_
              refine zr_geti C fk_RX12_208 fi_103_8 (zdec_at dm_X12_change 91 rfl) ?_
              refine zr_puti C fk_RX12_205 fi_103_7 (hR30 _ _) (zdec_at dm_X12_change 92 rfl) (fun M31 e32 => ?_)
              have h := h M31 e32
              have hR33 : zRng M31 := by rw [e32]; exact hR30.set (hR30 _ _) _ _
              refine zr_iload_n C 1 rfl (zdec_at dm_X12_change 93 rfl) rfl ?_
              exact zr_ireturn C rfl (zdec_at dm_X12_change 94 rfl) rfl ⟨z3, h⟩
            · have h := h.2 g26
              refine zr_aload_n C 0 rfl (zdec_at dm_X12_change 60 rfl) rfl ?_
              refine zr_getr (q := 106) C fk_RX12_23 fi_103_6 (zdec_at dm_X12_change 61 rfl) ?_
              refine zr_sipush C (zdec_at dm_X12_change 62 rfl) (by decide) ?_
              refine zr_aload_n C 0 rfl (zdec_at dm_X12_change 63 rfl) rfl ?_
              refine zr_geti C fk_RX12_208 fi_103_8 (zdec_at dm_X12_change 64 rfl) ?_
              refine zr_imul C (zdec_at dm_X12_change 65 rfl) ?_
              refine zr_iload_n C 2 rfl (zdec_at dm_X12_change 66 rfl) rfl ?_
              refine zr_iadd C (zdec_at dm_X12_change 67 rfl) ?_
              refine zr_aload_n C 0 rfl (zdec_at dm_X12_change 68 rfl) rfl ?_
              refine zr_getr (q := 104) C fk_RX12_16 fi_103_3 (zdec_at dm_X12_change 69 rfl) ?_
              refine zr_iload_n C 2 rfl (zdec_at dm_X12_change 70 rfl) rfl ?_
              obtain ⟨o34, h⟩ := h
              refine zr_iald C ai_104 o34 (zdec_at dm_X12_change 71 rfl) ?_
              obtain ⟨o35, h⟩ := h
              refine zr_iast C ai_106 o35 (hR18 _ _) (zdec_at dm_X12_change 72 rfl) (fun M36 e37 => ?_)
              have h := h M36 e37
              have hR38 : zRng M36 := by rw [e37]; exact hR18.set (hR18 _ _) _ _
              refine zr_aload_n C 0 rfl (zdec_at dm_X12_change 73 rfl) rfl ?_
              refine zr_getr (q := 104) C fk_RX12_16 fi_103_3 (zdec_at dm_X12_change 74 rfl) ?_
              refine zr_iload_n C 2 rfl (zdec_at dm_X12_change 75 rfl) rfl ?_
              refine zr_aload_n C 0 rfl (zdec_at dm_X12_change 76 rfl) rfl ?_
              refine zr_getr (q := 114) C fk_RX12_48 fi_103_28 (zdec_at dm_X12_change 77 rfl) ?_
              refine zr_iload_n C 2 rfl (zdec_at dm_X12_change 78 rfl) rfl ?_
              refine zr_iald C ai_114 o34 (zdec_at dm_X12_change 79 rfl) ?_
              refine zr_iast C ai_104 o34 (hR38 _ _) (zdec_at dm_X12_change 80 rfl) (fun M39 e40 => ?_)
              have h := h M39 e40
              have hR41 : zRng M39 := by rw [e40]; exact hR38.set (hR38 _ _) _ _
              refine zr_iinc (L1 := [(2, zI (v15 + 1)), (0, zRf (zad Γ) 103), (1, zI v1)]) C 2 rfl (zdec_at dm_X12_change 81 rfl) (Nat.le_of_ble_eq_true rfl) rfl ?_
              refine zr_goto C (zdec_at dm_X12_change 82 rfl) rfl ?_
              obtain ⟨o42, h⟩ := h
              obtain ⟨n43, q44, q45⟩ := h
              exact zr_sub [1, 2, 0] rfl (ih20 n43 q44 _ _ q45 o42 hR41)
          exact zr_sub [1, 2, 0] rfl (lp21 n23 _ _ q24 (by decide) hR)
        · have h := h.2 g14
          refine zr_iconst C (zdec_at dm_X12_change 32 rfl) ?_
          refine zr_istore_n (L1 := [(2, zI 0), (0, zRf (zad Γ) 103), (1, zI v1)]) C (zdec_at dm_X12_change 33 rfl) rfl (Nat.le_of_ble_eq_true rfl) rfl ?_
          obtain ⟨I57, ⟨n54, q55⟩, hI53⟩ := h
          have lp52 : ∀ (n50 : Nat) (v46 : Int) (M48 : zM), I57 v46 M48 n50 → zin v46 → zRng M48 → zV Γ mu_X12_change (145, 0, 0) 57 [(0, zRf (zad Γ) 103), (1, zI v1), (2, zI v46)] [] M48 := by
            intro n50
            induction n50 using Nat.strongRecOn with
            | _ n50 ih51 =>
            intro v46 M48 q56 z47 hR49
            have h := hI53 v46 M48 n50 q56 z47 hR49
            refine zr_iload_n C 2 rfl (zdec_at dm_X12_change 34 rfl) rfl ?_
            refine zr_sipush C (zdec_at dm_X12_change 35 rfl) (by decide) ?_
            refine zr_icmp_ge C z47 (by decide) (zdec_at dm_X12_change 36 rfl) rfl (fun g57 => ?_) (fun g57 => ?_)
            · have h := h.1 g57
              refine zr_aload_n C 0 rfl (zdec_at dm_X12_change 49 rfl) rfl ?_
              refine zr_dup C rfl (zdec_at dm_X12_change 50 rfl) ?_
              refine zr_geti C fk_RX12_208 fi_103_8 (zdec_at dm_X12_change 51 rfl) ?_
              refine zr_iconst C (zdec_at dm_X12_change 52 rfl) ?_
              refine zr_isub C (zdec_at dm_X12_change 53 rfl) ?_
              obtain ⟨o58, h⟩ := h
              refine zr_puti C fk_RX12_208 fi_103_8 o58 (zdec_at dm_X12_change 54 rfl) (fun M59 e60 => ?_)
              have h := h M59 e60
              have hR61 : zRng M59 := by rw [e60]; exact hR49.set o58 _ _
              refine zr_iconst C (zdec_at dm_X12_change 55 rfl) ?_
              refine zr_istore_n (L1 := [(2, zI 0), (0, zRf (zad Γ) 103), (1, zI v1)]) C (zdec_at dm_X12_change 56 rfl) rfl (Nat.le_of_ble_eq_true rfl) rfl ?_
              obtain ⟨I98, ⟨n70, q71⟩, hI69⟩ := h
              have lp68 : ∀ (n66 : Nat) (v62 : Int) (M64 : zM), I98 v62 M64 n66 → zin v62 → zRng M64 → zV Γ mu_X12_change (145, 0, 0) 98 [(0, zRf (zad Γ) 103), (1, zI v1), (2, zI v62)] [] M64 := by
                intro n66
                induction n66 using Nat.strongRecOn with
                | _ n66 ih67 =>
                intro v62 M64 q72 z63 hR65
                have h := hI69 v62 M64 n66 q72 z63 hR65
                refine zr_iload_n C 2 rfl (zdec_at dm_X12_change 57 rfl) rfl ?_
                refine zr_sipush C (zdec_at dm_X12_change 58 rfl) (by decide) ?_
                refine zr_icmp_ge C z63 (by decide) (zdec_at dm_X12_change 59 rfl) rfl (fun g73 => ?_) (fun g73 => ?_)
                · have h := h.1 g73
                  refine zr_aload_n C 0 rfl (zdec_at dm_X12_change 83 rfl) rfl ?_
                  refine zr_dup C rfl (zdec_at dm_X12_change 84 rfl) ?_
                  refine zr_geti C fk_RX12_208 fi_103_8 (zdec_at dm_X12_change 85 rfl) ?_
                  refine zr_iconst C (zdec_at dm_X12_change 86 rfl) ?_
                  refine zr_iadd C (zdec_at dm_X12_change 87 rfl) ?_
                  obtain ⟨o74, h⟩ := h
                  refine zr_puti C fk_RX12_208 fi_103_8 o74 (zdec_at dm_X12_change 88 rfl) (fun M75 e76 => ?_)
                  have h := h M75 e76
                  have hR77 : zRng M75 := by rw [e76]; exact hR65.set o74 _ _
                  refine zr_aload_n C 0 rfl (zdec_at dm_X12_change 89 rfl) rfl ?_
                  refine zr_aload_n C 0 rfl (zdec_at dm_X12_change 90 rfl) rfl ?_
                  refine zr_geti C fk_RX12_208 fi_103_8 (zdec_at dm_X12_change 91 rfl) ?_
                  refine zr_puti C fk_RX12_205 fi_103_7 (hR77 _ _) (zdec_at dm_X12_change 92 rfl) (fun M78 e79 => ?_)
                  have h := h M78 e79
                  have hR80 : zRng M78 := by rw [e79]; exact hR77.set (hR77 _ _) _ _
                  refine zr_iload_n C 1 rfl (zdec_at dm_X12_change 93 rfl) rfl ?_
                  exact zr_ireturn C rfl (zdec_at dm_X12_change 94 rfl) rfl ⟨z3, h⟩
                · have h := h.2 g73
                  refine zr_aload_n C 0 rfl (zdec_at dm_X12_change 60 rfl) rfl ?_
                  refine zr_getr (q := 106) C fk_RX12_23 fi_103_6 (zdec_at dm_X12_change 61 rfl) ?_
                  refine zr_sipush C (zdec_at dm_X12_change 62 rfl) (by decide) ?_
                  refine zr_aload_n C 0 rfl (zdec_at dm_X12_change 63 rfl) rfl ?_
                  refine zr_geti C fk_RX12_208 fi_103_8 (zdec_at dm_X12_change 64 rfl) ?_
                  refine zr_imul C (zdec_at dm_X12_change 65 rfl) ?_
                  refine zr_iload_n C 2 rfl (zdec_at dm_X12_change 66 rfl) rfl ?_
                  refine zr_iadd C (zdec_at dm_X12_change 67 rfl) ?_
                  refine zr_aload_n C 0 rfl (zdec_at dm_X12_change 68 rfl) rfl ?_
                  refine zr_getr (q := 104) C fk_RX12_16 fi_103_3 (zdec_at dm_X12_change 69 rfl) ?_
                  refine zr_iload_n C 2 rfl (zdec_at dm_X12_change 70 rfl) rfl ?_
                  obtain ⟨o81, h⟩ := h
                  refine zr_iald C ai_104 o81 (zdec_at dm_X12_change 71 rfl) ?_
                  obtain ⟨o82, h⟩ := h
                  refine zr_iast C ai_106 o82 (hR65 _ _) (zdec_at dm_X12_change 72 rfl) (fun M83 e84 => ?_)
                  have h := h M83 e84
                  have hR85 : zRng M83 := by rw [e84]; exact hR65.set (hR65 _ _) _ _
                  refine zr_aload_n C 0 rfl (zdec_at dm_X12_change 73 rfl) rfl ?_
                  refine zr_getr (q := 104) C fk_RX12_16 fi_103_3 (zdec_at dm_X12_change 74 rfl) ?_
                  refine zr_iload_n C 2 rfl (zdec_at dm_X12_change 75 rfl) rfl ?_
                  refine zr_aload_n C 0 rfl (zdec_at dm_X12_change 76 rfl) rfl ?_
                  refine zr_getr (q := 114) C fk_RX12_48 fi_103_28 (zdec_at dm_X12_change 77 rfl) ?_
                  refine zr_iload_n C 2 rfl (zdec_at dm_X12_change 78 rfl) rfl ?_
                  refine zr_iald C ai_114 o81 (zdec_at dm_X12_change 79 rfl) ?_
                  refine zr_iast C ai_104 o81 (hR85 _ _) (zdec_at dm_X12_change 80 rfl) (fun M86 e87 => ?_)
                  have h := h M86 e87
                  have hR88 : zRng M86 := by rw [e87]; exact hR85.set (hR85 _ _) _ _
                  refine zr_iinc (L1 := [(2, zI (v62 + 1)), (0, zRf (zad Γ) 103), (1, zI v1)]) C 2 rfl (zdec_at dm_X12_change 81 rfl) (Nat.le_of_ble_eq_true rfl) rfl ?_
                  refine zr_goto C (zdec_at dm_X12_change 82 rfl) rfl ?_
                  obtain ⟨o89, h⟩ := h
                  obtain ⟨n90, q91, q92⟩ := h
                  exact zr_sub [1, 2, 0] rfl (ih67 n90 q91 _ _ q92 o89 hR88)
              exact zr_sub [1, 2, 0] rfl (lp68 n70 _ _ q71 (by decide) hR61)
            · have h := h.2 g57
              refine zr_aload_n C 0 rfl (zdec_at dm_X12_change 37 rfl) rfl ?_
              refine zr_getr (q := 106) C fk_RX12_23 fi_103_6 (zdec_at dm_X12_change 38 rfl) ?_
              refine zr_iload_n C 2 rfl (zdec_at dm_X12_change 39 rfl) rfl ?_
              refine zr_aload_n C 0 rfl (zdec_at dm_X12_change 40 rfl) rfl ?_
              refine zr_getr (q := 106) C fk_RX12_23 fi_103_6 (zdec_at dm_X12_change 41 rfl) ?_
              refine zr_iload_n C 2 rfl (zdec_at dm_X12_change 42 rfl) rfl ?_
              refine zr_sipush C (zdec_at dm_X12_change 43 rfl) (by decide) ?_
              refine zr_iadd C (zdec_at dm_X12_change 44 rfl) ?_
              obtain ⟨o93, h⟩ := h
              refine zr_iald C ai_106 o93 (zdec_at dm_X12_change 45 rfl) ?_
              obtain ⟨o94, h⟩ := h
              refine zr_iast C ai_106 o94 (hR49 _ _) (zdec_at dm_X12_change 46 rfl) (fun M95 e96 => ?_)
              have h := h M95 e96
              have hR97 : zRng M95 := by rw [e96]; exact hR49.set (hR49 _ _) _ _
              refine zr_iinc (L1 := [(2, zI (v46 + 1)), (0, zRf (zad Γ) 103), (1, zI v1)]) C 2 rfl (zdec_at dm_X12_change 47 rfl) (Nat.le_of_ble_eq_true rfl) rfl ?_
              refine zr_goto C (zdec_at dm_X12_change 48 rfl) rfl ?_
              obtain ⟨o98, h⟩ := h
              obtain ⟨n99, q100, q101⟩ := h
              exact zr_sub [1, 2, 0] rfl (ih51 n99 q100 _ _ q101 o98 hR97)
          exact zr_sub [1, 2, 0] rfl (lp52 n54 _ _ q55 (by decide) hR)
      · have h := h.2 g13
        refine zr_iconst C (zdec_at dm_X12_change 26 rfl) ?_
        exact zr_ireturn C rfl (zdec_at dm_X12_change 27 rfl) rfl ⟨(by decide), h⟩
    · have h := h.2 g12
      refine zr_iload_n C 1 rfl (zdec_at dm_X12_change 7 rfl) rfl ?_
      refine zr_aload_n C 0 rfl (zdec_at dm_X12_change 8 rfl) rfl ?_
      refine zr_getr (q := 114) C fk_RX12_48 fi_103_28 (zdec_at dm_X12_change 9 rfl) ?_
      refine zr_iload_n C 2 rfl (zdec_at dm_X12_change 10 rfl) rfl ?_
      obtain ⟨o102, h⟩ := h
      refine zr_iald C ai_114 o102 (zdec_at dm_X12_change 11 rfl) ?_
      refine zr_aload_n C 0 rfl (zdec_at dm_X12_change 12 rfl) rfl ?_
      refine zr_getr (q := 104) C fk_RX12_16 fi_103_3 (zdec_at dm_X12_change 13 rfl) ?_
      refine zr_iload_n C 2 rfl (zdec_at dm_X12_change 14 rfl) rfl ?_
      refine zr_iald C ai_104 o102 (zdec_at dm_X12_change 15 rfl) ?_
      refine zr_icmp_eq C (hR _ _) (hR _ _) (zdec_at dm_X12_change 16 rfl) rfl (fun g103 => ?_) (fun g103 => ?_)
      · have h := h.1 g103
        refine zr_iconst C (zdec_at dm_X12_change 19 rfl) ?_
        refine zr_iadd C (zdec_at dm_X12_change 20 rfl) ?_
        refine zr_istore_n (L1 := [(1, zI (v1 + 0)), (0, zRf (zad Γ) 103), (2, zI v2)]) C (zdec_at dm_X12_change 21 rfl) rfl (Nat.le_of_ble_eq_true rfl) rfl ?_
        refine zr_iinc (L1 := [(2, zI (v2 + 1)), (1, zI (v1 + 0)), (0, zRf (zad Γ) 103)]) C 2 rfl (zdec_at dm_X12_change 22 rfl) (Nat.le_of_ble_eq_true rfl) rfl ?_
        refine zr_goto C (zdec_at dm_X12_change 23 rfl) rfl ?_
        obtain ⟨o104, h⟩ := h
        obtain ⟨o105, h⟩ := h
        obtain ⟨n106, q107, q108⟩ := h
        exact zr_sub [2, 1, 0] rfl (ih6 n106 q107 _ _ q108 o104 o105)
      · have h := h.2 g103
        refine zr_iconst C (zdec_at dm_X12_change 17 rfl) ?_
        refine zr_goto C (zdec_at dm_X12_change 18 rfl) rfl ?_
        refine zr_iadd C (zdec_at dm_X12_change 20 rfl) ?_
        refine zr_istore_n (L1 := [(1, zI (v1 + 1)), (0, zRf (zad Γ) 103), (2, zI v2)]) C (zdec_at dm_X12_change 21 rfl) rfl (Nat.le_of_ble_eq_true rfl) rfl ?_
        refine zr_iinc (L1 := [(2, zI (v2 + 1)), (1, zI (v1 + 1)), (0, zRf (zad Γ) 103)]) C 2 rfl (zdec_at dm_X12_change 22 rfl) (Nat.le_of_ble_eq_true rfl) rfl ?_
        refine zr_goto C (zdec_at dm_X12_change 23 rfl) rfl ?_
        obtain ⟨o109, h⟩ := h
        obtain ⟨o110, h⟩ := h
        obtain ⟨n111, q112, q113⟩ := h
        exact zr_sub [2, 1, 0] rfl (ih6 n111 q112 _ _ q113 o109 o110)
  exact zr_sub [2, 1, 0] rfl (lp7 n9 _ _ q10 (by decide) (by decide))

set_option maxHeartbeats 400000 in
set_option maxRecDepth 100000 in
theorem sn_X12_swap : zSnd zS 145 0 0 yX12_swap cX12_swap 5 (some .int) 0 [2, 0] (fun xs P M => ∃ a1 : Int, xs = [103, a1] ∧ vc_X12_swap a1 P M) := by
  refine zSnd.of rfl (fun ad xs hz => Nat.le_trans (Nat.le_of_eq (zlen ad _ xs hz)) (by decide)) ?_
  intro Γ C _ _ xs M hz hF
  obtain ⟨a1, rfl, h⟩ := hF
  have zz_a1 := zall_h (zall_t hz) (by decide)
  refine zr_rng (fun hR => ?_)
  have C : zC Γ mu_X12_swap := C
  change zV Γ mu_X12_swap (145, 0, 0) 0 [(0, zRf (zad Γ) 103), (1, zI a1)] [] M
  change vc_X12_swap a1 _ M at h
  unfold vc_X12_swap at h
  refine zr_iconst C (zdec_at dm_X12_swap 0 rfl) ?_
  refine zr_istore_n (L1 := [(2, zI 0), (0, zRf (zad Γ) 103), (1, zI a1)]) C (zdec_at dm_X12_swap 1 rfl) rfl (Nat.le_of_ble_eq_true rfl) rfl ?_
  refine zr_iconst C (zdec_at dm_X12_swap 2 rfl) ?_
  refine zr_istore_n (L1 := [(3, zI 0), (2, zI 0), (0, zRf (zad Γ) 103), (1, zI a1)]) C (zdec_at dm_X12_swap 3 rfl) rfl (Nat.le_of_ble_eq_true rfl) rfl ?_
  obtain ⟨I4, ⟨n11, q12⟩, hI10⟩ := h
  have lp9 : ∀ (n7 : Nat) (v1 : Int) (v2 : Int) (M5 : zM), I4 v1 v2 M5 n7 → zin v1 → zin v2 → zRng M5 → zV Γ mu_X12_swap (145, 0, 0) 4 [(0, zRf (zad Γ) 103), (1, zI a1), (2, zI v1), (3, zI v2)] [] M5 := by
    intro n7
    induction n7 using Nat.strongRecOn with
    | _ n7 ih8 =>
    intro v1 v2 M5 q13 z3 z4 hR6
    have h := hI10 v1 v2 M5 n7 q13 z3 z4 hR6
    refine zr_iload_n C 3 rfl (zdec_at dm_X12_swap 4 rfl) rfl ?_
    refine zr_sipush C (zdec_at dm_X12_swap 5 rfl) (by decide) ?_
    refine zr_icmp_ge C z4 (by decide) (zdec_at dm_X12_swap 6 rfl) rfl (fun g14 => ?_) (fun g14 => ?_)
    · have h := h.1 g14
      refine zr_iload_n C 2 rfl (zdec_at dm_X12_swap 47 rfl) rfl ?_
      exact zr_ireturn C rfl (zdec_at dm_X12_swap 48 rfl) rfl ⟨z3, h⟩
    · have h := h.2 g14
      refine zr_aload_n C 0 rfl (zdec_at dm_X12_swap 7 rfl) rfl ?_
      refine zr_getr (q := 106) C fk_RX12_23 fi_103_6 (zdec_at dm_X12_swap 8 rfl) ?_
      refine zr_sipush C (zdec_at dm_X12_swap 9 rfl) (by decide) ?_
      refine zr_iload_n C 1 rfl (zdec_at dm_X12_swap 10 rfl) rfl ?_
      refine zr_imul C (zdec_at dm_X12_swap 11 rfl) ?_
      refine zr_iload_n C 3 rfl (zdec_at dm_X12_swap 12 rfl) rfl ?_
      refine zr_iadd C (zdec_at dm_X12_swap 13 rfl) ?_
      obtain ⟨o15, h⟩ := h
      refine zr_iald C ai_106 o15 (zdec_at dm_X12_swap 14 rfl) ?_
      refine zr_istore (L1 := [(4, zI (M5 106 ((192 * a1) + v2))), (0, zRf (zad Γ) 103), (1, zI a1), (2, zI v1), (3, zI v2)]) C (zdec_at dm_X12_swap 15 rfl) (Nat.le_of_ble_eq_true rfl) rfl ?_
      refine zr_iload_n C 3 rfl (zdec_at dm_X12_swap 16 rfl) rfl ?_
      refine zr_iload C 0 rfl (zdec_at dm_X12_swap 17 rfl) ?_
      refine zr_aload_n C 1 rfl (zdec_at dm_X12_swap 18 rfl) rfl ?_
      refine zr_getr (q := 104) C fk_RX12_16 fi_103_3 (zdec_at dm_X12_swap 19 rfl) ?_
      refine zr_iload_n C 4 rfl (zdec_at dm_X12_swap 20 rfl) rfl ?_
      obtain ⟨o16, h⟩ := h
      refine zr_iald C ai_104 o16 (zdec_at dm_X12_swap 21 rfl) ?_
      have h := h (fun v17 => zin v17 → zV Γ mu_X12_swap (145, 0, 0) 42 [(0, zRf (zad Γ) 103), (1, zI a1), (3, zI v2), (4, zI (M5 106 ((192 * a1) + v2)))] [zI v17, zI v1] M5) (fun v17 h z18 => by
        have h := h z18
        refine zr_iadd C (zdec_at dm_X12_swap 26 rfl) ?_
        refine zr_istore_n (L1 := [(2, zI (v1 + v17)), (0, zRf (zad Γ) 103), (1, zI a1), (3, zI v2), (4, zI (M5 106 ((192 * a1) + v2)))]) C (zdec_at dm_X12_swap 27 rfl) rfl (Nat.le_of_ble_eq_true rfl) rfl ?_
        refine zr_aload_n C 1 rfl (zdec_at dm_X12_swap 28 rfl) rfl ?_
        refine zr_getr (q := 106) C fk_RX12_23 fi_103_6 (zdec_at dm_X12_swap 29 rfl) ?_
        refine zr_sipush C (zdec_at dm_X12_swap 30 rfl) (by decide) ?_
        refine zr_iload_n C 2 rfl (zdec_at dm_X12_swap 31 rfl) rfl ?_
        refine zr_imul C (zdec_at dm_X12_swap 32 rfl) ?_
        refine zr_iload_n C 3 rfl (zdec_at dm_X12_swap 33 rfl) rfl ?_
        refine zr_iadd C (zdec_at dm_X12_swap 34 rfl) ?_
        refine zr_aload_n C 1 rfl (zdec_at dm_X12_swap 35 rfl) rfl ?_
        refine zr_getr (q := 104) C fk_RX12_16 fi_103_3 (zdec_at dm_X12_swap 36 rfl) ?_
        refine zr_iload_n C 3 rfl (zdec_at dm_X12_swap 37 rfl) rfl ?_
        refine zr_iald C ai_104 o16 (zdec_at dm_X12_swap 38 rfl) ?_
        refine zr_iast C ai_106 o15 (hR6 _ _) (zdec_at dm_X12_swap 39 rfl) (fun M19 e20 => ?_)
        have h := h M19 e20
        have hR21 : zRng M19 := by rw [e20]; exact hR6.set (hR6 _ _) _ _
        refine zr_aload_n C 1 rfl (zdec_at dm_X12_swap 40 rfl) rfl ?_
        refine zr_getr (q := 104) C fk_RX12_16 fi_103_3 (zdec_at dm_X12_swap 41 rfl) ?_
        refine zr_iload_n C 3 rfl (zdec_at dm_X12_swap 42 rfl) rfl ?_
        refine zr_iload C 4 rfl (zdec_at dm_X12_swap 43 rfl) ?_
        refine zr_iast C ai_104 o16 (hR6 _ _) (zdec_at dm_X12_swap 44 rfl) (fun M22 e23 => ?_)
        have h := h M22 e23
        have hR24 : zRng M22 := by rw [e23]; exact hR21.set (hR6 _ _) _ _
        refine zr_iinc (L1 := [(3, zI (v2 + 1)), (2, zI (v1 + v17)), (0, zRf (zad Γ) 103), (1, zI a1), (4, zI (M5 106 ((192 * a1) + v2)))]) C 3 rfl (zdec_at dm_X12_swap 45 rfl) (Nat.le_of_ble_eq_true rfl) rfl ?_
        refine zr_goto C (zdec_at dm_X12_swap 46 rfl) rfl ?_
        obtain ⟨o25, h⟩ := h
        obtain ⟨o26, h⟩ := h
        obtain ⟨n27, q28, q29⟩ := h
        exact zr_sub [2, 3, 1, 0] rfl (ih8 n27 q28 _ _ _ q29 o25 o26 hR24))
      refine zr_icmp_eq C (hR6 _ _) (hR6 _ _) (zdec_at dm_X12_swap 22 rfl) rfl (fun g30 => ?_) (fun g30 => ?_)
      · have h := h.1 g30
        refine zr_iconst C (zdec_at dm_X12_swap 25 rfl) ?_
        exact zr_sub [1, 2, 4, 0] rfl (h (by decide))
      · have h := h.2 g30
        refine zr_iconst C (zdec_at dm_X12_swap 23 rfl) ?_
        refine zr_goto C (zdec_at dm_X12_swap 24 rfl) rfl ?_
        exact zr_sub [1, 2, 4, 0] rfl (h (by decide))
  exact zr_sub [2, 3, 1, 0] rfl (lp9 n11 _ _ _ q12 (by decide) (by decide) hR)

set_option maxHeartbeats 400000 in
set_option maxRecDepth 100000 in
theorem sn_X12_undo {pr_X12_swap : Int → zM → Prop} {po_X12_swap : Int → zM → Int → zM → Prop} (hS_X12_swap : zSnd zS 145 0 0 yX12_swap cX12_swap 5 (some .int) 0 [2, 0] (F_X12_swap pr_X12_swap po_X12_swap)) : zSnd zS 145 0 0 yX12_undo cX12_undo 1 (some .int) 1 [2] (fun xs P M => xs = [103] ∧ vc_X12_undo pr_X12_swap po_X12_swap P M) := by
  refine zSnd.of rfl (fun ad xs hz => Nat.le_trans (Nat.le_of_eq (zlen ad _ xs hz)) (by decide)) ?_
  intro Γ C _ _ xs M hz hF
  obtain ⟨rfl, h⟩ := hF
  refine zr_rng (fun hR => ?_)
  have C : zC Γ mu_X12_undo := C
  change zV Γ mu_X12_undo (145, 0, 0) 0 [(0, zRf (zad Γ) 103)] [] M
  change vc_X12_undo pr_X12_swap po_X12_swap _ M at h
  unfold vc_X12_undo at h
  refine zr_aload_n C 0 rfl (zdec_at dm_X12_undo 0 rfl) rfl ?_
  refine zr_iconst C (zdec_at dm_X12_undo 1 rfl) ?_
  refine zr_puti C fk_RX12_140 fi_103_0 (by decide) (zdec_at dm_X12_undo 2 rfl) (fun M1 e2 => ?_)
  have h := h M1 e2
  have hR3 : zRng M1 := by rw [e2]; exact hR.set (by decide) _ _
  refine zr_aload_n C 0 rfl (zdec_at dm_X12_undo 3 rfl) rfl ?_
  refine zr_geti C fk_RX12_208 fi_103_8 (zdec_at dm_X12_undo 4 rfl) ?_
  refine zr_if_ne C (hR3 _ _) (zdec_at dm_X12_undo 5 rfl) rfl (fun g4 => ?_) (fun g4 => ?_)
  · have h := h.1 g4
    refine zr_aload_n C 0 rfl (zdec_at dm_X12_undo 8 rfl) rfl ?_
    refine zr_dup C rfl (zdec_at dm_X12_undo 9 rfl) ?_
    refine zr_geti C fk_RX12_208 fi_103_8 (zdec_at dm_X12_undo 10 rfl) ?_
    refine zr_iconst C (zdec_at dm_X12_undo 11 rfl) ?_
    refine zr_isub C (zdec_at dm_X12_undo 12 rfl) ?_
    obtain ⟨o5, h⟩ := h
    refine zr_puti C fk_RX12_208 fi_103_8 o5 (zdec_at dm_X12_undo 13 rfl) (fun M6 e7 => ?_)
    have h := h M6 e7
    have hR8 : zRng M6 := by rw [e7]; exact hR3.set o5 _ _
    refine zr_aload_n C 0 rfl (zdec_at dm_X12_undo 14 rfl) rfl ?_
    refine zr_aload_n C 0 rfl (zdec_at dm_X12_undo 15 rfl) rfl ?_
    refine zr_geti C fk_RX12_208 fi_103_8 (zdec_at dm_X12_undo 16 rfl) ?_
    obtain ⟨g14, h⟩ := h
    refine zr_callV C [(M6 103 8)] hS_X12_swap ck_RX12_211 iv_X12_swap vc_X12 oc_103 rfl rfl (zdec_at dm_X12_undo 17 rfl) ⟨rfl, rfl, rfl, rfl⟩ ⟨by decide, by decide⟩ (Nat.le_of_ble_eq_true rfl) (zall_0 (hR8 _ _) zall_n) ?_
    refine ⟨_, rfl, g14, fun r9 M10 p13 z12 hR11 => ?_⟩
    have h := h r9 M10 p13 z12 hR11
    show zV Γ mu_X12_undo (145, 0, 0) 33 [(0, zRf (zad Γ) 103)] [zI r9] M10
    exact zr_ireturn C rfl (zdec_at dm_X12_undo 18 rfl) rfl ⟨z12, h⟩
  · have h := h.2 g4
    refine zr_bipush C (zdec_at dm_X12_undo 6 rfl) (by decide) ?_
    exact zr_ireturn C rfl (zdec_at dm_X12_undo 7 rfl) rfl ⟨(by decide), h⟩

set_option maxHeartbeats 400000 in
set_option maxRecDepth 100000 in
theorem sn_X12_redo {pr_X12_swap : Int → zM → Prop} {po_X12_swap : Int → zM → Int → zM → Prop} (hS_X12_swap : zSnd zS 145 0 0 yX12_swap cX12_swap 5 (some .int) 0 [2, 0] (F_X12_swap pr_X12_swap po_X12_swap)) : zSnd zS 145 0 0 yX12_redo cX12_redo 1 (some .int) 1 [2] (fun xs P M => xs = [103] ∧ vc_X12_redo pr_X12_swap po_X12_swap P M) := by
  refine zSnd.of rfl (fun ad xs hz => Nat.le_trans (Nat.le_of_eq (zlen ad _ xs hz)) (by decide)) ?_
  intro Γ C _ _ xs M hz hF
  obtain ⟨rfl, h⟩ := hF
  refine zr_rng (fun hR => ?_)
  have C : zC Γ mu_X12_redo := C
  change zV Γ mu_X12_redo (145, 0, 0) 0 [(0, zRf (zad Γ) 103)] [] M
  change vc_X12_redo pr_X12_swap po_X12_swap _ M at h
  unfold vc_X12_redo at h
  refine zr_aload_n C 0 rfl (zdec_at dm_X12_redo 0 rfl) rfl ?_
  refine zr_iconst C (zdec_at dm_X12_redo 1 rfl) ?_
  refine zr_puti C fk_RX12_140 fi_103_0 (by decide) (zdec_at dm_X12_redo 2 rfl) (fun M1 e2 => ?_)
  have h := h M1 e2
  have hR3 : zRng M1 := by rw [e2]; exact hR.set (by decide) _ _
  refine zr_aload_n C 0 rfl (zdec_at dm_X12_redo 3 rfl) rfl ?_
  refine zr_geti C fk_RX12_208 fi_103_8 (zdec_at dm_X12_redo 4 rfl) ?_
  refine zr_aload_n C 0 rfl (zdec_at dm_X12_redo 5 rfl) rfl ?_
  refine zr_geti C fk_RX12_205 fi_103_7 (zdec_at dm_X12_redo 6 rfl) ?_
  refine zr_icmp_ne C (hR3 _ _) (hR3 _ _) (zdec_at dm_X12_redo 7 rfl) rfl (fun g4 => ?_) (fun g4 => ?_)
  · have h := h.1 g4
    refine zr_aload_n C 0 rfl (zdec_at dm_X12_redo 10 rfl) rfl ?_
    refine zr_dup C rfl (zdec_at dm_X12_redo 11 rfl) ?_
    refine zr_geti C fk_RX12_208 fi_103_8 (zdec_at dm_X12_redo 12 rfl) ?_
    refine zr_iconst C (zdec_at dm_X12_redo 13 rfl) ?_
    refine zr_iadd C (zdec_at dm_X12_redo 14 rfl) ?_
    obtain ⟨o5, h⟩ := h
    refine zr_puti C fk_RX12_208 fi_103_8 o5 (zdec_at dm_X12_redo 15 rfl) (fun M6 e7 => ?_)
    have h := h M6 e7
    have hR8 : zRng M6 := by rw [e7]; exact hR3.set o5 _ _
    refine zr_aload_n C 0 rfl (zdec_at dm_X12_redo 16 rfl) rfl ?_
    refine zr_aload_n C 0 rfl (zdec_at dm_X12_redo 17 rfl) rfl ?_
    refine zr_geti C fk_RX12_208 fi_103_8 (zdec_at dm_X12_redo 18 rfl) ?_
    refine zr_iconst C (zdec_at dm_X12_redo 19 rfl) ?_
    refine zr_isub C (zdec_at dm_X12_redo 20 rfl) ?_
    obtain ⟨o9, h⟩ := h
    obtain ⟨g15, h⟩ := h
    refine zr_callV C [((M6 103 8) - 1)] hS_X12_swap ck_RX12_211 iv_X12_swap vc_X12 oc_103 rfl rfl (zdec_at dm_X12_redo 21 rfl) ⟨rfl, rfl, rfl, rfl⟩ ⟨by decide, by decide⟩ (Nat.le_of_ble_eq_true rfl) (zall_0 o9 zall_n) ?_
    refine ⟨_, rfl, g15, fun r10 M11 p14 z13 hR12 => ?_⟩
    have h := h r10 M11 p14 z13 hR12
    show zV Γ mu_X12_redo (145, 0, 0) 39 [(0, zRf (zad Γ) 103)] [zI r10] M11
    exact zr_ireturn C rfl (zdec_at dm_X12_redo 22 rfl) rfl ⟨z13, h⟩
  · have h := h.2 g4
    refine zr_bipush C (zdec_at dm_X12_redo 8 rfl) (by decide) ?_
    exact zr_ireturn C rfl (zdec_at dm_X12_redo 9 rfl) rfl ⟨(by decide), h⟩

set_option maxHeartbeats 400000 in
set_option maxRecDepth 100000 in
theorem sn_X12_paint {pr_X12_isDot : Int → zM → Prop} {po_X12_isDot : Int → zM → Int → zM → Prop} {pr_X12_in : Int → Int → Int → zM → Prop} {po_X12_in : Int → Int → Int → zM → Int → zM → Prop} {pr_X12_copyDots : zM → Prop} {po_X12_copyDots : zM → zM → Prop} {pr_X12_change : zM → Prop} {po_X12_change : zM → Int → zM → Prop} (hS_X12_isDot : zSnd zS 145 0 0 yX12_isDot cX12_isDot 2 (some .boolean) 0 [2, 0] (F_X12_isDot pr_X12_isDot po_X12_isDot)) (hS_X12_in : zSnd zS 145 0 0 yX12_in cX12_in 6 (some .boolean) 0 [1, 1, 1] (F_X12_in pr_X12_in po_X12_in)) (hS_X12_copyDots : zSnd zS 145 0 0 yX12_copyDots cX12_copyDots 2 none 0 [2] (F_X12_copyDots pr_X12_copyDots po_X12_copyDots)) (hS_X12_change : zSnd zS 145 0 0 yX12_change cX12_change 3 (some .int) 0 [2] (F_X12_change pr_X12_change po_X12_change)) : zSnd zS 145 0 0 yX12_paint cX12_paint 4 (some .int) 1 [2, 0, 0] (fun xs P M => ∃ a1 a2 : Int, xs = [103, a1, a2] ∧ vc_X12_paint pr_X12_isDot po_X12_isDot pr_X12_in po_X12_in pr_X12_copyDots po_X12_copyDots pr_X12_change po_X12_change a1 a2 P M) := by
  refine zSnd.of rfl (fun ad xs hz => Nat.le_trans (Nat.le_of_eq (zlen ad _ xs hz)) (by decide)) ?_
  intro Γ C _ _ xs M hz hF
  obtain ⟨a1, a2, rfl, h⟩ := hF
  have zz_a1 := zall_h (zall_t hz) (by decide)
  have zz_a2 := zall_h (zall_t (zall_t hz)) (by decide)
  refine zr_rng (fun hR => ?_)
  have C : zC Γ mu_X12_paint := C
  change zV Γ mu_X12_paint (145, 0, 0) 0 [(0, zRf (zad Γ) 103), (1, zI a1), (2, zI a2)] [] M
  change vc_X12_paint pr_X12_isDot po_X12_isDot pr_X12_in po_X12_in pr_X12_copyDots po_X12_copyDots pr_X12_change po_X12_change a1 a2 _ M at h
  unfold vc_X12_paint at h
  refine zr_aload_n C 0 rfl (zdec_at dm_X12_paint 0 rfl) rfl ?_
  refine zr_iconst C (zdec_at dm_X12_paint 1 rfl) ?_
  refine zr_puti C fk_RX12_140 fi_103_0 (by decide) (zdec_at dm_X12_paint 2 rfl) (fun M1 e2 => ?_)
  have h := h M1 e2
  have hR3 : zRng M1 := by rw [e2]; exact hR.set (by decide) _ _
  refine zr_aload_n C 0 rfl (zdec_at dm_X12_paint 3 rfl) rfl ?_
  refine zr_iload_n C 1 rfl (zdec_at dm_X12_paint 4 rfl) rfl ?_
  obtain ⟨g9, h⟩ := h
  refine zr_callV C [a1] hS_X12_isDot ck_RX12_202 iv_X12_isDot vc_X12 oc_103 rfl rfl (zdec_at dm_X12_paint 5 rfl) ⟨rfl, rfl, rfl, rfl⟩ ⟨by decide, by decide⟩ (Nat.le_of_ble_eq_true rfl) (zall_0 zz_a1 zall_n) ?_
  refine ⟨_, rfl, g9, fun r4 M5 p8 z7 hR6 => ?_⟩
  have h := h r4 M5 p8 z7 hR6
  show zV Γ mu_X12_paint (145, 0, 0) 10 [(0, zRf (zad Γ) 103), (1, zI a1), (2, zI a2)] [zI r4] M5
  refine zr_if_eq C z7 (zdec_at dm_X12_paint 6 rfl) rfl (fun g10 => ?_) (fun g10 => ?_)
  · have h := h.1 g10
    refine zr_iconst C (zdec_at dm_X12_paint 13 rfl) ?_
    exact zr_ireturn C rfl (zdec_at dm_X12_paint 14 rfl) rfl ⟨(by decide), h⟩
  · have h := h.2 g10
    refine zr_iload_n C 2 rfl (zdec_at dm_X12_paint 7 rfl) rfl ?_
    refine zr_i2l C zz_a2 (zdec_at dm_X12_paint 8 rfl) ?_
    refine zr_lconst (v := 0) C (zdec_at dm_X12_paint 9 rfl) rfl ?_
    refine zr_ldc2 C (zdec_at dm_X12_paint 10 rfl) kc_RX12_214 ?_
    obtain ⟨g16, h⟩ := h
    refine zr_callS C [a2, 0, 15] hS_X12_in ck_RX12_156 sv_X12_in rfl rfl (zdec_at dm_X12_paint 11 rfl) ⟨rfl, rfl, rfl, rfl⟩ ⟨by decide, by decide⟩ (Nat.le_of_ble_eq_true rfl) (zall_1 zz_a2 (zall_1 (by decide) (zall_1 (by decide) zall_n))) ?_
    refine ⟨_, _, _, rfl, g16, fun r11 M12 p15 z14 hR13 => ?_⟩
    have h := h r11 M12 p15 z14 hR13
    show zV Γ mu_X12_paint (145, 0, 0) 22 [(0, zRf (zad Γ) 103), (1, zI a1), (2, zI a2)] [zI r11] M12
    refine zr_if_ne C z14 (zdec_at dm_X12_paint 12 rfl) rfl (fun g17 => ?_) (fun g17 => ?_)
    · have h := h.1 g17
      refine zr_aload_n C 0 rfl (zdec_at dm_X12_paint 15 rfl) rfl ?_
      refine zr_getr (q := 104) C fk_RX12_16 fi_103_3 (zdec_at dm_X12_paint 16 rfl) ?_
      refine zr_iload_n C 1 rfl (zdec_at dm_X12_paint 17 rfl) rfl ?_
      obtain ⟨o18, h⟩ := h
      refine zr_iald C ai_104 o18 (zdec_at dm_X12_paint 18 rfl) ?_
      refine zr_istore_n (L1 := [(3, zI (M12 104 a1)), (0, zRf (zad Γ) 103), (1, zI a1), (2, zI a2)]) C (zdec_at dm_X12_paint 19 rfl) rfl (Nat.le_of_ble_eq_true rfl) rfl ?_
      refine zr_aload_n C 1 rfl (zdec_at dm_X12_paint 20 rfl) rfl ?_
      obtain ⟨g23, h⟩ := h
      refine zr_callV C [] hS_X12_copyDots ck_RX12_216 iv_X12_copyDots vc_X12 oc_103 rfl rfl (zdec_at dm_X12_paint 21 rfl) ⟨rfl, rfl, rfl, rfl⟩ ⟨by decide, by decide⟩ (Nat.le_of_ble_eq_true rfl) zall_n ?_
      refine ⟨rfl, g23, fun M19 p22 _ hR20 => ?_⟩
      have h := h M19 p22 hR20
      show zV Γ mu_X12_paint (145, 0, 0) 38 [(3, zI (M12 104 a1)), (0, zRf (zad Γ) 103), (1, zI a1), (2, zI a2)] [] M19
      refine zr_aload_n C 1 rfl (zdec_at dm_X12_paint 22 rfl) rfl ?_
      refine zr_getr (q := 114) C fk_RX12_48 fi_103_28 (zdec_at dm_X12_paint 23 rfl) ?_
      refine zr_iload_n C 2 rfl (zdec_at dm_X12_paint 24 rfl) rfl ?_
      refine zr_iload_n C 3 rfl (zdec_at dm_X12_paint 25 rfl) rfl ?_
      refine zr_iast C ai_114 o18 zz_a2 (zdec_at dm_X12_paint 26 rfl) (fun M24 e25 => ?_)
      have h := h M24 e25
      have hR26 : zRng M24 := by rw [e25]; exact hR20.set zz_a2 _ _
      refine zr_aload_n C 1 rfl (zdec_at dm_X12_paint 27 rfl) rfl ?_
      obtain ⟨g32, h⟩ := h
      refine zr_callV C [] hS_X12_change ck_RX12_219 iv_X12_change vc_X12 oc_103 rfl rfl (zdec_at dm_X12_paint 28 rfl) ⟨rfl, rfl, rfl, rfl⟩ ⟨by decide, by decide⟩ (Nat.le_of_ble_eq_true rfl) zall_n ?_
      refine ⟨rfl, g32, fun r27 M28 p31 z30 hR29 => ?_⟩
      have h := h r27 M28 p31 z30 hR29
      show zV Γ mu_X12_paint (145, 0, 0) 49 [(3, zI (M12 104 a1)), (0, zRf (zad Γ) 103), (1, zI a1), (2, zI a2)] [zI r27] M28
      refine zr_pop C rfl (zdec_at dm_X12_paint 29 rfl) ?_
      refine zr_iload_n C 0 rfl (zdec_at dm_X12_paint 30 rfl) rfl ?_
      exact zr_ireturn C rfl (zdec_at dm_X12_paint 31 rfl) rfl ⟨(hR13 _ _), h⟩
    · have h := h.2 g17
      refine zr_iconst C (zdec_at dm_X12_paint 13 rfl) ?_
      exact zr_ireturn C rfl (zdec_at dm_X12_paint 14 rfl) rfl ⟨(by decide), h⟩

set_option maxHeartbeats 400000 in
set_option maxRecDepth 100000 in
theorem sn_X12_tone {pr_X12_in : Int → Int → Int → zM → Prop} {po_X12_in : Int → Int → Int → zM → Int → zM → Prop} (hS_X12_in : zSnd zS 145 0 0 yX12_in cX12_in 6 (some .boolean) 0 [1, 1, 1] (F_X12_in pr_X12_in po_X12_in)) : zSnd zS 145 0 0 yX12_tone cX12_tone 4 (some .int) 1 [2, 0, 0] (fun xs P M => ∃ a1 a2 : Int, xs = [103, a1, a2] ∧ vc_X12_tone pr_X12_in po_X12_in a1 a2 P M) := by
  refine zSnd.of rfl (fun ad xs hz => Nat.le_trans (Nat.le_of_eq (zlen ad _ xs hz)) (by decide)) ?_
  intro Γ C _ _ xs M hz hF
  obtain ⟨a1, a2, rfl, h⟩ := hF
  have zz_a1 := zall_h (zall_t hz) (by decide)
  have zz_a2 := zall_h (zall_t (zall_t hz)) (by decide)
  refine zr_rng (fun hR => ?_)
  have C : zC Γ mu_X12_tone := C
  change zV Γ mu_X12_tone (145, 0, 0) 0 [(0, zRf (zad Γ) 103), (1, zI a1), (2, zI a2)] [] M
  change vc_X12_tone pr_X12_in po_X12_in a1 a2 _ M at h
  unfold vc_X12_tone at h
  refine zr_aload_n C 0 rfl (zdec_at dm_X12_tone 0 rfl) rfl ?_
  refine zr_iconst C (zdec_at dm_X12_tone 1 rfl) ?_
  refine zr_puti C fk_RX12_140 fi_103_0 (by decide) (zdec_at dm_X12_tone 2 rfl) (fun M1 e2 => ?_)
  have h := h M1 e2
  have hR3 : zRng M1 := by rw [e2]; exact hR.set (by decide) _ _
  refine zr_iload_n C 1 rfl (zdec_at dm_X12_tone 3 rfl) rfl ?_
  refine zr_i2l C zz_a1 (zdec_at dm_X12_tone 4 rfl) ?_
  refine zr_lconst (v := 0) C (zdec_at dm_X12_tone 5 rfl) rfl ?_
  refine zr_ldc2 C (zdec_at dm_X12_tone 6 rfl) kc_RX12_214 ?_
  obtain ⟨g9, h⟩ := h
  refine zr_callS C [a1, 0, 15] hS_X12_in ck_RX12_156 sv_X12_in rfl rfl (zdec_at dm_X12_tone 7 rfl) ⟨rfl, rfl, rfl, rfl⟩ ⟨by decide, by decide⟩ (Nat.le_of_ble_eq_true rfl) (zall_1 zz_a1 (zall_1 (by decide) (zall_1 (by decide) zall_n))) ?_
  refine ⟨_, _, _, rfl, g9, fun r4 M5 p8 z7 hR6 => ?_⟩
  have h := h r4 M5 p8 z7 hR6
  show zV Γ mu_X12_tone (145, 0, 0) 14 [(0, zRf (zad Γ) 103), (1, zI a1), (2, zI a2)] [zI r4] M5
  refine zr_if_eq C z7 (zdec_at dm_X12_tone 8 rfl) rfl (fun g10 => ?_) (fun g10 => ?_)
  · have h := h.1 g10
    refine zr_iconst C (zdec_at dm_X12_tone 15 rfl) ?_
    exact zr_ireturn C rfl (zdec_at dm_X12_tone 16 rfl) rfl ⟨(by decide), h⟩
  · have h := h.2 g10
    refine zr_iload_n C 2 rfl (zdec_at dm_X12_tone 9 rfl) rfl ?_
    refine zr_i2l C zz_a2 (zdec_at dm_X12_tone 10 rfl) ?_
    refine zr_lconst (v := 0) C (zdec_at dm_X12_tone 11 rfl) rfl ?_
    refine zr_ldc2 C (zdec_at dm_X12_tone 12 rfl) kc_RX12_222 ?_
    obtain ⟨g16, h⟩ := h
    refine zr_callS C [a2, 0, 255] hS_X12_in ck_RX12_156 sv_X12_in rfl rfl (zdec_at dm_X12_tone 13 rfl) ⟨rfl, rfl, rfl, rfl⟩ ⟨by decide, by decide⟩ (Nat.le_of_ble_eq_true rfl) (zall_1 zz_a2 (zall_1 (by decide) (zall_1 (by decide) zall_n))) ?_
    refine ⟨_, _, _, rfl, g16, fun r11 M12 p15 z14 hR13 => ?_⟩
    have h := h r11 M12 p15 z14 hR13
    show zV Γ mu_X12_tone (145, 0, 0) 26 [(0, zRf (zad Γ) 103), (1, zI a1), (2, zI a2)] [zI r11] M12
    refine zr_if_ne C z14 (zdec_at dm_X12_tone 14 rfl) rfl (fun g17 => ?_) (fun g17 => ?_)
    · have h := h.1 g17
      refine zr_aload_n C 0 rfl (zdec_at dm_X12_tone 17 rfl) rfl ?_
      refine zr_getr (q := 105) C fk_RX12_20 fi_103_4 (zdec_at dm_X12_tone 18 rfl) ?_
      refine zr_iload_n C 1 rfl (zdec_at dm_X12_tone 19 rfl) rfl ?_
      obtain ⟨o18, h⟩ := h
      refine zr_iald C ai_105 o18 (zdec_at dm_X12_tone 20 rfl) ?_
      refine zr_istore_n (L1 := [(3, zI (M12 105 a1)), (0, zRf (zad Γ) 103), (1, zI a1), (2, zI a2)]) C (zdec_at dm_X12_tone 21 rfl) rfl (Nat.le_of_ble_eq_true rfl) rfl ?_
      refine zr_aload_n C 1 rfl (zdec_at dm_X12_tone 22 rfl) rfl ?_
      refine zr_getr (q := 105) C fk_RX12_20 fi_103_4 (zdec_at dm_X12_tone 23 rfl) ?_
      refine zr_iload_n C 2 rfl (zdec_at dm_X12_tone 24 rfl) rfl ?_
      refine zr_iload_n C 3 rfl (zdec_at dm_X12_tone 25 rfl) rfl ?_
      refine zr_iast C ai_105 o18 zz_a2 (zdec_at dm_X12_tone 26 rfl) (fun M19 e20 => ?_)
      have h := h M19 e20
      have hR21 : zRng M19 := by rw [e20]; exact hR13.set zz_a2 _ _
      refine zr_iload_n C 0 rfl (zdec_at dm_X12_tone 27 rfl) rfl ?_
      exact zr_ireturn C rfl (zdec_at dm_X12_tone 28 rfl) rfl ⟨(hR13 _ _), h⟩
    · have h := h.2 g17
      refine zr_iconst C (zdec_at dm_X12_tone 15 rfl) ?_
      exact zr_ireturn C rfl (zdec_at dm_X12_tone 16 rfl) rfl ⟨(by decide), h⟩

set_option maxHeartbeats 400000 in
set_option maxRecDepth 100000 in
theorem sn_X12_touch {pr_X12_in : Int → Int → Int → zM → Prop} {po_X12_in : Int → Int → Int → zM → Int → zM → Prop} (hS_X12_in : zSnd zS 145 0 0 yX12_in cX12_in 6 (some .boolean) 0 [1, 1, 1] (F_X12_in pr_X12_in po_X12_in)) : zSnd zS 145 0 0 yX12_touch cX12_touch 3 (some .int) 1 [2, 0] (fun xs P M => ∃ a1 : Int, xs = [103, a1] ∧ vc_X12_touch pr_X12_in po_X12_in a1 P M) := by
  refine zSnd.of rfl (fun ad xs hz => Nat.le_trans (Nat.le_of_eq (zlen ad _ xs hz)) (by decide)) ?_
  intro Γ C _ _ xs M hz hF
  obtain ⟨a1, rfl, h⟩ := hF
  have zz_a1 := zall_h (zall_t hz) (by decide)
  refine zr_rng (fun hR => ?_)
  have C : zC Γ mu_X12_touch := C
  change zV Γ mu_X12_touch (145, 0, 0) 0 [(0, zRf (zad Γ) 103), (1, zI a1)] [] M
  change vc_X12_touch pr_X12_in po_X12_in a1 _ M at h
  unfold vc_X12_touch at h
  refine zr_aload_n C 0 rfl (zdec_at dm_X12_touch 0 rfl) rfl ?_
  refine zr_iconst C (zdec_at dm_X12_touch 1 rfl) ?_
  refine zr_puti C fk_RX12_140 fi_103_0 (by decide) (zdec_at dm_X12_touch 2 rfl) (fun M1 e2 => ?_)
  have h := h M1 e2
  have hR3 : zRng M1 := by rw [e2]; exact hR.set (by decide) _ _
  refine zr_iload_n C 1 rfl (zdec_at dm_X12_touch 3 rfl) rfl ?_
  refine zr_i2l C zz_a1 (zdec_at dm_X12_touch 4 rfl) ?_
  refine zr_lconst (v := 0) C (zdec_at dm_X12_touch 5 rfl) rfl ?_
  refine zr_lconst (v := 1) C (zdec_at dm_X12_touch 6 rfl) rfl ?_
  obtain ⟨g9, h⟩ := h
  refine zr_callS C [a1, 0, 1] hS_X12_in ck_RX12_156 sv_X12_in rfl rfl (zdec_at dm_X12_touch 7 rfl) ⟨rfl, rfl, rfl, rfl⟩ ⟨by decide, by decide⟩ (Nat.le_of_ble_eq_true rfl) (zall_1 zz_a1 (zall_1 (by decide) (zall_1 (by decide) zall_n))) ?_
  refine ⟨_, _, _, rfl, g9, fun r4 M5 p8 z7 hR6 => ?_⟩
  have h := h r4 M5 p8 z7 hR6
  show zV Γ mu_X12_touch (145, 0, 0) 12 [(0, zRf (zad Γ) 103), (1, zI a1)] [zI r4] M5
  refine zr_if_ne C z7 (zdec_at dm_X12_touch 8 rfl) rfl (fun g10 => ?_) (fun g10 => ?_)
  · have h := h.1 g10
    refine zr_aload_n C 0 rfl (zdec_at dm_X12_touch 11 rfl) rfl ?_
    refine zr_geti C fk_RX12_224 fi_103_5 (zdec_at dm_X12_touch 12 rfl) ?_
    refine zr_istore_n (L1 := [(2, zI (M5 103 5)), (0, zRf (zad Γ) 103), (1, zI a1)]) C (zdec_at dm_X12_touch 13 rfl) rfl (Nat.le_of_ble_eq_true rfl) rfl ?_
    refine zr_aload_n C 1 rfl (zdec_at dm_X12_touch 14 rfl) rfl ?_
    refine zr_iload_n C 2 rfl (zdec_at dm_X12_touch 15 rfl) rfl ?_
    refine zr_puti C fk_RX12_224 fi_103_5 zz_a1 (zdec_at dm_X12_touch 16 rfl) (fun M11 e12 => ?_)
    have h := h M11 e12
    have hR13 : zRng M11 := by rw [e12]; exact hR6.set zz_a1 _ _
    refine zr_iload_n C 0 rfl (zdec_at dm_X12_touch 17 rfl) rfl ?_
    exact zr_ireturn C rfl (zdec_at dm_X12_touch 18 rfl) rfl ⟨(hR6 _ _), h⟩
  · have h := h.2 g10
    refine zr_iconst C (zdec_at dm_X12_touch 9 rfl) ?_
    exact zr_ireturn C rfl (zdec_at dm_X12_touch 10 rfl) rfl ⟨(by decide), h⟩

set_option maxHeartbeats 400000 in
set_option maxRecDepth 100000 in
theorem sn_X12_dx : zSnd zS 145 0 0 yX12_dx cX12_dx 1 (some .int) 0 [0] (fun xs P M => ∃ a0 : Int, xs = [a0] ∧ vc_X12_dx a0 P M) := by
  refine zSnd.of rfl (fun ad xs hz => Nat.le_trans (Nat.le_of_eq (zlen ad _ xs hz)) (by decide)) ?_
  intro Γ C _ _ xs M hz hF
  obtain ⟨a0, rfl, h⟩ := hF
  have zz_a0 := zall_h hz (by decide)
  refine zr_rng (fun hR => ?_)
  have C : zC Γ mu_X12_dx := C
  change zV Γ mu_X12_dx (145, 0, 0) 0 [(0, zI a0)] [] M
  change vc_X12_dx a0 _ M at h
  unfold vc_X12_dx at h
  refine zr_iload_n C 0 rfl (zdec_at dm_X12_dx 0 rfl) rfl ?_
  refine zr_if_eq C zz_a0 (zdec_at dm_X12_dx 1 rfl) rfl (fun g1 => ?_) (fun g1 => ?_)
  · have h := h.1 g1
    refine zr_iconst C (zdec_at dm_X12_dx 8 rfl) ?_
    refine zr_goto C (zdec_at dm_X12_dx 9 rfl) rfl ?_
    exact zr_ireturn C rfl (zdec_at dm_X12_dx 22 rfl) rfl ⟨(by decide), h⟩
  · have h := h.2 g1
    refine zr_iload_n C 0 rfl (zdec_at dm_X12_dx 2 rfl) rfl ?_
    refine zr_iconst C (zdec_at dm_X12_dx 3 rfl) ?_
    refine zr_icmp_eq C zz_a0 (by decide) (zdec_at dm_X12_dx 4 rfl) rfl (fun g2 => ?_) (fun g2 => ?_)
    · have h := h.1 g2
      refine zr_iconst C (zdec_at dm_X12_dx 8 rfl) ?_
      refine zr_goto C (zdec_at dm_X12_dx 9 rfl) rfl ?_
      exact zr_ireturn C rfl (zdec_at dm_X12_dx 22 rfl) rfl ⟨(by decide), h⟩
    · have h := h.2 g2
      refine zr_iload_n C 0 rfl (zdec_at dm_X12_dx 5 rfl) rfl ?_
      refine zr_iconst C (zdec_at dm_X12_dx 6 rfl) ?_
      refine zr_icmp_ne C zz_a0 (by decide) (zdec_at dm_X12_dx 7 rfl) rfl (fun g3 => ?_) (fun g3 => ?_)
      · have h := h.1 g3
        refine zr_iload_n C 0 rfl (zdec_at dm_X12_dx 10 rfl) rfl ?_
        refine zr_iconst C (zdec_at dm_X12_dx 11 rfl) ?_
        refine zr_icmp_eq C zz_a0 (by decide) (zdec_at dm_X12_dx 12 rfl) rfl (fun g4 => ?_) (fun g4 => ?_)
        · have h := h.1 g4
          refine zr_iconst C (zdec_at dm_X12_dx 19 rfl) ?_
          refine zr_goto C (zdec_at dm_X12_dx 20 rfl) rfl ?_
          exact zr_ireturn C rfl (zdec_at dm_X12_dx 22 rfl) rfl ⟨(by decide), h⟩
        · have h := h.2 g4
          refine zr_iload_n C 0 rfl (zdec_at dm_X12_dx 13 rfl) rfl ?_
          refine zr_bipush C (zdec_at dm_X12_dx 14 rfl) (by decide) ?_
          refine zr_icmp_eq C zz_a0 (by decide) (zdec_at dm_X12_dx 15 rfl) rfl (fun g5 => ?_) (fun g5 => ?_)
          · have h := h.1 g5
            refine zr_iconst C (zdec_at dm_X12_dx 19 rfl) ?_
            refine zr_goto C (zdec_at dm_X12_dx 20 rfl) rfl ?_
            exact zr_ireturn C rfl (zdec_at dm_X12_dx 22 rfl) rfl ⟨(by decide), h⟩
          · have h := h.2 g5
            refine zr_iload_n C 0 rfl (zdec_at dm_X12_dx 16 rfl) rfl ?_
            refine zr_bipush C (zdec_at dm_X12_dx 17 rfl) (by decide) ?_
            refine zr_icmp_ne C zz_a0 (by decide) (zdec_at dm_X12_dx 18 rfl) rfl (fun g6 => ?_) (fun g6 => ?_)
            · have h := h.1 g6
              refine zr_iconst C (zdec_at dm_X12_dx 21 rfl) ?_
              exact zr_ireturn C rfl (zdec_at dm_X12_dx 22 rfl) rfl ⟨(by decide), h⟩
            · have h := h.2 g6
              refine zr_iconst C (zdec_at dm_X12_dx 19 rfl) ?_
              refine zr_goto C (zdec_at dm_X12_dx 20 rfl) rfl ?_
              exact zr_ireturn C rfl (zdec_at dm_X12_dx 22 rfl) rfl ⟨(by decide), h⟩
      · have h := h.2 g3
        refine zr_iconst C (zdec_at dm_X12_dx 8 rfl) ?_
        refine zr_goto C (zdec_at dm_X12_dx 9 rfl) rfl ?_
        exact zr_ireturn C rfl (zdec_at dm_X12_dx 22 rfl) rfl ⟨(by decide), h⟩

set_option maxHeartbeats 400000 in
set_option maxRecDepth 100000 in
theorem sn_X12_dy : zSnd zS 145 0 0 yX12_dy cX12_dy 1 (some .int) 0 [0] (fun xs P M => ∃ a0 : Int, xs = [a0] ∧ vc_X12_dy a0 P M) := by
  refine zSnd.of rfl (fun ad xs hz => Nat.le_trans (Nat.le_of_eq (zlen ad _ xs hz)) (by decide)) ?_
  intro Γ C _ _ xs M hz hF
  obtain ⟨a0, rfl, h⟩ := hF
  have zz_a0 := zall_h hz (by decide)
  refine zr_rng (fun hR => ?_)
  have C : zC Γ mu_X12_dy := C
  change zV Γ mu_X12_dy (145, 0, 0) 0 [(0, zI a0)] [] M
  change vc_X12_dy a0 _ M at h
  unfold vc_X12_dy at h
  refine zr_iload_n C 0 rfl (zdec_at dm_X12_dy 0 rfl) rfl ?_
  refine zr_iconst C (zdec_at dm_X12_dy 1 rfl) ?_
  refine zr_icmp_eq C zz_a0 (by decide) (zdec_at dm_X12_dy 2 rfl) rfl (fun g1 => ?_) (fun g1 => ?_)
  · have h := h.1 g1
    refine zr_iconst C (zdec_at dm_X12_dy 9 rfl) ?_
    refine zr_goto C (zdec_at dm_X12_dy 10 rfl) rfl ?_
    exact zr_ireturn C rfl (zdec_at dm_X12_dy 23 rfl) rfl ⟨(by decide), h⟩
  · have h := h.2 g1
    refine zr_iload_n C 0 rfl (zdec_at dm_X12_dy 3 rfl) rfl ?_
    refine zr_iconst C (zdec_at dm_X12_dy 4 rfl) ?_
    refine zr_icmp_eq C zz_a0 (by decide) (zdec_at dm_X12_dy 5 rfl) rfl (fun g2 => ?_) (fun g2 => ?_)
    · have h := h.1 g2
      refine zr_iconst C (zdec_at dm_X12_dy 9 rfl) ?_
      refine zr_goto C (zdec_at dm_X12_dy 10 rfl) rfl ?_
      exact zr_ireturn C rfl (zdec_at dm_X12_dy 23 rfl) rfl ⟨(by decide), h⟩
    · have h := h.2 g2
      refine zr_iload_n C 0 rfl (zdec_at dm_X12_dy 6 rfl) rfl ?_
      refine zr_bipush C (zdec_at dm_X12_dy 7 rfl) (by decide) ?_
      refine zr_icmp_ne C zz_a0 (by decide) (zdec_at dm_X12_dy 8 rfl) rfl (fun g3 => ?_) (fun g3 => ?_)
      · have h := h.1 g3
        refine zr_iload_n C 0 rfl (zdec_at dm_X12_dy 11 rfl) rfl ?_
        refine zr_iconst C (zdec_at dm_X12_dy 12 rfl) ?_
        refine zr_icmp_eq C zz_a0 (by decide) (zdec_at dm_X12_dy 13 rfl) rfl (fun g4 => ?_) (fun g4 => ?_)
        · have h := h.1 g4
          refine zr_iconst C (zdec_at dm_X12_dy 20 rfl) ?_
          refine zr_goto C (zdec_at dm_X12_dy 21 rfl) rfl ?_
          exact zr_ireturn C rfl (zdec_at dm_X12_dy 23 rfl) rfl ⟨(by decide), h⟩
        · have h := h.2 g4
          refine zr_iload_n C 0 rfl (zdec_at dm_X12_dy 14 rfl) rfl ?_
          refine zr_iconst C (zdec_at dm_X12_dy 15 rfl) ?_
          refine zr_icmp_eq C zz_a0 (by decide) (zdec_at dm_X12_dy 16 rfl) rfl (fun g5 => ?_) (fun g5 => ?_)
          · have h := h.1 g5
            refine zr_iconst C (zdec_at dm_X12_dy 20 rfl) ?_
            refine zr_goto C (zdec_at dm_X12_dy 21 rfl) rfl ?_
            exact zr_ireturn C rfl (zdec_at dm_X12_dy 23 rfl) rfl ⟨(by decide), h⟩
          · have h := h.2 g5
            refine zr_iload_n C 0 rfl (zdec_at dm_X12_dy 17 rfl) rfl ?_
            refine zr_bipush C (zdec_at dm_X12_dy 18 rfl) (by decide) ?_
            refine zr_icmp_ne C zz_a0 (by decide) (zdec_at dm_X12_dy 19 rfl) rfl (fun g6 => ?_) (fun g6 => ?_)
            · have h := h.1 g6
              refine zr_iconst C (zdec_at dm_X12_dy 22 rfl) ?_
              exact zr_ireturn C rfl (zdec_at dm_X12_dy 23 rfl) rfl ⟨(by decide), h⟩
            · have h := h.2 g6
              refine zr_iconst C (zdec_at dm_X12_dy 20 rfl) ?_
              refine zr_goto C (zdec_at dm_X12_dy 21 rfl) rfl ?_
              exact zr_ireturn C rfl (zdec_at dm_X12_dy 23 rfl) rfl ⟨(by decide), h⟩
      · have h := h.2 g3
        refine zr_iconst C (zdec_at dm_X12_dy 9 rfl) ?_
        refine zr_goto C (zdec_at dm_X12_dy 10 rfl) rfl ?_
        exact zr_ireturn C rfl (zdec_at dm_X12_dy 23 rfl) rfl ⟨(by decide), h⟩

set_option maxHeartbeats 400000 in
set_option maxRecDepth 100000 in
theorem sn_X12_beside {pr_X12_dx : Int → zM → Prop} {po_X12_dx : Int → zM → Int → zM → Prop} {pr_X12_dy : Int → zM → Prop} {po_X12_dy : Int → zM → Int → zM → Prop} (hS_X12_dx : zSnd zS 145 0 0 yX12_dx cX12_dx 1 (some .int) 0 [0] (F_X12_dx pr_X12_dx po_X12_dx)) (hS_X12_dy : zSnd zS 145 0 0 yX12_dy cX12_dy 1 (some .int) 0 [0] (F_X12_dy pr_X12_dy po_X12_dy)) : zSnd zS 145 0 0 yX12_beside cX12_beside 5 (some .int) 1 [2, 0, 0] (fun xs P M => ∃ a1 a2 : Int, xs = [103, a1, a2] ∧ vc_X12_beside pr_X12_dx po_X12_dx pr_X12_dy po_X12_dy a1 a2 P M) := by
  refine zSnd.of rfl (fun ad xs hz => Nat.le_trans (Nat.le_of_eq (zlen ad _ xs hz)) (by decide)) ?_
  intro Γ C _ _ xs M hz hF
  obtain ⟨a1, a2, rfl, h⟩ := hF
  have zz_a1 := zall_h (zall_t hz) (by decide)
  have zz_a2 := zall_h (zall_t (zall_t hz)) (by decide)
  refine zr_rng (fun hR => ?_)
  have C : zC Γ mu_X12_beside := C
  change zV Γ mu_X12_beside (145, 0, 0) 0 [(0, zRf (zad Γ) 103), (1, zI a1), (2, zI a2)] [] M
  change vc_X12_beside pr_X12_dx po_X12_dx pr_X12_dy po_X12_dy a1 a2 _ M at h
  unfold vc_X12_beside at h
  refine zr_iload_n C 1 rfl (zdec_at dm_X12_beside 0 rfl) rfl ?_
  refine zr_bipush C (zdec_at dm_X12_beside 1 rfl) (by decide) ?_
  obtain ⟨o1, h⟩ := h
  refine zr_irem C zz_a1 (by decide) ⟨o1, by decide⟩ (zdec_at dm_X12_beside 2 rfl) ?_
  refine zr_iload_n C 2 rfl (zdec_at dm_X12_beside 3 rfl) rfl ?_
  obtain ⟨g7, h⟩ := h
  refine zr_callS C [a2] hS_X12_dx ck_RX12_227 sv_X12_dx rfl rfl (zdec_at dm_X12_beside 4 rfl) ⟨rfl, rfl, rfl, rfl⟩ ⟨by decide, by decide⟩ (Nat.le_of_ble_eq_true rfl) (zall_0 zz_a2 zall_n) ?_
  refine ⟨_, rfl, g7, fun r2 M3 p6 z5 hR4 => ?_⟩
  have h := h r2 M3 p6 z5 hR4
  show zV Γ mu_X12_beside (145, 0, 0) 8 [(0, zRf (zad Γ) 103), (1, zI a1), (2, zI a2)] [zI r2, zI (a1 % 16)] M3
  refine zr_iadd C (zdec_at dm_X12_beside 5 rfl) ?_
  refine zr_istore_n (L1 := [(3, zI ((a1 % 16) + r2)), (0, zRf (zad Γ) 103), (1, zI a1), (2, zI a2)]) C (zdec_at dm_X12_beside 6 rfl) rfl (Nat.le_of_ble_eq_true rfl) rfl ?_
  refine zr_iload_n C 2 rfl (zdec_at dm_X12_beside 7 rfl) rfl ?_
  refine zr_bipush C (zdec_at dm_X12_beside 8 rfl) (by decide) ?_
  refine zr_idiv C zz_a1 (by decide) ⟨o1, by decide⟩ (zdec_at dm_X12_beside 9 rfl) ?_
  refine zr_iload_n C 3 rfl (zdec_at dm_X12_beside 10 rfl) rfl ?_
  obtain ⟨g13, h⟩ := h
  refine zr_callS C [a2] hS_X12_dy ck_RX12_230 sv_X12_dy rfl rfl (zdec_at dm_X12_beside 11 rfl) ⟨rfl, rfl, rfl, rfl⟩ ⟨by decide, by decide⟩ (Nat.le_of_ble_eq_true rfl) (zall_0 zz_a2 zall_n) ?_
  refine ⟨_, rfl, g13, fun r8 M9 p12 z11 hR10 => ?_⟩
  have h := h r8 M9 p12 z11 hR10
  show zV Γ mu_X12_beside (145, 0, 0) 18 [(3, zI ((a1 % 16) + r2)), (0, zRf (zad Γ) 103), (1, zI a1), (2, zI a2)] [zI r8, zI (a1 / 16)] M9
  refine zr_iadd C (zdec_at dm_X12_beside 12 rfl) ?_
  refine zr_istore (L1 := [(4, zI ((a1 / 16) + r8)), (3, zI ((a1 % 16) + r2)), (0, zRf (zad Γ) 103), (1, zI a1), (2, zI a2)]) C (zdec_at dm_X12_beside 13 rfl) (Nat.le_of_ble_eq_true rfl) rfl ?_
  refine zr_iload_n C 1 rfl (zdec_at dm_X12_beside 14 rfl) rfl ?_
  obtain ⟨o14, h⟩ := h
  refine zr_if_lt C o14 (zdec_at dm_X12_beside 15 rfl) rfl (fun g15 => ?_) (fun g15 => ?_)
  · have h := h.1 g15
    refine zr_iconst C (zdec_at dm_X12_beside 26 rfl) ?_
    refine zr_goto C (zdec_at dm_X12_beside 27 rfl) rfl ?_
    exact zr_ireturn C rfl (zdec_at dm_X12_beside 33 rfl) rfl ⟨(by decide), h⟩
  · have h := h.2 g15
    refine zr_iload_n C 1 rfl (zdec_at dm_X12_beside 16 rfl) rfl ?_
    refine zr_aload_n C 2 rfl (zdec_at dm_X12_beside 17 rfl) rfl ?_
    refine zr_geti C fk_RX12_7 fi_103_1 (zdec_at dm_X12_beside 18 rfl) ?_
    refine zr_icmp_ge C o14 (hR10 _ _) (zdec_at dm_X12_beside 19 rfl) rfl (fun g16 => ?_) (fun g16 => ?_)
    · have h := h.1 g16
      refine zr_iconst C (zdec_at dm_X12_beside 26 rfl) ?_
      refine zr_goto C (zdec_at dm_X12_beside 27 rfl) rfl ?_
      exact zr_ireturn C rfl (zdec_at dm_X12_beside 33 rfl) rfl ⟨(by decide), h⟩
    · have h := h.2 g16
      refine zr_iload C 0 rfl (zdec_at dm_X12_beside 20 rfl) ?_
      obtain ⟨o17, h⟩ := h
      refine zr_if_lt C o17 (zdec_at dm_X12_beside 21 rfl) rfl (fun g18 => ?_) (fun g18 => ?_)
      · have h := h.1 g18
        refine zr_iconst C (zdec_at dm_X12_beside 26 rfl) ?_
        refine zr_goto C (zdec_at dm_X12_beside 27 rfl) rfl ?_
        exact zr_ireturn C rfl (zdec_at dm_X12_beside 33 rfl) rfl ⟨(by decide), h⟩
      · have h := h.2 g18
        refine zr_iload C 0 rfl (zdec_at dm_X12_beside 22 rfl) ?_
        refine zr_aload_n C 2 rfl (zdec_at dm_X12_beside 23 rfl) rfl ?_
        refine zr_geti C fk_RX12_13 fi_103_2 (zdec_at dm_X12_beside 24 rfl) ?_
        refine zr_icmp_lt C o17 (hR10 _ _) (zdec_at dm_X12_beside 25 rfl) rfl (fun g19 => ?_) (fun g19 => ?_)
        · have h := h.1 g19
          refine zr_bipush C (zdec_at dm_X12_beside 28 rfl) (by decide) ?_
          refine zr_iload C 0 rfl (zdec_at dm_X12_beside 29 rfl) ?_
          refine zr_imul C (zdec_at dm_X12_beside 30 rfl) ?_
          refine zr_iload_n C 1 rfl (zdec_at dm_X12_beside 31 rfl) rfl ?_
          refine zr_iadd C (zdec_at dm_X12_beside 32 rfl) ?_
          obtain ⟨o20, h⟩ := h
          exact zr_ireturn C rfl (zdec_at dm_X12_beside 33 rfl) rfl ⟨o20, h⟩
        · have h := h.2 g19
          refine zr_iconst C (zdec_at dm_X12_beside 26 rfl) ?_
          refine zr_goto C (zdec_at dm_X12_beside 27 rfl) rfl ?_
          exact zr_ireturn C rfl (zdec_at dm_X12_beside 33 rfl) rfl ⟨(by decide), h⟩

set_option maxHeartbeats 400000 in
set_option maxRecDepth 100000 in
theorem sn_X12_findFaces {pr_X12_isDot : Int → zM → Prop} {po_X12_isDot : Int → zM → Int → zM → Prop} {pr_X12_beside : Int → Int → zM → Prop} {po_X12_beside : Int → Int → zM → Int → zM → Prop} (hS_X12_isDot : zSnd zS 145 0 0 yX12_isDot cX12_isDot 2 (some .boolean) 0 [2, 0] (F_X12_isDot pr_X12_isDot po_X12_isDot)) (hS_X12_beside : zSnd zS 145 0 0 yX12_beside cX12_beside 5 (some .int) 1 [2, 0, 0] (F_X12_beside pr_X12_beside po_X12_beside)) : zSnd zS 145 0 0 yX12_findFaces cX12_findFaces 6 none 2 [2] (fun xs P M => xs = [103] ∧ vc_X12_findFaces pr_X12_isDot po_X12_isDot pr_X12_beside po_X12_beside P M) := by
  refine zSnd.of rfl (fun ad xs hz => Nat.le_trans (Nat.le_of_eq (zlen ad _ xs hz)) (by decide)) ?_
  intro Γ C _ _ xs M hz hF
  obtain ⟨rfl, h⟩ := hF
  refine zr_rng (fun hR => ?_)
  have C : zC Γ mu_X12_findFaces := C
  change zV Γ mu_X12_findFaces (145, 0, 0) 0 [(0, zRf (zad Γ) 103)] [] M
  change vc_X12_findFaces pr_X12_isDot po_X12_isDot pr_X12_beside po_X12_beside _ M at h
  unfold vc_X12_findFaces at h
  refine zr_aload_n C 0 rfl (zdec_at dm_X12_findFaces 0 rfl) rfl ?_
  refine zr_iconst C (zdec_at dm_X12_findFaces 1 rfl) ?_
  refine zr_puti C fk_RX12_233 fi_103_30 (by decide) (zdec_at dm_X12_findFaces 2 rfl) (fun M1 e2 => ?_)
  have h := h M1 e2
  have hR3 : zRng M1 := by rw [e2]; exact hR.set (by decide) _ _
  refine zr_iconst C (zdec_at dm_X12_findFaces 3 rfl) ?_
  refine zr_istore_n (L1 := [(1, zI 0), (0, zRf (zad Γ) 103)]) C (zdec_at dm_X12_findFaces 4 rfl) rfl (Nat.le_of_ble_eq_true rfl) rfl ?_
  obtain ⟨I7, ⟨n12, q13⟩, hI11⟩ := h
  have lp10 : ∀ (n8 : Nat) (v4 : Int) (M6 : zM), I7 v4 M6 n8 → zin v4 → zRng M6 → zV Γ mu_X12_findFaces (145, 0, 0) 7 [(0, zRf (zad Γ) 103), (1, zI v4)] [] M6 := by
    intro n8
    induction n8 using Nat.strongRecOn with
    | _ n8 ih9 =>
    intro v4 M6 q14 z5 hR7
    have h := hI11 v4 M6 n8 q14 z5 hR7
    refine zr_iload_n C 1 rfl (zdec_at dm_X12_findFaces 5 rfl) rfl ?_
    refine zr_sipush C (zdec_at dm_X12_findFaces 6 rfl) (by decide) ?_
    refine zr_icmp_ge C z5 (by decide) (zdec_at dm_X12_findFaces 7 rfl) rfl (fun g15 => ?_) (fun g15 => ?_)
    · have h := h.1 g15
      refine zr_iconst C (zdec_at dm_X12_findFaces 15 rfl) ?_
      refine zr_istore_n (L1 := [(1, zI 0), (0, zRf (zad Γ) 103)]) C (zdec_at dm_X12_findFaces 16 rfl) rfl (Nat.le_of_ble_eq_true rfl) rfl ?_
      obtain ⟨I29, ⟨n24, q25⟩, hI23⟩ := h
      have lp22 : ∀ (n20 : Nat) (v16 : Int) (M18 : zM), I29 v16 M18 n20 → zin v16 → zRng M18 → zV Γ mu_X12_findFaces (145, 0, 0) 29 [(0, zRf (zad Γ) 103), (1, zI v16)] [] M18 := by
        intro n20
        induction n20 using Nat.strongRecOn with
        | _ n20 ih21 =>
        intro v16 M18 q26 z17 hR19
        have h := hI23 v16 M18 n20 q26 z17 hR19
        refine zr_iload_n C 1 rfl (zdec_at dm_X12_findFaces 17 rfl) rfl ?_
        refine zr_bipush C (zdec_at dm_X12_findFaces 18 rfl) (by decide) ?_
        refine zr_aload_n C 0 rfl (zdec_at dm_X12_findFaces 19 rfl) rfl ?_
        refine zr_geti C fk_RX12_13 fi_103_2 (zdec_at dm_X12_findFaces 20 rfl) ?_
        refine zr_imul C (zdec_at dm_X12_findFaces 21 rfl) ?_
        obtain ⟨o27, h⟩ := h
        refine zr_icmp_ge C z17 o27 (zdec_at dm_X12_findFaces 22 rfl) rfl (fun g28 => ?_) (fun g28 => ?_)
        · have h := h.1 g28
          exact zr_return C rfl rfl (zdec_at dm_X12_findFaces 121 rfl) rfl ⟨by decide, h⟩
        · have h := h.2 g28
          refine zr_aload_n C 0 rfl (zdec_at dm_X12_findFaces 23 rfl) rfl ?_
          refine zr_iload_n C 1 rfl (zdec_at dm_X12_findFaces 24 rfl) rfl ?_
          obtain ⟨g34, h⟩ := h
          refine zr_callV C [v16] hS_X12_isDot ck_RX12_202 iv_X12_isDot vc_X12 oc_103 rfl rfl (zdec_at dm_X12_findFaces 25 rfl) ⟨rfl, rfl, rfl, rfl⟩ ⟨by decide, by decide⟩ (Nat.le_of_ble_eq_true rfl) (zall_0 z17 zall_n) ?_
          refine ⟨_, rfl, g34, fun r29 M30 p33 z32 hR31 => ?_⟩
          have h := h r29 M30 p33 z32 hR31
          show zV Γ mu_X12_findFaces (145, 0, 0) 45 [(0, zRf (zad Γ) 103), (1, zI v16)] [zI r29] M30
          refine zr_if_eq C z32 (zdec_at dm_X12_findFaces 26 rfl) rfl (fun g35 => ?_) (fun g35 => ?_)
          · have h := h.1 g35
            refine zr_iinc (L1 := [(1, zI (v16 + 1)), (0, zRf (zad Γ) 103)]) C 1 rfl (zdec_at dm_X12_findFaces 119 rfl) (Nat.le_of_ble_eq_true rfl) rfl ?_
            refine zr_goto C (zdec_at dm_X12_findFaces 120 rfl) rfl ?_
            obtain ⟨o36, h⟩ := h
            obtain ⟨n37, q38, q39⟩ := h
            exact zr_sub [1, 0] rfl (ih21 n37 q38 _ _ q39 o36 hR31)
          · have h := h.2 g35
            refine zr_aload_n C 0 rfl (zdec_at dm_X12_findFaces 27 rfl) rfl ?_
            refine zr_getr (q := 115) C fk_RX12_51 fi_103_29 (zdec_at dm_X12_findFaces 28 rfl) ?_
            refine zr_iload_n C 1 rfl (zdec_at dm_X12_findFaces 29 rfl) rfl ?_
            obtain ⟨o40, h⟩ := h
            refine zr_iald C ai_115 o40 (zdec_at dm_X12_findFaces 30 rfl) ?_
            refine zr_if_ge C (hR31 _ _) (zdec_at dm_X12_findFaces 31 rfl) rfl (fun g41 => ?_) (fun g41 => ?_)
            · have h := h.1 g41
              refine zr_iinc (L1 := [(1, zI (v16 + 1)), (0, zRf (zad Γ) 103)]) C 1 rfl (zdec_at dm_X12_findFaces 119 rfl) (Nat.le_of_ble_eq_true rfl) rfl ?_
              refine zr_goto C (zdec_at dm_X12_findFaces 120 rfl) rfl ?_
              obtain ⟨o42, h⟩ := h
              obtain ⟨n43, q44, q45⟩ := h
              exact zr_sub [1, 0] rfl (ih21 n43 q44 _ _ q45 o42 hR31)
            · have h := h.2 g41
              refine zr_aload_n C 0 rfl (zdec_at dm_X12_findFaces 32 rfl) rfl ?_
              refine zr_getr (q := 116) C fk_RX12_54 fi_103_31 (zdec_at dm_X12_findFaces 33 rfl) ?_
              refine zr_aload_n C 0 rfl (zdec_at dm_X12_findFaces 34 rfl) rfl ?_
              refine zr_geti C fk_RX12_233 fi_103_30 (zdec_at dm_X12_findFaces 35 rfl) ?_
              refine zr_iload_n C 1 rfl (zdec_at dm_X12_findFaces 36 rfl) rfl ?_
              obtain ⟨o46, h⟩ := h
              refine zr_iast C ai_116 o46 z17 (zdec_at dm_X12_findFaces 37 rfl) (fun M47 e48 => ?_)
              have h := h M47 e48
              have hR49 : zRng M47 := by rw [e48]; exact hR31.set z17 _ _
              refine zr_aload_n C 0 rfl (zdec_at dm_X12_findFaces 38 rfl) rfl ?_
              refine zr_getr (q := 115) C fk_RX12_51 fi_103_29 (zdec_at dm_X12_findFaces 39 rfl) ?_
              refine zr_iload_n C 1 rfl (zdec_at dm_X12_findFaces 40 rfl) rfl ?_
              refine zr_aload_n C 0 rfl (zdec_at dm_X12_findFaces 41 rfl) rfl ?_
              refine zr_geti C fk_RX12_233 fi_103_30 (zdec_at dm_X12_findFaces 42 rfl) ?_
              refine zr_iast C ai_115 o40 (hR49 _ _) (zdec_at dm_X12_findFaces 43 rfl) (fun M50 e51 => ?_)
              have h := h M50 e51
              have hR52 : zRng M50 := by rw [e51]; exact hR49.set (hR49 _ _) _ _
              refine zr_iconst C (zdec_at dm_X12_findFaces 44 rfl) ?_
              refine zr_istore_n (L1 := [(2, zI 1), (0, zRf (zad Γ) 103), (1, zI v16)]) C (zdec_at dm_X12_findFaces 45 rfl) rfl (Nat.le_of_ble_eq_true rfl) rfl ?_
              obtain ⟨I79, ⟨n61, q62⟩, hI60⟩ := h
              have lp59 : ∀ (n57 : Nat) (v53 : Int) (M55 : zM), I79 v53 M55 n57 → zin v53 → zRng M55 → zV Γ mu_X12_findFaces (145, 0, 0) 79 [(0, zRf (zad Γ) 103), (1, zI v16), (2, zI v53)] [] M55 := by
                intro n57
                induction n57 using Nat.strongRecOn with
                | _ n57 ih58 =>
                intro v53 M55 q63 z54 hR56
                have h := hI60 v53 M55 n57 q63 z54 hR56
                refine zr_iload_n C 2 rfl (zdec_at dm_X12_findFaces 46 rfl) rfl ?_
                refine zr_if_eq C z54 (zdec_at dm_X12_findFaces 47 rfl) rfl (fun g64 => ?_) (fun g64 => ?_)
                · have h := h.1 g64
                  refine zr_aload_n C 0 rfl (zdec_at dm_X12_findFaces 113 rfl) rfl ?_
                  refine zr_dup C rfl (zdec_at dm_X12_findFaces 114 rfl) ?_
                  refine zr_geti C fk_RX12_233 fi_103_30 (zdec_at dm_X12_findFaces 115 rfl) ?_
                  refine zr_iconst C (zdec_at dm_X12_findFaces 116 rfl) ?_
                  refine zr_iadd C (zdec_at dm_X12_findFaces 117 rfl) ?_
                  obtain ⟨o65, h⟩ := h
                  refine zr_puti C fk_RX12_233 fi_103_30 o65 (zdec_at dm_X12_findFaces 118 rfl) (fun M66 e67 => ?_)
                  have h := h M66 e67
                  have hR68 : zRng M66 := by rw [e67]; exact hR56.set o65 _ _
                  refine zr_iinc (L1 := [(1, zI (v16 + 1)), (0, zRf (zad Γ) 103), (2, zI v53)]) C 1 rfl (zdec_at dm_X12_findFaces 119 rfl) (Nat.le_of_ble_eq_true rfl) rfl ?_
                  refine zr_goto C (zdec_at dm_X12_findFaces 120 rfl) rfl ?_
                  obtain ⟨o69, h⟩ := h
                  obtain ⟨n70, q71, q72⟩ := h
                  exact zr_sub [1, 0] rfl (ih21 n70 q71 _ _ q72 o69 hR68)
                · have h := h.2 g64
                  refine zr_iconst C (zdec_at dm_X12_findFaces 48 rfl) ?_
                  refine zr_istore_n (L1 := [(2, zI 0), (0, zRf (zad Γ) 103), (1, zI v16)]) C (zdec_at dm_X12_findFaces 49 rfl) rfl (Nat.le_of_ble_eq_true rfl) rfl ?_
                  refine zr_iconst C (zdec_at dm_X12_findFaces 50 rfl) ?_
                  refine zr_istore_n (L1 := [(3, zI 0), (2, zI 0), (0, zRf (zad Γ) 103), (1, zI v16)]) C (zdec_at dm_X12_findFaces 51 rfl) rfl (Nat.le_of_ble_eq_true rfl) rfl ?_
                  obtain ⟨I87, ⟨n83, q84⟩, hI82⟩ := h
                  have lp81 : ∀ (n79 : Nat) (v73 : Int) (v74 : Int) (M77 : zM), I87 v73 v74 M77 n79 → zin v73 → zin v74 → zRng M77 → zV Γ mu_X12_findFaces (145, 0, 0) 87 [(0, zRf (zad Γ) 103), (1, zI v16), (2, zI v73), (3, zI v74)] [] M77 := by
                    intro n79
                    induction n79 using Nat.strongRecOn with
                    | _ n79 ih80 =>
                    intro v73 v74 M77 q85 z75 z76 hR78
                    have h := hI82 v73 v74 M77 n79 q85 z75 z76 hR78
                    refine zr_iload_n C 3 rfl (zdec_at dm_X12_findFaces 52 rfl) rfl ?_
                    refine zr_bipush C (zdec_at dm_X12_findFaces 53 rfl) (by decide) ?_
                    refine zr_aload_n C 0 rfl (zdec_at dm_X12_findFaces 54 rfl) rfl ?_
                    refine zr_geti C fk_RX12_13 fi_103_2 (zdec_at dm_X12_findFaces 55 rfl) ?_
                    refine zr_imul C (zdec_at dm_X12_findFaces 56 rfl) ?_
                    obtain ⟨o86, h⟩ := h
                    refine zr_icmp_ge C z76 o86 (zdec_at dm_X12_findFaces 57 rfl) rfl (fun g87 => ?_) (fun g87 => ?_)
                    · have h := h.1 g87
                      refine zr_goto C (zdec_at dm_X12_findFaces 112 rfl) rfl ?_
                      obtain ⟨n88, q89, q90⟩ := h
                      exact zr_sub [0, 1, 2] rfl (ih58 n88 q89 _ _ q90 z75 hR78)
                    · have h := h.2 g87
                      refine zr_aload_n C 0 rfl (zdec_at dm_X12_findFaces 58 rfl) rfl ?_
                      refine zr_iload_n C 3 rfl (zdec_at dm_X12_findFaces 59 rfl) rfl ?_
                      obtain ⟨g96, h⟩ := h
                      refine zr_callV C [v74] hS_X12_isDot ck_RX12_202 iv_X12_isDot vc_X12 oc_103 rfl rfl (zdec_at dm_X12_findFaces 60 rfl) ⟨rfl, rfl, rfl, rfl⟩ ⟨by decide, by decide⟩ (Nat.le_of_ble_eq_true rfl) (zall_0 z76 zall_n) ?_
                      refine ⟨_, rfl, g96, fun r91 M92 p95 z94 hR93 => ?_⟩
                      have h := h r91 M92 p95 z94 hR93
                      show zV Γ mu_X12_findFaces (145, 0, 0) 103 [(0, zRf (zad Γ) 103), (1, zI v16), (2, zI v73), (3, zI v74)] [zI r91] M92
                      refine zr_if_eq C z94 (zdec_at dm_X12_findFaces 61 rfl) rfl (fun g97 => ?_) (fun g97 => ?_)
                      · have h := h.1 g97
                        refine zr_iinc (L1 := [(3, zI (v74 + 1)), (0, zRf (zad Γ) 103), (1, zI v16), (2, zI v73)]) C 3 rfl (zdec_at dm_X12_findFaces 110 rfl) (Nat.le_of_ble_eq_true rfl) rfl ?_
                        refine zr_goto C (zdec_at dm_X12_findFaces 111 rfl) rfl ?_
                        obtain ⟨o98, h⟩ := h
                        obtain ⟨n99, q100, q101⟩ := h
                        exact zr_sub [1, 2, 3, 0] rfl (ih80 n99 q100 _ _ _ q101 z75 o98 hR93)
                      · have h := h.2 g97
                        refine zr_aload_n C 0 rfl (zdec_at dm_X12_findFaces 62 rfl) rfl ?_
                        refine zr_getr (q := 115) C fk_RX12_51 fi_103_29 (zdec_at dm_X12_findFaces 63 rfl) ?_
                        refine zr_iload_n C 3 rfl (zdec_at dm_X12_findFaces 64 rfl) rfl ?_
                        obtain ⟨o102, h⟩ := h
                        refine zr_iald C ai_115 o102 (zdec_at dm_X12_findFaces 65 rfl) ?_
                        refine zr_aload_n C 0 rfl (zdec_at dm_X12_findFaces 66 rfl) rfl ?_
                        refine zr_geti C fk_RX12_233 fi_103_30 (zdec_at dm_X12_findFaces 67 rfl) ?_
                        refine zr_icmp_ne C (hR93 _ _) (hR93 _ _) (zdec_at dm_X12_findFaces 68 rfl) rfl (fun g103 => ?_) (fun g103 => ?_)
                        · have h := h.1 g103
                          refine zr_iinc (L1 := [(3, zI (v74 + 1)), (0, zRf (zad Γ) 103), (1, zI v16), (2, zI v73)]) C 3 rfl (zdec_at dm_X12_findFaces 110 rfl) (Nat.le_of_ble_eq_true rfl) rfl ?_
                          refine zr_goto C (zdec_at dm_X12_findFaces 111 rfl) rfl ?_
                          obtain ⟨o104, h⟩ := h
                          obtain ⟨n105, q106, q107⟩ := h
                          exact zr_sub [1, 2, 3, 0] rfl (ih80 n105 q106 _ _ _ q107 z75 o104 hR93)
                        · have h := h.2 g103
                          refine zr_iconst C (zdec_at dm_X12_findFaces 69 rfl) ?_
                          refine zr_istore (L1 := [(4, zI 0), (0, zRf (zad Γ) 103), (1, zI v16), (2, zI v73), (3, zI v74)]) C (zdec_at dm_X12_findFaces 70 rfl) (Nat.le_of_ble_eq_true rfl) rfl ?_
                          obtain ⟨I122, ⟨n118, q119⟩, hI117⟩ := h
                          have lp116 : ∀ (n114 : Nat) (v108 : Int) (v109 : Int) (M112 : zM), I122 v108 v109 M112 n114 → zin v108 → zin v109 → zRng M112 → zV Γ mu_X12_findFaces (145, 0, 0) 122 [(0, zRf (zad Γ) 103), (1, zI v16), (2, zI v108), (3, zI v74), (4, zI v109)] [] M112 := by
                            intro n114
                            induction n114 using Nat.strongRecOn with
                            | _ n114 ih115 =>
                            intro v108 v109 M112 q120 z110 z111 hR113
                            have h := hI117 v108 v109 M112 n114 q120 z110 z111 hR113
                            refine zr_iload C 4 rfl (zdec_at dm_X12_findFaces 71 rfl) ?_
                            refine zr_aload_n C 0 rfl (zdec_at dm_X12_findFaces 72 rfl) rfl ?_
                            refine zr_geti C fk_RX12_224 fi_103_5 (zdec_at dm_X12_findFaces 73 rfl) ?_
                            have h := h (fun v121 => zin v121 → zV Γ mu_X12_findFaces (145, 0, 0) 137 [(0, zRf (zad Γ) 103), (1, zI v16), (2, zI v108), (3, zI v74), (4, zI v109)] [zI v121, zI v109] M112) (fun v121 h z122 => by
                              have h := h z122
                              refine zr_icmp_ge C z111 z122 (zdec_at dm_X12_findFaces 78 rfl) rfl (fun g123 => ?_) (fun g123 => ?_)
                              · have h := h.1 g123
                                refine zr_iinc (L1 := [(3, zI (v74 + 1)), (0, zRf (zad Γ) 103), (1, zI v16), (2, zI v108), (4, zI v109)]) C 3 rfl (zdec_at dm_X12_findFaces 110 rfl) (Nat.le_of_ble_eq_true rfl) rfl ?_
                                refine zr_goto C (zdec_at dm_X12_findFaces 111 rfl) rfl ?_
                                obtain ⟨o124, h⟩ := h
                                obtain ⟨n125, q126, q127⟩ := h
                                exact zr_sub [1, 2, 3, 0] rfl (ih80 n125 q126 _ _ _ q127 z110 o124 hR113)
                              · have h := h.2 g123
                                refine zr_aload_n C 0 rfl (zdec_at dm_X12_findFaces 79 rfl) rfl ?_
                                refine zr_iload_n C 3 rfl (zdec_at dm_X12_findFaces 80 rfl) rfl ?_
                                refine zr_iload C 4 rfl (zdec_at dm_X12_findFaces 81 rfl) ?_
                                obtain ⟨g133, h⟩ := h
                                refine zr_callV C [v74, v109] hS_X12_beside ck_RX12_236 iv_X12_beside vc_X12 oc_103 rfl rfl (zdec_at dm_X12_findFaces 82 rfl) ⟨rfl, rfl, rfl, rfl⟩ ⟨by decide, by decide⟩ (Nat.le_of_ble_eq_true rfl) (zall_0 z76 (zall_0 z111 zall_n)) ?_
                                refine ⟨_, _, rfl, g133, fun r128 M129 p132 z131 hR130 => ?_⟩
                                have h := h r128 M129 p132 z131 hR130
                                show zV Γ mu_X12_findFaces (145, 0, 0) 147 [(0, zRf (zad Γ) 103), (1, zI v16), (2, zI v108), (3, zI v74), (4, zI v109)] [zI r128] M129
                                refine zr_istore (L1 := [(5, zI r128), (0, zRf (zad Γ) 103), (1, zI v16), (2, zI v108), (3, zI v74), (4, zI v109)]) C (zdec_at dm_X12_findFaces 83 rfl) (Nat.le_of_ble_eq_true rfl) rfl ?_
                                refine zr_iload C 0 rfl (zdec_at dm_X12_findFaces 84 rfl) ?_
                                refine zr_if_lt C z131 (zdec_at dm_X12_findFaces 85 rfl) rfl (fun g134 => ?_) (fun g134 => ?_)
                                · have h := h.1 g134
                                  refine zr_iinc (L1 := [(4, zI (v109 + 1)), (5, zI r128), (0, zRf (zad Γ) 103), (1, zI v16), (2, zI v108), (3, zI v74)]) C 5 rfl (zdec_at dm_X12_findFaces 108 rfl) (Nat.le_of_ble_eq_true rfl) rfl ?_
                                  refine zr_goto C (zdec_at dm_X12_findFaces 109 rfl) rfl ?_
                                  obtain ⟨o135, h⟩ := h
                                  obtain ⟨n136, q137, q138⟩ := h
                                  exact zr_sub [2, 3, 4, 5, 0] rfl (ih115 n136 q137 _ _ _ q138 z110 o135 hR130)
                                · have h := h.2 g134
                                  refine zr_aload_n C 1 rfl (zdec_at dm_X12_findFaces 86 rfl) rfl ?_
                                  refine zr_getr (q := 115) C fk_RX12_51 fi_103_29 (zdec_at dm_X12_findFaces 87 rfl) ?_
                                  refine zr_iload C 0 rfl (zdec_at dm_X12_findFaces 88 rfl) ?_
                                  obtain ⟨o139, h⟩ := h
                                  refine zr_iald C ai_115 o139 (zdec_at dm_X12_findFaces 89 rfl) ?_
                                  refine zr_if_ge C (hR130 _ _) (zdec_at dm_X12_findFaces 90 rfl) rfl (fun g140 => ?_) (fun g140 => ?_)
                                  · have h := h.1 g140
                                    refine zr_iinc (L1 := [(4, zI (v109 + 1)), (5, zI r128), (0, zRf (zad Γ) 103), (1, zI v16), (2, zI v108), (3, zI v74)]) C 5 rfl (zdec_at dm_X12_findFaces 108 rfl) (Nat.le_of_ble_eq_true rfl) rfl ?_
                                    refine zr_goto C (zdec_at dm_X12_findFaces 109 rfl) rfl ?_
                                    obtain ⟨o141, h⟩ := h
                                    obtain ⟨n142, q143, q144⟩ := h
                                    exact zr_sub [2, 3, 4, 5, 0] rfl (ih115 n142 q143 _ _ _ q144 z110 o141 hR130)
                                  · have h := h.2 g140
                                    refine zr_aload_n C 1 rfl (zdec_at dm_X12_findFaces 91 rfl) rfl ?_
                                    refine zr_getr (q := 104) C fk_RX12_16 fi_103_3 (zdec_at dm_X12_findFaces 92 rfl) ?_
                                    refine zr_iload C 0 rfl (zdec_at dm_X12_findFaces 93 rfl) ?_
                                    refine zr_iald C ai_104 o139 (zdec_at dm_X12_findFaces 94 rfl) ?_
                                    refine zr_aload_n C 1 rfl (zdec_at dm_X12_findFaces 95 rfl) rfl ?_
                                    refine zr_getr (q := 104) C fk_RX12_16 fi_103_3 (zdec_at dm_X12_findFaces 96 rfl) ?_
                                    refine zr_iload_n C 4 rfl (zdec_at dm_X12_findFaces 97 rfl) rfl ?_
                                    refine zr_iald C ai_104 o102 (zdec_at dm_X12_findFaces 98 rfl) ?_
                                    refine zr_icmp_ne C (hR130 _ _) (hR130 _ _) (zdec_at dm_X12_findFaces 99 rfl) rfl (fun g145 => ?_) (fun g145 => ?_)
                                    · have h := h.1 g145
                                      refine zr_iinc (L1 := [(4, zI (v109 + 1)), (5, zI r128), (0, zRf (zad Γ) 103), (1, zI v16), (2, zI v108), (3, zI v74)]) C 5 rfl (zdec_at dm_X12_findFaces 108 rfl) (Nat.le_of_ble_eq_true rfl) rfl ?_
                                      refine zr_goto C (zdec_at dm_X12_findFaces 109 rfl) rfl ?_
                                      obtain ⟨o146, h⟩ := h
                                      obtain ⟨n147, q148, q149⟩ := h
                                      exact zr_sub [2, 3, 4, 5, 0] rfl (ih115 n147 q148 _ _ _ q149 z110 o146 hR130)
                                    · have h := h.2 g145
                                      refine zr_aload_n C 1 rfl (zdec_at dm_X12_findFaces 100 rfl) rfl ?_
                                      refine zr_getr (q := 115) C fk_RX12_51 fi_103_29 (zdec_at dm_X12_findFaces 101 rfl) ?_
                                      refine zr_iload C 0 rfl (zdec_at dm_X12_findFaces 102 rfl) ?_
                                      refine zr_aload_n C 1 rfl (zdec_at dm_X12_findFaces 103 rfl) rfl ?_
                                      refine zr_geti C fk_RX12_233 fi_103_30 (zdec_at dm_X12_findFaces 104 rfl) ?_
                                      refine zr_iast C ai_115 o139 (hR130 _ _) (zdec_at dm_X12_findFaces 105 rfl) (fun M150 e151 => ?_)
                                      have h := h M150 e151
                                      have hR152 : zRng M150 := by rw [e151]; exact hR130.set (hR130 _ _) _ _
                                      refine zr_iconst C (zdec_at dm_X12_findFaces 106 rfl) ?_
                                      refine zr_istore_n (L1 := [(2, zI 1), (5, zI r128), (0, zRf (zad Γ) 103), (1, zI v16), (3, zI v74), (4, zI v109)]) C (zdec_at dm_X12_findFaces 107 rfl) rfl (Nat.le_of_ble_eq_true rfl) rfl ?_
                                      refine zr_iinc (L1 := [(4, zI (v109 + 1)), (2, zI 1), (5, zI r128), (0, zRf (zad Γ) 103), (1, zI v16), (3, zI v74)]) C 5 rfl (zdec_at dm_X12_findFaces 108 rfl) (Nat.le_of_ble_eq_true rfl) rfl ?_
                                      refine zr_goto C (zdec_at dm_X12_findFaces 109 rfl) rfl ?_
                                      obtain ⟨o153, h⟩ := h
                                      obtain ⟨n154, q155, q156⟩ := h
                                      exact zr_sub [3, 4, 1, 5, 0] rfl (ih115 n154 q155 _ _ _ q156 (by decide) o153 hR152))
                            refine zr_if_ne C (hR113 _ _) (zdec_at dm_X12_findFaces 74 rfl) rfl (fun g157 => ?_) (fun g157 => ?_)
                            · have h := h.1 g157
                              refine zr_bipush C (zdec_at dm_X12_findFaces 77 rfl) (by decide) ?_
                              exact zr_sub [0, 1, 2, 3, 4] rfl (h (by decide))
                            · have h := h.2 g157
                              refine zr_iconst C (zdec_at dm_X12_findFaces 75 rfl) ?_
                              refine zr_goto C (zdec_at dm_X12_findFaces 76 rfl) rfl ?_
                              exact zr_sub [0, 1, 2, 3, 4] rfl (h (by decide))
                          exact zr_sub [1, 2, 3, 4, 0] rfl (lp116 n118 _ _ _ q119 z75 (by decide) hR93)
                  exact zr_sub [2, 3, 1, 0] rfl (lp81 n83 _ _ _ q84 (by decide) (by decide) hR56)
              exact zr_sub [1, 2, 0] rfl (lp59 n61 _ _ q62 (by decide) hR52)
      exact zr_sub [1, 0] rfl (lp22 n24 _ _ q25 (by decide) hR7)
    · have h := h.2 g15
      refine zr_aload_n C 0 rfl (zdec_at dm_X12_findFaces 8 rfl) rfl ?_
      refine zr_getr (q := 115) C fk_RX12_51 fi_103_29 (zdec_at dm_X12_findFaces 9 rfl) ?_
      refine zr_iload_n C 1 rfl (zdec_at dm_X12_findFaces 10 rfl) rfl ?_
      refine zr_iconst C (zdec_at dm_X12_findFaces 11 rfl) ?_
      obtain ⟨o158, h⟩ := h
      refine zr_iast C ai_115 o158 (by decide) (zdec_at dm_X12_findFaces 12 rfl) (fun M159 e160 => ?_)
      have h := h M159 e160
      have hR161 : zRng M159 := by rw [e160]; exact hR7.set (by decide) _ _
      refine zr_iinc (L1 := [(1, zI (v4 + 1)), (0, zRf (zad Γ) 103)]) C 1 rfl (zdec_at dm_X12_findFaces 13 rfl) (Nat.le_of_ble_eq_true rfl) rfl ?_
      refine zr_goto C (zdec_at dm_X12_findFaces 14 rfl) rfl ?_
      obtain ⟨o162, h⟩ := h
      obtain ⟨n163, q164, q165⟩ := h
      exact zr_sub [1, 0] rfl (ih9 n163 q164 _ _ q165 o162 hR161)
  exact zr_sub [1, 0] rfl (lp10 n12 _ _ q13 (by decide) hR3)

set_option maxHeartbeats 400000 in
set_option maxRecDepth 100000 in
theorem sn_X12_isFace {pr_X12_findFaces : zM → Prop} {po_X12_findFaces : zM → zM → Prop} {pr_X12_in : Int → Int → Int → zM → Prop} {po_X12_in : Int → Int → Int → zM → Int → zM → Prop} (hS_X12_findFaces : zSnd zS 145 0 0 yX12_findFaces cX12_findFaces 6 none 2 [2] (F_X12_findFaces pr_X12_findFaces po_X12_findFaces)) (hS_X12_in : zSnd zS 145 0 0 yX12_in cX12_in 6 (some .boolean) 0 [1, 1, 1] (F_X12_in pr_X12_in po_X12_in)) : zSnd zS 145 0 0 yX12_isFace cX12_isFace 2 (some .boolean) 3 [2, 0] (fun xs P M => ∃ a1 : Int, xs = [103, a1] ∧ vc_X12_isFace pr_X12_findFaces po_X12_findFaces pr_X12_in po_X12_in a1 P M) := by
  refine zSnd.of rfl (fun ad xs hz => Nat.le_trans (Nat.le_of_eq (zlen ad _ xs hz)) (by decide)) ?_
  intro Γ C _ _ xs M hz hF
  obtain ⟨a1, rfl, h⟩ := hF
  have zz_a1 := zall_h (zall_t hz) (by decide)
  refine zr_rng (fun hR => ?_)
  have C : zC Γ mu_X12_isFace := C
  change zV Γ mu_X12_isFace (145, 0, 0) 0 [(0, zRf (zad Γ) 103), (1, zI a1)] [] M
  change vc_X12_isFace pr_X12_findFaces po_X12_findFaces pr_X12_in po_X12_in a1 _ M at h
  unfold vc_X12_isFace at h
  refine zr_aload_n C 0 rfl (zdec_at dm_X12_isFace 0 rfl) rfl ?_
  obtain ⟨g5, h⟩ := h
  refine zr_callV C [] hS_X12_findFaces ck_RX12_240 iv_X12_findFaces vc_X12 oc_103 rfl rfl (zdec_at dm_X12_isFace 1 rfl) ⟨rfl, rfl, rfl, rfl⟩ ⟨by decide, by decide⟩ (Nat.le_of_ble_eq_true rfl) zall_n ?_
  refine ⟨rfl, g5, fun M1 p4 _ hR2 => ?_⟩
  have h := h M1 p4 hR2
  show zV Γ mu_X12_isFace (145, 0, 0) 4 [(0, zRf (zad Γ) 103), (1, zI a1)] [] M1
  refine zr_iload_n C 1 rfl (zdec_at dm_X12_isFace 2 rfl) rfl ?_
  refine zr_i2l C zz_a1 (zdec_at dm_X12_isFace 3 rfl) ?_
  refine zr_lconst (v := 0) C (zdec_at dm_X12_isFace 4 rfl) rfl ?_
  refine zr_aload_n C 0 rfl (zdec_at dm_X12_isFace 5 rfl) rfl ?_
  refine zr_geti C fk_RX12_233 fi_103_30 (zdec_at dm_X12_isFace 6 rfl) ?_
  refine zr_iconst C (zdec_at dm_X12_isFace 7 rfl) ?_
  refine zr_isub C (zdec_at dm_X12_isFace 8 rfl) ?_
  obtain ⟨o6, h⟩ := h
  refine zr_i2l C o6 (zdec_at dm_X12_isFace 9 rfl) ?_
  obtain ⟨g12, h⟩ := h
  refine zr_callS C [a1, 0, ((M1 103 30) - 1)] hS_X12_in ck_RX12_156 sv_X12_in rfl rfl (zdec_at dm_X12_isFace 10 rfl) ⟨rfl, rfl, rfl, rfl⟩ ⟨by decide, by decide⟩ (Nat.le_of_ble_eq_true rfl) (zall_1 zz_a1 (zall_1 (by decide) (zall_1 o6 zall_n))) ?_
  refine ⟨_, _, _, rfl, g12, fun r7 M8 p11 z10 hR9 => ?_⟩
  have h := h r7 M8 p11 z10 hR9
  show zV Γ mu_X12_isFace (145, 0, 0) 17 [(0, zRf (zad Γ) 103), (1, zI a1)] [zI r7] M8
  obtain ⟨o13, h⟩ := h
  exact zr_zreturn C rfl o13 (zdec_at dm_X12_isFace 11 rfl) rfl ⟨z10, h⟩

set_option maxHeartbeats 400000 in
set_option maxRecDepth 100000 in
theorem sn_X12_isOf : zSnd zS 145 0 0 yX12_isOf cX12_isOf 4 (some .boolean) 0 [2, 0, 0, 0] (fun xs P M => ∃ a1 a2 a3 : Int, xs = [103, a1, a2, a3] ∧ vc_X12_isOf a1 a2 a3 P M) := by
  refine zSnd.of rfl (fun ad xs hz => Nat.le_trans (Nat.le_of_eq (zlen ad _ xs hz)) (by decide)) ?_
  intro Γ C _ _ xs M hz hF
  obtain ⟨a1, a2, a3, rfl, h⟩ := hF
  have zz_a1 := zall_h (zall_t hz) (by decide)
  have zz_a2 := zall_h (zall_t (zall_t hz)) (by decide)
  have zz_a3 := zall_h (zall_t (zall_t (zall_t hz))) (by decide)
  refine zr_rng (fun hR => ?_)
  have C : zC Γ mu_X12_isOf := C
  change zV Γ mu_X12_isOf (145, 0, 0) 0 [(0, zRf (zad Γ) 103), (1, zI a1), (2, zI a2), (3, zI a3)] [] M
  change vc_X12_isOf a1 a2 a3 _ M at h
  unfold vc_X12_isOf at h
  refine zr_iload_n C 2 rfl (zdec_at dm_X12_isOf 0 rfl) rfl ?_
  refine zr_if_lt C zz_a2 (zdec_at dm_X12_isOf 1 rfl) rfl (fun g1 => ?_) (fun g1 => ?_)
  · have h := h.1 g1
    refine zr_iconst C (zdec_at dm_X12_isOf 24 rfl) ?_
    exact zr_zreturn C rfl (by decide) (zdec_at dm_X12_isOf 25 rfl) rfl ⟨(by decide), h⟩
  · have h := h.2 g1
    refine zr_iload_n C 2 rfl (zdec_at dm_X12_isOf 2 rfl) rfl ?_
    refine zr_aload_n C 0 rfl (zdec_at dm_X12_isOf 3 rfl) rfl ?_
    refine zr_geti C fk_RX12_7 fi_103_1 (zdec_at dm_X12_isOf 4 rfl) ?_
    refine zr_icmp_ge C zz_a2 (hR _ _) (zdec_at dm_X12_isOf 5 rfl) rfl (fun g2 => ?_) (fun g2 => ?_)
    · have h := h.1 g2
      refine zr_iconst C (zdec_at dm_X12_isOf 24 rfl) ?_
      exact zr_zreturn C rfl (by decide) (zdec_at dm_X12_isOf 25 rfl) rfl ⟨(by decide), h⟩
    · have h := h.2 g2
      refine zr_iload_n C 3 rfl (zdec_at dm_X12_isOf 6 rfl) rfl ?_
      refine zr_if_lt C zz_a3 (zdec_at dm_X12_isOf 7 rfl) rfl (fun g3 => ?_) (fun g3 => ?_)
      · have h := h.1 g3
        refine zr_iconst C (zdec_at dm_X12_isOf 24 rfl) ?_
        exact zr_zreturn C rfl (by decide) (zdec_at dm_X12_isOf 25 rfl) rfl ⟨(by decide), h⟩
      · have h := h.2 g3
        refine zr_iload_n C 3 rfl (zdec_at dm_X12_isOf 8 rfl) rfl ?_
        refine zr_aload_n C 0 rfl (zdec_at dm_X12_isOf 9 rfl) rfl ?_
        refine zr_geti C fk_RX12_13 fi_103_2 (zdec_at dm_X12_isOf 10 rfl) ?_
        refine zr_icmp_ge C zz_a3 (hR _ _) (zdec_at dm_X12_isOf 11 rfl) rfl (fun g4 => ?_) (fun g4 => ?_)
        · have h := h.1 g4
          refine zr_iconst C (zdec_at dm_X12_isOf 24 rfl) ?_
          exact zr_zreturn C rfl (by decide) (zdec_at dm_X12_isOf 25 rfl) rfl ⟨(by decide), h⟩
        · have h := h.2 g4
          refine zr_aload_n C 0 rfl (zdec_at dm_X12_isOf 12 rfl) rfl ?_
          refine zr_getr (q := 115) C fk_RX12_51 fi_103_29 (zdec_at dm_X12_isOf 13 rfl) ?_
          refine zr_bipush C (zdec_at dm_X12_isOf 14 rfl) (by decide) ?_
          refine zr_iload_n C 3 rfl (zdec_at dm_X12_isOf 15 rfl) rfl ?_
          refine zr_imul C (zdec_at dm_X12_isOf 16 rfl) ?_
          refine zr_iload_n C 2 rfl (zdec_at dm_X12_isOf 17 rfl) rfl ?_
          refine zr_iadd C (zdec_at dm_X12_isOf 18 rfl) ?_
          obtain ⟨o5, h⟩ := h
          refine zr_iald C ai_115 o5 (zdec_at dm_X12_isOf 19 rfl) ?_
          refine zr_iload_n C 1 rfl (zdec_at dm_X12_isOf 20 rfl) rfl ?_
          refine zr_icmp_ne C (hR _ _) zz_a1 (zdec_at dm_X12_isOf 21 rfl) rfl (fun g6 => ?_) (fun g6 => ?_)
          · have h := h.1 g6
            refine zr_iconst C (zdec_at dm_X12_isOf 24 rfl) ?_
            exact zr_zreturn C rfl (by decide) (zdec_at dm_X12_isOf 25 rfl) rfl ⟨(by decide), h⟩
          · have h := h.2 g6
            refine zr_iconst C (zdec_at dm_X12_isOf 22 rfl) ?_
            refine zr_goto C (zdec_at dm_X12_isOf 23 rfl) rfl ?_
            exact zr_zreturn C rfl (by decide) (zdec_at dm_X12_isOf 25 rfl) rfl ⟨(by decide), h⟩

set_option maxHeartbeats 400000 in
set_option maxRecDepth 100000 in
theorem sn_X12_sizeOf : zSnd zS 145 0 0 yX12_sizeOf cX12_sizeOf 4 (some .int) 0 [2, 0] (fun xs P M => ∃ a1 : Int, xs = [103, a1] ∧ vc_X12_sizeOf a1 P M) := by
  refine zSnd.of rfl (fun ad xs hz => Nat.le_trans (Nat.le_of_eq (zlen ad _ xs hz)) (by decide)) ?_
  intro Γ C _ _ xs M hz hF
  obtain ⟨a1, rfl, h⟩ := hF
  have zz_a1 := zall_h (zall_t hz) (by decide)
  refine zr_rng (fun hR => ?_)
  have C : zC Γ mu_X12_sizeOf := C
  change zV Γ mu_X12_sizeOf (145, 0, 0) 0 [(0, zRf (zad Γ) 103), (1, zI a1)] [] M
  change vc_X12_sizeOf a1 _ M at h
  unfold vc_X12_sizeOf at h
  refine zr_iconst C (zdec_at dm_X12_sizeOf 0 rfl) ?_
  refine zr_istore_n (L1 := [(2, zI 0), (0, zRf (zad Γ) 103), (1, zI a1)]) C (zdec_at dm_X12_sizeOf 1 rfl) rfl (Nat.le_of_ble_eq_true rfl) rfl ?_
  refine zr_iconst C (zdec_at dm_X12_sizeOf 2 rfl) ?_
  refine zr_istore_n (L1 := [(3, zI 0), (2, zI 0), (0, zRf (zad Γ) 103), (1, zI a1)]) C (zdec_at dm_X12_sizeOf 3 rfl) rfl (Nat.le_of_ble_eq_true rfl) rfl ?_
  obtain ⟨I4, ⟨n9, q10⟩, hI8⟩ := h
  have lp7 : ∀ (n5 : Nat) (v1 : Int) (v2 : Int), I4 v1 v2 n5 → zin v1 → zin v2 → zV Γ mu_X12_sizeOf (145, 0, 0) 4 [(0, zRf (zad Γ) 103), (1, zI a1), (2, zI v1), (3, zI v2)] [] M := by
    intro n5
    induction n5 using Nat.strongRecOn with
    | _ n5 ih6 =>
    intro v1 v2 q11 z3 z4
    have h := hI8 v1 v2 n5 q11 z3 z4
    refine zr_iload_n C 3 rfl (zdec_at dm_X12_sizeOf 4 rfl) rfl ?_
    refine zr_sipush C (zdec_at dm_X12_sizeOf 5 rfl) (by decide) ?_
    refine zr_icmp_ge C z4 (by decide) (zdec_at dm_X12_sizeOf 6 rfl) rfl (fun g12 => ?_) (fun g12 => ?_)
    · have h := h.1 g12
      refine zr_iload_n C 2 rfl (zdec_at dm_X12_sizeOf 21 rfl) rfl ?_
      exact zr_ireturn C rfl (zdec_at dm_X12_sizeOf 22 rfl) rfl ⟨z3, h⟩
    · have h := h.2 g12
      refine zr_iload_n C 2 rfl (zdec_at dm_X12_sizeOf 7 rfl) rfl ?_
      refine zr_aload_n C 0 rfl (zdec_at dm_X12_sizeOf 8 rfl) rfl ?_
      refine zr_getr (q := 115) C fk_RX12_51 fi_103_29 (zdec_at dm_X12_sizeOf 9 rfl) ?_
      refine zr_iload_n C 3 rfl (zdec_at dm_X12_sizeOf 10 rfl) rfl ?_
      obtain ⟨o13, h⟩ := h
      refine zr_iald C ai_115 o13 (zdec_at dm_X12_sizeOf 11 rfl) ?_
      refine zr_iload_n C 1 rfl (zdec_at dm_X12_sizeOf 12 rfl) rfl ?_
      refine zr_icmp_ne C (hR _ _) zz_a1 (zdec_at dm_X12_sizeOf 13 rfl) rfl (fun g14 => ?_) (fun g14 => ?_)
      · have h := h.1 g14
        refine zr_iconst C (zdec_at dm_X12_sizeOf 16 rfl) ?_
        refine zr_iadd C (zdec_at dm_X12_sizeOf 17 rfl) ?_
        refine zr_istore_n (L1 := [(2, zI (v1 + 0)), (0, zRf (zad Γ) 103), (1, zI a1), (3, zI v2)]) C (zdec_at dm_X12_sizeOf 18 rfl) rfl (Nat.le_of_ble_eq_true rfl) rfl ?_
        refine zr_iinc (L1 := [(3, zI (v2 + 1)), (2, zI (v1 + 0)), (0, zRf (zad Γ) 103), (1, zI a1)]) C 3 rfl (zdec_at dm_X12_sizeOf 19 rfl) (Nat.le_of_ble_eq_true rfl) rfl ?_
        refine zr_goto C (zdec_at dm_X12_sizeOf 20 rfl) rfl ?_
        obtain ⟨o15, h⟩ := h
        obtain ⟨o16, h⟩ := h
        obtain ⟨n17, q18, q19⟩ := h
        exact zr_sub [2, 3, 1, 0] rfl (ih6 n17 q18 _ _ q19 o15 o16)
      · have h := h.2 g14
        refine zr_iconst C (zdec_at dm_X12_sizeOf 14 rfl) ?_
        refine zr_goto C (zdec_at dm_X12_sizeOf 15 rfl) rfl ?_
        refine zr_iadd C (zdec_at dm_X12_sizeOf 17 rfl) ?_
        refine zr_istore_n (L1 := [(2, zI (v1 + 1)), (0, zRf (zad Γ) 103), (1, zI a1), (3, zI v2)]) C (zdec_at dm_X12_sizeOf 18 rfl) rfl (Nat.le_of_ble_eq_true rfl) rfl ?_
        refine zr_iinc (L1 := [(3, zI (v2 + 1)), (2, zI (v1 + 1)), (0, zRf (zad Γ) 103), (1, zI a1)]) C 3 rfl (zdec_at dm_X12_sizeOf 19 rfl) (Nat.le_of_ble_eq_true rfl) rfl ?_
        refine zr_goto C (zdec_at dm_X12_sizeOf 20 rfl) rfl ?_
        obtain ⟨o20, h⟩ := h
        obtain ⟨o21, h⟩ := h
        obtain ⟨n22, q23, q24⟩ := h
        exact zr_sub [2, 3, 1, 0] rfl (ih6 n22 q23 _ _ q24 o20 o21)
  exact zr_sub [2, 3, 1, 0] rfl (lp7 n9 _ _ q10 (by decide) (by decide))

set_option maxHeartbeats 400000 in
set_option maxRecDepth 100000 in
theorem sn_X12_findBox : zSnd zS 145 0 0 yX12_findBox cX12_findBox 5 none 0 [2, 0] (fun xs P M => ∃ a1 : Int, xs = [103, a1] ∧ vc_X12_findBox a1 P M) := by
  refine zSnd.of rfl (fun ad xs hz => Nat.le_trans (Nat.le_of_eq (zlen ad _ xs hz)) (by decide)) ?_
  intro Γ C _ _ xs M hz hF
  obtain ⟨a1, rfl, h⟩ := hF
  have zz_a1 := zall_h (zall_t hz) (by decide)
  refine zr_rng (fun hR => ?_)
  have C : zC Γ mu_X12_findBox := C
  change zV Γ mu_X12_findBox (145, 0, 0) 0 [(0, zRf (zad Γ) 103), (1, zI a1)] [] M
  change vc_X12_findBox a1 _ M at h
  unfold vc_X12_findBox at h
  refine zr_aload_n C 0 rfl (zdec_at dm_X12_findBox 0 rfl) rfl ?_
  refine zr_bipush C (zdec_at dm_X12_findBox 1 rfl) (by decide) ?_
  refine zr_puti C fk_RX12_243 fi_103_32 (by decide) (zdec_at dm_X12_findBox 2 rfl) (fun M1 e2 => ?_)
  have h := h M1 e2
  have hR3 : zRng M1 := by rw [e2]; exact hR.set (by decide) _ _
  refine zr_aload_n C 0 rfl (zdec_at dm_X12_findBox 3 rfl) rfl ?_
  refine zr_bipush C (zdec_at dm_X12_findBox 4 rfl) (by decide) ?_
  refine zr_puti C fk_RX12_246 fi_103_33 (by decide) (zdec_at dm_X12_findBox 5 rfl) (fun M4 e5 => ?_)
  have h := h M4 e5
  have hR6 : zRng M4 := by rw [e5]; exact hR3.set (by decide) _ _
  refine zr_iconst C (zdec_at dm_X12_findBox 6 rfl) ?_
  refine zr_istore_n (L1 := [(2, zI 0), (0, zRf (zad Γ) 103), (1, zI a1)]) C (zdec_at dm_X12_findBox 7 rfl) rfl (Nat.le_of_ble_eq_true rfl) rfl ?_
  refine zr_iconst C (zdec_at dm_X12_findBox 8 rfl) ?_
  refine zr_istore_n (L1 := [(3, zI 0), (2, zI 0), (0, zRf (zad Γ) 103), (1, zI a1)]) C (zdec_at dm_X12_findBox 9 rfl) rfl (Nat.le_of_ble_eq_true rfl) rfl ?_
  refine zr_iconst C (zdec_at dm_X12_findBox 10 rfl) ?_
  refine zr_istore (L1 := [(4, zI 0), (3, zI 0), (2, zI 0), (0, zRf (zad Γ) 103), (1, zI a1)]) C (zdec_at dm_X12_findBox 11 rfl) (Nat.le_of_ble_eq_true rfl) rfl ?_
  obtain ⟨I19, ⟨n19, q20⟩, hI18⟩ := h
  have lp17 : ∀ (n15 : Nat) (v7 : Int) (v8 : Int) (v9 : Int) (M13 : zM), I19 v7 v8 v9 M13 n15 → zin v7 → zin v8 → zin v9 → zRng M13 → zV Γ mu_X12_findBox (145, 0, 0) 19 [(0, zRf (zad Γ) 103), (1, zI a1), (2, zI v7), (3, zI v8), (4, zI v9)] [] M13 := by
    intro n15
    induction n15 using Nat.strongRecOn with
    | _ n15 ih16 =>
    intro v7 v8 v9 M13 q21 z10 z11 z12 hR14
    have h := hI18 v7 v8 v9 M13 n15 q21 z10 z11 z12 hR14
    refine zr_iload C 4 rfl (zdec_at dm_X12_findBox 12 rfl) ?_
    refine zr_sipush C (zdec_at dm_X12_findBox 13 rfl) (by decide) ?_
    refine zr_icmp_ge C z12 (by decide) (zdec_at dm_X12_findBox 14 rfl) rfl (fun g22 => ?_) (fun g22 => ?_)
    · have h := h.1 g22
      refine zr_aload_n C 0 rfl (zdec_at dm_X12_findBox 73 rfl) rfl ?_
      refine zr_iload_n C 2 rfl (zdec_at dm_X12_findBox 74 rfl) rfl ?_
      refine zr_aload_n C 0 rfl (zdec_at dm_X12_findBox 75 rfl) rfl ?_
      refine zr_geti C fk_RX12_243 fi_103_32 (zdec_at dm_X12_findBox 76 rfl) ?_
      refine zr_isub C (zdec_at dm_X12_findBox 77 rfl) ?_
      refine zr_iconst C (zdec_at dm_X12_findBox 78 rfl) ?_
      refine zr_iadd C (zdec_at dm_X12_findBox 79 rfl) ?_
      obtain ⟨o23, h⟩ := h
      refine zr_puti C fk_RX12_249 fi_103_34 o23 (zdec_at dm_X12_findBox 80 rfl) (fun M24 e25 => ?_)
      have h := h M24 e25
      have hR26 : zRng M24 := by rw [e25]; exact hR14.set o23 _ _
      refine zr_aload_n C 0 rfl (zdec_at dm_X12_findBox 81 rfl) rfl ?_
      refine zr_iload_n C 3 rfl (zdec_at dm_X12_findBox 82 rfl) rfl ?_
      refine zr_aload_n C 0 rfl (zdec_at dm_X12_findBox 83 rfl) rfl ?_
      refine zr_geti C fk_RX12_246 fi_103_33 (zdec_at dm_X12_findBox 84 rfl) ?_
      refine zr_isub C (zdec_at dm_X12_findBox 85 rfl) ?_
      refine zr_iconst C (zdec_at dm_X12_findBox 86 rfl) ?_
      refine zr_iadd C (zdec_at dm_X12_findBox 87 rfl) ?_
      obtain ⟨o27, h⟩ := h
      refine zr_puti C fk_RX12_252 fi_103_35 o27 (zdec_at dm_X12_findBox 88 rfl) (fun M28 e29 => ?_)
      have h := h M28 e29
      have hR30 : zRng M28 := by rw [e29]; exact hR26.set o27 _ _
      exact zr_return C rfl rfl (zdec_at dm_X12_findBox 89 rfl) rfl ⟨by decide, h⟩
    · have h := h.2 g22
      refine zr_aload_n C 0 rfl (zdec_at dm_X12_findBox 15 rfl) rfl ?_
      refine zr_getr (q := 115) C fk_RX12_51 fi_103_29 (zdec_at dm_X12_findBox 16 rfl) ?_
      refine zr_iload C 4 rfl (zdec_at dm_X12_findBox 17 rfl) ?_
      obtain ⟨o31, h⟩ := h
      refine zr_iald C ai_115 o31 (zdec_at dm_X12_findBox 18 rfl) ?_
      refine zr_iload_n C 1 rfl (zdec_at dm_X12_findBox 19 rfl) rfl ?_
      refine zr_icmp_ne C (hR14 _ _) zz_a1 (zdec_at dm_X12_findBox 20 rfl) rfl (fun g32 => ?_) (fun g32 => ?_)
      · have h := h.1 g32
        refine zr_iinc (L1 := [(4, zI (v9 + 1)), (0, zRf (zad Γ) 103), (1, zI a1), (2, zI v7), (3, zI v8)]) C 4 rfl (zdec_at dm_X12_findBox 71 rfl) (Nat.le_of_ble_eq_true rfl) rfl ?_
        refine zr_goto C (zdec_at dm_X12_findBox 72 rfl) rfl ?_
        obtain ⟨o33, h⟩ := h
        obtain ⟨n34, q35, q36⟩ := h
        exact zr_sub [1, 2, 3, 4, 0] rfl (ih16 n34 q35 _ _ _ _ q36 z10 z11 o33 hR14)
      · have h := h.2 g32
        refine zr_aload_n C 0 rfl (zdec_at dm_X12_findBox 21 rfl) rfl ?_
        refine zr_iload C 4 rfl (zdec_at dm_X12_findBox 22 rfl) ?_
        refine zr_bipush C (zdec_at dm_X12_findBox 23 rfl) (by decide) ?_
        obtain ⟨o37, h⟩ := h
        refine zr_irem C z12 (by decide) ⟨o37, by decide⟩ (zdec_at dm_X12_findBox 24 rfl) ?_
        refine zr_aload_n C 0 rfl (zdec_at dm_X12_findBox 25 rfl) rfl ?_
        refine zr_geti C fk_RX12_243 fi_103_32 (zdec_at dm_X12_findBox 26 rfl) ?_
        have h := h (fun v38 => zin v38 → zV Γ mu_X12_findBox (145, 0, 0) 63 [(0, zRf (zad Γ) 103), (1, zI a1), (2, zI v7), (3, zI v8), (4, zI v9)] [zI v38, zRf (zad Γ) 103] M13) (fun v38 h z39 => by
          have h := h z39
          refine zr_puti C fk_RX12_243 fi_103_32 z39 (zdec_at dm_X12_findBox 34 rfl) (fun M40 e41 => ?_)
          have h := h M40 e41
          have hR42 : zRng M40 := by rw [e41]; exact hR14.set z39 _ _
          refine zr_aload_n C 0 rfl (zdec_at dm_X12_findBox 35 rfl) rfl ?_
          refine zr_iload C 4 rfl (zdec_at dm_X12_findBox 36 rfl) ?_
          refine zr_bipush C (zdec_at dm_X12_findBox 37 rfl) (by decide) ?_
          refine zr_idiv C z12 (by decide) ⟨o37, by decide⟩ (zdec_at dm_X12_findBox 38 rfl) ?_
          refine zr_aload_n C 0 rfl (zdec_at dm_X12_findBox 39 rfl) rfl ?_
          refine zr_geti C fk_RX12_246 fi_103_33 (zdec_at dm_X12_findBox 40 rfl) ?_
          have h := h (fun v43 => zin v43 → zV Γ mu_X12_findBox (145, 0, 0) 91 [(0, zRf (zad Γ) 103), (1, zI a1), (2, zI v7), (3, zI v8), (4, zI v9)] [zI v43, zRf (zad Γ) 103] M40) (fun v43 h z44 => by
            have h := h z44
            refine zr_puti C fk_RX12_246 fi_103_33 z44 (zdec_at dm_X12_findBox 48 rfl) (fun M45 e46 => ?_)
            have h := h M45 e46
            have hR47 : zRng M45 := by rw [e46]; exact hR42.set z44 _ _
            refine zr_iload C 4 rfl (zdec_at dm_X12_findBox 49 rfl) ?_
            refine zr_bipush C (zdec_at dm_X12_findBox 50 rfl) (by decide) ?_
            refine zr_irem C z12 (by decide) ⟨o37, by decide⟩ (zdec_at dm_X12_findBox 51 rfl) ?_
            refine zr_iload_n C 2 rfl (zdec_at dm_X12_findBox 52 rfl) rfl ?_
            have h := h (fun v48 => zin v48 → zV Γ mu_X12_findBox (145, 0, 0) 112 [(0, zRf (zad Γ) 103), (1, zI a1), (3, zI v8), (4, zI v9)] [zI v48] M45) (fun v48 h z49 => by
              have h := h z49
              refine zr_istore_n (L1 := [(2, zI v48), (0, zRf (zad Γ) 103), (1, zI a1), (3, zI v8), (4, zI v9)]) C (zdec_at dm_X12_findBox 59 rfl) rfl (Nat.le_of_ble_eq_true rfl) rfl ?_
              refine zr_iload C 4 rfl (zdec_at dm_X12_findBox 60 rfl) ?_
              refine zr_bipush C (zdec_at dm_X12_findBox 61 rfl) (by decide) ?_
              refine zr_idiv C z12 (by decide) ⟨o37, by decide⟩ (zdec_at dm_X12_findBox 62 rfl) ?_
              refine zr_iload_n C 3 rfl (zdec_at dm_X12_findBox 63 rfl) rfl ?_
              refine zr_icmp_le C (z_dz2 (a := v9) (b := 16) ⟨o37, by decide⟩ z12) z11 (zdec_at dm_X12_findBox 64 rfl) rfl (fun g50 => ?_) (fun g50 => ?_)
              · have h := h.1 g50
                refine zr_iload_n C 3 rfl (zdec_at dm_X12_findBox 69 rfl) rfl ?_
                refine zr_istore_n (L1 := [(3, zI v8), (2, zI v48), (0, zRf (zad Γ) 103), (1, zI a1), (4, zI v9)]) C (zdec_at dm_X12_findBox 70 rfl) rfl (Nat.le_of_ble_eq_true rfl) rfl ?_
                refine zr_iinc (L1 := [(4, zI (v9 + 1)), (3, zI v8), (2, zI v48), (0, zRf (zad Γ) 103), (1, zI a1)]) C 4 rfl (zdec_at dm_X12_findBox 71 rfl) (Nat.le_of_ble_eq_true rfl) rfl ?_
                refine zr_goto C (zdec_at dm_X12_findBox 72 rfl) rfl ?_
                obtain ⟨o51, h⟩ := h
                obtain ⟨n52, q53, q54⟩ := h
                exact zr_sub [3, 4, 2, 1, 0] rfl (ih16 n52 q53 _ _ _ _ q54 z49 z11 o51 hR47)
              · have h := h.2 g50
                refine zr_iload C 4 rfl (zdec_at dm_X12_findBox 65 rfl) ?_
                refine zr_bipush C (zdec_at dm_X12_findBox 66 rfl) (by decide) ?_
                refine zr_idiv C z12 (by decide) ⟨o37, by decide⟩ (zdec_at dm_X12_findBox 67 rfl) ?_
                refine zr_goto C (zdec_at dm_X12_findBox 68 rfl) rfl ?_
                refine zr_istore_n (L1 := [(3, zI (v9 / 16)), (2, zI v48), (0, zRf (zad Γ) 103), (1, zI a1), (4, zI v9)]) C (zdec_at dm_X12_findBox 70 rfl) rfl (Nat.le_of_ble_eq_true rfl) rfl ?_
                refine zr_iinc (L1 := [(4, zI (v9 + 1)), (3, zI (v9 / 16)), (2, zI v48), (0, zRf (zad Γ) 103), (1, zI a1)]) C 4 rfl (zdec_at dm_X12_findBox 71 rfl) (Nat.le_of_ble_eq_true rfl) rfl ?_
                refine zr_goto C (zdec_at dm_X12_findBox 72 rfl) rfl ?_
                obtain ⟨o55, h⟩ := h
                obtain ⟨n56, q57, q58⟩ := h
                exact zr_sub [3, 4, 2, 1, 0] rfl (ih16 n56 q57 _ _ _ _ q58 z49 (z_dz2 (a := v9) (b := 16) ⟨o37, by decide⟩ z12) o55 hR47))
            refine zr_icmp_le C (z_rz (a := v9) (b := 16) ⟨o37, by decide⟩ (by decide)) z10 (zdec_at dm_X12_findBox 53 rfl) rfl (fun g59 => ?_) (fun g59 => ?_)
            · have h := h.1 g59
              refine zr_iload_n C 2 rfl (zdec_at dm_X12_findBox 58 rfl) rfl ?_
              exact zr_sub [0, 1, 3, 4] rfl (h z10)
            · have h := h.2 g59
              refine zr_iload C 4 rfl (zdec_at dm_X12_findBox 54 rfl) ?_
              refine zr_bipush C (zdec_at dm_X12_findBox 55 rfl) (by decide) ?_
              refine zr_irem C z12 (by decide) ⟨o37, by decide⟩ (zdec_at dm_X12_findBox 56 rfl) ?_
              refine zr_goto C (zdec_at dm_X12_findBox 57 rfl) rfl ?_
              exact zr_sub [0, 1, 3, 4] rfl (h (z_rz (a := v9) (b := 16) ⟨o37, by decide⟩ (by decide))))
          refine zr_icmp_ge C (z_dz2 (a := v9) (b := 16) ⟨o37, by decide⟩ z12) (hR42 _ _) (zdec_at dm_X12_findBox 41 rfl) rfl (fun g60 => ?_) (fun g60 => ?_)
          · have h := h.1 g60
            refine zr_aload_n C 0 rfl (zdec_at dm_X12_findBox 46 rfl) rfl ?_
            refine zr_geti C fk_RX12_246 fi_103_33 (zdec_at dm_X12_findBox 47 rfl) ?_
            exact zr_sub [0, 1, 2, 3, 4] rfl (h (hR42 _ _))
          · have h := h.2 g60
            refine zr_iload C 4 rfl (zdec_at dm_X12_findBox 42 rfl) ?_
            refine zr_bipush C (zdec_at dm_X12_findBox 43 rfl) (by decide) ?_
            refine zr_idiv C z12 (by decide) ⟨o37, by decide⟩ (zdec_at dm_X12_findBox 44 rfl) ?_
            refine zr_goto C (zdec_at dm_X12_findBox 45 rfl) rfl ?_
            exact zr_sub [0, 1, 2, 3, 4] rfl (h (z_dz2 (a := v9) (b := 16) ⟨o37, by decide⟩ z12)))
        refine zr_icmp_ge C (z_rz (a := v9) (b := 16) ⟨o37, by decide⟩ (by decide)) (hR14 _ _) (zdec_at dm_X12_findBox 27 rfl) rfl (fun g61 => ?_) (fun g61 => ?_)
        · have h := h.1 g61
          refine zr_aload_n C 0 rfl (zdec_at dm_X12_findBox 32 rfl) rfl ?_
          refine zr_geti C fk_RX12_243 fi_103_32 (zdec_at dm_X12_findBox 33 rfl) ?_
          exact zr_sub [0, 1, 2, 3, 4] rfl (h (hR14 _ _))
        · have h := h.2 g61
          refine zr_iload C 4 rfl (zdec_at dm_X12_findBox 28 rfl) ?_
          refine zr_bipush C (zdec_at dm_X12_findBox 29 rfl) (by decide) ?_
          refine zr_irem C z12 (by decide) ⟨o37, by decide⟩ (zdec_at dm_X12_findBox 30 rfl) ?_
          refine zr_goto C (zdec_at dm_X12_findBox 31 rfl) rfl ?_
          exact zr_sub [0, 1, 2, 3, 4] rfl (h (z_rz (a := v9) (b := 16) ⟨o37, by decide⟩ (by decide)))
  exact zr_sub [3, 4, 2, 1, 0] rfl (lp17 n19 _ _ _ _ q20 (by decide) (by decide) (by decide) hR6)

set_option maxHeartbeats 400000 in
set_option maxRecDepth 100000 in
theorem sn_X12_isOutside {pr_X12_isOf : Int → Int → Int → zM → Prop} {po_X12_isOf : Int → Int → Int → zM → Int → zM → Prop} (hS_X12_isOf : zSnd zS 145 0 0 yX12_isOf cX12_isOf 4 (some .boolean) 0 [2, 0, 0, 0] (F_X12_isOf pr_X12_isOf po_X12_isOf)) : zSnd zS 145 0 0 yX12_isOutside cX12_isOutside 3 (some .boolean) 1 [2, 0, 0] (fun xs P M => ∃ a1 a2 : Int, xs = [103, a1, a2] ∧ vc_X12_isOutside pr_X12_isOf po_X12_isOf a1 a2 P M) := by
  refine zSnd.of rfl (fun ad xs hz => Nat.le_trans (Nat.le_of_eq (zlen ad _ xs hz)) (by decide)) ?_
  intro Γ C _ _ xs M hz hF
  obtain ⟨a1, a2, rfl, h⟩ := hF
  have zz_a1 := zall_h (zall_t hz) (by decide)
  have zz_a2 := zall_h (zall_t (zall_t hz)) (by decide)
  refine zr_rng (fun hR => ?_)
  have C : zC Γ mu_X12_isOutside := C
  change zV Γ mu_X12_isOutside (145, 0, 0) 0 [(0, zRf (zad Γ) 103), (1, zI a1), (2, zI a2)] [] M
  change vc_X12_isOutside pr_X12_isOf po_X12_isOf a1 a2 _ M at h
  unfold vc_X12_isOutside at h
  refine zr_aload_n C 0 rfl (zdec_at dm_X12_isOutside 0 rfl) rfl ?_
  refine zr_iload_n C 1 rfl (zdec_at dm_X12_isOutside 1 rfl) rfl ?_
  refine zr_iload_n C 2 rfl (zdec_at dm_X12_isOutside 2 rfl) rfl ?_
  refine zr_bipush C (zdec_at dm_X12_isOutside 3 rfl) (by decide) ?_
  obtain ⟨o1, h⟩ := h
  refine zr_irem C zz_a2 (by decide) ⟨o1, by decide⟩ (zdec_at dm_X12_isOutside 4 rfl) ?_
  refine zr_iconst C (zdec_at dm_X12_isOutside 5 rfl) ?_
  refine zr_isub C (zdec_at dm_X12_isOutside 6 rfl) ?_
  refine zr_iload_n C 2 rfl (zdec_at dm_X12_isOutside 7 rfl) rfl ?_
  refine zr_bipush C (zdec_at dm_X12_isOutside 8 rfl) (by decide) ?_
  refine zr_idiv C zz_a2 (by decide) ⟨o1, by decide⟩ (zdec_at dm_X12_isOutside 9 rfl) ?_
  refine zr_iconst C (zdec_at dm_X12_isOutside 10 rfl) ?_
  refine zr_isub C (zdec_at dm_X12_isOutside 11 rfl) ?_
  obtain ⟨o2, h⟩ := h
  obtain ⟨o3, h⟩ := h
  obtain ⟨g9, h⟩ := h
  refine zr_callV C [a1, ((a2 % 18) - 1), ((a2 / 18) - 1)] hS_X12_isOf ck_RX12_255 iv_X12_isOf vc_X12 oc_103 rfl rfl (zdec_at dm_X12_isOutside 12 rfl) ⟨rfl, rfl, rfl, rfl⟩ ⟨by decide, by decide⟩ (Nat.le_of_ble_eq_true rfl) (zall_0 zz_a1 (zall_0 o3 (zall_0 o2 zall_n))) ?_
  refine ⟨_, _, _, rfl, g9, fun r4 M5 p8 z7 hR6 => ?_⟩
  have h := h r4 M5 p8 z7 hR6
  show zV Γ mu_X12_isOutside (145, 0, 0) 17 [(0, zRf (zad Γ) 103), (1, zI a1), (2, zI a2)] [zI r4] M5
  refine zr_if_ne C z7 (zdec_at dm_X12_isOutside 13 rfl) rfl (fun g10 => ?_) (fun g10 => ?_)
  · have h := h.1 g10
    refine zr_iconst C (zdec_at dm_X12_isOutside 16 rfl) ?_
    exact zr_zreturn C rfl (by decide) (zdec_at dm_X12_isOutside 17 rfl) rfl ⟨(by decide), h⟩
  · have h := h.2 g10
    refine zr_iconst C (zdec_at dm_X12_isOutside 14 rfl) ?_
    refine zr_goto C (zdec_at dm_X12_isOutside 15 rfl) rfl ?_
    exact zr_zreturn C rfl (by decide) (zdec_at dm_X12_isOutside 17 rfl) rfl ⟨(by decide), h⟩

set_option maxHeartbeats 400000 in
set_option maxRecDepth 100000 in
theorem sn_X12_findHoles {pr_X12_isOutside : Int → Int → zM → Prop} {po_X12_isOutside : Int → Int → zM → Int → zM → Prop} {pr_X12_dx : Int → zM → Prop} {po_X12_dx : Int → zM → Int → zM → Prop} {pr_X12_dy : Int → zM → Prop} {po_X12_dy : Int → zM → Int → zM → Prop} (hS_X12_isOutside : zSnd zS 145 0 0 yX12_isOutside cX12_isOutside 3 (some .boolean) 1 [2, 0, 0] (F_X12_isOutside pr_X12_isOutside po_X12_isOutside)) (hS_X12_dx : zSnd zS 145 0 0 yX12_dx cX12_dx 1 (some .int) 0 [0] (F_X12_dx pr_X12_dx po_X12_dx)) (hS_X12_dy : zSnd zS 145 0 0 yX12_dy cX12_dy 1 (some .int) 0 [0] (F_X12_dy pr_X12_dy po_X12_dy)) : zSnd zS 145 0 0 yX12_findHoles cX12_findHoles 11 none 2 [2, 0] (fun xs P M => ∃ a1 : Int, xs = [103, a1] ∧ vc_X12_findHoles pr_X12_isOutside po_X12_isOutside pr_X12_dx po_X12_dx pr_X12_dy po_X12_dy a1 P M) := by
  refine zSnd.of rfl (fun ad xs hz => Nat.le_trans (Nat.le_of_eq (zlen ad _ xs hz)) (by decide)) ?_
  intro Γ C _ _ xs M hz hF
  obtain ⟨a1, rfl, h⟩ := hF
  have zz_a1 := zall_h (zall_t hz) (by decide)
  refine zr_rng (fun hR => ?_)
  have C : zC Γ mu_X12_findHoles := C
  change zV Γ mu_X12_findHoles (145, 0, 0) 0 [(0, zRf (zad Γ) 103), (1, zI a1)] [] M
  change vc_X12_findHoles pr_X12_isOutside po_X12_isOutside pr_X12_dx po_X12_dx pr_X12_dy po_X12_dy a1 _ M at h
  unfold vc_X12_findHoles at h
  refine zr_bipush C (zdec_at dm_X12_findHoles 0 rfl) (by decide) ?_
  refine zr_aload_n C 0 rfl (zdec_at dm_X12_findHoles 1 rfl) rfl ?_
  refine zr_geti C fk_RX12_13 fi_103_2 (zdec_at dm_X12_findHoles 2 rfl) ?_
  refine zr_iconst C (zdec_at dm_X12_findHoles 3 rfl) ?_
  refine zr_iadd C (zdec_at dm_X12_findHoles 4 rfl) ?_
  refine zr_imul C (zdec_at dm_X12_findHoles 5 rfl) ?_
  refine zr_istore_n (L1 := [(2, zI (18 * ((M 103 2) + 2))), (0, zRf (zad Γ) 103), (1, zI a1)]) C (zdec_at dm_X12_findHoles 6 rfl) rfl (Nat.le_of_ble_eq_true rfl) rfl ?_
  refine zr_aload_n C 1 rfl (zdec_at dm_X12_findHoles 7 rfl) rfl ?_
  refine zr_iconst C (zdec_at dm_X12_findHoles 8 rfl) ?_
  refine zr_puti C fk_RX12_259 fi_103_37 (by decide) (zdec_at dm_X12_findHoles 9 rfl) (fun M1 e2 => ?_)
  have h := h M1 e2
  have hR3 : zRng M1 := by rw [e2]; exact hR.set (by decide) _ _
  refine zr_iconst C (zdec_at dm_X12_findHoles 10 rfl) ?_
  refine zr_istore_n (L1 := [(3, zI 0), (2, zI (18 * ((M 103 2) + 2))), (0, zRf (zad Γ) 103), (1, zI a1)]) C (zdec_at dm_X12_findHoles 11 rfl) rfl (Nat.le_of_ble_eq_true rfl) rfl ?_
  obtain ⟨I17, ⟨n12, q13⟩, hI11⟩ := h
  have lp10 : ∀ (n8 : Nat) (v4 : Int) (M6 : zM), I17 v4 M6 n8 → zin v4 → zRng M6 → zV Γ mu_X12_findHoles (145, 0, 0) 17 [(0, zRf (zad Γ) 103), (1, zI a1), (2, zI (18 * ((M 103 2) + 2))), (3, zI v4)] [] M6 := by
    intro n8
    induction n8 using Nat.strongRecOn with
    | _ n8 ih9 =>
    intro v4 M6 q14 z5 hR7
    have h := hI11 v4 M6 n8 q14 z5 hR7
    refine zr_iload_n C 3 rfl (zdec_at dm_X12_findHoles 12 rfl) rfl ?_
    refine zr_sipush C (zdec_at dm_X12_findHoles 13 rfl) (by decide) ?_
    refine zr_icmp_ge C z5 (by decide) (zdec_at dm_X12_findHoles 14 rfl) rfl (fun g15 => ?_) (fun g15 => ?_)
    · have h := h.1 g15
      refine zr_iconst C (zdec_at dm_X12_findHoles 22 rfl) ?_
      refine zr_istore_n (L1 := [(3, zI 0), (0, zRf (zad Γ) 103), (1, zI a1), (2, zI (18 * ((M 103 2) + 2)))]) C (zdec_at dm_X12_findHoles 23 rfl) rfl (Nat.le_of_ble_eq_true rfl) rfl ?_
      obtain ⟨I39, ⟨n24, q25⟩, hI23⟩ := h
      have lp22 : ∀ (n20 : Nat) (v16 : Int) (M18 : zM), I39 v16 M18 n20 → zin v16 → zRng M18 → zV Γ mu_X12_findHoles (145, 0, 0) 39 [(0, zRf (zad Γ) 103), (1, zI a1), (2, zI (18 * ((M 103 2) + 2))), (3, zI v16)] [] M18 := by
        intro n20
        induction n20 using Nat.strongRecOn with
        | _ n20 ih21 =>
        intro v16 M18 q26 z17 hR19
        have h := hI23 v16 M18 n20 q26 z17 hR19
        refine zr_iload_n C 3 rfl (zdec_at dm_X12_findHoles 24 rfl) rfl ?_
        refine zr_iload_n C 2 rfl (zdec_at dm_X12_findHoles 25 rfl) rfl ?_
        obtain ⟨o27, h⟩ := h
        refine zr_icmp_ge C z17 o27 (zdec_at dm_X12_findHoles 26 rfl) rfl (fun g28 => ?_) (fun g28 => ?_)
        · have h := h.1 g28
          exact zr_return C rfl rfl (zdec_at dm_X12_findHoles 152 rfl) rfl ⟨by decide, h⟩
        · have h := h.2 g28
          refine zr_iload_n C 3 rfl (zdec_at dm_X12_findHoles 27 rfl) rfl ?_
          refine zr_bipush C (zdec_at dm_X12_findHoles 28 rfl) (by decide) ?_
          obtain ⟨o29, h⟩ := h
          refine zr_irem C z17 (by decide) ⟨o29, by decide⟩ (zdec_at dm_X12_findHoles 29 rfl) ?_
          refine zr_aload_n C 0 rfl (zdec_at dm_X12_findHoles 30 rfl) rfl ?_
          refine zr_geti C fk_RX12_7 fi_103_1 (zdec_at dm_X12_findHoles 31 rfl) ?_
          refine zr_iconst C (zdec_at dm_X12_findHoles 32 rfl) ?_
          refine zr_iadd C (zdec_at dm_X12_findHoles 33 rfl) ?_
          obtain ⟨o30, h⟩ := h
          refine zr_icmp_ge C (z_rz (a := v16) (b := 18) ⟨o29, by decide⟩ (by decide)) o30 (zdec_at dm_X12_findHoles 34 rfl) rfl (fun g31 => ?_) (fun g31 => ?_)
          · have h := h.1 g31
            refine zr_iinc (L1 := [(3, zI (v16 + 1)), (0, zRf (zad Γ) 103), (1, zI a1), (2, zI (18 * ((M 103 2) + 2)))]) C 3 rfl (zdec_at dm_X12_findHoles 150 rfl) (Nat.le_of_ble_eq_true rfl) rfl ?_
            refine zr_goto C (zdec_at dm_X12_findHoles 151 rfl) rfl ?_
            obtain ⟨o32, h⟩ := h
            obtain ⟨n33, q34, q35⟩ := h
            exact zr_sub [1, 2, 3, 0] rfl (ih21 n33 q34 _ _ q35 o32 hR19)
          · have h := h.2 g31
            refine zr_aload_n C 0 rfl (zdec_at dm_X12_findHoles 35 rfl) rfl ?_
            refine zr_getr (q := 117) C fk_RX12_57 fi_103_36 (zdec_at dm_X12_findHoles 36 rfl) ?_
            refine zr_iload_n C 3 rfl (zdec_at dm_X12_findHoles 37 rfl) rfl ?_
            obtain ⟨o36, h⟩ := h
            refine zr_iald C ai_117 o36 (zdec_at dm_X12_findHoles 38 rfl) ?_
            refine zr_if_ge C (hR19 _ _) (zdec_at dm_X12_findHoles 39 rfl) rfl (fun g37 => ?_) (fun g37 => ?_)
            · have h := h.1 g37
              refine zr_iinc (L1 := [(3, zI (v16 + 1)), (0, zRf (zad Γ) 103), (1, zI a1), (2, zI (18 * ((M 103 2) + 2)))]) C 3 rfl (zdec_at dm_X12_findHoles 150 rfl) (Nat.le_of_ble_eq_true rfl) rfl ?_
              refine zr_goto C (zdec_at dm_X12_findHoles 151 rfl) rfl ?_
              obtain ⟨o38, h⟩ := h
              obtain ⟨n39, q40, q41⟩ := h
              exact zr_sub [1, 2, 3, 0] rfl (ih21 n39 q40 _ _ q41 o38 hR19)
            · have h := h.2 g37
              refine zr_aload_n C 0 rfl (zdec_at dm_X12_findHoles 40 rfl) rfl ?_
              refine zr_iload_n C 1 rfl (zdec_at dm_X12_findHoles 41 rfl) rfl ?_
              refine zr_iload_n C 3 rfl (zdec_at dm_X12_findHoles 42 rfl) rfl ?_
              obtain ⟨g47, h⟩ := h
              refine zr_callV C [a1, v16] hS_X12_isOutside ck_RX12_262 iv_X12_isOutside vc_X12 oc_103 rfl rfl (zdec_at dm_X12_findHoles 43 rfl) ⟨rfl, rfl, rfl, rfl⟩ ⟨by decide, by decide⟩ (Nat.le_of_ble_eq_true rfl) (zall_0 zz_a1 (zall_0 z17 zall_n)) ?_
              refine ⟨_, _, rfl, g47, fun r42 M43 p46 z45 hR44 => ?_⟩
              have h := h r42 M43 p46 z45 hR44
              show zV Γ mu_X12_findHoles (145, 0, 0) 72 [(0, zRf (zad Γ) 103), (1, zI a1), (2, zI (18 * ((M 103 2) + 2))), (3, zI v16)] [zI r42] M43
              refine zr_if_eq C z45 (zdec_at dm_X12_findHoles 44 rfl) rfl (fun g48 => ?_) (fun g48 => ?_)
              · have h := h.1 g48
                refine zr_iinc (L1 := [(3, zI (v16 + 1)), (0, zRf (zad Γ) 103), (1, zI a1), (2, zI (18 * ((M 103 2) + 2)))]) C 3 rfl (zdec_at dm_X12_findHoles 150 rfl) (Nat.le_of_ble_eq_true rfl) rfl ?_
                refine zr_goto C (zdec_at dm_X12_findHoles 151 rfl) rfl ?_
                obtain ⟨o49, h⟩ := h
                obtain ⟨n50, q51, q52⟩ := h
                exact zr_sub [1, 2, 3, 0] rfl (ih21 n50 q51 _ _ q52 o49 hR44)
              · have h := h.2 g48
                refine zr_aload_n C 0 rfl (zdec_at dm_X12_findHoles 45 rfl) rfl ?_
                refine zr_getr (q := 117) C fk_RX12_57 fi_103_36 (zdec_at dm_X12_findHoles 46 rfl) ?_
                refine zr_iload_n C 3 rfl (zdec_at dm_X12_findHoles 47 rfl) rfl ?_
                refine zr_aload_n C 0 rfl (zdec_at dm_X12_findHoles 48 rfl) rfl ?_
                refine zr_geti C fk_RX12_259 fi_103_37 (zdec_at dm_X12_findHoles 49 rfl) ?_
                refine zr_iast C ai_117 o36 (hR44 _ _) (zdec_at dm_X12_findHoles 50 rfl) (fun M53 e54 => ?_)
                have h := h M53 e54
                have hR55 : zRng M53 := by rw [e54]; exact hR44.set (hR44 _ _) _ _
                refine zr_iconst C (zdec_at dm_X12_findHoles 51 rfl) ?_
                refine zr_istore (L1 := [(4, zI 1), (0, zRf (zad Γ) 103), (1, zI a1), (2, zI (18 * ((M 103 2) + 2))), (3, zI v16)]) C (zdec_at dm_X12_findHoles 52 rfl) (Nat.le_of_ble_eq_true rfl) rfl ?_
                obtain ⟨I88, ⟨n64, q65⟩, hI63⟩ := h
                have lp62 : ∀ (n60 : Nat) (v56 : Int) (M58 : zM), I88 v56 M58 n60 → zin v56 → zRng M58 → zV Γ mu_X12_findHoles (145, 0, 0) 88 [(0, zRf (zad Γ) 103), (1, zI a1), (2, zI (18 * ((M 103 2) + 2))), (3, zI v16), (4, zI v56)] [] M58 := by
                  intro n60
                  induction n60 using Nat.strongRecOn with
                  | _ n60 ih61 =>
                  intro v56 M58 q66 z57 hR59
                  have h := hI63 v56 M58 n60 q66 z57 hR59
                  refine zr_iload C 4 rfl (zdec_at dm_X12_findHoles 53 rfl) ?_
                  refine zr_if_eq C z57 (zdec_at dm_X12_findHoles 54 rfl) rfl (fun g67 => ?_) (fun g67 => ?_)
                  · have h := h.1 g67
                    refine zr_aload_n C 0 rfl (zdec_at dm_X12_findHoles 144 rfl) rfl ?_
                    refine zr_dup C rfl (zdec_at dm_X12_findHoles 145 rfl) ?_
                    refine zr_geti C fk_RX12_259 fi_103_37 (zdec_at dm_X12_findHoles 146 rfl) ?_
                    refine zr_iconst C (zdec_at dm_X12_findHoles 147 rfl) ?_
                    refine zr_iadd C (zdec_at dm_X12_findHoles 148 rfl) ?_
                    obtain ⟨o68, h⟩ := h
                    refine zr_puti C fk_RX12_259 fi_103_37 o68 (zdec_at dm_X12_findHoles 149 rfl) (fun M69 e70 => ?_)
                    have h := h M69 e70
                    have hR71 : zRng M69 := by rw [e70]; exact hR59.set o68 _ _
                    refine zr_iinc (L1 := [(3, zI (v16 + 1)), (0, zRf (zad Γ) 103), (1, zI a1), (2, zI (18 * ((M 103 2) + 2))), (4, zI v56)]) C 3 rfl (zdec_at dm_X12_findHoles 150 rfl) (Nat.le_of_ble_eq_true rfl) rfl ?_
                    refine zr_goto C (zdec_at dm_X12_findHoles 151 rfl) rfl ?_
                    obtain ⟨o72, h⟩ := h
                    obtain ⟨n73, q74, q75⟩ := h
                    exact zr_sub [1, 2, 3, 0] rfl (ih21 n73 q74 _ _ q75 o72 hR71)
                  · have h := h.2 g67
                    refine zr_iconst C (zdec_at dm_X12_findHoles 55 rfl) ?_
                    refine zr_istore (L1 := [(4, zI 0), (0, zRf (zad Γ) 103), (1, zI a1), (2, zI (18 * ((M 103 2) + 2))), (3, zI v16)]) C (zdec_at dm_X12_findHoles 56 rfl) (Nat.le_of_ble_eq_true rfl) rfl ?_
                    refine zr_iconst C (zdec_at dm_X12_findHoles 57 rfl) ?_
                    refine zr_istore (L1 := [(5, zI 0), (4, zI 0), (0, zRf (zad Γ) 103), (1, zI a1), (2, zI (18 * ((M 103 2) + 2))), (3, zI v16)]) C (zdec_at dm_X12_findHoles 58 rfl) (Nat.le_of_ble_eq_true rfl) rfl ?_
                    obtain ⟨I99, ⟨n86, q87⟩, hI85⟩ := h
                    have lp84 : ∀ (n82 : Nat) (v76 : Int) (v77 : Int) (M80 : zM), I99 v76 v77 M80 n82 → zin v76 → zin v77 → zRng M80 → zV Γ mu_X12_findHoles (145, 0, 0) 99 [(0, zRf (zad Γ) 103), (1, zI a1), (2, zI (18 * ((M 103 2) + 2))), (3, zI v16), (4, zI v76), (5, zI v77)] [] M80 := by
                      intro n82
                      induction n82 using Nat.strongRecOn with
                      | _ n82 ih83 =>
                      intro v76 v77 M80 q88 z78 z79 hR81
                      have h := hI85 v76 v77 M80 n82 q88 z78 z79 hR81
                      refine zr_iload C 5 rfl (zdec_at dm_X12_findHoles 59 rfl) ?_
                      refine zr_iload_n C 2 rfl (zdec_at dm_X12_findHoles 60 rfl) rfl ?_
                      refine zr_icmp_ge C z79 o27 (zdec_at dm_X12_findHoles 61 rfl) rfl (fun g89 => ?_) (fun g89 => ?_)
                      · have h := h.1 g89
                        refine zr_goto C (zdec_at dm_X12_findHoles 143 rfl) rfl ?_
                        obtain ⟨n90, q91, q92⟩ := h
                        exact zr_sub [0, 1, 2, 3, 4] rfl (ih61 n90 q91 _ _ q92 z78 hR81)
                      · have h := h.2 g89
                        refine zr_iconst C (zdec_at dm_X12_findHoles 62 rfl) ?_
                        refine zr_istore (L1 := [(6, zI 0), (0, zRf (zad Γ) 103), (1, zI a1), (2, zI (18 * ((M 103 2) + 2))), (3, zI v16), (4, zI v76), (5, zI v77)]) C (zdec_at dm_X12_findHoles 63 rfl) (Nat.le_of_ble_eq_true rfl) rfl ?_
                        obtain ⟨I108, ⟨n103, q104⟩, hI102⟩ := h
                        have lp101 : ∀ (n99 : Nat) (v93 : Int) (v94 : Int) (M97 : zM), I108 v93 v94 M97 n99 → zin v93 → zin v94 → zRng M97 → zV Γ mu_X12_findHoles (145, 0, 0) 108 [(0, zRf (zad Γ) 103), (1, zI a1), (2, zI (18 * ((M 103 2) + 2))), (3, zI v16), (4, zI v93), (5, zI v77), (6, zI v94)] [] M97 := by
                          intro n99
                          induction n99 using Nat.strongRecOn with
                          | _ n99 ih100 =>
                          intro v93 v94 M97 q105 z95 z96 hR98
                          have h := hI102 v93 v94 M97 n99 q105 z95 z96 hR98
                          refine zr_iload C 6 rfl (zdec_at dm_X12_findHoles 64 rfl) ?_
                          refine zr_aload_n C 0 rfl (zdec_at dm_X12_findHoles 65 rfl) rfl ?_
                          refine zr_geti C fk_RX12_224 fi_103_5 (zdec_at dm_X12_findHoles 66 rfl) ?_
                          have h := h (fun v106 => zin v106 → zV Γ mu_X12_findHoles (145, 0, 0) 123 [(0, zRf (zad Γ) 103), (1, zI a1), (2, zI (18 * ((M 103 2) + 2))), (3, zI v16), (4, zI v93), (5, zI v77), (6, zI v94)] [zI v106, zI v94] M97) (fun v106 h z107 => by
                            have h := h z107
                            refine zr_icmp_ge C z96 z107 (zdec_at dm_X12_findHoles 71 rfl) rfl (fun g108 => ?_) (fun g108 => ?_)
                            · have h := h.1 g108
                              refine zr_iinc (L1 := [(5, zI (v77 + 1)), (0, zRf (zad Γ) 103), (1, zI a1), (2, zI (18 * ((M 103 2) + 2))), (3, zI v16), (4, zI v93), (6, zI v94)]) C 5 rfl (zdec_at dm_X12_findHoles 141 rfl) (Nat.le_of_ble_eq_true rfl) rfl ?_
                              refine zr_goto C (zdec_at dm_X12_findHoles 142 rfl) rfl ?_
                              obtain ⟨o109, h⟩ := h
                              obtain ⟨n110, q111, q112⟩ := h
                              exact zr_sub [1, 2, 3, 4, 5, 0] rfl (ih83 n110 q111 _ _ _ q112 z95 o109 hR98)
                            · have h := h.2 g108
                              refine zr_aload_n C 0 rfl (zdec_at dm_X12_findHoles 72 rfl) rfl ?_
                              refine zr_getr (q := 117) C fk_RX12_57 fi_103_36 (zdec_at dm_X12_findHoles 73 rfl) ?_
                              refine zr_iload C 5 rfl (zdec_at dm_X12_findHoles 74 rfl) ?_
                              obtain ⟨o113, h⟩ := h
                              refine zr_iald C ai_117 o113 (zdec_at dm_X12_findHoles 75 rfl) ?_
                              refine zr_aload_n C 0 rfl (zdec_at dm_X12_findHoles 76 rfl) rfl ?_
                              refine zr_geti C fk_RX12_259 fi_103_37 (zdec_at dm_X12_findHoles 77 rfl) ?_
                              refine zr_icmp_ne C (hR98 _ _) (hR98 _ _) (zdec_at dm_X12_findHoles 78 rfl) rfl (fun g114 => ?_) (fun g114 => ?_)
                              · have h := h.1 g114
                                refine zr_iinc (L1 := [(5, zI (v77 + 1)), (0, zRf (zad Γ) 103), (1, zI a1), (2, zI (18 * ((M 103 2) + 2))), (3, zI v16), (4, zI v93), (6, zI v94)]) C 5 rfl (zdec_at dm_X12_findHoles 141 rfl) (Nat.le_of_ble_eq_true rfl) rfl ?_
                                refine zr_goto C (zdec_at dm_X12_findHoles 142 rfl) rfl ?_
                                obtain ⟨o115, h⟩ := h
                                obtain ⟨n116, q117, q118⟩ := h
                                exact zr_sub [1, 2, 3, 4, 5, 0] rfl (ih83 n116 q117 _ _ _ q118 z95 o115 hR98)
                              · have h := h.2 g114
                                refine zr_iload C 5 rfl (zdec_at dm_X12_findHoles 79 rfl) ?_
                                refine zr_bipush C (zdec_at dm_X12_findHoles 80 rfl) (by decide) ?_
                                obtain ⟨o119, h⟩ := h
                                refine zr_irem C z79 (by decide) ⟨o119, by decide⟩ (zdec_at dm_X12_findHoles 81 rfl) ?_
                                refine zr_iload C 6 rfl (zdec_at dm_X12_findHoles 82 rfl) ?_
                                obtain ⟨g125, h⟩ := h
                                refine zr_callS C [v94] hS_X12_dx ck_RX12_227 sv_X12_dx rfl rfl (zdec_at dm_X12_findHoles 83 rfl) ⟨rfl, rfl, rfl, rfl⟩ ⟨by decide, by decide⟩ (Nat.le_of_ble_eq_true rfl) (zall_0 z96 zall_n) ?_
                                refine ⟨_, rfl, g125, fun r120 M121 p124 z123 hR122 => ?_⟩
                                have h := h r120 M121 p124 z123 hR122
                                show zV Γ mu_X12_findHoles (145, 0, 0) 150 [(0, zRf (zad Γ) 103), (1, zI a1), (2, zI (18 * ((M 103 2) + 2))), (3, zI v16), (4, zI v93), (5, zI v77), (6, zI v94)] [zI r120, zI (v77 % 18)] M121
                                refine zr_iadd C (zdec_at dm_X12_findHoles 84 rfl) ?_
                                refine zr_istore (L1 := [(7, zI ((v77 % 18) + r120)), (0, zRf (zad Γ) 103), (1, zI a1), (2, zI (18 * ((M 103 2) + 2))), (3, zI v16), (4, zI v93), (5, zI v77), (6, zI v94)]) C (zdec_at dm_X12_findHoles 85 rfl) (Nat.le_of_ble_eq_true rfl) rfl ?_
                                refine zr_iload C 6 rfl (zdec_at dm_X12_findHoles 86 rfl) ?_
                                refine zr_bipush C (zdec_at dm_X12_findHoles 87 rfl) (by decide) ?_
                                refine zr_idiv C z79 (by decide) ⟨o119, by decide⟩ (zdec_at dm_X12_findHoles 88 rfl) ?_
                                refine zr_iload C 7 rfl (zdec_at dm_X12_findHoles 89 rfl) ?_
                                obtain ⟨g131, h⟩ := h
                                refine zr_callS C [v94] hS_X12_dy ck_RX12_230 sv_X12_dy rfl rfl (zdec_at dm_X12_findHoles 90 rfl) ⟨rfl, rfl, rfl, rfl⟩ ⟨by decide, by decide⟩ (Nat.le_of_ble_eq_true rfl) (zall_0 z96 zall_n) ?_
                                refine ⟨_, rfl, g131, fun r126 M127 p130 z129 hR128 => ?_⟩
                                have h := h r126 M127 p130 z129 hR128
                                show zV Γ mu_X12_findHoles (145, 0, 0) 163 [(7, zI ((v77 % 18) + r120)), (0, zRf (zad Γ) 103), (1, zI a1), (2, zI (18 * ((M 103 2) + 2))), (3, zI v16), (4, zI v93), (5, zI v77), (6, zI v94)] [zI r126, zI (v77 / 18)] M127
                                refine zr_iadd C (zdec_at dm_X12_findHoles 91 rfl) ?_
                                refine zr_istore (L1 := [(8, zI ((v77 / 18) + r126)), (7, zI ((v77 % 18) + r120)), (0, zRf (zad Γ) 103), (1, zI a1), (2, zI (18 * ((M 103 2) + 2))), (3, zI v16), (4, zI v93), (5, zI v77), (6, zI v94)]) C (zdec_at dm_X12_findHoles 92 rfl) (Nat.le_of_ble_eq_true rfl) rfl ?_
                                refine zr_bipush C (zdec_at dm_X12_findHoles 93 rfl) (by decide) ?_
                                refine zr_iload C 0 rfl (zdec_at dm_X12_findHoles 94 rfl) ?_
                                refine zr_imul C (zdec_at dm_X12_findHoles 95 rfl) ?_
                                refine zr_iload C 1 rfl (zdec_at dm_X12_findHoles 96 rfl) ?_
                                refine zr_iadd C (zdec_at dm_X12_findHoles 97 rfl) ?_
                                refine zr_istore (L1 := [(9, zI ((18 * ((v77 / 18) + r126)) + ((v77 % 18) + r120))), (8, zI ((v77 / 18) + r126)), (7, zI ((v77 % 18) + r120)), (0, zRf (zad Γ) 103), (1, zI a1), (2, zI (18 * ((M 103 2) + 2))), (3, zI v16), (4, zI v93), (5, zI v77), (6, zI v94)]) C (zdec_at dm_X12_findHoles 98 rfl) (Nat.le_of_ble_eq_true rfl) rfl ?_
                                refine zr_iload C 2 rfl (zdec_at dm_X12_findHoles 99 rfl) ?_
                                have h := h (fun v132 => zin v132 → zV Γ mu_X12_findHoles (145, 0, 0) 213 [(0, zRf (zad Γ) 103), (1, zI a1), (2, zI (18 * ((M 103 2) + 2))), (3, zI v16), (4, zI v93), (5, zI v77), (6, zI v94), (9, zI ((18 * ((v77 / 18) + r126)) + ((v77 % 18) + r120)))] [zI v132] M127) (fun v132 h z133 => by
                                  have h := h z133
                                  refine zr_istore (L1 := [(10, zI v132), (0, zRf (zad Γ) 103), (1, zI a1), (2, zI (18 * ((M 103 2) + 2))), (3, zI v16), (4, zI v93), (5, zI v77), (6, zI v94), (9, zI ((18 * ((v77 / 18) + r126)) + ((v77 % 18) + r120)))]) C (zdec_at dm_X12_findHoles 118 rfl) (Nat.le_of_ble_eq_true rfl) rfl ?_
                                  refine zr_iload C 0 rfl (zdec_at dm_X12_findHoles 119 rfl) ?_
                                  refine zr_if_eq C z133 (zdec_at dm_X12_findHoles 120 rfl) rfl (fun g134 => ?_) (fun g134 => ?_)
                                  · have h := h.1 g134
                                    refine zr_iinc (L1 := [(6, zI (v94 + 1)), (10, zI v132), (0, zRf (zad Γ) 103), (1, zI a1), (2, zI (18 * ((M 103 2) + 2))), (3, zI v16), (4, zI v93), (5, zI v77), (9, zI ((18 * ((v77 / 18) + r126)) + ((v77 % 18) + r120)))]) C 7 rfl (zdec_at dm_X12_findHoles 139 rfl) (Nat.le_of_ble_eq_true rfl) rfl ?_
                                    refine zr_goto C (zdec_at dm_X12_findHoles 140 rfl) rfl ?_
                                    obtain ⟨o135, h⟩ := h
                                    obtain ⟨n136, q137, q138⟩ := h
                                    exact zr_sub [2, 3, 4, 5, 6, 7, 0] rfl (ih100 n136 q137 _ _ _ q138 z95 o135 hR128)
                                  · have h := h.2 g134
                                    refine zr_aload_n C 1 rfl (zdec_at dm_X12_findHoles 121 rfl) rfl ?_
                                    refine zr_getr (q := 117) C fk_RX12_57 fi_103_36 (zdec_at dm_X12_findHoles 122 rfl) ?_
                                    refine zr_iload C 8 rfl (zdec_at dm_X12_findHoles 123 rfl) ?_
                                    obtain ⟨o139, h⟩ := h
                                    refine zr_iald C ai_117 o139 (zdec_at dm_X12_findHoles 124 rfl) ?_
                                    refine zr_if_ge C (hR128 _ _) (zdec_at dm_X12_findHoles 125 rfl) rfl (fun g140 => ?_) (fun g140 => ?_)
                                    · have h := h.1 g140
                                      refine zr_iinc (L1 := [(6, zI (v94 + 1)), (10, zI v132), (0, zRf (zad Γ) 103), (1, zI a1), (2, zI (18 * ((M 103 2) + 2))), (3, zI v16), (4, zI v93), (5, zI v77), (9, zI ((18 * ((v77 / 18) + r126)) + ((v77 % 18) + r120)))]) C 7 rfl (zdec_at dm_X12_findHoles 139 rfl) (Nat.le_of_ble_eq_true rfl) rfl ?_
                                      refine zr_goto C (zdec_at dm_X12_findHoles 140 rfl) rfl ?_
                                      obtain ⟨o141, h⟩ := h
                                      obtain ⟨n142, q143, q144⟩ := h
                                      exact zr_sub [2, 3, 4, 5, 6, 7, 0] rfl (ih100 n142 q143 _ _ _ q144 z95 o141 hR128)
                                    · have h := h.2 g140
                                      refine zr_aload_n C 1 rfl (zdec_at dm_X12_findHoles 126 rfl) rfl ?_
                                      refine zr_iload_n C 2 rfl (zdec_at dm_X12_findHoles 127 rfl) rfl ?_
                                      refine zr_iload C 8 rfl (zdec_at dm_X12_findHoles 128 rfl) ?_
                                      obtain ⟨o145, h⟩ := h
                                      obtain ⟨g151, h⟩ := h
                                      refine zr_callV C [a1, ((18 * ((v77 / 18) + r126)) + ((v77 % 18) + r120))] hS_X12_isOutside ck_RX12_262 iv_X12_isOutside vc_X12 oc_103 rfl rfl (zdec_at dm_X12_findHoles 129 rfl) ⟨rfl, rfl, rfl, rfl⟩ ⟨by decide, by decide⟩ (Nat.le_of_ble_eq_true rfl) (zall_0 zz_a1 (zall_0 o145 zall_n)) ?_
                                      refine ⟨_, _, rfl, g151, fun r146 M147 p150 z149 hR148 => ?_⟩
                                      have h := h r146 M147 p150 z149 hR148
                                      show zV Γ mu_X12_findHoles (145, 0, 0) 237 [(10, zI v132), (0, zRf (zad Γ) 103), (1, zI a1), (2, zI (18 * ((M 103 2) + 2))), (3, zI v16), (4, zI v93), (5, zI v77), (6, zI v94), (9, zI ((18 * ((v77 / 18) + r126)) + ((v77 % 18) + r120)))] [zI r146] M147
                                      refine zr_if_eq C z149 (zdec_at dm_X12_findHoles 130 rfl) rfl (fun g152 => ?_) (fun g152 => ?_)
                                      · have h := h.1 g152
                                        refine zr_iinc (L1 := [(6, zI (v94 + 1)), (10, zI v132), (0, zRf (zad Γ) 103), (1, zI a1), (2, zI (18 * ((M 103 2) + 2))), (3, zI v16), (4, zI v93), (5, zI v77), (9, zI ((18 * ((v77 / 18) + r126)) + ((v77 % 18) + r120)))]) C 7 rfl (zdec_at dm_X12_findHoles 139 rfl) (Nat.le_of_ble_eq_true rfl) rfl ?_
                                        refine zr_goto C (zdec_at dm_X12_findHoles 140 rfl) rfl ?_
                                        obtain ⟨o153, h⟩ := h
                                        obtain ⟨n154, q155, q156⟩ := h
                                        exact zr_sub [2, 3, 4, 5, 6, 7, 0] rfl (ih100 n154 q155 _ _ _ q156 z95 o153 hR148)
                                      · have h := h.2 g152
                                        refine zr_aload_n C 1 rfl (zdec_at dm_X12_findHoles 131 rfl) rfl ?_
                                        refine zr_getr (q := 117) C fk_RX12_57 fi_103_36 (zdec_at dm_X12_findHoles 132 rfl) ?_
                                        refine zr_iload C 8 rfl (zdec_at dm_X12_findHoles 133 rfl) ?_
                                        refine zr_aload_n C 1 rfl (zdec_at dm_X12_findHoles 134 rfl) rfl ?_
                                        refine zr_geti C fk_RX12_259 fi_103_37 (zdec_at dm_X12_findHoles 135 rfl) ?_
                                        refine zr_iast C ai_117 o139 (hR148 _ _) (zdec_at dm_X12_findHoles 136 rfl) (fun M157 e158 => ?_)
                                        have h := h M157 e158
                                        have hR159 : zRng M157 := by rw [e158]; exact hR148.set (hR148 _ _) _ _
                                        refine zr_iconst C (zdec_at dm_X12_findHoles 137 rfl) ?_
                                        refine zr_istore (L1 := [(4, zI 1), (10, zI v132), (0, zRf (zad Γ) 103), (1, zI a1), (2, zI (18 * ((M 103 2) + 2))), (3, zI v16), (5, zI v77), (6, zI v94), (9, zI ((18 * ((v77 / 18) + r126)) + ((v77 % 18) + r120)))]) C (zdec_at dm_X12_findHoles 138 rfl) (Nat.le_of_ble_eq_true rfl) rfl ?_
                                        refine zr_iinc (L1 := [(6, zI (v94 + 1)), (4, zI 1), (10, zI v132), (0, zRf (zad Γ) 103), (1, zI a1), (2, zI (18 * ((M 103 2) + 2))), (3, zI v16), (5, zI v77), (9, zI ((18 * ((v77 / 18) + r126)) + ((v77 % 18) + r120)))]) C 7 rfl (zdec_at dm_X12_findHoles 139 rfl) (Nat.le_of_ble_eq_true rfl) rfl ?_
                                        refine zr_goto C (zdec_at dm_X12_findHoles 140 rfl) rfl ?_
                                        obtain ⟨o160, h⟩ := h
                                        obtain ⟨n161, q162, q163⟩ := h
                                        exact zr_sub [3, 4, 5, 6, 1, 7, 0] rfl (ih100 n161 q162 _ _ _ q163 (by decide) o160 hR159))
                                have h := h (zV Γ mu_X12_findHoles (145, 0, 0) 212 [(0, zRf (zad Γ) 103), (1, zI a1), (2, zI (18 * ((M 103 2) + 2))), (3, zI v16), (4, zI v93), (5, zI v77), (6, zI v94), (9, zI ((18 * ((v77 / 18) + r126)) + ((v77 % 18) + r120)))] [] M127) (fun h => by
                                  refine zr_iconst C (zdec_at dm_X12_findHoles 117 rfl) ?_
                                  exact zr_sub [0, 1, 2, 3, 4, 5, 6, 7] rfl (h (by decide)))
                                obtain ⟨o164, h⟩ := h
                                refine zr_if_lt C o164 (zdec_at dm_X12_findHoles 100 rfl) rfl (fun g165 => ?_) (fun g165 => ?_)
                                · have h := h.1 g165
                                  exact zr_sub [3, 4, 5, 6, 7, 8, 9, 0] rfl (h)
                                · have h := h.2 g165
                                  refine zr_iload C 2 rfl (zdec_at dm_X12_findHoles 101 rfl) ?_
                                  refine zr_aload_n C 3 rfl (zdec_at dm_X12_findHoles 102 rfl) rfl ?_
                                  refine zr_geti C fk_RX12_7 fi_103_1 (zdec_at dm_X12_findHoles 103 rfl) ?_
                                  refine zr_iconst C (zdec_at dm_X12_findHoles 104 rfl) ?_
                                  refine zr_iadd C (zdec_at dm_X12_findHoles 105 rfl) ?_
                                  obtain ⟨o166, h⟩ := h
                                  refine zr_icmp_ge C o164 o166 (zdec_at dm_X12_findHoles 106 rfl) rfl (fun g167 => ?_) (fun g167 => ?_)
                                  · have h := h.1 g167
                                    exact zr_sub [3, 4, 5, 6, 7, 8, 9, 0] rfl (h)
                                  · have h := h.2 g167
                                    refine zr_iload C 1 rfl (zdec_at dm_X12_findHoles 107 rfl) ?_
                                    obtain ⟨o168, h⟩ := h
                                    refine zr_if_lt C o168 (zdec_at dm_X12_findHoles 108 rfl) rfl (fun g169 => ?_) (fun g169 => ?_)
                                    · have h := h.1 g169
                                      exact zr_sub [3, 4, 5, 6, 7, 8, 9, 0] rfl (h)
                                    · have h := h.2 g169
                                      refine zr_iload C 1 rfl (zdec_at dm_X12_findHoles 109 rfl) ?_
                                      refine zr_aload_n C 3 rfl (zdec_at dm_X12_findHoles 110 rfl) rfl ?_
                                      refine zr_geti C fk_RX12_13 fi_103_2 (zdec_at dm_X12_findHoles 111 rfl) ?_
                                      refine zr_iconst C (zdec_at dm_X12_findHoles 112 rfl) ?_
                                      refine zr_iadd C (zdec_at dm_X12_findHoles 113 rfl) ?_
                                      obtain ⟨o170, h⟩ := h
                                      refine zr_icmp_ge C o168 o170 (zdec_at dm_X12_findHoles 114 rfl) rfl (fun g171 => ?_) (fun g171 => ?_)
                                      · have h := h.1 g171
                                        exact zr_sub [3, 4, 5, 6, 7, 8, 9, 0] rfl (h)
                                      · have h := h.2 g171
                                        refine zr_iconst C (zdec_at dm_X12_findHoles 115 rfl) ?_
                                        refine zr_goto C (zdec_at dm_X12_findHoles 116 rfl) rfl ?_
                                        exact zr_sub [3, 4, 5, 6, 7, 8, 9, 0] rfl (h (by decide)))
                          refine zr_if_ne C (hR98 _ _) (zdec_at dm_X12_findHoles 67 rfl) rfl (fun g172 => ?_) (fun g172 => ?_)
                          · have h := h.1 g172
                            refine zr_iconst C (zdec_at dm_X12_findHoles 70 rfl) ?_
                            exact zr_sub [0, 1, 2, 3, 4, 5, 6] rfl (h (by decide))
                          · have h := h.2 g172
                            refine zr_bipush C (zdec_at dm_X12_findHoles 68 rfl) (by decide) ?_
                            refine zr_goto C (zdec_at dm_X12_findHoles 69 rfl) rfl ?_
                            exact zr_sub [0, 1, 2, 3, 4, 5, 6] rfl (h (by decide))
                        exact zr_sub [1, 2, 3, 4, 5, 6, 0] rfl (lp101 n103 _ _ _ q104 z78 (by decide) hR81)
                    exact zr_sub [2, 3, 4, 5, 1, 0] rfl (lp84 n86 _ _ _ q87 (by decide) (by decide) hR59)
                exact zr_sub [1, 2, 3, 4, 0] rfl (lp62 n64 _ _ q65 (by decide) hR55)
      exact zr_sub [1, 2, 3, 0] rfl (lp22 n24 _ _ q25 (by decide) hR7)
    · have h := h.2 g15
      refine zr_aload_n C 0 rfl (zdec_at dm_X12_findHoles 15 rfl) rfl ?_
      refine zr_getr (q := 117) C fk_RX12_57 fi_103_36 (zdec_at dm_X12_findHoles 16 rfl) ?_
      refine zr_iload_n C 3 rfl (zdec_at dm_X12_findHoles 17 rfl) rfl ?_
      refine zr_iconst C (zdec_at dm_X12_findHoles 18 rfl) ?_
      obtain ⟨o173, h⟩ := h
      refine zr_iast C ai_117 o173 (by decide) (zdec_at dm_X12_findHoles 19 rfl) (fun M174 e175 => ?_)
      have h := h M174 e175
      have hR176 : zRng M174 := by rw [e175]; exact hR7.set (by decide) _ _
      refine zr_iinc (L1 := [(3, zI (v4 + 1)), (0, zRf (zad Γ) 103), (1, zI a1), (2, zI (18 * ((M 103 2) + 2)))]) C 3 rfl (zdec_at dm_X12_findHoles 20 rfl) (Nat.le_of_ble_eq_true rfl) rfl ?_
      refine zr_goto C (zdec_at dm_X12_findHoles 21 rfl) rfl ?_
      obtain ⟨o177, h⟩ := h
      obtain ⟨n178, q179, q180⟩ := h
      exact zr_sub [1, 2, 3, 0] rfl (ih9 n178 q179 _ _ q180 o177 hR176)
  exact zr_sub [2, 3, 1, 0] rfl (lp10 n12 _ _ q13 (by decide) hR3)

set_option maxHeartbeats 400000 in
set_option maxRecDepth 100000 in
theorem sn_X12_partOf : zSnd zS 145 0 0 yX12_partOf cX12_partOf 2 (some .int) 0 [2, 0] (fun xs P M => ∃ a1 : Int, xs = [103, a1] ∧ vc_X12_partOf a1 P M) := by
  refine zSnd.of rfl (fun ad xs hz => Nat.le_trans (Nat.le_of_eq (zlen ad _ xs hz)) (by decide)) ?_
  intro Γ C _ _ xs M hz hF
  obtain ⟨a1, rfl, h⟩ := hF
  have zz_a1 := zall_h (zall_t hz) (by decide)
  refine zr_rng (fun hR => ?_)
  have C : zC Γ mu_X12_partOf := C
  change zV Γ mu_X12_partOf (145, 0, 0) 0 [(0, zRf (zad Γ) 103), (1, zI a1)] [] M
  change vc_X12_partOf a1 _ M at h
  unfold vc_X12_partOf at h
  refine zr_aload_n C 0 rfl (zdec_at dm_X12_partOf 0 rfl) rfl ?_
  refine zr_getr (q := 117) C fk_RX12_57 fi_103_36 (zdec_at dm_X12_partOf 1 rfl) ?_
  refine zr_bipush C (zdec_at dm_X12_partOf 2 rfl) (by decide) ?_
  refine zr_iload_n C 1 rfl (zdec_at dm_X12_partOf 3 rfl) rfl ?_
  refine zr_bipush C (zdec_at dm_X12_partOf 4 rfl) (by decide) ?_
  obtain ⟨o1, h⟩ := h
  refine zr_idiv C zz_a1 (by decide) ⟨o1, by decide⟩ (zdec_at dm_X12_partOf 5 rfl) ?_
  refine zr_iconst C (zdec_at dm_X12_partOf 6 rfl) ?_
  refine zr_iadd C (zdec_at dm_X12_partOf 7 rfl) ?_
  refine zr_imul C (zdec_at dm_X12_partOf 8 rfl) ?_
  refine zr_iload_n C 1 rfl (zdec_at dm_X12_partOf 9 rfl) rfl ?_
  refine zr_bipush C (zdec_at dm_X12_partOf 10 rfl) (by decide) ?_
  refine zr_irem C zz_a1 (by decide) ⟨o1, by decide⟩ (zdec_at dm_X12_partOf 11 rfl) ?_
  refine zr_iadd C (zdec_at dm_X12_partOf 12 rfl) ?_
  refine zr_iconst C (zdec_at dm_X12_partOf 13 rfl) ?_
  refine zr_iadd C (zdec_at dm_X12_partOf 14 rfl) ?_
  obtain ⟨o2, h⟩ := h
  refine zr_iald C ai_117 o2 (zdec_at dm_X12_partOf 15 rfl) ?_
  exact zr_ireturn C rfl (zdec_at dm_X12_partOf 16 rfl) rfl ⟨(hR _ _), h⟩

set_option maxHeartbeats 400000 in
set_option maxRecDepth 100000 in
theorem sn_X12_liesIn {pr_X12_partOf : Int → zM → Prop} {po_X12_partOf : Int → zM → Int → zM → Prop} (hS_X12_partOf : zSnd zS 145 0 0 yX12_partOf cX12_partOf 2 (some .int) 0 [2, 0] (F_X12_partOf pr_X12_partOf po_X12_partOf)) : zSnd zS 145 0 0 yX12_liesIn cX12_liesIn 5 (some .boolean) 1 [2, 0] (fun xs P M => ∃ a1 : Int, xs = [103, a1] ∧ vc_X12_liesIn pr_X12_partOf po_X12_partOf a1 P M) := by
  refine zSnd.of rfl (fun ad xs hz => Nat.le_trans (Nat.le_of_eq (zlen ad _ xs hz)) (by decide)) ?_
  intro Γ C _ _ xs M hz hF
  obtain ⟨a1, rfl, h⟩ := hF
  have zz_a1 := zall_h (zall_t hz) (by decide)
  refine zr_rng (fun hR => ?_)
  have C : zC Γ mu_X12_liesIn := C
  change zV Γ mu_X12_liesIn (145, 0, 0) 0 [(0, zRf (zad Γ) 103), (1, zI a1)] [] M
  change vc_X12_liesIn pr_X12_partOf po_X12_partOf a1 _ M at h
  unfold vc_X12_liesIn at h
  refine zr_aload_n C 0 rfl (zdec_at dm_X12_liesIn 0 rfl) rfl ?_
  refine zr_aload_n C 0 rfl (zdec_at dm_X12_liesIn 1 rfl) rfl ?_
  refine zr_getr (q := 116) C fk_RX12_54 fi_103_31 (zdec_at dm_X12_liesIn 2 rfl) ?_
  refine zr_iload_n C 1 rfl (zdec_at dm_X12_liesIn 3 rfl) rfl ?_
  obtain ⟨o1, h⟩ := h
  refine zr_iald C ai_116 o1 (zdec_at dm_X12_liesIn 4 rfl) ?_
  obtain ⟨g7, h⟩ := h
  refine zr_callV C [(M 116 a1)] hS_X12_partOf ck_RX12_266 iv_X12_partOf vc_X12 oc_103 rfl rfl (zdec_at dm_X12_liesIn 5 rfl) ⟨rfl, rfl, rfl, rfl⟩ ⟨by decide, by decide⟩ (Nat.le_of_ble_eq_true rfl) (zall_0 (hR _ _) zall_n) ?_
  refine ⟨_, rfl, g7, fun r2 M3 p6 z5 hR4 => ?_⟩
  have h := h r2 M3 p6 z5 hR4
  show zV Γ mu_X12_liesIn (145, 0, 0) 10 [(0, zRf (zad Γ) 103), (1, zI a1)] [zI r2] M3
  refine zr_istore_n (L1 := [(2, zI r2), (0, zRf (zad Γ) 103), (1, zI a1)]) C (zdec_at dm_X12_liesIn 6 rfl) rfl (Nat.le_of_ble_eq_true rfl) rfl ?_
  refine zr_iload_n C 0 rfl (zdec_at dm_X12_liesIn 7 rfl) rfl ?_
  refine zr_if_le C z5 (zdec_at dm_X12_liesIn 8 rfl) rfl (fun g8 => ?_) (fun g8 => ?_)
  · have h := h.1 g8
    refine zr_iconst C (zdec_at dm_X12_liesIn 11 rfl) ?_
    refine zr_istore_n (L1 := [(3, zI 0), (2, zI r2), (0, zRf (zad Γ) 103), (1, zI a1)]) C (zdec_at dm_X12_liesIn 12 rfl) rfl (Nat.le_of_ble_eq_true rfl) rfl ?_
    refine zr_iconst C (zdec_at dm_X12_liesIn 13 rfl) ?_
    refine zr_istore (L1 := [(4, zI 0), (3, zI 0), (2, zI r2), (0, zRf (zad Γ) 103), (1, zI a1)]) C (zdec_at dm_X12_liesIn 14 rfl) (Nat.le_of_ble_eq_true rfl) rfl ?_
    obtain ⟨I24, ⟨n19, q20⟩, hI18⟩ := h
    have lp17 : ∀ (n15 : Nat) (v9 : Int) (v10 : Int) (M13 : zM), I24 v9 v10 M13 n15 → zin v9 → zin v10 → zRng M13 → zV Γ mu_X12_liesIn (145, 0, 0) 24 [(0, zRf (zad Γ) 103), (1, zI a1), (2, zI r2), (3, zI v9), (4, zI v10)] [] M13 := by
      intro n15
      induction n15 using Nat.strongRecOn with
      | _ n15 ih16 =>
      intro v9 v10 M13 q21 z11 z12 hR14
      have h := hI18 v9 v10 M13 n15 q21 z11 z12 hR14
      refine zr_iload C 4 rfl (zdec_at dm_X12_liesIn 15 rfl) ?_
      refine zr_sipush C (zdec_at dm_X12_liesIn 16 rfl) (by decide) ?_
      refine zr_icmp_ge C z12 (by decide) (zdec_at dm_X12_liesIn 17 rfl) rfl (fun g22 => ?_) (fun g22 => ?_)
      · have h := h.1 g22
        refine zr_iload_n C 3 rfl (zdec_at dm_X12_liesIn 37 rfl) rfl ?_
        obtain ⟨o23, h⟩ := h
        exact zr_zreturn C rfl o23 (zdec_at dm_X12_liesIn 38 rfl) rfl ⟨z11, h⟩
      · have h := h.2 g22
        refine zr_iload_n C 3 rfl (zdec_at dm_X12_liesIn 18 rfl) rfl ?_
        refine zr_if_eq C z11 (zdec_at dm_X12_liesIn 19 rfl) rfl (fun g24 => ?_) (fun g24 => ?_)
        · have h := h.1 g24
          refine zr_iconst C (zdec_at dm_X12_liesIn 33 rfl) ?_
          refine zr_istore_n (L1 := [(3, zI 0), (0, zRf (zad Γ) 103), (1, zI a1), (2, zI r2), (4, zI v10)]) C (zdec_at dm_X12_liesIn 34 rfl) rfl (Nat.le_of_ble_eq_true rfl) rfl ?_
          refine zr_iinc (L1 := [(4, zI (v10 + 1)), (3, zI 0), (0, zRf (zad Γ) 103), (1, zI a1), (2, zI r2)]) C 4 rfl (zdec_at dm_X12_liesIn 35 rfl) (Nat.le_of_ble_eq_true rfl) rfl ?_
          refine zr_goto C (zdec_at dm_X12_liesIn 36 rfl) rfl ?_
          obtain ⟨o25, h⟩ := h
          obtain ⟨n26, q27, q28⟩ := h
          exact zr_sub [2, 3, 4, 1, 0] rfl (ih16 n26 q27 _ _ _ q28 (by decide) o25 hR14)
        · have h := h.2 g24
          refine zr_aload_n C 0 rfl (zdec_at dm_X12_liesIn 20 rfl) rfl ?_
          refine zr_getr (q := 115) C fk_RX12_51 fi_103_29 (zdec_at dm_X12_liesIn 21 rfl) ?_
          refine zr_iload C 4 rfl (zdec_at dm_X12_liesIn 22 rfl) ?_
          obtain ⟨o29, h⟩ := h
          refine zr_iald C ai_115 o29 (zdec_at dm_X12_liesIn 23 rfl) ?_
          refine zr_iload_n C 1 rfl (zdec_at dm_X12_liesIn 24 rfl) rfl ?_
          refine zr_icmp_ne C (hR14 _ _) zz_a1 (zdec_at dm_X12_liesIn 25 rfl) rfl (fun g30 => ?_) (fun g30 => ?_)
          · have h := h.1 g30
            refine zr_iconst C (zdec_at dm_X12_liesIn 31 rfl) ?_
            refine zr_goto C (zdec_at dm_X12_liesIn 32 rfl) rfl ?_
            refine zr_istore_n (L1 := [(3, zI 1), (0, zRf (zad Γ) 103), (1, zI a1), (2, zI r2), (4, zI v10)]) C (zdec_at dm_X12_liesIn 34 rfl) rfl (Nat.le_of_ble_eq_true rfl) rfl ?_
            refine zr_iinc (L1 := [(4, zI (v10 + 1)), (3, zI 1), (0, zRf (zad Γ) 103), (1, zI a1), (2, zI r2)]) C 4 rfl (zdec_at dm_X12_liesIn 35 rfl) (Nat.le_of_ble_eq_true rfl) rfl ?_
            refine zr_goto C (zdec_at dm_X12_liesIn 36 rfl) rfl ?_
            obtain ⟨o31, h⟩ := h
            obtain ⟨n32, q33, q34⟩ := h
            exact zr_sub [2, 3, 4, 1, 0] rfl (ih16 n32 q33 _ _ _ q34 (by decide) o31 hR14)
          · have h := h.2 g30
            refine zr_aload_n C 0 rfl (zdec_at dm_X12_liesIn 26 rfl) rfl ?_
            refine zr_iload C 4 rfl (zdec_at dm_X12_liesIn 27 rfl) ?_
            obtain ⟨g40, h⟩ := h
            refine zr_callV C [v10] hS_X12_partOf ck_RX12_266 iv_X12_partOf vc_X12 oc_103 rfl rfl (zdec_at dm_X12_liesIn 28 rfl) ⟨rfl, rfl, rfl, rfl⟩ ⟨by decide, by decide⟩ (Nat.le_of_ble_eq_true rfl) (zall_0 z12 zall_n) ?_
            refine ⟨_, rfl, g40, fun r35 M36 p39 z38 hR37 => ?_⟩
            have h := h r35 M36 p39 z38 hR37
            show zV Γ mu_X12_liesIn (145, 0, 0) 53 [(0, zRf (zad Γ) 103), (1, zI a1), (2, zI r2), (3, zI v9), (4, zI v10)] [zI r35] M36
            refine zr_iload_n C 2 rfl (zdec_at dm_X12_liesIn 29 rfl) rfl ?_
            refine zr_icmp_ne C z38 z5 (zdec_at dm_X12_liesIn 30 rfl) rfl (fun g41 => ?_) (fun g41 => ?_)
            · have h := h.1 g41
              refine zr_iconst C (zdec_at dm_X12_liesIn 33 rfl) ?_
              refine zr_istore_n (L1 := [(3, zI 0), (0, zRf (zad Γ) 103), (1, zI a1), (2, zI r2), (4, zI v10)]) C (zdec_at dm_X12_liesIn 34 rfl) rfl (Nat.le_of_ble_eq_true rfl) rfl ?_
              refine zr_iinc (L1 := [(4, zI (v10 + 1)), (3, zI 0), (0, zRf (zad Γ) 103), (1, zI a1), (2, zI r2)]) C 4 rfl (zdec_at dm_X12_liesIn 35 rfl) (Nat.le_of_ble_eq_true rfl) rfl ?_
              refine zr_goto C (zdec_at dm_X12_liesIn 36 rfl) rfl ?_
              obtain ⟨o42, h⟩ := h
              obtain ⟨n43, q44, q45⟩ := h
              exact zr_sub [2, 3, 4, 1, 0] rfl (ih16 n43 q44 _ _ _ q45 (by decide) o42 hR37)
            · have h := h.2 g41
              refine zr_iconst C (zdec_at dm_X12_liesIn 31 rfl) ?_
              refine zr_goto C (zdec_at dm_X12_liesIn 32 rfl) rfl ?_
              refine zr_istore_n (L1 := [(3, zI 1), (0, zRf (zad Γ) 103), (1, zI a1), (2, zI r2), (4, zI v10)]) C (zdec_at dm_X12_liesIn 34 rfl) rfl (Nat.le_of_ble_eq_true rfl) rfl ?_
              refine zr_iinc (L1 := [(4, zI (v10 + 1)), (3, zI 1), (0, zRf (zad Γ) 103), (1, zI a1), (2, zI r2)]) C 4 rfl (zdec_at dm_X12_liesIn 35 rfl) (Nat.le_of_ble_eq_true rfl) rfl ?_
              refine zr_goto C (zdec_at dm_X12_liesIn 36 rfl) rfl ?_
              obtain ⟨o46, h⟩ := h
              obtain ⟨n47, q48, q49⟩ := h
              exact zr_sub [2, 3, 4, 1, 0] rfl (ih16 n47 q48 _ _ _ q49 (by decide) o46 hR37)
    exact zr_sub [3, 4, 2, 1, 0] rfl (lp17 n19 _ _ _ q20 (by decide) (by decide) hR4)
  · have h := h.2 g8
    refine zr_iconst C (zdec_at dm_X12_liesIn 9 rfl) ?_
    refine zr_goto C (zdec_at dm_X12_liesIn 10 rfl) rfl ?_
    refine zr_istore_n (L1 := [(3, zI 1), (2, zI r2), (0, zRf (zad Γ) 103), (1, zI a1)]) C (zdec_at dm_X12_liesIn 12 rfl) rfl (Nat.le_of_ble_eq_true rfl) rfl ?_
    refine zr_iconst C (zdec_at dm_X12_liesIn 13 rfl) ?_
    refine zr_istore (L1 := [(4, zI 0), (3, zI 1), (2, zI r2), (0, zRf (zad Γ) 103), (1, zI a1)]) C (zdec_at dm_X12_liesIn 14 rfl) (Nat.le_of_ble_eq_true rfl) rfl ?_
    obtain ⟨I24, ⟨n60, q61⟩, hI59⟩ := h
    have lp58 : ∀ (n56 : Nat) (v50 : Int) (v51 : Int) (M54 : zM), I24 v50 v51 M54 n56 → zin v50 → zin v51 → zRng M54 → zV Γ mu_X12_liesIn (145, 0, 0) 24 [(0, zRf (zad Γ) 103), (1, zI a1), (2, zI r2), (3, zI v50), (4, zI v51)] [] M54 := by
      intro n56
      induction n56 using Nat.strongRecOn with
      | _ n56 ih57 =>
      intro v50 v51 M54 q62 z52 z53 hR55
      have h := hI59 v50 v51 M54 n56 q62 z52 z53 hR55
      refine zr_iload C 4 rfl (zdec_at dm_X12_liesIn 15 rfl) ?_
      refine zr_sipush C (zdec_at dm_X12_liesIn 16 rfl) (by decide) ?_
      refine zr_icmp_ge C z53 (by decide) (zdec_at dm_X12_liesIn 17 rfl) rfl (fun g63 => ?_) (fun g63 => ?_)
      · have h := h.1 g63
        refine zr_iload_n C 3 rfl (zdec_at dm_X12_liesIn 37 rfl) rfl ?_
        obtain ⟨o64, h⟩ := h
        exact zr_zreturn C rfl o64 (zdec_at dm_X12_liesIn 38 rfl) rfl ⟨z52, h⟩
      · have h := h.2 g63
        refine zr_iload_n C 3 rfl (zdec_at dm_X12_liesIn 18 rfl) rfl ?_
        refine zr_if_eq C z52 (zdec_at dm_X12_liesIn 19 rfl) rfl (fun g65 => ?_) (fun g65 => ?_)
        · have h := h.1 g65
          refine zr_iconst C (zdec_at dm_X12_liesIn 33 rfl) ?_
          refine zr_istore_n (L1 := [(3, zI 0), (0, zRf (zad Γ) 103), (1, zI a1), (2, zI r2), (4, zI v51)]) C (zdec_at dm_X12_liesIn 34 rfl) rfl (Nat.le_of_ble_eq_true rfl) rfl ?_
          refine zr_iinc (L1 := [(4, zI (v51 + 1)), (3, zI 0), (0, zRf (zad Γ) 103), (1, zI a1), (2, zI r2)]) C 4 rfl (zdec_at dm_X12_liesIn 35 rfl) (Nat.le_of_ble_eq_true rfl) rfl ?_
          refine zr_goto C (zdec_at dm_X12_liesIn 36 rfl) rfl ?_
          obtain ⟨o66, h⟩ := h
          obtain ⟨n67, q68, q69⟩ := h
          exact zr_sub [2, 3, 4, 1, 0] rfl (ih57 n67 q68 _ _ _ q69 (by decide) o66 hR55)
        · have h := h.2 g65
          refine zr_aload_n C 0 rfl (zdec_at dm_X12_liesIn 20 rfl) rfl ?_
          refine zr_getr (q := 115) C fk_RX12_51 fi_103_29 (zdec_at dm_X12_liesIn 21 rfl) ?_
          refine zr_iload C 4 rfl (zdec_at dm_X12_liesIn 22 rfl) ?_
          obtain ⟨o70, h⟩ := h
          refine zr_iald C ai_115 o70 (zdec_at dm_X12_liesIn 23 rfl) ?_
          refine zr_iload_n C 1 rfl (zdec_at dm_X12_liesIn 24 rfl) rfl ?_
          refine zr_icmp_ne C (hR55 _ _) zz_a1 (zdec_at dm_X12_liesIn 25 rfl) rfl (fun g71 => ?_) (fun g71 => ?_)
          · have h := h.1 g71
            refine zr_iconst C (zdec_at dm_X12_liesIn 31 rfl) ?_
            refine zr_goto C (zdec_at dm_X12_liesIn 32 rfl) rfl ?_
            refine zr_istore_n (L1 := [(3, zI 1), (0, zRf (zad Γ) 103), (1, zI a1), (2, zI r2), (4, zI v51)]) C (zdec_at dm_X12_liesIn 34 rfl) rfl (Nat.le_of_ble_eq_true rfl) rfl ?_
            refine zr_iinc (L1 := [(4, zI (v51 + 1)), (3, zI 1), (0, zRf (zad Γ) 103), (1, zI a1), (2, zI r2)]) C 4 rfl (zdec_at dm_X12_liesIn 35 rfl) (Nat.le_of_ble_eq_true rfl) rfl ?_
            refine zr_goto C (zdec_at dm_X12_liesIn 36 rfl) rfl ?_
            obtain ⟨o72, h⟩ := h
            obtain ⟨n73, q74, q75⟩ := h
            exact zr_sub [2, 3, 4, 1, 0] rfl (ih57 n73 q74 _ _ _ q75 (by decide) o72 hR55)
          · have h := h.2 g71
            refine zr_aload_n C 0 rfl (zdec_at dm_X12_liesIn 26 rfl) rfl ?_
            refine zr_iload C 4 rfl (zdec_at dm_X12_liesIn 27 rfl) ?_
            obtain ⟨g81, h⟩ := h
            refine zr_callV C [v51] hS_X12_partOf ck_RX12_266 iv_X12_partOf vc_X12 oc_103 rfl rfl (zdec_at dm_X12_liesIn 28 rfl) ⟨rfl, rfl, rfl, rfl⟩ ⟨by decide, by decide⟩ (Nat.le_of_ble_eq_true rfl) (zall_0 z53 zall_n) ?_
            refine ⟨_, rfl, g81, fun r76 M77 p80 z79 hR78 => ?_⟩
            have h := h r76 M77 p80 z79 hR78
            show zV Γ mu_X12_liesIn (145, 0, 0) 53 [(0, zRf (zad Γ) 103), (1, zI a1), (2, zI r2), (3, zI v50), (4, zI v51)] [zI r76] M77
            refine zr_iload_n C 2 rfl (zdec_at dm_X12_liesIn 29 rfl) rfl ?_
            refine zr_icmp_ne C z79 z5 (zdec_at dm_X12_liesIn 30 rfl) rfl (fun g82 => ?_) (fun g82 => ?_)
            · have h := h.1 g82
              refine zr_iconst C (zdec_at dm_X12_liesIn 33 rfl) ?_
              refine zr_istore_n (L1 := [(3, zI 0), (0, zRf (zad Γ) 103), (1, zI a1), (2, zI r2), (4, zI v51)]) C (zdec_at dm_X12_liesIn 34 rfl) rfl (Nat.le_of_ble_eq_true rfl) rfl ?_
              refine zr_iinc (L1 := [(4, zI (v51 + 1)), (3, zI 0), (0, zRf (zad Γ) 103), (1, zI a1), (2, zI r2)]) C 4 rfl (zdec_at dm_X12_liesIn 35 rfl) (Nat.le_of_ble_eq_true rfl) rfl ?_
              refine zr_goto C (zdec_at dm_X12_liesIn 36 rfl) rfl ?_
              obtain ⟨o83, h⟩ := h
              obtain ⟨n84, q85, q86⟩ := h
              exact zr_sub [2, 3, 4, 1, 0] rfl (ih57 n84 q85 _ _ _ q86 (by decide) o83 hR78)
            · have h := h.2 g82
              refine zr_iconst C (zdec_at dm_X12_liesIn 31 rfl) ?_
              refine zr_goto C (zdec_at dm_X12_liesIn 32 rfl) rfl ?_
              refine zr_istore_n (L1 := [(3, zI 1), (0, zRf (zad Γ) 103), (1, zI a1), (2, zI r2), (4, zI v51)]) C (zdec_at dm_X12_liesIn 34 rfl) rfl (Nat.le_of_ble_eq_true rfl) rfl ?_
              refine zr_iinc (L1 := [(4, zI (v51 + 1)), (3, zI 1), (0, zRf (zad Γ) 103), (1, zI a1), (2, zI r2)]) C 4 rfl (zdec_at dm_X12_liesIn 35 rfl) (Nat.le_of_ble_eq_true rfl) rfl ?_
              refine zr_goto C (zdec_at dm_X12_liesIn 36 rfl) rfl ?_
              obtain ⟨o87, h⟩ := h
              obtain ⟨n88, q89, q90⟩ := h
              exact zr_sub [2, 3, 4, 1, 0] rfl (ih57 n88 q89 _ _ _ q90 (by decide) o87 hR78)
    exact zr_sub [3, 4, 2, 1, 0] rfl (lp58 n60 _ _ _ q61 (by decide) (by decide) hR4)

set_option maxHeartbeats 400000 in
set_option maxRecDepth 100000 in
theorem sn_X12_depthOf {pr_X12_findHoles : Int → zM → Prop} {po_X12_findHoles : Int → zM → zM → Prop} {pr_X12_liesIn : Int → zM → Prop} {po_X12_liesIn : Int → zM → Int → zM → Prop} (hS_X12_findHoles : zSnd zS 145 0 0 yX12_findHoles cX12_findHoles 11 none 2 [2, 0] (F_X12_findHoles pr_X12_findHoles po_X12_findHoles)) (hS_X12_liesIn : zSnd zS 145 0 0 yX12_liesIn cX12_liesIn 5 (some .boolean) 1 [2, 0] (F_X12_liesIn pr_X12_liesIn po_X12_liesIn)) : zSnd zS 145 0 0 yX12_depthOf cX12_depthOf 4 (some .int) 3 [2, 0] (fun xs P M => ∃ a1 : Int, xs = [103, a1] ∧ vc_X12_depthOf pr_X12_findHoles po_X12_findHoles pr_X12_liesIn po_X12_liesIn a1 P M) := by
  refine zSnd.of rfl (fun ad xs hz => Nat.le_trans (Nat.le_of_eq (zlen ad _ xs hz)) (by decide)) ?_
  intro Γ C _ _ xs M hz hF
  obtain ⟨a1, rfl, h⟩ := hF
  have zz_a1 := zall_h (zall_t hz) (by decide)
  refine zr_rng (fun hR => ?_)
  have C : zC Γ mu_X12_depthOf := C
  change zV Γ mu_X12_depthOf (145, 0, 0) 0 [(0, zRf (zad Γ) 103), (1, zI a1)] [] M
  change vc_X12_depthOf pr_X12_findHoles po_X12_findHoles pr_X12_liesIn po_X12_liesIn a1 _ M at h
  unfold vc_X12_depthOf at h
  refine zr_iconst C (zdec_at dm_X12_depthOf 0 rfl) ?_
  refine zr_istore_n (L1 := [(2, zI 0), (0, zRf (zad Γ) 103), (1, zI a1)]) C (zdec_at dm_X12_depthOf 1 rfl) rfl (Nat.le_of_ble_eq_true rfl) rfl ?_
  refine zr_iconst C (zdec_at dm_X12_depthOf 2 rfl) ?_
  refine zr_istore_n (L1 := [(3, zI 0), (2, zI 0), (0, zRf (zad Γ) 103), (1, zI a1)]) C (zdec_at dm_X12_depthOf 3 rfl) rfl (Nat.le_of_ble_eq_true rfl) rfl ?_
  obtain ⟨I4, ⟨n11, q12⟩, hI10⟩ := h
  have lp9 : ∀ (n7 : Nat) (v1 : Int) (v2 : Int) (M5 : zM), I4 v1 v2 M5 n7 → zin v1 → zin v2 → zRng M5 → zV Γ mu_X12_depthOf (145, 0, 0) 4 [(0, zRf (zad Γ) 103), (1, zI a1), (2, zI v1), (3, zI v2)] [] M5 := by
    intro n7
    induction n7 using Nat.strongRecOn with
    | _ n7 ih8 =>
    intro v1 v2 M5 q13 z3 z4 hR6
    have h := hI10 v1 v2 M5 n7 q13 z3 z4 hR6
    refine zr_iload_n C 3 rfl (zdec_at dm_X12_depthOf 4 rfl) rfl ?_
    refine zr_aload_n C 0 rfl (zdec_at dm_X12_depthOf 5 rfl) rfl ?_
    refine zr_geti C fk_RX12_233 fi_103_30 (zdec_at dm_X12_depthOf 6 rfl) ?_
    refine zr_icmp_ge C z4 (hR6 _ _) (zdec_at dm_X12_depthOf 7 rfl) rfl (fun g14 => ?_) (fun g14 => ?_)
    · have h := h.1 g14
      refine zr_iload_n C 2 rfl (zdec_at dm_X12_depthOf 26 rfl) rfl ?_
      exact zr_ireturn C rfl (zdec_at dm_X12_depthOf 27 rfl) rfl ⟨z3, h⟩
    · have h := h.2 g14
      refine zr_iload_n C 3 rfl (zdec_at dm_X12_depthOf 8 rfl) rfl ?_
      refine zr_iload_n C 1 rfl (zdec_at dm_X12_depthOf 9 rfl) rfl ?_
      refine zr_icmp_eq C z4 zz_a1 (zdec_at dm_X12_depthOf 10 rfl) rfl (fun g15 => ?_) (fun g15 => ?_)
      · have h := h.1 g15
        refine zr_iinc (L1 := [(3, zI (v2 + 1)), (0, zRf (zad Γ) 103), (1, zI a1), (2, zI v1)]) C 3 rfl (zdec_at dm_X12_depthOf 24 rfl) (Nat.le_of_ble_eq_true rfl) rfl ?_
        refine zr_goto C (zdec_at dm_X12_depthOf 25 rfl) rfl ?_
        obtain ⟨o16, h⟩ := h
        obtain ⟨n17, q18, q19⟩ := h
        exact zr_sub [1, 2, 3, 0] rfl (ih8 n17 q18 _ _ _ q19 z3 o16 hR6)
      · have h := h.2 g15
        refine zr_aload_n C 0 rfl (zdec_at dm_X12_depthOf 11 rfl) rfl ?_
        refine zr_iload_n C 3 rfl (zdec_at dm_X12_depthOf 12 rfl) rfl ?_
        obtain ⟨g24, h⟩ := h
        refine zr_callV C [v2] hS_X12_findHoles ck_RX12_269 iv_X12_findHoles vc_X12 oc_103 rfl rfl (zdec_at dm_X12_depthOf 13 rfl) ⟨rfl, rfl, rfl, rfl⟩ ⟨by decide, by decide⟩ (Nat.le_of_ble_eq_true rfl) (zall_0 z4 zall_n) ?_
        refine ⟨_, rfl, g24, fun M20 p23 _ hR21 => ?_⟩
        have h := h M20 p23 hR21
        show zV Γ mu_X12_depthOf (145, 0, 0) 22 [(0, zRf (zad Γ) 103), (1, zI a1), (2, zI v1), (3, zI v2)] [] M20
        refine zr_iload_n C 2 rfl (zdec_at dm_X12_depthOf 14 rfl) rfl ?_
        refine zr_aload_n C 0 rfl (zdec_at dm_X12_depthOf 15 rfl) rfl ?_
        refine zr_iload_n C 1 rfl (zdec_at dm_X12_depthOf 16 rfl) rfl ?_
        obtain ⟨g30, h⟩ := h
        refine zr_callV C [a1] hS_X12_liesIn ck_RX12_273 iv_X12_liesIn vc_X12 oc_103 rfl rfl (zdec_at dm_X12_depthOf 17 rfl) ⟨rfl, rfl, rfl, rfl⟩ ⟨by decide, by decide⟩ (Nat.le_of_ble_eq_true rfl) (zall_0 zz_a1 zall_n) ?_
        refine ⟨_, rfl, g30, fun r25 M26 p29 z28 hR27 => ?_⟩
        have h := h r25 M26 p29 z28 hR27
        show zV Γ mu_X12_depthOf (145, 0, 0) 28 [(0, zRf (zad Γ) 103), (1, zI a1), (2, zI v1), (3, zI v2)] [zI r25, zI v1] M26
        refine zr_if_eq C z28 (zdec_at dm_X12_depthOf 18 rfl) rfl (fun g31 => ?_) (fun g31 => ?_)
        · have h := h.1 g31
          refine zr_iconst C (zdec_at dm_X12_depthOf 21 rfl) ?_
          refine zr_iadd C (zdec_at dm_X12_depthOf 22 rfl) ?_
          refine zr_istore_n (L1 := [(2, zI (v1 + 0)), (0, zRf (zad Γ) 103), (1, zI a1), (3, zI v2)]) C (zdec_at dm_X12_depthOf 23 rfl) rfl (Nat.le_of_ble_eq_true rfl) rfl ?_
          refine zr_iinc (L1 := [(3, zI (v2 + 1)), (2, zI (v1 + 0)), (0, zRf (zad Γ) 103), (1, zI a1)]) C 3 rfl (zdec_at dm_X12_depthOf 24 rfl) (Nat.le_of_ble_eq_true rfl) rfl ?_
          refine zr_goto C (zdec_at dm_X12_depthOf 25 rfl) rfl ?_
          obtain ⟨o32, h⟩ := h
          obtain ⟨o33, h⟩ := h
          obtain ⟨n34, q35, q36⟩ := h
          exact zr_sub [2, 3, 1, 0] rfl (ih8 n34 q35 _ _ _ q36 o32 o33 hR27)
        · have h := h.2 g31
          refine zr_iconst C (zdec_at dm_X12_depthOf 19 rfl) ?_
          refine zr_goto C (zdec_at dm_X12_depthOf 20 rfl) rfl ?_
          refine zr_iadd C (zdec_at dm_X12_depthOf 22 rfl) ?_
          refine zr_istore_n (L1 := [(2, zI (v1 + 1)), (0, zRf (zad Γ) 103), (1, zI a1), (3, zI v2)]) C (zdec_at dm_X12_depthOf 23 rfl) rfl (Nat.le_of_ble_eq_true rfl) rfl ?_
          refine zr_iinc (L1 := [(3, zI (v2 + 1)), (2, zI (v1 + 1)), (0, zRf (zad Γ) 103), (1, zI a1)]) C 3 rfl (zdec_at dm_X12_depthOf 24 rfl) (Nat.le_of_ble_eq_true rfl) rfl ?_
          refine zr_goto C (zdec_at dm_X12_depthOf 25 rfl) rfl ?_
          obtain ⟨o37, h⟩ := h
          obtain ⟨o38, h⟩ := h
          obtain ⟨n39, q40, q41⟩ := h
          exact zr_sub [2, 3, 1, 0] rfl (ih8 n39 q40 _ _ _ q41 o37 o38 hR27)
  exact zr_sub [2, 3, 1, 0] rfl (lp9 n11 _ _ _ q12 (by decide) (by decide) hR)

