set_option maxHeartbeats 400000 in
set_option maxRecDepth 100000 in
theorem sn_X12_readRule {pr_X12_look : zM → Prop} {po_X12_look : zM → Int → zM → Prop} {pr_X12_in : Int → Int → Int → zM → Prop} {po_X12_in : Int → Int → Int → zM → Int → zM → Prop} {pr_X12_join : Int → zM → Prop} {po_X12_join : Int → zM → zM → Prop} {pr_X12_testEnds : zM → Prop} {po_X12_testEnds : zM → zM → Prop} {pr_X12_topSign : zM → Prop} {po_X12_topSign : zM → Int → zM → Prop} {pr_X12_readTest : zM → Prop} {po_X12_readTest : zM → Int → zM → Prop} (hS_X12_look : zSnd zS 145 0 0 yX12_look cX12_look 1 (some .int) 0 [2] (F_X12_look pr_X12_look po_X12_look)) (hS_X12_in : zSnd zS 145 0 0 yX12_in cX12_in 6 (some .boolean) 0 [1, 1, 1] (F_X12_in pr_X12_in po_X12_in)) (hS_X12_join : zSnd zS 145 0 0 yX12_join cX12_join 2 none 1 [2, 0] (F_X12_join pr_X12_join po_X12_join)) (hS_X12_testEnds : zSnd zS 145 0 0 yX12_testEnds cX12_testEnds 1 none 1 [2] (F_X12_testEnds pr_X12_testEnds po_X12_testEnds)) (hS_X12_topSign : zSnd zS 145 0 0 yX12_topSign cX12_topSign 1 (some .int) 0 [2] (F_X12_topSign pr_X12_topSign po_X12_topSign)) (hS_X12_readTest : zSnd zS 145 0 0 yX12_readTest cX12_readTest 4 (some .boolean) 8 [2] (F_X12_readTest pr_X12_readTest po_X12_readTest)) : zSnd zS 145 0 0 yX12_readRule cX12_readRule 3 (some .boolean) 9 [2] (fun xs P M => xs = [103] ∧ vc_X12_readRule pr_X12_look po_X12_look pr_X12_in po_X12_in pr_X12_join po_X12_join pr_X12_testEnds po_X12_testEnds pr_X12_topSign po_X12_topSign pr_X12_readTest po_X12_readTest P M) := by
  refine zSnd.of rfl (fun ad xs hz => Nat.le_trans (Nat.le_of_eq (zlen ad _ xs hz)) (by decide)) ?_
  intro Γ C _ _ xs M hz hF
  obtain ⟨rfl, h⟩ := hF
  refine zr_rng (fun hR => ?_)
  have C : zC Γ mu_X12_readRule := C
  change zV Γ mu_X12_readRule (145, 0, 0) 0 [(0, zRf (zad Γ) 103)] [] M
  change vc_X12_readRule pr_X12_look po_X12_look pr_X12_in po_X12_in pr_X12_join po_X12_join pr_X12_testEnds po_X12_testEnds pr_X12_topSign po_X12_topSign pr_X12_readTest po_X12_readTest _ M at h
  unfold vc_X12_readRule at h
  refine zr_aload_n C 0 rfl (zdec_at dm_X12_readRule 0 rfl) rfl ?_
  refine zr_iconst C (zdec_at dm_X12_readRule 1 rfl) ?_
  refine zr_puti C fk_RX12_143 fi_103_23 (by decide) (zdec_at dm_X12_readRule 2 rfl) (fun M1 e2 => ?_)
  have h := h M1 e2
  have hR3 : zRng M1 := by rw [e2]; exact hR.set (by decide) _ _
  refine zr_aload_n C 0 rfl (zdec_at dm_X12_readRule 3 rfl) rfl ?_
  refine zr_iconst C (zdec_at dm_X12_readRule 4 rfl) ?_
  refine zr_puti C fk_RX12_455 fi_103_60 (by decide) (zdec_at dm_X12_readRule 5 rfl) (fun M4 e5 => ?_)
  have h := h M4 e5
  have hR6 : zRng M4 := by rw [e5]; exact hR3.set (by decide) _ _
  refine zr_aload_n C 0 rfl (zdec_at dm_X12_readRule 6 rfl) rfl ?_
  refine zr_iconst C (zdec_at dm_X12_readRule 7 rfl) ?_
  refine zr_puti C fk_RX12_452 fi_103_62 (by decide) (zdec_at dm_X12_readRule 8 rfl) (fun M7 e8 => ?_)
  have h := h M7 e8
  have hR9 : zRng M7 := by rw [e8]; exact hR6.set (by decide) _ _
  refine zr_aload_n C 0 rfl (zdec_at dm_X12_readRule 9 rfl) rfl ?_
  refine zr_iconst C (zdec_at dm_X12_readRule 10 rfl) ?_
  refine zr_puti C fk_RX12_446 fi_103_64 (by decide) (zdec_at dm_X12_readRule 11 rfl) (fun M10 e11 => ?_)
  have h := h M10 e11
  have hR12 : zRng M10 := by rw [e11]; exact hR9.set (by decide) _ _
  refine zr_aload_n C 0 rfl (zdec_at dm_X12_readRule 12 rfl) rfl ?_
  refine zr_aload_n C 0 rfl (zdec_at dm_X12_readRule 13 rfl) rfl ?_
  obtain ⟨g18, h⟩ := h
  refine zr_callV C [] hS_X12_look ck_RX12_431 iv_X12_look vc_X12 oc_103 rfl rfl (zdec_at dm_X12_readRule 14 rfl) ⟨rfl, rfl, rfl, rfl⟩ ⟨by decide, by decide⟩ (Nat.le_of_ble_eq_true rfl) zall_n ?_
  refine ⟨rfl, g18, fun r13 M14 p17 z16 hR15 => ?_⟩
  have h := h r13 M14 p17 z16 hR15
  show zV Γ mu_X12_readRule (145, 0, 0) 25 [(0, zRf (zad Γ) 103)] [zI r13, zRf (zad Γ) 103] M14
  refine zr_i2l C z16 (zdec_at dm_X12_readRule 15 rfl) ?_
  refine zr_ldc2 C (zdec_at dm_X12_readRule 16 rfl) kc_RX12_458 ?_
  refine zr_ldc2 C (zdec_at dm_X12_readRule 17 rfl) kc_RX12_460 ?_
  obtain ⟨g24, h⟩ := h
  refine zr_callS C [r13, 65, 90] hS_X12_in ck_RX12_156 sv_X12_in rfl rfl (zdec_at dm_X12_readRule 18 rfl) ⟨rfl, rfl, rfl, rfl⟩ ⟨by decide, by decide⟩ (Nat.le_of_ble_eq_true rfl) (zall_1 z16 (zall_1 (by decide) (zall_1 (by decide) zall_n))) ?_
  refine ⟨_, _, _, rfl, g24, fun r19 M20 p23 z22 hR21 => ?_⟩
  have h := h r19 M20 p23 z22 hR21
  show zV Γ mu_X12_readRule (145, 0, 0) 35 [(0, zRf (zad Γ) 103)] [zI r19, zRf (zad Γ) 103] M20
  have h := h (fun v25 => zin v25 → zV Γ mu_X12_readRule (145, 0, 0) 43 [(0, zRf (zad Γ) 103)] [zI v25, zRf (zad Γ) 103] M20) (fun v25 h z26 => by
    have h := h z26
    obtain ⟨o27, h⟩ := h
    refine zr_putz C fk_RX12_164 fi_103_24 z26 o27 (zdec_at dm_X12_readRule 23 rfl) (fun M28 e29 => ?_)
    have h := h M28 e29
    have hR30 : zRng M28 := by rw [e29]; exact hR21.set z26 _ _
    refine zr_aload_n C 0 rfl (zdec_at dm_X12_readRule 24 rfl) rfl ?_
    refine zr_dup C rfl (zdec_at dm_X12_readRule 25 rfl) ?_
    refine zr_geti C fk_RX12_143 fi_103_23 (zdec_at dm_X12_readRule 26 rfl) ?_
    refine zr_aload_n C 0 rfl (zdec_at dm_X12_readRule 27 rfl) rfl ?_
    refine zr_geti C fk_RX12_164 fi_103_24 (zdec_at dm_X12_readRule 28 rfl) ?_
    have h := h (fun v31 => zin v31 → zV Γ mu_X12_readRule (145, 0, 0) 63 [(0, zRf (zad Γ) 103)] [zI v31, zI (M28 103 23), zRf (zad Γ) 103] M28) (fun v31 h z32 => by
      have h := h z32
      refine zr_iadd C (zdec_at dm_X12_readRule 33 rfl) ?_
      obtain ⟨o33, h⟩ := h
      refine zr_puti C fk_RX12_143 fi_103_23 o33 (zdec_at dm_X12_readRule 34 rfl) (fun M34 e35 => ?_)
      have h := h M34 e35
      have hR36 : zRng M34 := by rw [e35]; exact hR30.set o33 _ _
      refine zr_aload_n C 0 rfl (zdec_at dm_X12_readRule 35 rfl) rfl ?_
      refine zr_aload_n C 0 rfl (zdec_at dm_X12_readRule 36 rfl) rfl ?_
      refine zr_geti C fk_RX12_164 fi_103_24 (zdec_at dm_X12_readRule 37 rfl) ?_
      have h := h (fun v37 M39 => zin v37 → zRng M39 → zV Γ mu_X12_readRule (145, 0, 0) 89 [(0, zRf (zad Γ) 103)] [zI v37, zRf (zad Γ) 103] M39) (fun v37 M39 h z38 hR40 => by
        have h := h z38 hR40
        obtain ⟨o41, h⟩ := h
        refine zr_putz C fk_RX12_164 fi_103_24 z38 o41 (zdec_at dm_X12_readRule 46 rfl) (fun M42 e43 => ?_)
        have h := h M42 e43
        have hR44 : zRng M42 := by rw [e43]; exact hR40.set z38 _ _
        refine zr_aload_n C 0 rfl (zdec_at dm_X12_readRule 47 rfl) rfl ?_
        refine zr_dup C rfl (zdec_at dm_X12_readRule 48 rfl) ?_
        refine zr_geti C fk_RX12_143 fi_103_23 (zdec_at dm_X12_readRule 49 rfl) ?_
        refine zr_aload_n C 0 rfl (zdec_at dm_X12_readRule 50 rfl) rfl ?_
        refine zr_geti C fk_RX12_164 fi_103_24 (zdec_at dm_X12_readRule 51 rfl) ?_
        refine zr_if_eq C (hR44 _ _) (zdec_at dm_X12_readRule 52 rfl) rfl (fun g45 => ?_) (fun g45 => ?_)
        · have h := h.1 g45
          refine zr_iconst C (zdec_at dm_X12_readRule 55 rfl) ?_
          refine zr_iadd C (zdec_at dm_X12_readRule 56 rfl) ?_
          obtain ⟨o46, h⟩ := h
          refine zr_puti C fk_RX12_143 fi_103_23 o46 (zdec_at dm_X12_readRule 57 rfl) (fun M47 e48 => ?_)
          have h := h M47 e48
          have hR49 : zRng M47 := by rw [e48]; exact hR44.set o46 _ _
          refine zr_iconst C (zdec_at dm_X12_readRule 58 rfl) ?_
          refine zr_istore_n (L1 := [(1, zI 1), (0, zRf (zad Γ) 103)]) C (zdec_at dm_X12_readRule 59 rfl) rfl (Nat.le_of_ble_eq_true rfl) rfl ?_
          obtain ⟨I115, ⟨n58, q59⟩, hI57⟩ := h
          have lp56 : ∀ (n54 : Nat) (v50 : Int) (M52 : zM), I115 v50 M52 n54 → zin v50 → zRng M52 → zV Γ mu_X12_readRule (145, 0, 0) 115 [(0, zRf (zad Γ) 103), (1, zI v50)] [] M52 := by
            intro n54
            induction n54 using Nat.strongRecOn with
            | _ n54 ih55 =>
            intro v50 M52 q60 z51 hR53
            have h := hI57 v50 M52 n54 q60 z51 hR53
            refine zr_aload_n C 0 rfl (zdec_at dm_X12_readRule 60 rfl) rfl ?_
            refine zr_geti C fk_RX12_164 fi_103_24 (zdec_at dm_X12_readRule 61 rfl) ?_
            have h := h (zV Γ mu_X12_readRule (145, 0, 0) 423 [(0, zRf (zad Γ) 103)] [] M52) (fun h => by
              refine zr_aload_n C 0 rfl (zdec_at dm_X12_readRule 224 rfl) rfl ?_
              refine zr_geti C fk_RX12_164 fi_103_24 (zdec_at dm_X12_readRule 225 rfl) ?_
              have h := h (fun M61 => zRng M61 → zV Γ mu_X12_readRule (145, 0, 0) 458 [(0, zRf (zad Γ) 103)] [] M61) (fun M61 h hR62 => by
                have h := h hR62
                refine zr_aload_n C 0 rfl (zdec_at dm_X12_readRule 241 rfl) rfl ?_
                refine zr_geti C fk_RX12_164 fi_103_24 (zdec_at dm_X12_readRule 242 rfl) ?_
                refine zr_if_ne C (hR62 _ _) (zdec_at dm_X12_readRule 243 rfl) rfl (fun g63 => ?_) (fun g63 => ?_)
                · have h := h.1 g63
                  refine zr_iconst C (zdec_at dm_X12_readRule 251 rfl) ?_
                  exact zr_zreturn C rfl (by decide) (zdec_at dm_X12_readRule 252 rfl) rfl ⟨(by decide), h⟩
                · have h := h.2 g63
                  refine zr_aload_n C 0 rfl (zdec_at dm_X12_readRule 244 rfl) rfl ?_
                  refine zr_getr (q := 132) C fk_RX12_103 fi_103_61 (zdec_at dm_X12_readRule 245 rfl) ?_
                  refine zr_iconst C (zdec_at dm_X12_readRule 246 rfl) ?_
                  refine zr_zald C ai_132 ⟨by decide, by decide⟩ (zdec_at dm_X12_readRule 247 rfl) ?_
                  refine zr_if_eq C (hR62 _ _) (zdec_at dm_X12_readRule 248 rfl) rfl (fun g64 => ?_) (fun g64 => ?_)
                  · have h := h.1 g64
                    refine zr_iconst C (zdec_at dm_X12_readRule 251 rfl) ?_
                    exact zr_zreturn C rfl (by decide) (zdec_at dm_X12_readRule 252 rfl) rfl ⟨(by decide), h⟩
                  · have h := h.2 g64
                    refine zr_iconst C (zdec_at dm_X12_readRule 249 rfl) ?_
                    refine zr_goto C (zdec_at dm_X12_readRule 250 rfl) rfl ?_
                    exact zr_zreturn C rfl (by decide) (zdec_at dm_X12_readRule 252 rfl) rfl ⟨(by decide), h⟩)
              refine zr_if_ne C (hR53 _ _) (zdec_at dm_X12_readRule 226 rfl) rfl (fun g65 => ?_) (fun g65 => ?_)
              · have h := h.1 g65
                exact zr_sub [0] rfl (h hR53)
              · have h := h.2 g65
                refine zr_aload_n C 0 rfl (zdec_at dm_X12_readRule 227 rfl) rfl ?_
                refine zr_bipush C (zdec_at dm_X12_readRule 228 rfl) (by decide) ?_
                obtain ⟨g70, h⟩ := h
                refine zr_callV C [38] hS_X12_join ck_RX12_469 iv_X12_join vc_X12 oc_103 rfl rfl (zdec_at dm_X12_readRule 229 rfl) ⟨rfl, rfl, rfl, rfl⟩ ⟨by decide, by decide⟩ (Nat.le_of_ble_eq_true rfl) (zall_0 (by decide) zall_n) ?_
                refine ⟨_, rfl, g70, fun M66 p69 _ hR67 => ?_⟩
                have h := h M66 p69 hR67
                show zV Γ mu_X12_readRule (145, 0, 0) 436 [(0, zRf (zad Γ) 103)] [] M66
                refine zr_aload_n C 0 rfl (zdec_at dm_X12_readRule 230 rfl) rfl ?_
                refine zr_bipush C (zdec_at dm_X12_readRule 231 rfl) (by decide) ?_
                obtain ⟨g75, h⟩ := h
                refine zr_callV C [124] hS_X12_join ck_RX12_469 iv_X12_join vc_X12 oc_103 rfl rfl (zdec_at dm_X12_readRule 232 rfl) ⟨rfl, rfl, rfl, rfl⟩ ⟨by decide, by decide⟩ (Nat.le_of_ble_eq_true rfl) (zall_0 (by decide) zall_n) ?_
                refine ⟨_, rfl, g75, fun M71 p74 _ hR72 => ?_⟩
                have h := h M71 p74 hR72
                show zV Γ mu_X12_readRule (145, 0, 0) 442 [(0, zRf (zad Γ) 103)] [] M71
                refine zr_aload_n C 0 rfl (zdec_at dm_X12_readRule 233 rfl) rfl ?_
                refine zr_aload_n C 0 rfl (zdec_at dm_X12_readRule 234 rfl) rfl ?_
                refine zr_geti C fk_RX12_446 fi_103_64 (zdec_at dm_X12_readRule 235 rfl) ?_
                have h := h (fun v76 => zin v76 → zV Γ mu_X12_readRule (145, 0, 0) 455 [(0, zRf (zad Γ) 103)] [zI v76, zRf (zad Γ) 103] M71) (fun v76 h z77 => by
                  have h := h z77
                  obtain ⟨o78, h⟩ := h
                  refine zr_putz C fk_RX12_164 fi_103_24 z77 o78 (zdec_at dm_X12_readRule 240 rfl) (fun M79 e80 => ?_)
                  have h := h M79 e80
                  have hR81 : zRng M79 := by rw [e80]; exact hR72.set z77 _ _
                  exact zr_sub [0] rfl (h hR81))
                refine zr_if_le C (hR72 _ _) (zdec_at dm_X12_readRule 236 rfl) rfl (fun g82 => ?_) (fun g82 => ?_)
                · have h := h.1 g82
                  refine zr_iconst C (zdec_at dm_X12_readRule 239 rfl) ?_
                  exact zr_sub [0] rfl (h (by decide))
                · have h := h.2 g82
                  refine zr_iconst C (zdec_at dm_X12_readRule 237 rfl) ?_
                  refine zr_goto C (zdec_at dm_X12_readRule 238 rfl) rfl ?_
                  exact zr_sub [0] rfl (h (by decide)))
            refine zr_if_ne C (hR53 _ _) (zdec_at dm_X12_readRule 62 rfl) rfl (fun g83 => ?_) (fun g83 => ?_)
            · have h := h.1 g83
              exact zr_sub [0] rfl (h)
            · have h := h.2 g83
              refine zr_iload_n C 1 rfl (zdec_at dm_X12_readRule 63 rfl) rfl ?_
              have h := h (zV Γ mu_X12_readRule (145, 0, 0) 137 [(0, zRf (zad Γ) 103), (1, zI v50)] [] M52) (fun h => by
                refine zr_aload_n C 0 rfl (zdec_at dm_X12_readRule 70 rfl) rfl ?_
                obtain ⟨g89, h⟩ := h
                refine zr_callV C [] hS_X12_look ck_RX12_431 iv_X12_look vc_X12 oc_103 rfl rfl (zdec_at dm_X12_readRule 71 rfl) ⟨rfl, rfl, rfl, rfl⟩ ⟨by decide, by decide⟩ (Nat.le_of_ble_eq_true rfl) zall_n ?_
                refine ⟨rfl, g89, fun r84 M85 p88 z87 hR86 => ?_⟩
                have h := h r84 M85 p88 z87 hR86
                show zV Γ mu_X12_readRule (145, 0, 0) 141 [(0, zRf (zad Γ) 103), (1, zI v50)] [zI r84] M85
                refine zr_istore_n (L1 := [(2, zI r84), (0, zRf (zad Γ) 103), (1, zI v50)]) C (zdec_at dm_X12_readRule 72 rfl) rfl (Nat.le_of_ble_eq_true rfl) rfl ?_
                refine zr_iload_n C 2 rfl (zdec_at dm_X12_readRule 73 rfl) rfl ?_
                have h := h (zV Γ mu_X12_readRule (145, 0, 0) 242 [(0, zRf (zad Γ) 103), (1, zI v50), (2, zI r84)] [] M85) (fun h => by
                  refine zr_iload_n C 1 rfl (zdec_at dm_X12_readRule 126 rfl) rfl ?_
                  refine zr_if_eq C z51 (zdec_at dm_X12_readRule 127 rfl) rfl (fun g90 => ?_) (fun g90 => ?_)
                  · have h := h.1 g90
                    refine zr_iload_n C 2 rfl (zdec_at dm_X12_readRule 146 rfl) rfl ?_
                    refine zr_bipush C (zdec_at dm_X12_readRule 147 rfl) (by decide) ?_
                    have h := h (zV Γ mu_X12_readRule (145, 0, 0) 290 [(0, zRf (zad Γ) 103), (2, zI r84)] [] M85) (fun h => by
                      refine zr_aload_n C 0 rfl (zdec_at dm_X12_readRule 152 rfl) rfl ?_
                      refine zr_bipush C (zdec_at dm_X12_readRule 153 rfl) (by decide) ?_
                      obtain ⟨g95, h⟩ := h
                      refine zr_callV C [38] hS_X12_join ck_RX12_469 iv_X12_join vc_X12 oc_103 rfl rfl (zdec_at dm_X12_readRule 154 rfl) ⟨rfl, rfl, rfl, rfl⟩ ⟨by decide, by decide⟩ (Nat.le_of_ble_eq_true rfl) (zall_0 (by decide) zall_n) ?_
                      refine ⟨_, rfl, g95, fun M91 p94 _ hR92 => ?_⟩
                      have h := h M91 p94 hR92
                      show zV Γ mu_X12_readRule (145, 0, 0) 296 [(0, zRf (zad Γ) 103), (2, zI r84)] [] M91
                      refine zr_iload_n C 1 rfl (zdec_at dm_X12_readRule 155 rfl) rfl ?_
                      refine zr_bipush C (zdec_at dm_X12_readRule 156 rfl) (by decide) ?_
                      have h := h (fun M96 => zRng M96 → zV Γ mu_X12_readRule (145, 0, 0) 308 [(0, zRf (zad Γ) 103), (2, zI r84)] [] M96) (fun M96 h hR97 => by
                        have h := h hR97
                        refine zr_aload_n C 0 rfl (zdec_at dm_X12_readRule 161 rfl) rfl ?_
                        refine zr_getr (q := 133) C fk_RX12_106 fi_103_63 (zdec_at dm_X12_readRule 162 rfl) ?_
                        refine zr_aload_n C 0 rfl (zdec_at dm_X12_readRule 163 rfl) rfl ?_
                        refine zr_geti C fk_RX12_446 fi_103_64 (zdec_at dm_X12_readRule 164 rfl) ?_
                        refine zr_iload_n C 1 rfl (zdec_at dm_X12_readRule 165 rfl) rfl ?_
                        obtain ⟨o98, h⟩ := h
                        refine zr_iast C ai_133 o98 z87 (zdec_at dm_X12_readRule 166 rfl) (fun M99 e100 => ?_)
                        have h := h M99 e100
                        have hR101 : zRng M99 := by rw [e100]; exact hR97.set z87 _ _
                        refine zr_aload_n C 0 rfl (zdec_at dm_X12_readRule 167 rfl) rfl ?_
                        refine zr_dup C rfl (zdec_at dm_X12_readRule 168 rfl) ?_
                        refine zr_geti C fk_RX12_446 fi_103_64 (zdec_at dm_X12_readRule 169 rfl) ?_
                        refine zr_iconst C (zdec_at dm_X12_readRule 170 rfl) ?_
                        refine zr_iadd C (zdec_at dm_X12_readRule 171 rfl) ?_
                        obtain ⟨o102, h⟩ := h
                        refine zr_puti C fk_RX12_446 fi_103_64 o102 (zdec_at dm_X12_readRule 172 rfl) (fun M103 e104 => ?_)
                        have h := h M103 e104
                        have hR105 : zRng M103 := by rw [e104]; exact hR101.set o102 _ _
                        refine zr_aload_n C 0 rfl (zdec_at dm_X12_readRule 173 rfl) rfl ?_
                        refine zr_dup C rfl (zdec_at dm_X12_readRule 174 rfl) ?_
                        refine zr_geti C fk_RX12_143 fi_103_23 (zdec_at dm_X12_readRule 175 rfl) ?_
                        refine zr_iconst C (zdec_at dm_X12_readRule 176 rfl) ?_
                        refine zr_iadd C (zdec_at dm_X12_readRule 177 rfl) ?_
                        obtain ⟨o106, h⟩ := h
                        refine zr_puti C fk_RX12_143 fi_103_23 o106 (zdec_at dm_X12_readRule 178 rfl) (fun M107 e108 => ?_)
                        have h := h M107 e108
                        have hR109 : zRng M107 := by rw [e108]; exact hR105.set o106 _ _
                        refine zr_iconst C (zdec_at dm_X12_readRule 179 rfl) ?_
                        refine zr_istore_n (L1 := [(1, zI 1), (0, zRf (zad Γ) 103), (2, zI r84)]) C (zdec_at dm_X12_readRule 180 rfl) rfl (Nat.le_of_ble_eq_true rfl) rfl ?_
                        refine zr_goto C (zdec_at dm_X12_readRule 181 rfl) rfl ?_
                        refine zr_goto C (zdec_at dm_X12_readRule 223 rfl) rfl ?_
                        obtain ⟨n110, q111, q112⟩ := h
                        exact zr_sub [1, 0] rfl (ih55 n110 q111 _ _ q112 (by decide) hR109))
                      refine zr_icmp_ne C z87 (by decide) (zdec_at dm_X12_readRule 157 rfl) rfl (fun g113 => ?_) (fun g113 => ?_)
                      · have h := h.1 g113
                        exact zr_sub [0, 1] rfl (h hR92)
                      · have h := h.2 g113
                        refine zr_aload_n C 0 rfl (zdec_at dm_X12_readRule 158 rfl) rfl ?_
                        refine zr_bipush C (zdec_at dm_X12_readRule 159 rfl) (by decide) ?_
                        obtain ⟨g118, h⟩ := h
                        refine zr_callV C [124] hS_X12_join ck_RX12_469 iv_X12_join vc_X12 oc_103 rfl rfl (zdec_at dm_X12_readRule 160 rfl) ⟨rfl, rfl, rfl, rfl⟩ ⟨by decide, by decide⟩ (Nat.le_of_ble_eq_true rfl) (zall_0 (by decide) zall_n) ?_
                        refine ⟨_, rfl, g118, fun M114 p117 _ hR115 => ?_⟩
                        have h := h M114 p117 hR115
                        show zV Γ mu_X12_readRule (145, 0, 0) 308 [(0, zRf (zad Γ) 103), (2, zI r84)] [] M114
                        exact zr_sub [0, 1] rfl (h hR115))
                    refine zr_icmp_eq C z87 (by decide) (zdec_at dm_X12_readRule 148 rfl) rfl (fun g119 => ?_) (fun g119 => ?_)
                    · have h := h.1 g119
                      exact zr_sub [0, 2] rfl (h)
                    · have h := h.2 g119
                      refine zr_iload_n C 2 rfl (zdec_at dm_X12_readRule 149 rfl) rfl ?_
                      refine zr_bipush C (zdec_at dm_X12_readRule 150 rfl) (by decide) ?_
                      refine zr_icmp_ne C z87 (by decide) (zdec_at dm_X12_readRule 151 rfl) rfl (fun g120 => ?_) (fun g120 => ?_)
                      · have h := h.1 g120
                        refine zr_aload_n C 0 rfl (zdec_at dm_X12_readRule 182 rfl) rfl ?_
                        refine zr_bipush C (zdec_at dm_X12_readRule 183 rfl) (by decide) ?_
                        obtain ⟨g125, h⟩ := h
                        refine zr_callV C [38] hS_X12_join ck_RX12_469 iv_X12_join vc_X12 oc_103 rfl rfl (zdec_at dm_X12_readRule 184 rfl) ⟨rfl, rfl, rfl, rfl⟩ ⟨by decide, by decide⟩ (Nat.le_of_ble_eq_true rfl) (zall_0 (by decide) zall_n) ?_
                        refine ⟨_, rfl, g125, fun M121 p124 _ hR122 => ?_⟩
                        have h := h M121 p124 hR122
                        show zV Γ mu_X12_readRule (145, 0, 0) 349 [(0, zRf (zad Γ) 103), (1, zI v50), (2, zI r84)] [] M121
                        refine zr_aload_n C 0 rfl (zdec_at dm_X12_readRule 185 rfl) rfl ?_
                        refine zr_bipush C (zdec_at dm_X12_readRule 186 rfl) (by decide) ?_
                        obtain ⟨g130, h⟩ := h
                        refine zr_callV C [124] hS_X12_join ck_RX12_469 iv_X12_join vc_X12 oc_103 rfl rfl (zdec_at dm_X12_readRule 187 rfl) ⟨rfl, rfl, rfl, rfl⟩ ⟨by decide, by decide⟩ (Nat.le_of_ble_eq_true rfl) (zall_0 (by decide) zall_n) ?_
                        refine ⟨_, rfl, g130, fun M126 p129 _ hR127 => ?_⟩
                        have h := h M126 p129 hR127
                        show zV Γ mu_X12_readRule (145, 0, 0) 355 [(0, zRf (zad Γ) 103), (1, zI v50), (2, zI r84)] [] M126
                        refine zr_aload_n C 0 rfl (zdec_at dm_X12_readRule 188 rfl) rfl ?_
                        refine zr_iload_n C 2 rfl (zdec_at dm_X12_readRule 189 rfl) rfl ?_
                        refine zr_bipush C (zdec_at dm_X12_readRule 190 rfl) (by decide) ?_
                        have h := h (fun v131 M133 => zin v131 → zRng M133 → zV Γ mu_X12_readRule (145, 0, 0) 376 [(0, zRf (zad Γ) 103), (1, zI v50)] [zI v131, zRf (zad Γ) 103] M133) (fun v131 M133 h z132 hR134 => by
                          have h := h z132 hR134
                          obtain ⟨o135, h⟩ := h
                          refine zr_putz C fk_RX12_164 fi_103_24 z132 o135 (zdec_at dm_X12_readRule 199 rfl) (fun M136 e137 => ?_)
                          have h := h M136 e137
                          have hR138 : zRng M136 := by rw [e137]; exact hR134.set z132 _ _
                          refine zr_aload_n C 0 rfl (zdec_at dm_X12_readRule 200 rfl) rfl ?_
                          refine zr_geti C fk_RX12_164 fi_103_24 (zdec_at dm_X12_readRule 201 rfl) ?_
                          refine zr_if_ne C (hR138 _ _) (zdec_at dm_X12_readRule 202 rfl) rfl (fun g139 => ?_) (fun g139 => ?_)
                          · have h := h.1 g139
                            refine zr_goto C (zdec_at dm_X12_readRule 223 rfl) rfl ?_
                            obtain ⟨n140, q141, q142⟩ := h
                            exact zr_sub [0, 1] rfl (ih55 n140 q141 _ _ q142 z51 hR138)
                          · have h := h.2 g139
                            refine zr_aload_n C 0 rfl (zdec_at dm_X12_readRule 203 rfl) rfl ?_
                            refine zr_dup C rfl (zdec_at dm_X12_readRule 204 rfl) ?_
                            refine zr_geti C fk_RX12_446 fi_103_64 (zdec_at dm_X12_readRule 205 rfl) ?_
                            refine zr_iconst C (zdec_at dm_X12_readRule 206 rfl) ?_
                            refine zr_isub C (zdec_at dm_X12_readRule 207 rfl) ?_
                            obtain ⟨o143, h⟩ := h
                            refine zr_puti C fk_RX12_446 fi_103_64 o143 (zdec_at dm_X12_readRule 208 rfl) (fun M144 e145 => ?_)
                            have h := h M144 e145
                            have hR146 : zRng M144 := by rw [e145]; exact hR138.set o143 _ _
                            refine zr_aload_n C 0 rfl (zdec_at dm_X12_readRule 209 rfl) rfl ?_
                            refine zr_dup C rfl (zdec_at dm_X12_readRule 210 rfl) ?_
                            refine zr_geti C fk_RX12_455 fi_103_60 (zdec_at dm_X12_readRule 211 rfl) ?_
                            refine zr_iconst C (zdec_at dm_X12_readRule 212 rfl) ?_
                            refine zr_isub C (zdec_at dm_X12_readRule 213 rfl) ?_
                            obtain ⟨o147, h⟩ := h
                            refine zr_puti C fk_RX12_455 fi_103_60 o147 (zdec_at dm_X12_readRule 214 rfl) (fun M148 e149 => ?_)
                            have h := h M148 e149
                            have hR150 : zRng M148 := by rw [e149]; exact hR146.set o147 _ _
                            refine zr_aload_n C 0 rfl (zdec_at dm_X12_readRule 215 rfl) rfl ?_
                            refine zr_dup C rfl (zdec_at dm_X12_readRule 216 rfl) ?_
                            refine zr_geti C fk_RX12_143 fi_103_23 (zdec_at dm_X12_readRule 217 rfl) ?_
                            refine zr_iconst C (zdec_at dm_X12_readRule 218 rfl) ?_
                            refine zr_iadd C (zdec_at dm_X12_readRule 219 rfl) ?_
                            obtain ⟨o151, h⟩ := h
                            refine zr_puti C fk_RX12_143 fi_103_23 o151 (zdec_at dm_X12_readRule 220 rfl) (fun M152 e153 => ?_)
                            have h := h M152 e153
                            have hR154 : zRng M152 := by rw [e153]; exact hR150.set o151 _ _
                            refine zr_aload_n C 0 rfl (zdec_at dm_X12_readRule 221 rfl) rfl ?_
                            obtain ⟨g159, h⟩ := h
                            refine zr_callV C [] hS_X12_testEnds ck_RX12_466 iv_X12_testEnds vc_X12 oc_103 rfl rfl (zdec_at dm_X12_readRule 222 rfl) ⟨rfl, rfl, rfl, rfl⟩ ⟨by decide, by decide⟩ (Nat.le_of_ble_eq_true rfl) zall_n ?_
                            refine ⟨rfl, g159, fun M155 p158 _ hR156 => ?_⟩
                            have h := h M155 p158 hR156
                            show zV Γ mu_X12_readRule (145, 0, 0) 420 [(0, zRf (zad Γ) 103), (1, zI v50)] [] M155
                            refine zr_goto C (zdec_at dm_X12_readRule 223 rfl) rfl ?_
                            obtain ⟨n160, q161, q162⟩ := h
                            exact zr_sub [0, 1] rfl (ih55 n160 q161 _ _ q162 z51 hR156))
                        have h := h (fun M163 => zRng M163 → zV Γ mu_X12_readRule (145, 0, 0) 371 [(0, zRf (zad Γ) 103), (1, zI v50)] [zRf (zad Γ) 103] M163) (fun M163 h hR164 => by
                          have h := h hR164
                          refine zr_iconst C (zdec_at dm_X12_readRule 196 rfl) ?_
                          refine zr_goto C (zdec_at dm_X12_readRule 197 rfl) rfl ?_
                          exact zr_sub [0, 1] rfl (h (by decide) hR164))
                        refine zr_icmp_ne C z87 (by decide) (zdec_at dm_X12_readRule 191 rfl) rfl (fun g165 => ?_) (fun g165 => ?_)
                        · have h := h.1 g165
                          exact zr_sub [0, 1] rfl (h hR127)
                        · have h := h.2 g165
                          refine zr_aload_n C 0 rfl (zdec_at dm_X12_readRule 192 rfl) rfl ?_
                          obtain ⟨g171, h⟩ := h
                          refine zr_callV C [] hS_X12_topSign ck_RX12_449 iv_X12_topSign vc_X12 oc_103 rfl rfl (zdec_at dm_X12_readRule 193 rfl) ⟨rfl, rfl, rfl, rfl⟩ ⟨by decide, by decide⟩ (Nat.le_of_ble_eq_true rfl) zall_n ?_
                          refine ⟨rfl, g171, fun r166 M167 p170 z169 hR168 => ?_⟩
                          have h := h r166 M167 p170 z169 hR168
                          show zV Γ mu_X12_readRule (145, 0, 0) 366 [(0, zRf (zad Γ) 103), (1, zI v50), (2, zI r84)] [zI r166, zRf (zad Γ) 103] M167
                          refine zr_bipush C (zdec_at dm_X12_readRule 194 rfl) (by decide) ?_
                          refine zr_icmp_eq C z169 (by decide) (zdec_at dm_X12_readRule 195 rfl) rfl (fun g172 => ?_) (fun g172 => ?_)
                          · have h := h.1 g172
                            refine zr_iconst C (zdec_at dm_X12_readRule 198 rfl) ?_
                            exact zr_sub [0, 1] rfl (h (by decide) hR168)
                          · have h := h.2 g172
                            exact zr_sub [0, 1] rfl (h hR168)
                      · have h := h.2 g120
                        exact zr_sub [0, 2] rfl (h)
                  · have h := h.2 g90
                    refine zr_aload_n C 0 rfl (zdec_at dm_X12_readRule 128 rfl) rfl ?_
                    refine zr_getr (q := 132) C fk_RX12_103 fi_103_61 (zdec_at dm_X12_readRule 129 rfl) ?_
                    refine zr_aload_n C 0 rfl (zdec_at dm_X12_readRule 130 rfl) rfl ?_
                    refine zr_geti C fk_RX12_452 fi_103_62 (zdec_at dm_X12_readRule 131 rfl) ?_
                    refine zr_aload_n C 0 rfl (zdec_at dm_X12_readRule 132 rfl) rfl ?_
                    obtain ⟨g178, h⟩ := h
                    refine zr_callV C [] hS_X12_readTest ck_RX12_462 iv_X12_readTest vc_X12 oc_103 rfl rfl (zdec_at dm_X12_readRule 133 rfl) ⟨rfl, rfl, rfl, rfl⟩ ⟨by decide, by decide⟩ (Nat.le_of_ble_eq_true rfl) zall_n ?_
                    refine ⟨rfl, g178, fun r173 M174 p177 z176 hR175 => ?_⟩
                    have h := h r173 M174 p177 z176 hR175
                    show zV Γ mu_X12_readRule (145, 0, 0) 258 [(0, zRf (zad Γ) 103), (1, zI v50), (2, zI r84)] [zI r173, zI (M85 103 62), zRf (zad Γ) 132] M174
                    obtain ⟨o179, h⟩ := h
                    obtain ⟨o180, h⟩ := h
                    refine zr_zast C ai_132 o179 z176 o180 rfl (zdec_at dm_X12_readRule 134 rfl) (fun M181 e182 => ?_)
                    have h := h M181 e182
                    have hR183 : zRng M181 := by rw [e182]; exact hR175.set z176 _ _
                    refine zr_aload_n C 0 rfl (zdec_at dm_X12_readRule 135 rfl) rfl ?_
                    refine zr_dup C rfl (zdec_at dm_X12_readRule 136 rfl) ?_
                    refine zr_geti C fk_RX12_452 fi_103_62 (zdec_at dm_X12_readRule 137 rfl) ?_
                    refine zr_iconst C (zdec_at dm_X12_readRule 138 rfl) ?_
                    refine zr_iadd C (zdec_at dm_X12_readRule 139 rfl) ?_
                    obtain ⟨o184, h⟩ := h
                    refine zr_puti C fk_RX12_452 fi_103_62 o184 (zdec_at dm_X12_readRule 140 rfl) (fun M185 e186 => ?_)
                    have h := h M185 e186
                    have hR187 : zRng M185 := by rw [e186]; exact hR183.set o184 _ _
                    refine zr_iconst C (zdec_at dm_X12_readRule 141 rfl) ?_
                    refine zr_istore_n (L1 := [(1, zI 0), (0, zRf (zad Γ) 103), (2, zI r84)]) C (zdec_at dm_X12_readRule 142 rfl) rfl (Nat.le_of_ble_eq_true rfl) rfl ?_
                    refine zr_aload_n C 1 rfl (zdec_at dm_X12_readRule 143 rfl) rfl ?_
                    obtain ⟨g192, h⟩ := h
                    refine zr_callV C [] hS_X12_testEnds ck_RX12_466 iv_X12_testEnds vc_X12 oc_103 rfl rfl (zdec_at dm_X12_readRule 144 rfl) ⟨rfl, rfl, rfl, rfl⟩ ⟨by decide, by decide⟩ (Nat.le_of_ble_eq_true rfl) zall_n ?_
                    refine ⟨rfl, g192, fun M188 p191 _ hR189 => ?_⟩
                    have h := h M188 p191 hR189
                    show zV Γ mu_X12_readRule (145, 0, 0) 275 [(1, zI 0), (0, zRf (zad Γ) 103), (2, zI r84)] [] M188
                    refine zr_goto C (zdec_at dm_X12_readRule 145 rfl) rfl ?_
                    refine zr_goto C (zdec_at dm_X12_readRule 223 rfl) rfl ?_
                    obtain ⟨n193, q194, q195⟩ := h
                    exact zr_sub [1, 0] rfl (ih55 n193 q194 _ _ q195 (by decide) hR189))
                refine zr_if_eq C z51 (zdec_at dm_X12_readRule 74 rfl) rfl (fun g196 => ?_) (fun g196 => ?_)
                · have h := h.1 g196
                  exact zr_sub [1, 2, 0] rfl (h)
                · have h := h.2 g196
                  refine zr_iload_n C 0 rfl (zdec_at dm_X12_readRule 75 rfl) rfl ?_
                  refine zr_bipush C (zdec_at dm_X12_readRule 76 rfl) (by decide) ?_
                  have h := h (zV Γ mu_X12_readRule (145, 0, 0) 158 [(0, zRf (zad Γ) 103), (1, zI v50), (2, zI r84)] [] M85) (fun h => by
                    refine zr_aload_n C 0 rfl (zdec_at dm_X12_readRule 81 rfl) rfl ?_
                    refine zr_iload_n C 2 rfl (zdec_at dm_X12_readRule 82 rfl) rfl ?_
                    refine zr_bipush C (zdec_at dm_X12_readRule 83 rfl) (by decide) ?_
                    have h := h (fun v197 => zin v197 → zV Γ mu_X12_readRule (145, 0, 0) 179 [(0, zRf (zad Γ) 103), (1, zI v50), (2, zI r84)] [zI v197, zRf (zad Γ) 103] M85) (fun v197 h z198 => by
                      have h := h z198
                      obtain ⟨o199, h⟩ := h
                      refine zr_putz C fk_RX12_164 fi_103_24 z198 o199 (zdec_at dm_X12_readRule 92 rfl) (fun M200 e201 => ?_)
                      have h := h M200 e201
                      have hR202 : zRng M200 := by rw [e201]; exact hR86.set z198 _ _
                      refine zr_aload_n C 0 rfl (zdec_at dm_X12_readRule 93 rfl) rfl ?_
                      refine zr_geti C fk_RX12_164 fi_103_24 (zdec_at dm_X12_readRule 94 rfl) ?_
                      refine zr_if_ne C (hR202 _ _) (zdec_at dm_X12_readRule 95 rfl) rfl (fun g203 => ?_) (fun g203 => ?_)
                      · have h := h.1 g203
                        refine zr_goto C (zdec_at dm_X12_readRule 223 rfl) rfl ?_
                        obtain ⟨n204, q205, q206⟩ := h
                        exact zr_sub [0, 1] rfl (ih55 n204 q205 _ _ q206 z51 hR202)
                      · have h := h.2 g203
                        refine zr_aload_n C 0 rfl (zdec_at dm_X12_readRule 96 rfl) rfl ?_
                        refine zr_dup C rfl (zdec_at dm_X12_readRule 97 rfl) ?_
                        refine zr_geti C fk_RX12_455 fi_103_60 (zdec_at dm_X12_readRule 98 rfl) ?_
                        refine zr_iload_n C 2 rfl (zdec_at dm_X12_readRule 99 rfl) rfl ?_
                        refine zr_bipush C (zdec_at dm_X12_readRule 100 rfl) (by decide) ?_
                        have h := h (fun v207 => zin v207 → zV Γ mu_X12_readRule (145, 0, 0) 205 [(0, zRf (zad Γ) 103), (1, zI v50), (2, zI r84)] [zI v207, zI (M200 103 60), zRf (zad Γ) 103] M200) (fun v207 h z208 => by
                          have h := h z208
                          refine zr_iadd C (zdec_at dm_X12_readRule 105 rfl) ?_
                          obtain ⟨o209, h⟩ := h
                          refine zr_puti C fk_RX12_455 fi_103_60 o209 (zdec_at dm_X12_readRule 106 rfl) (fun M210 e211 => ?_)
                          have h := h M210 e211
                          have hR212 : zRng M210 := by rw [e211]; exact hR202.set o209 _ _
                          refine zr_aload_n C 0 rfl (zdec_at dm_X12_readRule 107 rfl) rfl ?_
                          refine zr_getr (q := 133) C fk_RX12_106 fi_103_63 (zdec_at dm_X12_readRule 108 rfl) ?_
                          refine zr_aload_n C 0 rfl (zdec_at dm_X12_readRule 109 rfl) rfl ?_
                          refine zr_geti C fk_RX12_446 fi_103_64 (zdec_at dm_X12_readRule 110 rfl) ?_
                          refine zr_iload_n C 2 rfl (zdec_at dm_X12_readRule 111 rfl) rfl ?_
                          obtain ⟨o213, h⟩ := h
                          refine zr_iast C ai_133 o213 z87 (zdec_at dm_X12_readRule 112 rfl) (fun M214 e215 => ?_)
                          have h := h M214 e215
                          have hR216 : zRng M214 := by rw [e215]; exact hR212.set z87 _ _
                          refine zr_aload_n C 0 rfl (zdec_at dm_X12_readRule 113 rfl) rfl ?_
                          refine zr_dup C rfl (zdec_at dm_X12_readRule 114 rfl) ?_
                          refine zr_geti C fk_RX12_446 fi_103_64 (zdec_at dm_X12_readRule 115 rfl) ?_
                          refine zr_iconst C (zdec_at dm_X12_readRule 116 rfl) ?_
                          refine zr_iadd C (zdec_at dm_X12_readRule 117 rfl) ?_
                          obtain ⟨o217, h⟩ := h
                          refine zr_puti C fk_RX12_446 fi_103_64 o217 (zdec_at dm_X12_readRule 118 rfl) (fun M218 e219 => ?_)
                          have h := h M218 e219
                          have hR220 : zRng M218 := by rw [e219]; exact hR216.set o217 _ _
                          refine zr_aload_n C 0 rfl (zdec_at dm_X12_readRule 119 rfl) rfl ?_
                          refine zr_dup C rfl (zdec_at dm_X12_readRule 120 rfl) ?_
                          refine zr_geti C fk_RX12_143 fi_103_23 (zdec_at dm_X12_readRule 121 rfl) ?_
                          refine zr_iconst C (zdec_at dm_X12_readRule 122 rfl) ?_
                          refine zr_iadd C (zdec_at dm_X12_readRule 123 rfl) ?_
                          obtain ⟨o221, h⟩ := h
                          refine zr_puti C fk_RX12_143 fi_103_23 o221 (zdec_at dm_X12_readRule 124 rfl) (fun M222 e223 => ?_)
                          have h := h M222 e223
                          have hR224 : zRng M222 := by rw [e223]; exact hR220.set o221 _ _
                          refine zr_goto C (zdec_at dm_X12_readRule 125 rfl) rfl ?_
                          refine zr_goto C (zdec_at dm_X12_readRule 223 rfl) rfl ?_
                          obtain ⟨n225, q226, q227⟩ := h
                          exact zr_sub [0, 1] rfl (ih55 n225 q226 _ _ q227 z51 hR224))
                        refine zr_icmp_ne C z87 (by decide) (zdec_at dm_X12_readRule 101 rfl) rfl (fun g228 => ?_) (fun g228 => ?_)
                        · have h := h.1 g228
                          refine zr_iconst C (zdec_at dm_X12_readRule 104 rfl) ?_
                          exact zr_sub [0, 1, 2] rfl (h (by decide))
                        · have h := h.2 g228
                          refine zr_iconst C (zdec_at dm_X12_readRule 102 rfl) ?_
                          refine zr_goto C (zdec_at dm_X12_readRule 103 rfl) rfl ?_
                          exact zr_sub [0, 1, 2] rfl (h (by decide)))
                    have h := h (zV Γ mu_X12_readRule (145, 0, 0) 178 [(0, zRf (zad Γ) 103), (1, zI v50), (2, zI r84)] [zRf (zad Γ) 103] M85) (fun h => by
                      refine zr_iconst C (zdec_at dm_X12_readRule 91 rfl) ?_
                      exact zr_sub [0, 1, 2] rfl (h (by decide)))
                    refine zr_icmp_ne C z87 (by decide) (zdec_at dm_X12_readRule 84 rfl) rfl (fun g229 => ?_) (fun g229 => ?_)
                    · have h := h.1 g229
                      exact zr_sub [0, 1, 2] rfl (h)
                    · have h := h.2 g229
                      refine zr_aload_n C 0 rfl (zdec_at dm_X12_readRule 85 rfl) rfl ?_
                      refine zr_geti C fk_RX12_455 fi_103_60 (zdec_at dm_X12_readRule 86 rfl) ?_
                      refine zr_bipush C (zdec_at dm_X12_readRule 87 rfl) (by decide) ?_
                      refine zr_icmp_ne C (hR86 _ _) (by decide) (zdec_at dm_X12_readRule 88 rfl) rfl (fun g230 => ?_) (fun g230 => ?_)
                      · have h := h.1 g230
                        exact zr_sub [0, 1, 2] rfl (h)
                      · have h := h.2 g230
                        refine zr_iconst C (zdec_at dm_X12_readRule 89 rfl) ?_
                        refine zr_goto C (zdec_at dm_X12_readRule 90 rfl) rfl ?_
                        exact zr_sub [0, 1, 2] rfl (h (by decide)))
                  refine zr_icmp_eq C z87 (by decide) (zdec_at dm_X12_readRule 77 rfl) rfl (fun g231 => ?_) (fun g231 => ?_)
                  · have h := h.1 g231
                    exact zr_sub [1, 2, 0] rfl (h)
                  · have h := h.2 g231
                    refine zr_iload_n C 0 rfl (zdec_at dm_X12_readRule 78 rfl) rfl ?_
                    refine zr_bipush C (zdec_at dm_X12_readRule 79 rfl) (by decide) ?_
                    refine zr_icmp_ne C z87 (by decide) (zdec_at dm_X12_readRule 80 rfl) rfl (fun g232 => ?_) (fun g232 => ?_)
                    · have h := h.1 g232
                      exact zr_sub [1, 2, 0] rfl (h)
                    · have h := h.2 g232
                      exact zr_sub [1, 2, 0] rfl (h))
              refine zr_if_ne C z51 (zdec_at dm_X12_readRule 64 rfl) rfl (fun g233 => ?_) (fun g233 => ?_)
              · have h := h.1 g233
                exact zr_sub [0, 1] rfl (h)
              · have h := h.2 g233
                refine zr_aload_n C 0 rfl (zdec_at dm_X12_readRule 65 rfl) rfl ?_
                refine zr_geti C fk_RX12_143 fi_103_23 (zdec_at dm_X12_readRule 66 rfl) ?_
                refine zr_aload_n C 0 rfl (zdec_at dm_X12_readRule 67 rfl) rfl ?_
                refine zr_geti C fk_RX12_146 fi_103_22 (zdec_at dm_X12_readRule 68 rfl) ?_
                refine zr_icmp_ge C (hR53 _ _) (hR53 _ _) (zdec_at dm_X12_readRule 69 rfl) rfl (fun g234 => ?_) (fun g234 => ?_)
                · have h := h.1 g234
                  exact zr_sub [0] rfl (h)
                · have h := h.2 g234
                  exact zr_sub [0, 1] rfl (h)
          exact zr_sub [1, 0] rfl (lp56 n58 _ _ q59 (by decide) hR49)
        · have h := h.2 g45
          refine zr_iconst C (zdec_at dm_X12_readRule 53 rfl) ?_
          refine zr_goto C (zdec_at dm_X12_readRule 54 rfl) rfl ?_
          refine zr_iadd C (zdec_at dm_X12_readRule 56 rfl) ?_
          obtain ⟨o235, h⟩ := h
          refine zr_puti C fk_RX12_143 fi_103_23 o235 (zdec_at dm_X12_readRule 57 rfl) (fun M236 e237 => ?_)
          have h := h M236 e237
          have hR238 : zRng M236 := by rw [e237]; exact hR44.set o235 _ _
          refine zr_iconst C (zdec_at dm_X12_readRule 58 rfl) ?_
          refine zr_istore_n (L1 := [(1, zI 1), (0, zRf (zad Γ) 103)]) C (zdec_at dm_X12_readRule 59 rfl) rfl (Nat.le_of_ble_eq_true rfl) rfl ?_
          obtain ⟨I115, ⟨n247, q248⟩, hI246⟩ := h
          have lp245 : ∀ (n243 : Nat) (v239 : Int) (M241 : zM), I115 v239 M241 n243 → zin v239 → zRng M241 → zV Γ mu_X12_readRule (145, 0, 0) 115 [(0, zRf (zad Γ) 103), (1, zI v239)] [] M241 := by
            intro n243
            induction n243 using Nat.strongRecOn with
            | _ n243 ih244 =>
            intro v239 M241 q249 z240 hR242
            have h := hI246 v239 M241 n243 q249 z240 hR242
            refine zr_aload_n C 0 rfl (zdec_at dm_X12_readRule 60 rfl) rfl ?_
            refine zr_geti C fk_RX12_164 fi_103_24 (zdec_at dm_X12_readRule 61 rfl) ?_
            have h := h (zV Γ mu_X12_readRule (145, 0, 0) 423 [(0, zRf (zad Γ) 103)] [] M241) (fun h => by
              refine zr_aload_n C 0 rfl (zdec_at dm_X12_readRule 224 rfl) rfl ?_
              refine zr_geti C fk_RX12_164 fi_103_24 (zdec_at dm_X12_readRule 225 rfl) ?_
              have h := h (fun M250 => zRng M250 → zV Γ mu_X12_readRule (145, 0, 0) 458 [(0, zRf (zad Γ) 103)] [] M250) (fun M250 h hR251 => by
                have h := h hR251
                refine zr_aload_n C 0 rfl (zdec_at dm_X12_readRule 241 rfl) rfl ?_
                refine zr_geti C fk_RX12_164 fi_103_24 (zdec_at dm_X12_readRule 242 rfl) ?_
                refine zr_if_ne C (hR251 _ _) (zdec_at dm_X12_readRule 243 rfl) rfl (fun g252 => ?_) (fun g252 => ?_)
                · have h := h.1 g252
                  refine zr_iconst C (zdec_at dm_X12_readRule 251 rfl) ?_
                  exact zr_zreturn C rfl (by decide) (zdec_at dm_X12_readRule 252 rfl) rfl ⟨(by decide), h⟩
                · have h := h.2 g252
                  refine zr_aload_n C 0 rfl (zdec_at dm_X12_readRule 244 rfl) rfl ?_
                  refine zr_getr (q := 132) C fk_RX12_103 fi_103_61 (zdec_at dm_X12_readRule 245 rfl) ?_
                  refine zr_iconst C (zdec_at dm_X12_readRule 246 rfl) ?_
                  refine zr_zald C ai_132 ⟨by decide, by decide⟩ (zdec_at dm_X12_readRule 247 rfl) ?_
                  refine zr_if_eq C (hR251 _ _) (zdec_at dm_X12_readRule 248 rfl) rfl (fun g253 => ?_) (fun g253 => ?_)
                  · have h := h.1 g253
                    refine zr_iconst C (zdec_at dm_X12_readRule 251 rfl) ?_
                    exact zr_zreturn C rfl (by decide) (zdec_at dm_X12_readRule 252 rfl) rfl ⟨(by decide), h⟩
                  · have h := h.2 g253
                    refine zr_iconst C (zdec_at dm_X12_readRule 249 rfl) ?_
                    refine zr_goto C (zdec_at dm_X12_readRule 250 rfl) rfl ?_
                    exact zr_zreturn C rfl (by decide) (zdec_at dm_X12_readRule 252 rfl) rfl ⟨(by decide), h⟩)
              refine zr_if_ne C (hR242 _ _) (zdec_at dm_X12_readRule 226 rfl) rfl (fun g254 => ?_) (fun g254 => ?_)
              · have h := h.1 g254
                exact zr_sub [0] rfl (h hR242)
              · have h := h.2 g254
                refine zr_aload_n C 0 rfl (zdec_at dm_X12_readRule 227 rfl) rfl ?_
                refine zr_bipush C (zdec_at dm_X12_readRule 228 rfl) (by decide) ?_
                obtain ⟨g259, h⟩ := h
                refine zr_callV C [38] hS_X12_join ck_RX12_469 iv_X12_join vc_X12 oc_103 rfl rfl (zdec_at dm_X12_readRule 229 rfl) ⟨rfl, rfl, rfl, rfl⟩ ⟨by decide, by decide⟩ (Nat.le_of_ble_eq_true rfl) (zall_0 (by decide) zall_n) ?_
                refine ⟨_, rfl, g259, fun M255 p258 _ hR256 => ?_⟩
                have h := h M255 p258 hR256
                show zV Γ mu_X12_readRule (145, 0, 0) 436 [(0, zRf (zad Γ) 103)] [] M255
                refine zr_aload_n C 0 rfl (zdec_at dm_X12_readRule 230 rfl) rfl ?_
                refine zr_bipush C (zdec_at dm_X12_readRule 231 rfl) (by decide) ?_
                obtain ⟨g264, h⟩ := h
                refine zr_callV C [124] hS_X12_join ck_RX12_469 iv_X12_join vc_X12 oc_103 rfl rfl (zdec_at dm_X12_readRule 232 rfl) ⟨rfl, rfl, rfl, rfl⟩ ⟨by decide, by decide⟩ (Nat.le_of_ble_eq_true rfl) (zall_0 (by decide) zall_n) ?_
                refine ⟨_, rfl, g264, fun M260 p263 _ hR261 => ?_⟩
                have h := h M260 p263 hR261
                show zV Γ mu_X12_readRule (145, 0, 0) 442 [(0, zRf (zad Γ) 103)] [] M260
                refine zr_aload_n C 0 rfl (zdec_at dm_X12_readRule 233 rfl) rfl ?_
                refine zr_aload_n C 0 rfl (zdec_at dm_X12_readRule 234 rfl) rfl ?_
                refine zr_geti C fk_RX12_446 fi_103_64 (zdec_at dm_X12_readRule 235 rfl) ?_
                have h := h (fun v265 => zin v265 → zV Γ mu_X12_readRule (145, 0, 0) 455 [(0, zRf (zad Γ) 103)] [zI v265, zRf (zad Γ) 103] M260) (fun v265 h z266 => by
                  have h := h z266
                  obtain ⟨o267, h⟩ := h
                  refine zr_putz C fk_RX12_164 fi_103_24 z266 o267 (zdec_at dm_X12_readRule 240 rfl) (fun M268 e269 => ?_)
                  have h := h M268 e269
                  have hR270 : zRng M268 := by rw [e269]; exact hR261.set z266 _ _
                  exact zr_sub [0] rfl (h hR270))
                refine zr_if_le C (hR261 _ _) (zdec_at dm_X12_readRule 236 rfl) rfl (fun g271 => ?_) (fun g271 => ?_)
                · have h := h.1 g271
                  refine zr_iconst C (zdec_at dm_X12_readRule 239 rfl) ?_
                  exact zr_sub [0] rfl (h (by decide))
                · have h := h.2 g271
                  refine zr_iconst C (zdec_at dm_X12_readRule 237 rfl) ?_
                  refine zr_goto C (zdec_at dm_X12_readRule 238 rfl) rfl ?_
                  exact zr_sub [0] rfl (h (by decide)))
            refine zr_if_ne C (hR242 _ _) (zdec_at dm_X12_readRule 62 rfl) rfl (fun g272 => ?_) (fun g272 => ?_)
            · have h := h.1 g272
              exact zr_sub [0] rfl (h)
            · have h := h.2 g272
              refine zr_iload_n C 1 rfl (zdec_at dm_X12_readRule 63 rfl) rfl ?_
              have h := h (zV Γ mu_X12_readRule (145, 0, 0) 137 [(0, zRf (zad Γ) 103), (1, zI v239)] [] M241) (fun h => by
                refine zr_aload_n C 0 rfl (zdec_at dm_X12_readRule 70 rfl) rfl ?_
                obtain ⟨g278, h⟩ := h
                refine zr_callV C [] hS_X12_look ck_RX12_431 iv_X12_look vc_X12 oc_103 rfl rfl (zdec_at dm_X12_readRule 71 rfl) ⟨rfl, rfl, rfl, rfl⟩ ⟨by decide, by decide⟩ (Nat.le_of_ble_eq_true rfl) zall_n ?_
                refine ⟨rfl, g278, fun r273 M274 p277 z276 hR275 => ?_⟩
                have h := h r273 M274 p277 z276 hR275
                show zV Γ mu_X12_readRule (145, 0, 0) 141 [(0, zRf (zad Γ) 103), (1, zI v239)] [zI r273] M274
                refine zr_istore_n (L1 := [(2, zI r273), (0, zRf (zad Γ) 103), (1, zI v239)]) C (zdec_at dm_X12_readRule 72 rfl) rfl (Nat.le_of_ble_eq_true rfl) rfl ?_
                refine zr_iload_n C 2 rfl (zdec_at dm_X12_readRule 73 rfl) rfl ?_
                have h := h (zV Γ mu_X12_readRule (145, 0, 0) 242 [(0, zRf (zad Γ) 103), (1, zI v239), (2, zI r273)] [] M274) (fun h => by
                  refine zr_iload_n C 1 rfl (zdec_at dm_X12_readRule 126 rfl) rfl ?_
                  refine zr_if_eq C z240 (zdec_at dm_X12_readRule 127 rfl) rfl (fun g279 => ?_) (fun g279 => ?_)
                  · have h := h.1 g279
                    refine zr_iload_n C 2 rfl (zdec_at dm_X12_readRule 146 rfl) rfl ?_
                    refine zr_bipush C (zdec_at dm_X12_readRule 147 rfl) (by decide) ?_
                    have h := h (zV Γ mu_X12_readRule (145, 0, 0) 290 [(0, zRf (zad Γ) 103), (2, zI r273)] [] M274) (fun h => by
                      refine zr_aload_n C 0 rfl (zdec_at dm_X12_readRule 152 rfl) rfl ?_
                      refine zr_bipush C (zdec_at dm_X12_readRule 153 rfl) (by decide) ?_
                      obtain ⟨g284, h⟩ := h
                      refine zr_callV C [38] hS_X12_join ck_RX12_469 iv_X12_join vc_X12 oc_103 rfl rfl (zdec_at dm_X12_readRule 154 rfl) ⟨rfl, rfl, rfl, rfl⟩ ⟨by decide, by decide⟩ (Nat.le_of_ble_eq_true rfl) (zall_0 (by decide) zall_n) ?_
                      refine ⟨_, rfl, g284, fun M280 p283 _ hR281 => ?_⟩
                      have h := h M280 p283 hR281
                      show zV Γ mu_X12_readRule (145, 0, 0) 296 [(0, zRf (zad Γ) 103), (2, zI r273)] [] M280
                      refine zr_iload_n C 1 rfl (zdec_at dm_X12_readRule 155 rfl) rfl ?_
                      refine zr_bipush C (zdec_at dm_X12_readRule 156 rfl) (by decide) ?_
                      have h := h (fun M285 => zRng M285 → zV Γ mu_X12_readRule (145, 0, 0) 308 [(0, zRf (zad Γ) 103), (2, zI r273)] [] M285) (fun M285 h hR286 => by
                        have h := h hR286
                        refine zr_aload_n C 0 rfl (zdec_at dm_X12_readRule 161 rfl) rfl ?_
                        refine zr_getr (q := 133) C fk_RX12_106 fi_103_63 (zdec_at dm_X12_readRule 162 rfl) ?_
                        refine zr_aload_n C 0 rfl (zdec_at dm_X12_readRule 163 rfl) rfl ?_
                        refine zr_geti C fk_RX12_446 fi_103_64 (zdec_at dm_X12_readRule 164 rfl) ?_
                        refine zr_iload_n C 1 rfl (zdec_at dm_X12_readRule 165 rfl) rfl ?_
                        obtain ⟨o287, h⟩ := h
                        refine zr_iast C ai_133 o287 z276 (zdec_at dm_X12_readRule 166 rfl) (fun M288 e289 => ?_)
                        have h := h M288 e289
                        have hR290 : zRng M288 := by rw [e289]; exact hR286.set z276 _ _
                        refine zr_aload_n C 0 rfl (zdec_at dm_X12_readRule 167 rfl) rfl ?_
                        refine zr_dup C rfl (zdec_at dm_X12_readRule 168 rfl) ?_
                        refine zr_geti C fk_RX12_446 fi_103_64 (zdec_at dm_X12_readRule 169 rfl) ?_
                        refine zr_iconst C (zdec_at dm_X12_readRule 170 rfl) ?_
                        refine zr_iadd C (zdec_at dm_X12_readRule 171 rfl) ?_
                        obtain ⟨o291, h⟩ := h
                        refine zr_puti C fk_RX12_446 fi_103_64 o291 (zdec_at dm_X12_readRule 172 rfl) (fun M292 e293 => ?_)
                        have h := h M292 e293
                        have hR294 : zRng M292 := by rw [e293]; exact hR290.set o291 _ _
                        refine zr_aload_n C 0 rfl (zdec_at dm_X12_readRule 173 rfl) rfl ?_
                        refine zr_dup C rfl (zdec_at dm_X12_readRule 174 rfl) ?_
                        refine zr_geti C fk_RX12_143 fi_103_23 (zdec_at dm_X12_readRule 175 rfl) ?_
                        refine zr_iconst C (zdec_at dm_X12_readRule 176 rfl) ?_
                        refine zr_iadd C (zdec_at dm_X12_readRule 177 rfl) ?_
                        obtain ⟨o295, h⟩ := h
                        refine zr_puti C fk_RX12_143 fi_103_23 o295 (zdec_at dm_X12_readRule 178 rfl) (fun M296 e297 => ?_)
                        have h := h M296 e297
                        have hR298 : zRng M296 := by rw [e297]; exact hR294.set o295 _ _
                        refine zr_iconst C (zdec_at dm_X12_readRule 179 rfl) ?_
                        refine zr_istore_n (L1 := [(1, zI 1), (0, zRf (zad Γ) 103), (2, zI r273)]) C (zdec_at dm_X12_readRule 180 rfl) rfl (Nat.le_of_ble_eq_true rfl) rfl ?_
                        refine zr_goto C (zdec_at dm_X12_readRule 181 rfl) rfl ?_
                        refine zr_goto C (zdec_at dm_X12_readRule 223 rfl) rfl ?_
                        obtain ⟨n299, q300, q301⟩ := h
                        exact zr_sub [1, 0] rfl (ih244 n299 q300 _ _ q301 (by decide) hR298))
                      refine zr_icmp_ne C z276 (by decide) (zdec_at dm_X12_readRule 157 rfl) rfl (fun g302 => ?_) (fun g302 => ?_)
                      · have h := h.1 g302
                        exact zr_sub [0, 1] rfl (h hR281)
                      · have h := h.2 g302
                        refine zr_aload_n C 0 rfl (zdec_at dm_X12_readRule 158 rfl) rfl ?_
                        refine zr_bipush C (zdec_at dm_X12_readRule 159 rfl) (by decide) ?_
                        obtain ⟨g307, h⟩ := h
                        refine zr_callV C [124] hS_X12_join ck_RX12_469 iv_X12_join vc_X12 oc_103 rfl rfl (zdec_at dm_X12_readRule 160 rfl) ⟨rfl, rfl, rfl, rfl⟩ ⟨by decide, by decide⟩ (Nat.le_of_ble_eq_true rfl) (zall_0 (by decide) zall_n) ?_
                        refine ⟨_, rfl, g307, fun M303 p306 _ hR304 => ?_⟩
                        have h := h M303 p306 hR304
                        show zV Γ mu_X12_readRule (145, 0, 0) 308 [(0, zRf (zad Γ) 103), (2, zI r273)] [] M303
                        exact zr_sub [0, 1] rfl (h hR304))
                    refine zr_icmp_eq C z276 (by decide) (zdec_at dm_X12_readRule 148 rfl) rfl (fun g308 => ?_) (fun g308 => ?_)
                    · have h := h.1 g308
                      exact zr_sub [0, 2] rfl (h)
                    · have h := h.2 g308
                      refine zr_iload_n C 2 rfl (zdec_at dm_X12_readRule 149 rfl) rfl ?_
                      refine zr_bipush C (zdec_at dm_X12_readRule 150 rfl) (by decide) ?_
                      refine zr_icmp_ne C z276 (by decide) (zdec_at dm_X12_readRule 151 rfl) rfl (fun g309 => ?_) (fun g309 => ?_)
                      · have h := h.1 g309
                        refine zr_aload_n C 0 rfl (zdec_at dm_X12_readRule 182 rfl) rfl ?_
                        refine zr_bipush C (zdec_at dm_X12_readRule 183 rfl) (by decide) ?_
                        obtain ⟨g314, h⟩ := h
                        refine zr_callV C [38] hS_X12_join ck_RX12_469 iv_X12_join vc_X12 oc_103 rfl rfl (zdec_at dm_X12_readRule 184 rfl) ⟨rfl, rfl, rfl, rfl⟩ ⟨by decide, by decide⟩ (Nat.le_of_ble_eq_true rfl) (zall_0 (by decide) zall_n) ?_
                        refine ⟨_, rfl, g314, fun M310 p313 _ hR311 => ?_⟩
                        have h := h M310 p313 hR311
                        show zV Γ mu_X12_readRule (145, 0, 0) 349 [(0, zRf (zad Γ) 103), (1, zI v239), (2, zI r273)] [] M310
                        refine zr_aload_n C 0 rfl (zdec_at dm_X12_readRule 185 rfl) rfl ?_
                        refine zr_bipush C (zdec_at dm_X12_readRule 186 rfl) (by decide) ?_
                        obtain ⟨g319, h⟩ := h
                        refine zr_callV C [124] hS_X12_join ck_RX12_469 iv_X12_join vc_X12 oc_103 rfl rfl (zdec_at dm_X12_readRule 187 rfl) ⟨rfl, rfl, rfl, rfl⟩ ⟨by decide, by decide⟩ (Nat.le_of_ble_eq_true rfl) (zall_0 (by decide) zall_n) ?_
                        refine ⟨_, rfl, g319, fun M315 p318 _ hR316 => ?_⟩
                        have h := h M315 p318 hR316
                        show zV Γ mu_X12_readRule (145, 0, 0) 355 [(0, zRf (zad Γ) 103), (1, zI v239), (2, zI r273)] [] M315
                        refine zr_aload_n C 0 rfl (zdec_at dm_X12_readRule 188 rfl) rfl ?_
                        refine zr_iload_n C 2 rfl (zdec_at dm_X12_readRule 189 rfl) rfl ?_
                        refine zr_bipush C (zdec_at dm_X12_readRule 190 rfl) (by decide) ?_
                        have h := h (fun v320 M322 => zin v320 → zRng M322 → zV Γ mu_X12_readRule (145, 0, 0) 376 [(0, zRf (zad Γ) 103), (1, zI v239)] [zI v320, zRf (zad Γ) 103] M322) (fun v320 M322 h z321 hR323 => by
                          have h := h z321 hR323
                          obtain ⟨o324, h⟩ := h
                          refine zr_putz C fk_RX12_164 fi_103_24 z321 o324 (zdec_at dm_X12_readRule 199 rfl) (fun M325 e326 => ?_)
                          have h := h M325 e326
                          have hR327 : zRng M325 := by rw [e326]; exact hR323.set z321 _ _
                          refine zr_aload_n C 0 rfl (zdec_at dm_X12_readRule 200 rfl) rfl ?_
                          refine zr_geti C fk_RX12_164 fi_103_24 (zdec_at dm_X12_readRule 201 rfl) ?_
                          refine zr_if_ne C (hR327 _ _) (zdec_at dm_X12_readRule 202 rfl) rfl (fun g328 => ?_) (fun g328 => ?_)
                          · have h := h.1 g328
                            refine zr_goto C (zdec_at dm_X12_readRule 223 rfl) rfl ?_
                            obtain ⟨n329, q330, q331⟩ := h
                            exact zr_sub [0, 1] rfl (ih244 n329 q330 _ _ q331 z240 hR327)
                          · have h := h.2 g328
                            refine zr_aload_n C 0 rfl (zdec_at dm_X12_readRule 203 rfl) rfl ?_
                            refine zr_dup C rfl (zdec_at dm_X12_readRule 204 rfl) ?_
                            refine zr_geti C fk_RX12_446 fi_103_64 (zdec_at dm_X12_readRule 205 rfl) ?_
                            refine zr_iconst C (zdec_at dm_X12_readRule 206 rfl) ?_
                            refine zr_isub C (zdec_at dm_X12_readRule 207 rfl) ?_
                            obtain ⟨o332, h⟩ := h
                            refine zr_puti C fk_RX12_446 fi_103_64 o332 (zdec_at dm_X12_readRule 208 rfl) (fun M333 e334 => ?_)
                            have h := h M333 e334
                            have hR335 : zRng M333 := by rw [e334]; exact hR327.set o332 _ _
                            refine zr_aload_n C 0 rfl (zdec_at dm_X12_readRule 209 rfl) rfl ?_
                            refine zr_dup C rfl (zdec_at dm_X12_readRule 210 rfl) ?_
                            refine zr_geti C fk_RX12_455 fi_103_60 (zdec_at dm_X12_readRule 211 rfl) ?_
                            refine zr_iconst C (zdec_at dm_X12_readRule 212 rfl) ?_
                            refine zr_isub C (zdec_at dm_X12_readRule 213 rfl) ?_
                            obtain ⟨o336, h⟩ := h
                            refine zr_puti C fk_RX12_455 fi_103_60 o336 (zdec_at dm_X12_readRule 214 rfl) (fun M337 e338 => ?_)
                            have h := h M337 e338
                            have hR339 : zRng M337 := by rw [e338]; exact hR335.set o336 _ _
                            refine zr_aload_n C 0 rfl (zdec_at dm_X12_readRule 215 rfl) rfl ?_
                            refine zr_dup C rfl (zdec_at dm_X12_readRule 216 rfl) ?_
                            refine zr_geti C fk_RX12_143 fi_103_23 (zdec_at dm_X12_readRule 217 rfl) ?_
                            refine zr_iconst C (zdec_at dm_X12_readRule 218 rfl) ?_
                            refine zr_iadd C (zdec_at dm_X12_readRule 219 rfl) ?_
                            obtain ⟨o340, h⟩ := h
                            refine zr_puti C fk_RX12_143 fi_103_23 o340 (zdec_at dm_X12_readRule 220 rfl) (fun M341 e342 => ?_)
                            have h := h M341 e342
                            have hR343 : zRng M341 := by rw [e342]; exact hR339.set o340 _ _
                            refine zr_aload_n C 0 rfl (zdec_at dm_X12_readRule 221 rfl) rfl ?_
                            obtain ⟨g348, h⟩ := h
                            refine zr_callV C [] hS_X12_testEnds ck_RX12_466 iv_X12_testEnds vc_X12 oc_103 rfl rfl (zdec_at dm_X12_readRule 222 rfl) ⟨rfl, rfl, rfl, rfl⟩ ⟨by decide, by decide⟩ (Nat.le_of_ble_eq_true rfl) zall_n ?_
                            refine ⟨rfl, g348, fun M344 p347 _ hR345 => ?_⟩
                            have h := h M344 p347 hR345
                            show zV Γ mu_X12_readRule (145, 0, 0) 420 [(0, zRf (zad Γ) 103), (1, zI v239)] [] M344
                            refine zr_goto C (zdec_at dm_X12_readRule 223 rfl) rfl ?_
                            obtain ⟨n349, q350, q351⟩ := h
                            exact zr_sub [0, 1] rfl (ih244 n349 q350 _ _ q351 z240 hR345))
                        have h := h (fun M352 => zRng M352 → zV Γ mu_X12_readRule (145, 0, 0) 371 [(0, zRf (zad Γ) 103), (1, zI v239)] [zRf (zad Γ) 103] M352) (fun M352 h hR353 => by
                          have h := h hR353
                          refine zr_iconst C (zdec_at dm_X12_readRule 196 rfl) ?_
                          refine zr_goto C (zdec_at dm_X12_readRule 197 rfl) rfl ?_
                          exact zr_sub [0, 1] rfl (h (by decide) hR353))
                        refine zr_icmp_ne C z276 (by decide) (zdec_at dm_X12_readRule 191 rfl) rfl (fun g354 => ?_) (fun g354 => ?_)
                        · have h := h.1 g354
                          exact zr_sub [0, 1] rfl (h hR316)
                        · have h := h.2 g354
                          refine zr_aload_n C 0 rfl (zdec_at dm_X12_readRule 192 rfl) rfl ?_
                          obtain ⟨g360, h⟩ := h
                          refine zr_callV C [] hS_X12_topSign ck_RX12_449 iv_X12_topSign vc_X12 oc_103 rfl rfl (zdec_at dm_X12_readRule 193 rfl) ⟨rfl, rfl, rfl, rfl⟩ ⟨by decide, by decide⟩ (Nat.le_of_ble_eq_true rfl) zall_n ?_
                          refine ⟨rfl, g360, fun r355 M356 p359 z358 hR357 => ?_⟩
                          have h := h r355 M356 p359 z358 hR357
                          show zV Γ mu_X12_readRule (145, 0, 0) 366 [(0, zRf (zad Γ) 103), (1, zI v239), (2, zI r273)] [zI r355, zRf (zad Γ) 103] M356
                          refine zr_bipush C (zdec_at dm_X12_readRule 194 rfl) (by decide) ?_
                          refine zr_icmp_eq C z358 (by decide) (zdec_at dm_X12_readRule 195 rfl) rfl (fun g361 => ?_) (fun g361 => ?_)
                          · have h := h.1 g361
                            refine zr_iconst C (zdec_at dm_X12_readRule 198 rfl) ?_
                            exact zr_sub [0, 1] rfl (h (by decide) hR357)
                          · have h := h.2 g361
                            exact zr_sub [0, 1] rfl (h hR357)
                      · have h := h.2 g309
                        exact zr_sub [0, 2] rfl (h)
                  · have h := h.2 g279
                    refine zr_aload_n C 0 rfl (zdec_at dm_X12_readRule 128 rfl) rfl ?_
                    refine zr_getr (q := 132) C fk_RX12_103 fi_103_61 (zdec_at dm_X12_readRule 129 rfl) ?_
                    refine zr_aload_n C 0 rfl (zdec_at dm_X12_readRule 130 rfl) rfl ?_
                    refine zr_geti C fk_RX12_452 fi_103_62 (zdec_at dm_X12_readRule 131 rfl) ?_
                    refine zr_aload_n C 0 rfl (zdec_at dm_X12_readRule 132 rfl) rfl ?_
                    obtain ⟨g367, h⟩ := h
                    refine zr_callV C [] hS_X12_readTest ck_RX12_462 iv_X12_readTest vc_X12 oc_103 rfl rfl (zdec_at dm_X12_readRule 133 rfl) ⟨rfl, rfl, rfl, rfl⟩ ⟨by decide, by decide⟩ (Nat.le_of_ble_eq_true rfl) zall_n ?_
                    refine ⟨rfl, g367, fun r362 M363 p366 z365 hR364 => ?_⟩
                    have h := h r362 M363 p366 z365 hR364
                    show zV Γ mu_X12_readRule (145, 0, 0) 258 [(0, zRf (zad Γ) 103), (1, zI v239), (2, zI r273)] [zI r362, zI (M274 103 62), zRf (zad Γ) 132] M363
                    obtain ⟨o368, h⟩ := h
                    obtain ⟨o369, h⟩ := h
                    refine zr_zast C ai_132 o368 z365 o369 rfl (zdec_at dm_X12_readRule 134 rfl) (fun M370 e371 => ?_)
                    have h := h M370 e371
                    have hR372 : zRng M370 := by rw [e371]; exact hR364.set z365 _ _
                    refine zr_aload_n C 0 rfl (zdec_at dm_X12_readRule 135 rfl) rfl ?_
                    refine zr_dup C rfl (zdec_at dm_X12_readRule 136 rfl) ?_
                    refine zr_geti C fk_RX12_452 fi_103_62 (zdec_at dm_X12_readRule 137 rfl) ?_
                    refine zr_iconst C (zdec_at dm_X12_readRule 138 rfl) ?_
                    refine zr_iadd C (zdec_at dm_X12_readRule 139 rfl) ?_
                    obtain ⟨o373, h⟩ := h
                    refine zr_puti C fk_RX12_452 fi_103_62 o373 (zdec_at dm_X12_readRule 140 rfl) (fun M374 e375 => ?_)
                    have h := h M374 e375
                    have hR376 : zRng M374 := by rw [e375]; exact hR372.set o373 _ _
                    refine zr_iconst C (zdec_at dm_X12_readRule 141 rfl) ?_
                    refine zr_istore_n (L1 := [(1, zI 0), (0, zRf (zad Γ) 103), (2, zI r273)]) C (zdec_at dm_X12_readRule 142 rfl) rfl (Nat.le_of_ble_eq_true rfl) rfl ?_
                    refine zr_aload_n C 1 rfl (zdec_at dm_X12_readRule 143 rfl) rfl ?_
                    obtain ⟨g381, h⟩ := h
                    refine zr_callV C [] hS_X12_testEnds ck_RX12_466 iv_X12_testEnds vc_X12 oc_103 rfl rfl (zdec_at dm_X12_readRule 144 rfl) ⟨rfl, rfl, rfl, rfl⟩ ⟨by decide, by decide⟩ (Nat.le_of_ble_eq_true rfl) zall_n ?_
                    refine ⟨rfl, g381, fun M377 p380 _ hR378 => ?_⟩
                    have h := h M377 p380 hR378
                    show zV Γ mu_X12_readRule (145, 0, 0) 275 [(1, zI 0), (0, zRf (zad Γ) 103), (2, zI r273)] [] M377
                    refine zr_goto C (zdec_at dm_X12_readRule 145 rfl) rfl ?_
                    refine zr_goto C (zdec_at dm_X12_readRule 223 rfl) rfl ?_
                    obtain ⟨n382, q383, q384⟩ := h
                    exact zr_sub [1, 0] rfl (ih244 n382 q383 _ _ q384 (by decide) hR378))
                refine zr_if_eq C z240 (zdec_at dm_X12_readRule 74 rfl) rfl (fun g385 => ?_) (fun g385 => ?_)
                · have h := h.1 g385
                  exact zr_sub [1, 2, 0] rfl (h)
                · have h := h.2 g385
                  refine zr_iload_n C 0 rfl (zdec_at dm_X12_readRule 75 rfl) rfl ?_
                  refine zr_bipush C (zdec_at dm_X12_readRule 76 rfl) (by decide) ?_
                  have h := h (zV Γ mu_X12_readRule (145, 0, 0) 158 [(0, zRf (zad Γ) 103), (1, zI v239), (2, zI r273)] [] M274) (fun h => by
                    refine zr_aload_n C 0 rfl (zdec_at dm_X12_readRule 81 rfl) rfl ?_
                    refine zr_iload_n C 2 rfl (zdec_at dm_X12_readRule 82 rfl) rfl ?_
                    refine zr_bipush C (zdec_at dm_X12_readRule 83 rfl) (by decide) ?_
                    have h := h (fun v386 => zin v386 → zV Γ mu_X12_readRule (145, 0, 0) 179 [(0, zRf (zad Γ) 103), (1, zI v239), (2, zI r273)] [zI v386, zRf (zad Γ) 103] M274) (fun v386 h z387 => by
                      have h := h z387
                      obtain ⟨o388, h⟩ := h
                      refine zr_putz C fk_RX12_164 fi_103_24 z387 o388 (zdec_at dm_X12_readRule 92 rfl) (fun M389 e390 => ?_)
                      have h := h M389 e390
                      have hR391 : zRng M389 := by rw [e390]; exact hR275.set z387 _ _
                      refine zr_aload_n C 0 rfl (zdec_at dm_X12_readRule 93 rfl) rfl ?_
                      refine zr_geti C fk_RX12_164 fi_103_24 (zdec_at dm_X12_readRule 94 rfl) ?_
                      refine zr_if_ne C (hR391 _ _) (zdec_at dm_X12_readRule 95 rfl) rfl (fun g392 => ?_) (fun g392 => ?_)
                      · have h := h.1 g392
                        refine zr_goto C (zdec_at dm_X12_readRule 223 rfl) rfl ?_
                        obtain ⟨n393, q394, q395⟩ := h
                        exact zr_sub [0, 1] rfl (ih244 n393 q394 _ _ q395 z240 hR391)
                      · have h := h.2 g392
                        refine zr_aload_n C 0 rfl (zdec_at dm_X12_readRule 96 rfl) rfl ?_
                        refine zr_dup C rfl (zdec_at dm_X12_readRule 97 rfl) ?_
                        refine zr_geti C fk_RX12_455 fi_103_60 (zdec_at dm_X12_readRule 98 rfl) ?_
                        refine zr_iload_n C 2 rfl (zdec_at dm_X12_readRule 99 rfl) rfl ?_
                        refine zr_bipush C (zdec_at dm_X12_readRule 100 rfl) (by decide) ?_
                        have h := h (fun v396 => zin v396 → zV Γ mu_X12_readRule (145, 0, 0) 205 [(0, zRf (zad Γ) 103), (1, zI v239), (2, zI r273)] [zI v396, zI (M389 103 60), zRf (zad Γ) 103] M389) (fun v396 h z397 => by
                          have h := h z397
                          refine zr_iadd C (zdec_at dm_X12_readRule 105 rfl) ?_
                          obtain ⟨o398, h⟩ := h
                          refine zr_puti C fk_RX12_455 fi_103_60 o398 (zdec_at dm_X12_readRule 106 rfl) (fun M399 e400 => ?_)
                          have h := h M399 e400
                          have hR401 : zRng M399 := by rw [e400]; exact hR391.set o398 _ _
                          refine zr_aload_n C 0 rfl (zdec_at dm_X12_readRule 107 rfl) rfl ?_
                          refine zr_getr (q := 133) C fk_RX12_106 fi_103_63 (zdec_at dm_X12_readRule 108 rfl) ?_
                          refine zr_aload_n C 0 rfl (zdec_at dm_X12_readRule 109 rfl) rfl ?_
                          refine zr_geti C fk_RX12_446 fi_103_64 (zdec_at dm_X12_readRule 110 rfl) ?_
                          refine zr_iload_n C 2 rfl (zdec_at dm_X12_readRule 111 rfl) rfl ?_
                          obtain ⟨o402, h⟩ := h
                          refine zr_iast C ai_133 o402 z276 (zdec_at dm_X12_readRule 112 rfl) (fun M403 e404 => ?_)
                          have h := h M403 e404
                          have hR405 : zRng M403 := by rw [e404]; exact hR401.set z276 _ _
                          refine zr_aload_n C 0 rfl (zdec_at dm_X12_readRule 113 rfl) rfl ?_
                          refine zr_dup C rfl (zdec_at dm_X12_readRule 114 rfl) ?_
                          refine zr_geti C fk_RX12_446 fi_103_64 (zdec_at dm_X12_readRule 115 rfl) ?_
                          refine zr_iconst C (zdec_at dm_X12_readRule 116 rfl) ?_
                          refine zr_iadd C (zdec_at dm_X12_readRule 117 rfl) ?_
                          obtain ⟨o406, h⟩ := h
                          refine zr_puti C fk_RX12_446 fi_103_64 o406 (zdec_at dm_X12_readRule 118 rfl) (fun M407 e408 => ?_)
                          have h := h M407 e408
                          have hR409 : zRng M407 := by rw [e408]; exact hR405.set o406 _ _
                          refine zr_aload_n C 0 rfl (zdec_at dm_X12_readRule 119 rfl) rfl ?_
                          refine zr_dup C rfl (zdec_at dm_X12_readRule 120 rfl) ?_
                          refine zr_geti C fk_RX12_143 fi_103_23 (zdec_at dm_X12_readRule 121 rfl) ?_
                          refine zr_iconst C (zdec_at dm_X12_readRule 122 rfl) ?_
                          refine zr_iadd C (zdec_at dm_X12_readRule 123 rfl) ?_
                          obtain ⟨o410, h⟩ := h
                          refine zr_puti C fk_RX12_143 fi_103_23 o410 (zdec_at dm_X12_readRule 124 rfl) (fun M411 e412 => ?_)
                          have h := h M411 e412
                          have hR413 : zRng M411 := by rw [e412]; exact hR409.set o410 _ _
                          refine zr_goto C (zdec_at dm_X12_readRule 125 rfl) rfl ?_
                          refine zr_goto C (zdec_at dm_X12_readRule 223 rfl) rfl ?_
                          obtain ⟨n414, q415, q416⟩ := h
                          exact zr_sub [0, 1] rfl (ih244 n414 q415 _ _ q416 z240 hR413))
                        refine zr_icmp_ne C z276 (by decide) (zdec_at dm_X12_readRule 101 rfl) rfl (fun g417 => ?_) (fun g417 => ?_)
                        · have h := h.1 g417
                          refine zr_iconst C (zdec_at dm_X12_readRule 104 rfl) ?_
                          exact zr_sub [0, 1, 2] rfl (h (by decide))
                        · have h := h.2 g417
                          refine zr_iconst C (zdec_at dm_X12_readRule 102 rfl) ?_
                          refine zr_goto C (zdec_at dm_X12_readRule 103 rfl) rfl ?_
                          exact zr_sub [0, 1, 2] rfl (h (by decide)))
                    have h := h (zV Γ mu_X12_readRule (145, 0, 0) 178 [(0, zRf (zad Γ) 103), (1, zI v239), (2, zI r273)] [zRf (zad Γ) 103] M274) (fun h => by
                      refine zr_iconst C (zdec_at dm_X12_readRule 91 rfl) ?_
                      exact zr_sub [0, 1, 2] rfl (h (by decide)))
                    refine zr_icmp_ne C z276 (by decide) (zdec_at dm_X12_readRule 84 rfl) rfl (fun g418 => ?_) (fun g418 => ?_)
                    · have h := h.1 g418
                      exact zr_sub [0, 1, 2] rfl (h)
                    · have h := h.2 g418
                      refine zr_aload_n C 0 rfl (zdec_at dm_X12_readRule 85 rfl) rfl ?_
                      refine zr_geti C fk_RX12_455 fi_103_60 (zdec_at dm_X12_readRule 86 rfl) ?_
                      refine zr_bipush C (zdec_at dm_X12_readRule 87 rfl) (by decide) ?_
                      refine zr_icmp_ne C (hR275 _ _) (by decide) (zdec_at dm_X12_readRule 88 rfl) rfl (fun g419 => ?_) (fun g419 => ?_)
                      · have h := h.1 g419
                        exact zr_sub [0, 1, 2] rfl (h)
                      · have h := h.2 g419
                        refine zr_iconst C (zdec_at dm_X12_readRule 89 rfl) ?_
                        refine zr_goto C (zdec_at dm_X12_readRule 90 rfl) rfl ?_
                        exact zr_sub [0, 1, 2] rfl (h (by decide)))
                  refine zr_icmp_eq C z276 (by decide) (zdec_at dm_X12_readRule 77 rfl) rfl (fun g420 => ?_) (fun g420 => ?_)
                  · have h := h.1 g420
                    exact zr_sub [1, 2, 0] rfl (h)
                  · have h := h.2 g420
                    refine zr_iload_n C 0 rfl (zdec_at dm_X12_readRule 78 rfl) rfl ?_
                    refine zr_bipush C (zdec_at dm_X12_readRule 79 rfl) (by decide) ?_
                    refine zr_icmp_ne C z276 (by decide) (zdec_at dm_X12_readRule 80 rfl) rfl (fun g421 => ?_) (fun g421 => ?_)
                    · have h := h.1 g421
                      exact zr_sub [1, 2, 0] rfl (h)
                    · have h := h.2 g421
                      exact zr_sub [1, 2, 0] rfl (h))
              refine zr_if_ne C z240 (zdec_at dm_X12_readRule 64 rfl) rfl (fun g422 => ?_) (fun g422 => ?_)
              · have h := h.1 g422
                exact zr_sub [0, 1] rfl (h)
              · have h := h.2 g422
                refine zr_aload_n C 0 rfl (zdec_at dm_X12_readRule 65 rfl) rfl ?_
                refine zr_geti C fk_RX12_143 fi_103_23 (zdec_at dm_X12_readRule 66 rfl) ?_
                refine zr_aload_n C 0 rfl (zdec_at dm_X12_readRule 67 rfl) rfl ?_
                refine zr_geti C fk_RX12_146 fi_103_22 (zdec_at dm_X12_readRule 68 rfl) ?_
                refine zr_icmp_ge C (hR242 _ _) (hR242 _ _) (zdec_at dm_X12_readRule 69 rfl) rfl (fun g423 => ?_) (fun g423 => ?_)
                · have h := h.1 g423
                  exact zr_sub [0] rfl (h)
                · have h := h.2 g423
                  exact zr_sub [0, 1] rfl (h)
          exact zr_sub [1, 0] rfl (lp245 n247 _ _ q248 (by decide) hR238))
      have h := h (fun M424 => zRng M424 → zV Γ mu_X12_readRule (145, 0, 0) 84 [(0, zRf (zad Γ) 103)] [zRf (zad Γ) 103] M424) (fun M424 h hR425 => by
        have h := h hR425
        refine zr_iconst C (zdec_at dm_X12_readRule 43 rfl) ?_
        refine zr_goto C (zdec_at dm_X12_readRule 44 rfl) rfl ?_
        exact zr_sub [0] rfl (h (by decide) hR425))
      refine zr_if_ne C (hR36 _ _) (zdec_at dm_X12_readRule 38 rfl) rfl (fun g426 => ?_) (fun g426 => ?_)
      · have h := h.1 g426
        exact zr_sub [0] rfl (h hR36)
      · have h := h.2 g426
        refine zr_aload_n C 0 rfl (zdec_at dm_X12_readRule 39 rfl) rfl ?_
        obtain ⟨g432, h⟩ := h
        refine zr_callV C [] hS_X12_look ck_RX12_431 iv_X12_look vc_X12 oc_103 rfl rfl (zdec_at dm_X12_readRule 40 rfl) ⟨rfl, rfl, rfl, rfl⟩ ⟨by decide, by decide⟩ (Nat.le_of_ble_eq_true rfl) zall_n ?_
        refine ⟨rfl, g432, fun r427 M428 p431 z430 hR429 => ?_⟩
        have h := h r427 M428 p431 z430 hR429
        show zV Γ mu_X12_readRule (145, 0, 0) 79 [(0, zRf (zad Γ) 103)] [zI r427, zRf (zad Γ) 103] M428
        refine zr_bipush C (zdec_at dm_X12_readRule 41 rfl) (by decide) ?_
        refine zr_icmp_eq C z430 (by decide) (zdec_at dm_X12_readRule 42 rfl) rfl (fun g433 => ?_) (fun g433 => ?_)
        · have h := h.1 g433
          refine zr_iconst C (zdec_at dm_X12_readRule 45 rfl) ?_
          exact zr_sub [0] rfl (h (by decide) hR429)
        · have h := h.2 g433
          exact zr_sub [0] rfl (h hR429))
    refine zr_if_eq C (hR30 _ _) (zdec_at dm_X12_readRule 29 rfl) rfl (fun g434 => ?_) (fun g434 => ?_)
    · have h := h.1 g434
      refine zr_iconst C (zdec_at dm_X12_readRule 32 rfl) ?_
      exact zr_sub [0] rfl (h (by decide))
    · have h := h.2 g434
      refine zr_iconst C (zdec_at dm_X12_readRule 30 rfl) ?_
      refine zr_goto C (zdec_at dm_X12_readRule 31 rfl) rfl ?_
      exact zr_sub [0] rfl (h (by decide)))
  refine zr_if_ne C z22 (zdec_at dm_X12_readRule 19 rfl) rfl (fun g435 => ?_) (fun g435 => ?_)
  · have h := h.1 g435
    refine zr_iconst C (zdec_at dm_X12_readRule 22 rfl) ?_
    exact zr_sub [0] rfl (h (by decide))
  · have h := h.2 g435
    refine zr_iconst C (zdec_at dm_X12_readRule 20 rfl) ?_
    refine zr_goto C (zdec_at dm_X12_readRule 21 rfl) rfl ?_
    exact zr_sub [0] rfl (h (by decide))

set_option maxHeartbeats 400000 in
set_option maxRecDepth 100000 in
theorem sn_X12_faultOfRule {pr_X12_readRule : zM → Prop} {po_X12_readRule : zM → Int → zM → Prop} (hS_X12_readRule : zSnd zS 145 0 0 yX12_readRule cX12_readRule 3 (some .boolean) 9 [2] (F_X12_readRule pr_X12_readRule po_X12_readRule)) : zSnd zS 145 0 0 yX12_faultOfRule cX12_faultOfRule 2 (some .int) 10 [2, 0] (fun xs P M => ∃ a1 : Int, xs = [103, a1] ∧ vc_X12_faultOfRule pr_X12_readRule po_X12_readRule a1 P M) := by
  refine zSnd.of rfl (fun ad xs hz => Nat.le_trans (Nat.le_of_eq (zlen ad _ xs hz)) (by decide)) ?_
  intro Γ C _ _ xs M hz hF
  obtain ⟨a1, rfl, h⟩ := hF
  have zz_a1 := zall_h (zall_t hz) (by decide)
  refine zr_rng (fun hR => ?_)
  have C : zC Γ mu_X12_faultOfRule := C
  change zV Γ mu_X12_faultOfRule (145, 0, 0) 0 [(0, zRf (zad Γ) 103), (1, zI a1)] [] M
  change vc_X12_faultOfRule pr_X12_readRule po_X12_readRule a1 _ M at h
  unfold vc_X12_faultOfRule at h
  refine zr_aload_n C 0 rfl (zdec_at dm_X12_faultOfRule 0 rfl) rfl ?_
  refine zr_iconst C (zdec_at dm_X12_faultOfRule 1 rfl) ?_
  refine zr_putz C fk_RX12_425 fi_103_58 (by decide) (by decide) (zdec_at dm_X12_faultOfRule 2 rfl) (fun M1 e2 => ?_)
  have h := h M1 e2
  have hR3 : zRng M1 := by rw [e2]; exact hR.set (by decide) _ _
  refine zr_aload_n C 0 rfl (zdec_at dm_X12_faultOfRule 3 rfl) rfl ?_
  refine zr_bipush C (zdec_at dm_X12_faultOfRule 4 rfl) (by decide) ?_
  refine zr_iload_n C 1 rfl (zdec_at dm_X12_faultOfRule 5 rfl) rfl ?_
  refine zr_imul C (zdec_at dm_X12_faultOfRule 6 rfl) ?_
  obtain ⟨o4, h⟩ := h
  refine zr_puti C fk_RX12_149 fi_103_21 o4 (zdec_at dm_X12_faultOfRule 7 rfl) (fun M5 e6 => ?_)
  have h := h M5 e6
  have hR7 : zRng M5 := by rw [e6]; exact hR3.set o4 _ _
  refine zr_aload_n C 0 rfl (zdec_at dm_X12_faultOfRule 8 rfl) rfl ?_
  refine zr_aload_n C 0 rfl (zdec_at dm_X12_faultOfRule 9 rfl) rfl ?_
  refine zr_getr (q := 141) C fk_RX12_130 fi_103_72 (zdec_at dm_X12_faultOfRule 10 rfl) ?_
  refine zr_iload_n C 1 rfl (zdec_at dm_X12_faultOfRule 11 rfl) rfl ?_
  obtain ⟨o8, h⟩ := h
  refine zr_iald C ai_141 o8 (zdec_at dm_X12_faultOfRule 12 rfl) ?_
  refine zr_puti C fk_RX12_146 fi_103_22 (hR7 _ _) (zdec_at dm_X12_faultOfRule 13 rfl) (fun M9 e10 => ?_)
  have h := h M9 e10
  have hR11 : zRng M9 := by rw [e10]; exact hR7.set (hR7 _ _) _ _
  refine zr_aload_n C 0 rfl (zdec_at dm_X12_faultOfRule 14 rfl) rfl ?_
  obtain ⟨g17, h⟩ := h
  refine zr_callV C [] hS_X12_readRule ck_RX12_472 iv_X12_readRule vc_X12 oc_103 rfl rfl (zdec_at dm_X12_faultOfRule 15 rfl) ⟨rfl, rfl, rfl, rfl⟩ ⟨by decide, by decide⟩ (Nat.le_of_ble_eq_true rfl) zall_n ?_
  refine ⟨rfl, g17, fun r12 M13 p16 z15 hR14 => ?_⟩
  have h := h r12 M13 p16 z15 hR14
  show zV Γ mu_X12_faultOfRule (145, 0, 0) 27 [(0, zRf (zad Γ) 103), (1, zI a1)] [zI r12] M13
  refine zr_pop C rfl (zdec_at dm_X12_faultOfRule 16 rfl) ?_
  refine zr_aload_n C 0 rfl (zdec_at dm_X12_faultOfRule 17 rfl) rfl ?_
  refine zr_geti C fk_RX12_164 fi_103_24 (zdec_at dm_X12_faultOfRule 18 rfl) ?_
  refine zr_if_eq C (hR14 _ _) (zdec_at dm_X12_faultOfRule 19 rfl) rfl (fun g18 => ?_) (fun g18 => ?_)
  · have h := h.1 g18
    refine zr_iconst C (zdec_at dm_X12_faultOfRule 23 rfl) ?_
    exact zr_ireturn C rfl (zdec_at dm_X12_faultOfRule 24 rfl) rfl ⟨(by decide), h⟩
  · have h := h.2 g18
    refine zr_aload_n C 0 rfl (zdec_at dm_X12_faultOfRule 20 rfl) rfl ?_
    refine zr_geti C fk_RX12_143 fi_103_23 (zdec_at dm_X12_faultOfRule 21 rfl) ?_
    refine zr_goto C (zdec_at dm_X12_faultOfRule 22 rfl) rfl ?_
    exact zr_ireturn C rfl (zdec_at dm_X12_faultOfRule 24 rfl) rfl ⟨(hR14 _ _), h⟩

set_option maxHeartbeats 400000 in
set_option maxRecDepth 100000 in
theorem sn_X12_ruleFault {pr_X12_lacks : Int → zM → Prop} {po_X12_lacks : Int → zM → Int → zM → Prop} {pr_X12_faultOfRule : Int → zM → Prop} {po_X12_faultOfRule : Int → zM → Int → zM → Prop} (hS_X12_lacks : zSnd zS 145 0 0 yX12_lacks cX12_lacks 2 (some .int) 1 [2, 0] (F_X12_lacks pr_X12_lacks po_X12_lacks)) (hS_X12_faultOfRule : zSnd zS 145 0 0 yX12_faultOfRule cX12_faultOfRule 2 (some .int) 10 [2, 0] (F_X12_faultOfRule pr_X12_faultOfRule po_X12_faultOfRule)) : zSnd zS 145 0 0 yX12_ruleFault cX12_ruleFault 4 (some .int) 11 [2, 0] (fun xs P M => ∃ a1 : Int, xs = [103, a1] ∧ vc_X12_ruleFault pr_X12_lacks po_X12_lacks pr_X12_faultOfRule po_X12_faultOfRule a1 P M) := by
  refine zSnd.of rfl (fun ad xs hz => Nat.le_trans (Nat.le_of_eq (zlen ad _ xs hz)) (by decide)) ?_
  intro Γ C _ _ xs M hz hF
  obtain ⟨a1, rfl, h⟩ := hF
  have zz_a1 := zall_h (zall_t hz) (by decide)
  refine zr_rng (fun hR => ?_)
  have C : zC Γ mu_X12_ruleFault := C
  change zV Γ mu_X12_ruleFault (145, 0, 0) 0 [(0, zRf (zad Γ) 103), (1, zI a1)] [] M
  change vc_X12_ruleFault pr_X12_lacks po_X12_lacks pr_X12_faultOfRule po_X12_faultOfRule a1 _ M at h
  unfold vc_X12_ruleFault at h
  refine zr_aload_n C 0 rfl (zdec_at dm_X12_ruleFault 0 rfl) rfl ?_
  refine zr_iconst C (zdec_at dm_X12_ruleFault 1 rfl) ?_
  refine zr_puti C fk_RX12_140 fi_103_0 (by decide) (zdec_at dm_X12_ruleFault 2 rfl) (fun M1 e2 => ?_)
  have h := h M1 e2
  have hR3 : zRng M1 := by rw [e2]; exact hR.set (by decide) _ _
  refine zr_aload_n C 0 rfl (zdec_at dm_X12_ruleFault 3 rfl) rfl ?_
  refine zr_iload_n C 1 rfl (zdec_at dm_X12_ruleFault 4 rfl) rfl ?_
  obtain ⟨g9, h⟩ := h
  refine zr_callV C [a1] hS_X12_lacks ck_RX12_196 iv_X12_lacks vc_X12 oc_103 rfl rfl (zdec_at dm_X12_ruleFault 5 rfl) ⟨rfl, rfl, rfl, rfl⟩ ⟨by decide, by decide⟩ (Nat.le_of_ble_eq_true rfl) (zall_0 zz_a1 zall_n) ?_
  refine ⟨_, rfl, g9, fun r4 M5 p8 z7 hR6 => ?_⟩
  have h := h r4 M5 p8 z7 hR6
  show zV Γ mu_X12_ruleFault (145, 0, 0) 10 [(0, zRf (zad Γ) 103), (1, zI a1)] [zI r4] M5
  refine zr_istore_n (L1 := [(2, zI r4), (0, zRf (zad Γ) 103), (1, zI a1)]) C (zdec_at dm_X12_ruleFault 6 rfl) rfl (Nat.le_of_ble_eq_true rfl) rfl ?_
  refine zr_iload_n C 0 rfl (zdec_at dm_X12_ruleFault 7 rfl) rfl ?_
  refine zr_if_ge C z7 (zdec_at dm_X12_ruleFault 8 rfl) rfl (fun g10 => ?_) (fun g10 => ?_)
  · have h := h.1 g10
    refine zr_aload_n C 1 rfl (zdec_at dm_X12_ruleFault 11 rfl) rfl ?_
    refine zr_iload_n C 2 rfl (zdec_at dm_X12_ruleFault 12 rfl) rfl ?_
    obtain ⟨g16, h⟩ := h
    refine zr_callV C [a1] hS_X12_faultOfRule ck_RX12_475 iv_X12_faultOfRule vc_X12 oc_103 rfl rfl (zdec_at dm_X12_ruleFault 13 rfl) ⟨rfl, rfl, rfl, rfl⟩ ⟨by decide, by decide⟩ (Nat.le_of_ble_eq_true rfl) (zall_0 zz_a1 zall_n) ?_
    refine ⟨_, rfl, g16, fun r11 M12 p15 z14 hR13 => ?_⟩
    have h := h r11 M12 p15 z14 hR13
    show zV Γ mu_X12_ruleFault (145, 0, 0) 22 [(2, zI r4), (0, zRf (zad Γ) 103), (1, zI a1)] [zI r11] M12
    refine zr_istore_n (L1 := [(3, zI r11), (2, zI r4), (0, zRf (zad Γ) 103), (1, zI a1)]) C (zdec_at dm_X12_ruleFault 14 rfl) rfl (Nat.le_of_ble_eq_true rfl) rfl ?_
    refine zr_iload_n C 0 rfl (zdec_at dm_X12_ruleFault 15 rfl) rfl ?_
    refine zr_if_ge C z14 (zdec_at dm_X12_ruleFault 16 rfl) rfl (fun g17 => ?_) (fun g17 => ?_)
    · have h := h.1 g17
      refine zr_iload_n C 0 rfl (zdec_at dm_X12_ruleFault 19 rfl) rfl ?_
      exact zr_ireturn C rfl (zdec_at dm_X12_ruleFault 20 rfl) rfl ⟨z14, h⟩
    · have h := h.2 g17
      refine zr_bipush C (zdec_at dm_X12_ruleFault 17 rfl) (by decide) ?_
      refine zr_goto C (zdec_at dm_X12_ruleFault 18 rfl) rfl ?_
      exact zr_ireturn C rfl (zdec_at dm_X12_ruleFault 20 rfl) rfl ⟨(by decide), h⟩
  · have h := h.2 g10
    refine zr_iload_n C 0 rfl (zdec_at dm_X12_ruleFault 9 rfl) rfl ?_
    exact zr_ireturn C rfl (zdec_at dm_X12_ruleFault 10 rfl) rfl ⟨z7, h⟩

set_option maxHeartbeats 400000 in
set_option maxRecDepth 100000 in
theorem sn_X12_rule {pr_X12_in : Int → Int → Int → zM → Prop} {po_X12_in : Int → Int → Int → zM → Int → zM → Prop} {pr_X12_lacks : Int → zM → Prop} {po_X12_lacks : Int → zM → Int → zM → Prop} {pr_X12_faultOfRule : Int → zM → Prop} {po_X12_faultOfRule : Int → zM → Int → zM → Prop} (hS_X12_in : zSnd zS 145 0 0 yX12_in cX12_in 6 (some .boolean) 0 [1, 1, 1] (F_X12_in pr_X12_in po_X12_in)) (hS_X12_lacks : zSnd zS 145 0 0 yX12_lacks cX12_lacks 2 (some .int) 1 [2, 0] (F_X12_lacks pr_X12_lacks po_X12_lacks)) (hS_X12_faultOfRule : zSnd zS 145 0 0 yX12_faultOfRule cX12_faultOfRule 2 (some .int) 10 [2, 0] (F_X12_faultOfRule pr_X12_faultOfRule po_X12_faultOfRule)) : zSnd zS 145 0 0 yX12_rule cX12_rule 5 (some .int) 11 [2, 0] (fun xs P M => ∃ a1 : Int, xs = [103, a1] ∧ vc_X12_rule pr_X12_in po_X12_in pr_X12_lacks po_X12_lacks pr_X12_faultOfRule po_X12_faultOfRule a1 P M) := by
  refine zSnd.of rfl (fun ad xs hz => Nat.le_trans (Nat.le_of_eq (zlen ad _ xs hz)) (by decide)) ?_
  intro Γ C _ _ xs M hz hF
  obtain ⟨a1, rfl, h⟩ := hF
  have zz_a1 := zall_h (zall_t hz) (by decide)
  refine zr_rng (fun hR => ?_)
  have C : zC Γ mu_X12_rule := C
  change zV Γ mu_X12_rule (145, 0, 0) 0 [(0, zRf (zad Γ) 103), (1, zI a1)] [] M
  change vc_X12_rule pr_X12_in po_X12_in pr_X12_lacks po_X12_lacks pr_X12_faultOfRule po_X12_faultOfRule a1 _ M at h
  unfold vc_X12_rule at h
  refine zr_aload_n C 0 rfl (zdec_at dm_X12_rule 0 rfl) rfl ?_
  refine zr_iconst C (zdec_at dm_X12_rule 1 rfl) ?_
  refine zr_puti C fk_RX12_140 fi_103_0 (by decide) (zdec_at dm_X12_rule 2 rfl) (fun M1 e2 => ?_)
  have h := h M1 e2
  have hR3 : zRng M1 := by rw [e2]; exact hR.set (by decide) _ _
  refine zr_iload_n C 1 rfl (zdec_at dm_X12_rule 3 rfl) rfl ?_
  refine zr_i2l C zz_a1 (zdec_at dm_X12_rule 4 rfl) ?_
  refine zr_lconst (v := 0) C (zdec_at dm_X12_rule 5 rfl) rfl ?_
  refine zr_ldc2 C (zdec_at dm_X12_rule 6 rfl) kc_RX12_194 ?_
  obtain ⟨g9, h⟩ := h
  refine zr_callS C [a1, 0, 7] hS_X12_in ck_RX12_156 sv_X12_in rfl rfl (zdec_at dm_X12_rule 7 rfl) ⟨rfl, rfl, rfl, rfl⟩ ⟨by decide, by decide⟩ (Nat.le_of_ble_eq_true rfl) (zall_1 zz_a1 (zall_1 (by decide) (zall_1 (by decide) zall_n))) ?_
  refine ⟨_, _, _, rfl, g9, fun r4 M5 p8 z7 hR6 => ?_⟩
  have h := h r4 M5 p8 z7 hR6
  show zV Γ mu_X12_rule (145, 0, 0) 14 [(0, zRf (zad Γ) 103), (1, zI a1)] [zI r4] M5
  refine zr_if_ne C z7 (zdec_at dm_X12_rule 8 rfl) rfl (fun g10 => ?_) (fun g10 => ?_)
  · have h := h.1 g10
    refine zr_aload_n C 0 rfl (zdec_at dm_X12_rule 11 rfl) rfl ?_
    refine zr_geti C fk_RX12_478 fi_103_9 (zdec_at dm_X12_rule 12 rfl) ?_
    refine zr_bipush C (zdec_at dm_X12_rule 13 rfl) (by decide) ?_
    refine zr_icmp_ne C (hR6 _ _) (by decide) (zdec_at dm_X12_rule 14 rfl) rfl (fun g11 => ?_) (fun g11 => ?_)
    · have h := h.1 g11
      refine zr_aload_n C 0 rfl (zdec_at dm_X12_rule 17 rfl) rfl ?_
      refine zr_iload_n C 1 rfl (zdec_at dm_X12_rule 18 rfl) rfl ?_
      obtain ⟨g17, h⟩ := h
      refine zr_callV C [a1] hS_X12_lacks ck_RX12_196 iv_X12_lacks vc_X12 oc_103 rfl rfl (zdec_at dm_X12_rule 19 rfl) ⟨rfl, rfl, rfl, rfl⟩ ⟨by decide, by decide⟩ (Nat.le_of_ble_eq_true rfl) (zall_0 zz_a1 zall_n) ?_
      refine ⟨_, rfl, g17, fun r12 M13 p16 z15 hR14 => ?_⟩
      have h := h r12 M13 p16 z15 hR14
      show zV Γ mu_X12_rule (145, 0, 0) 36 [(0, zRf (zad Γ) 103), (1, zI a1)] [zI r12] M13
      refine zr_istore_n (L1 := [(2, zI r12), (0, zRf (zad Γ) 103), (1, zI a1)]) C (zdec_at dm_X12_rule 20 rfl) rfl (Nat.le_of_ble_eq_true rfl) rfl ?_
      refine zr_iload_n C 0 rfl (zdec_at dm_X12_rule 21 rfl) rfl ?_
      refine zr_if_ge C z15 (zdec_at dm_X12_rule 22 rfl) rfl (fun g18 => ?_) (fun g18 => ?_)
      · have h := h.1 g18
        refine zr_aload_n C 1 rfl (zdec_at dm_X12_rule 25 rfl) rfl ?_
        refine zr_iload_n C 2 rfl (zdec_at dm_X12_rule 26 rfl) rfl ?_
        obtain ⟨g24, h⟩ := h
        refine zr_callV C [a1] hS_X12_faultOfRule ck_RX12_475 iv_X12_faultOfRule vc_X12 oc_103 rfl rfl (zdec_at dm_X12_rule 27 rfl) ⟨rfl, rfl, rfl, rfl⟩ ⟨by decide, by decide⟩ (Nat.le_of_ble_eq_true rfl) (zall_0 zz_a1 zall_n) ?_
        refine ⟨_, rfl, g24, fun r19 M20 p23 z22 hR21 => ?_⟩
        have h := h r19 M20 p23 z22 hR21
        show zV Γ mu_X12_rule (145, 0, 0) 48 [(2, zI r12), (0, zRf (zad Γ) 103), (1, zI a1)] [zI r19] M20
        refine zr_istore_n (L1 := [(3, zI r19), (2, zI r12), (0, zRf (zad Γ) 103), (1, zI a1)]) C (zdec_at dm_X12_rule 28 rfl) rfl (Nat.le_of_ble_eq_true rfl) rfl ?_
        refine zr_iload_n C 0 rfl (zdec_at dm_X12_rule 29 rfl) rfl ?_
        refine zr_if_lt C z22 (zdec_at dm_X12_rule 30 rfl) rfl (fun g25 => ?_) (fun g25 => ?_)
        · have h := h.1 g25
          refine zr_iconst C (zdec_at dm_X12_rule 35 rfl) ?_
          refine zr_istore (L1 := [(4, zI 0), (3, zI r19), (2, zI r12), (0, zRf (zad Γ) 103), (1, zI a1)]) C (zdec_at dm_X12_rule 36 rfl) (Nat.le_of_ble_eq_true rfl) rfl ?_
          obtain ⟨I61, ⟨n34, q35⟩, hI33⟩ := h
          have lp32 : ∀ (n30 : Nat) (v26 : Int) (M28 : zM), I61 v26 M28 n30 → zin v26 → zRng M28 → zV Γ mu_X12_rule (145, 0, 0) 61 [(0, zRf (zad Γ) 103), (1, zI a1), (4, zI v26)] [] M28 := by
            intro n30
            induction n30 using Nat.strongRecOn with
            | _ n30 ih31 =>
            intro v26 M28 q36 z27 hR29
            have h := hI33 v26 M28 n30 q36 z27 hR29
            refine zr_iload C 2 rfl (zdec_at dm_X12_rule 37 rfl) ?_
            refine zr_aload_n C 0 rfl (zdec_at dm_X12_rule 38 rfl) rfl ?_
            refine zr_getr (q := 141) C fk_RX12_130 fi_103_72 (zdec_at dm_X12_rule 39 rfl) ?_
            refine zr_iload_n C 1 rfl (zdec_at dm_X12_rule 40 rfl) rfl ?_
            obtain ⟨o37, h⟩ := h
            refine zr_iald C ai_141 o37 (zdec_at dm_X12_rule 41 rfl) ?_
            refine zr_icmp_ge C z27 (hR29 _ _) (zdec_at dm_X12_rule 42 rfl) rfl (fun g38 => ?_) (fun g38 => ?_)
            · have h := h.1 g38
              refine zr_aload_n C 0 rfl (zdec_at dm_X12_rule 65 rfl) rfl ?_
              refine zr_getr (q := 108) C fk_RX12_29 fi_103_11 (zdec_at dm_X12_rule 66 rfl) ?_
              refine zr_aload_n C 0 rfl (zdec_at dm_X12_rule 67 rfl) rfl ?_
              refine zr_geti C fk_RX12_478 fi_103_9 (zdec_at dm_X12_rule 68 rfl) ?_
              refine zr_aload_n C 0 rfl (zdec_at dm_X12_rule 69 rfl) rfl ?_
              refine zr_getr (q := 141) C fk_RX12_130 fi_103_72 (zdec_at dm_X12_rule 70 rfl) ?_
              refine zr_iload_n C 1 rfl (zdec_at dm_X12_rule 71 rfl) rfl ?_
              refine zr_iald C ai_141 o37 (zdec_at dm_X12_rule 72 rfl) ?_
              obtain ⟨o39, h⟩ := h
              refine zr_iast C ai_108 o39 (hR29 _ _) (zdec_at dm_X12_rule 73 rfl) (fun M40 e41 => ?_)
              have h := h M40 e41
              have hR42 : zRng M40 := by rw [e41]; exact hR29.set (hR29 _ _) _ _
              refine zr_aload_n C 0 rfl (zdec_at dm_X12_rule 74 rfl) rfl ?_
              refine zr_getr (q := 109) C fk_RX12_32 fi_103_12 (zdec_at dm_X12_rule 75 rfl) ?_
              refine zr_aload_n C 0 rfl (zdec_at dm_X12_rule 76 rfl) rfl ?_
              refine zr_geti C fk_RX12_478 fi_103_9 (zdec_at dm_X12_rule 77 rfl) ?_
              refine zr_iconst C (zdec_at dm_X12_rule 78 rfl) ?_
              obtain ⟨o43, h⟩ := h
              refine zr_zast C ai_109 o43 (by decide) (by decide) rfl (zdec_at dm_X12_rule 79 rfl) (fun M44 e45 => ?_)
              have h := h M44 e45
              have hR46 : zRng M44 := by rw [e45]; exact hR42.set (by decide) _ _
              refine zr_aload_n C 0 rfl (zdec_at dm_X12_rule 80 rfl) rfl ?_
              refine zr_dup C rfl (zdec_at dm_X12_rule 81 rfl) ?_
              refine zr_geti C fk_RX12_478 fi_103_9 (zdec_at dm_X12_rule 82 rfl) ?_
              refine zr_iconst C (zdec_at dm_X12_rule 83 rfl) ?_
              refine zr_iadd C (zdec_at dm_X12_rule 84 rfl) ?_
              obtain ⟨o47, h⟩ := h
              refine zr_puti C fk_RX12_478 fi_103_9 o47 (zdec_at dm_X12_rule 85 rfl) (fun M48 e49 => ?_)
              have h := h M48 e49
              have hR50 : zRng M48 := by rw [e49]; exact hR46.set o47 _ _
              refine zr_aload_n C 0 rfl (zdec_at dm_X12_rule 86 rfl) rfl ?_
              refine zr_geti C fk_RX12_478 fi_103_9 (zdec_at dm_X12_rule 87 rfl) ?_
              refine zr_iconst C (zdec_at dm_X12_rule 88 rfl) ?_
              refine zr_isub C (zdec_at dm_X12_rule 89 rfl) ?_
              obtain ⟨o51, h⟩ := h
              exact zr_ireturn C rfl (zdec_at dm_X12_rule 90 rfl) rfl ⟨o51, h⟩
            · have h := h.2 g38
              refine zr_aload_n C 0 rfl (zdec_at dm_X12_rule 43 rfl) rfl ?_
              refine zr_getr (q := 107) C fk_RX12_26 fi_103_10 (zdec_at dm_X12_rule 44 rfl) ?_
              refine zr_bipush C (zdec_at dm_X12_rule 45 rfl) (by decide) ?_
              refine zr_aload_n C 0 rfl (zdec_at dm_X12_rule 46 rfl) rfl ?_
              refine zr_geti C fk_RX12_478 fi_103_9 (zdec_at dm_X12_rule 47 rfl) ?_
              refine zr_imul C (zdec_at dm_X12_rule 48 rfl) ?_
              refine zr_iload C 2 rfl (zdec_at dm_X12_rule 49 rfl) ?_
              refine zr_iadd C (zdec_at dm_X12_rule 50 rfl) ?_
              refine zr_aload_n C 0 rfl (zdec_at dm_X12_rule 51 rfl) rfl ?_
              refine zr_getr (q := 142) C fk_RX12_133 fi_103_73 (zdec_at dm_X12_rule 52 rfl) ?_
              refine zr_bipush C (zdec_at dm_X12_rule 53 rfl) (by decide) ?_
              refine zr_iload_n C 1 rfl (zdec_at dm_X12_rule 54 rfl) rfl ?_
              refine zr_imul C (zdec_at dm_X12_rule 55 rfl) ?_
              refine zr_iload C 2 rfl (zdec_at dm_X12_rule 56 rfl) ?_
              refine zr_iadd C (zdec_at dm_X12_rule 57 rfl) ?_
              obtain ⟨o52, h⟩ := h
              refine zr_lald C ai_142 o52 (zdec_at dm_X12_rule 58 rfl) ?_
              refine zr_l2i C (zdec_at dm_X12_rule 59 rfl) ?_
              refine zr_sipush C (zdec_at dm_X12_rule 60 rfl) (by decide) ?_
              refine zr_iand C (zdec_at dm_X12_rule 61 rfl) ?_
              obtain ⟨o53, h⟩ := h
              refine zr_iast C ai_107 o53 (zland_z _ _) (zdec_at dm_X12_rule 62 rfl) (fun M54 e55 => ?_)
              have h := h M54 e55
              have hR56 : zRng M54 := by rw [e55]; exact hR29.set (zland_z _ _) _ _
              refine zr_iinc (L1 := [(4, zI (v26 + 1)), (0, zRf (zad Γ) 103), (1, zI a1)]) C 2 rfl (zdec_at dm_X12_rule 63 rfl) (Nat.le_of_ble_eq_true rfl) rfl ?_
              refine zr_goto C (zdec_at dm_X12_rule 64 rfl) rfl ?_
              obtain ⟨o57, h⟩ := h
              obtain ⟨n58, q59, q60⟩ := h
              exact zr_sub [1, 2, 0] rfl (ih31 n58 q59 _ _ q60 o57 hR56)
          exact zr_sub [3, 4, 0] rfl (lp32 n34 _ _ q35 (by decide) hR21)
        · have h := h.2 g25
          refine zr_bipush C (zdec_at dm_X12_rule 31 rfl) (by decide) ?_
          refine zr_iload_n C 0 rfl (zdec_at dm_X12_rule 32 rfl) rfl ?_
          refine zr_isub C (zdec_at dm_X12_rule 33 rfl) ?_
          obtain ⟨o61, h⟩ := h
          exact zr_ireturn C rfl (zdec_at dm_X12_rule 34 rfl) rfl ⟨o61, h⟩
      · have h := h.2 g18
        refine zr_iload_n C 0 rfl (zdec_at dm_X12_rule 23 rfl) rfl ?_
        exact zr_ireturn C rfl (zdec_at dm_X12_rule 24 rfl) rfl ⟨z15, h⟩
    · have h := h.2 g11
      refine zr_bipush C (zdec_at dm_X12_rule 15 rfl) (by decide) ?_
      exact zr_ireturn C rfl (zdec_at dm_X12_rule 16 rfl) rfl ⟨(by decide), h⟩
  · have h := h.2 g10
    refine zr_iconst C (zdec_at dm_X12_rule 9 rfl) ?_
    exact zr_ireturn C rfl (zdec_at dm_X12_rule 10 rfl) rfl ⟨(by decide), h⟩

set_option maxHeartbeats 400000 in
set_option maxRecDepth 100000 in
theorem sn_X12_tell {pr_X12_in : Int → Int → Int → zM → Prop} {po_X12_in : Int → Int → Int → zM → Int → zM → Prop} (hS_X12_in : zSnd zS 145 0 0 yX12_in cX12_in 6 (some .boolean) 0 [1, 1, 1] (F_X12_in pr_X12_in po_X12_in)) : zSnd zS 145 0 0 yX12_tell cX12_tell 4 (some .int) 1 [2, 0, 0] (fun xs P M => ∃ a1 a2 : Int, xs = [103, a1, a2] ∧ vc_X12_tell pr_X12_in po_X12_in a1 a2 P M) := by
  refine zSnd.of rfl (fun ad xs hz => Nat.le_trans (Nat.le_of_eq (zlen ad _ xs hz)) (by decide)) ?_
  intro Γ C _ _ xs M hz hF
  obtain ⟨a1, a2, rfl, h⟩ := hF
  have zz_a1 := zall_h (zall_t hz) (by decide)
  have zz_a2 := zall_h (zall_t (zall_t hz)) (by decide)
  refine zr_rng (fun hR => ?_)
  have C : zC Γ mu_X12_tell := C
  change zV Γ mu_X12_tell (145, 0, 0) 0 [(0, zRf (zad Γ) 103), (1, zI a1), (2, zI a2)] [] M
  change vc_X12_tell pr_X12_in po_X12_in a1 a2 _ M at h
  unfold vc_X12_tell at h
  refine zr_aload_n C 0 rfl (zdec_at dm_X12_tell 0 rfl) rfl ?_
  refine zr_iconst C (zdec_at dm_X12_tell 1 rfl) ?_
  refine zr_puti C fk_RX12_140 fi_103_0 (by decide) (zdec_at dm_X12_tell 2 rfl) (fun M1 e2 => ?_)
  have h := h M1 e2
  have hR3 : zRng M1 := by rw [e2]; exact hR.set (by decide) _ _
  refine zr_iload_n C 1 rfl (zdec_at dm_X12_tell 3 rfl) rfl ?_
  refine zr_i2l C zz_a1 (zdec_at dm_X12_tell 4 rfl) ?_
  refine zr_lconst (v := 0) C (zdec_at dm_X12_tell 5 rfl) rfl ?_
  refine zr_aload_n C 0 rfl (zdec_at dm_X12_tell 6 rfl) rfl ?_
  refine zr_geti C fk_RX12_478 fi_103_9 (zdec_at dm_X12_tell 7 rfl) ?_
  refine zr_iconst C (zdec_at dm_X12_tell 8 rfl) ?_
  refine zr_isub C (zdec_at dm_X12_tell 9 rfl) ?_
  obtain ⟨o4, h⟩ := h
  refine zr_i2l C o4 (zdec_at dm_X12_tell 10 rfl) ?_
  obtain ⟨g10, h⟩ := h
  refine zr_callS C [a1, 0, ((M1 103 9) - 1)] hS_X12_in ck_RX12_156 sv_X12_in rfl rfl (zdec_at dm_X12_tell 11 rfl) ⟨rfl, rfl, rfl, rfl⟩ ⟨by decide, by decide⟩ (Nat.le_of_ble_eq_true rfl) (zall_1 zz_a1 (zall_1 (by decide) (zall_1 o4 zall_n))) ?_
  refine ⟨_, _, _, rfl, g10, fun r5 M6 p9 z8 hR7 => ?_⟩
  have h := h r5 M6 p9 z8 hR7
  show zV Γ mu_X12_tell (145, 0, 0) 18 [(0, zRf (zad Γ) 103), (1, zI a1), (2, zI a2)] [zI r5] M6
  refine zr_if_ne C z8 (zdec_at dm_X12_tell 12 rfl) rfl (fun g11 => ?_) (fun g11 => ?_)
  · have h := h.1 g11
    refine zr_aload_n C 0 rfl (zdec_at dm_X12_tell 15 rfl) rfl ?_
    refine zr_getr (q := 109) C fk_RX12_32 fi_103_12 (zdec_at dm_X12_tell 16 rfl) ?_
    refine zr_iload_n C 1 rfl (zdec_at dm_X12_tell 17 rfl) rfl ?_
    obtain ⟨o12, h⟩ := h
    refine zr_zald C ai_109 o12 (zdec_at dm_X12_tell 18 rfl) ?_
    refine zr_istore_n (L1 := [(3, zI (M6 109 a1)), (0, zRf (zad Γ) 103), (1, zI a1), (2, zI a2)]) C (zdec_at dm_X12_tell 19 rfl) rfl (Nat.le_of_ble_eq_true rfl) rfl ?_
    refine zr_aload_n C 1 rfl (zdec_at dm_X12_tell 20 rfl) rfl ?_
    refine zr_getr (q := 109) C fk_RX12_32 fi_103_12 (zdec_at dm_X12_tell 21 rfl) ?_
    refine zr_iload_n C 2 rfl (zdec_at dm_X12_tell 22 rfl) rfl ?_
    refine zr_iload_n C 3 rfl (zdec_at dm_X12_tell 23 rfl) rfl ?_
    obtain ⟨o13, h⟩ := h
    refine zr_zast C ai_109 o12 zz_a2 o13 rfl (zdec_at dm_X12_tell 24 rfl) (fun M14 e15 => ?_)
    have h := h M14 e15
    have hR16 : zRng M14 := by rw [e15]; exact hR7.set zz_a2 _ _
    refine zr_iload_n C 0 rfl (zdec_at dm_X12_tell 25 rfl) rfl ?_
    refine zr_iload_n C 3 rfl (zdec_at dm_X12_tell 26 rfl) rfl ?_
    refine zr_icmp_ne C (hR7 _ _) zz_a2 (zdec_at dm_X12_tell 27 rfl) rfl (fun g17 => ?_) (fun g17 => ?_)
    · have h := h.1 g17
      refine zr_iconst C (zdec_at dm_X12_tell 30 rfl) ?_
      exact zr_ireturn C rfl (zdec_at dm_X12_tell 31 rfl) rfl ⟨(by decide), h⟩
    · have h := h.2 g17
      refine zr_iconst C (zdec_at dm_X12_tell 28 rfl) ?_
      refine zr_goto C (zdec_at dm_X12_tell 29 rfl) rfl ?_
      exact zr_ireturn C rfl (zdec_at dm_X12_tell 31 rfl) rfl ⟨(by decide), h⟩
  · have h := h.2 g11
    refine zr_iconst C (zdec_at dm_X12_tell 13 rfl) ?_
    exact zr_ireturn C rfl (zdec_at dm_X12_tell 14 rfl) rfl ⟨(by decide), h⟩

set_option maxHeartbeats 400000 in
set_option maxRecDepth 100000 in
theorem sn_X12_sign {pr_X12_isFace : Int → zM → Prop} {po_X12_isFace : Int → zM → Int → zM → Prop} {pr_X12_readRule : zM → Prop} {po_X12_readRule : zM → Int → zM → Prop} (hS_X12_isFace : zSnd zS 145 0 0 yX12_isFace cX12_isFace 2 (some .boolean) 3 [2, 0] (F_X12_isFace pr_X12_isFace po_X12_isFace)) (hS_X12_readRule : zSnd zS 145 0 0 yX12_readRule cX12_readRule 3 (some .boolean) 9 [2] (F_X12_readRule pr_X12_readRule po_X12_readRule)) : zSnd zS 145 0 0 yX12_sign cX12_sign 3 (some .int) 10 [2, 0] (fun xs P M => ∃ a1 : Int, xs = [103, a1] ∧ vc_X12_sign pr_X12_isFace po_X12_isFace pr_X12_readRule po_X12_readRule a1 P M) := by
  refine zSnd.of rfl (fun ad xs hz => Nat.le_trans (Nat.le_of_eq (zlen ad _ xs hz)) (by decide)) ?_
  intro Γ C _ _ xs M hz hF
  obtain ⟨a1, rfl, h⟩ := hF
  have zz_a1 := zall_h (zall_t hz) (by decide)
  refine zr_rng (fun hR => ?_)
  have C : zC Γ mu_X12_sign := C
  change zV Γ mu_X12_sign (145, 0, 0) 0 [(0, zRf (zad Γ) 103), (1, zI a1)] [] M
  change vc_X12_sign pr_X12_isFace po_X12_isFace pr_X12_readRule po_X12_readRule a1 _ M at h
  unfold vc_X12_sign at h
  refine zr_aload_n C 0 rfl (zdec_at dm_X12_sign 0 rfl) rfl ?_
  refine zr_iconst C (zdec_at dm_X12_sign 1 rfl) ?_
  refine zr_puti C fk_RX12_140 fi_103_0 (by decide) (zdec_at dm_X12_sign 2 rfl) (fun M1 e2 => ?_)
  have h := h M1 e2
  have hR3 : zRng M1 := by rw [e2]; exact hR.set (by decide) _ _
  refine zr_aload_n C 0 rfl (zdec_at dm_X12_sign 3 rfl) rfl ?_
  refine zr_iload_n C 1 rfl (zdec_at dm_X12_sign 4 rfl) rfl ?_
  obtain ⟨g9, h⟩ := h
  refine zr_callV C [a1] hS_X12_isFace ck_RX12_300 iv_X12_isFace vc_X12 oc_103 rfl rfl (zdec_at dm_X12_sign 5 rfl) ⟨rfl, rfl, rfl, rfl⟩ ⟨by decide, by decide⟩ (Nat.le_of_ble_eq_true rfl) (zall_0 zz_a1 zall_n) ?_
  refine ⟨_, rfl, g9, fun r4 M5 p8 z7 hR6 => ?_⟩
  have h := h r4 M5 p8 z7 hR6
  show zV Γ mu_X12_sign (145, 0, 0) 10 [(0, zRf (zad Γ) 103), (1, zI a1)] [zI r4] M5
  refine zr_if_ne C z7 (zdec_at dm_X12_sign 6 rfl) rfl (fun g10 => ?_) (fun g10 => ?_)
  · have h := h.1 g10
    refine zr_aload_n C 0 rfl (zdec_at dm_X12_sign 9 rfl) rfl ?_
    refine zr_iload_n C 1 rfl (zdec_at dm_X12_sign 10 rfl) rfl ?_
    refine zr_puti C fk_RX12_428 fi_103_59 zz_a1 (zdec_at dm_X12_sign 11 rfl) (fun M11 e12 => ?_)
    have h := h M11 e12
    have hR13 : zRng M11 := by rw [e12]; exact hR6.set zz_a1 _ _
    refine zr_iconst C (zdec_at dm_X12_sign 12 rfl) ?_
    refine zr_istore_n (L1 := [(2, zI 0), (0, zRf (zad Γ) 103), (1, zI a1)]) C (zdec_at dm_X12_sign 13 rfl) rfl (Nat.le_of_ble_eq_true rfl) rfl ?_
    obtain ⟨I22, ⟨n22, q23⟩, hI21⟩ := h
    have lp20 : ∀ (n18 : Nat) (v14 : Int) (M16 : zM), I22 v14 M16 n18 → zin v14 → zRng M16 → zV Γ mu_X12_sign (145, 0, 0) 22 [(0, zRf (zad Γ) 103), (2, zI v14)] [] M16 := by
      intro n18
      induction n18 using Nat.strongRecOn with
      | _ n18 ih19 =>
      intro v14 M16 q24 z15 hR17
      have h := hI21 v14 M16 n18 q24 z15 hR17
      refine zr_iload_n C 1 rfl (zdec_at dm_X12_sign 14 rfl) rfl ?_
      refine zr_aload_n C 0 rfl (zdec_at dm_X12_sign 15 rfl) rfl ?_
      refine zr_geti C fk_RX12_478 fi_103_9 (zdec_at dm_X12_sign 16 rfl) ?_
      refine zr_icmp_ge C z15 (hR17 _ _) (zdec_at dm_X12_sign 17 rfl) rfl (fun g25 => ?_) (fun g25 => ?_)
      · have h := h.1 g25
        refine zr_bipush C (zdec_at dm_X12_sign 49 rfl) (by decide) ?_
        exact zr_ireturn C rfl (zdec_at dm_X12_sign 50 rfl) rfl ⟨(by decide), h⟩
      · have h := h.2 g25
        refine zr_aload_n C 0 rfl (zdec_at dm_X12_sign 18 rfl) rfl ?_
        refine zr_iconst C (zdec_at dm_X12_sign 19 rfl) ?_
        refine zr_putz C fk_RX12_425 fi_103_58 (by decide) (by decide) (zdec_at dm_X12_sign 20 rfl) (fun M26 e27 => ?_)
        have h := h M26 e27
        have hR28 : zRng M26 := by rw [e27]; exact hR17.set (by decide) _ _
        refine zr_aload_n C 0 rfl (zdec_at dm_X12_sign 21 rfl) rfl ?_
        refine zr_bipush C (zdec_at dm_X12_sign 22 rfl) (by decide) ?_
        refine zr_iload_n C 1 rfl (zdec_at dm_X12_sign 23 rfl) rfl ?_
        refine zr_imul C (zdec_at dm_X12_sign 24 rfl) ?_
        obtain ⟨o29, h⟩ := h
        refine zr_puti C fk_RX12_149 fi_103_21 o29 (zdec_at dm_X12_sign 25 rfl) (fun M30 e31 => ?_)
        have h := h M30 e31
        have hR32 : zRng M30 := by rw [e31]; exact hR28.set o29 _ _
        refine zr_aload_n C 0 rfl (zdec_at dm_X12_sign 26 rfl) rfl ?_
        refine zr_aload_n C 0 rfl (zdec_at dm_X12_sign 27 rfl) rfl ?_
        refine zr_getr (q := 108) C fk_RX12_29 fi_103_11 (zdec_at dm_X12_sign 28 rfl) ?_
        refine zr_iload_n C 1 rfl (zdec_at dm_X12_sign 29 rfl) rfl ?_
        obtain ⟨o33, h⟩ := h
        refine zr_iald C ai_108 o33 (zdec_at dm_X12_sign 30 rfl) ?_
        refine zr_puti C fk_RX12_146 fi_103_22 (hR32 _ _) (zdec_at dm_X12_sign 31 rfl) (fun M34 e35 => ?_)
        have h := h M34 e35
        have hR36 : zRng M34 := by rw [e35]; exact hR32.set (hR32 _ _) _ _
        refine zr_aload_n C 0 rfl (zdec_at dm_X12_sign 32 rfl) rfl ?_
        refine zr_getr (q := 109) C fk_RX12_32 fi_103_12 (zdec_at dm_X12_sign 33 rfl) ?_
        refine zr_iload_n C 1 rfl (zdec_at dm_X12_sign 34 rfl) rfl ?_
        refine zr_zald C ai_109 o33 (zdec_at dm_X12_sign 35 rfl) ?_
        refine zr_if_eq C (hR36 _ _) (zdec_at dm_X12_sign 36 rfl) rfl (fun g37 => ?_) (fun g37 => ?_)
        · have h := h.1 g37
          refine zr_iinc (L1 := [(2, zI (v14 + 1)), (0, zRf (zad Γ) 103)]) C 1 rfl (zdec_at dm_X12_sign 47 rfl) (Nat.le_of_ble_eq_true rfl) rfl ?_
          refine zr_goto C (zdec_at dm_X12_sign 48 rfl) rfl ?_
          obtain ⟨o38, h⟩ := h
          obtain ⟨n39, q40, q41⟩ := h
          exact zr_sub [1, 0] rfl (ih19 n39 q40 _ _ q41 o38 hR36)
        · have h := h.2 g37
          refine zr_aload_n C 0 rfl (zdec_at dm_X12_sign 37 rfl) rfl ?_
          obtain ⟨g47, h⟩ := h
          refine zr_callV C [] hS_X12_readRule ck_RX12_472 iv_X12_readRule vc_X12 oc_103 rfl rfl (zdec_at dm_X12_sign 38 rfl) ⟨rfl, rfl, rfl, rfl⟩ ⟨by decide, by decide⟩ (Nat.le_of_ble_eq_true rfl) zall_n ?_
          refine ⟨rfl, g47, fun r42 M43 p46 z45 hR44 => ?_⟩
          have h := h r42 M43 p46 z45 hR44
          show zV Γ mu_X12_sign (145, 0, 0) 66 [(0, zRf (zad Γ) 103), (2, zI v14)] [zI r42] M43
          refine zr_if_eq C z45 (zdec_at dm_X12_sign 39 rfl) rfl (fun g48 => ?_) (fun g48 => ?_)
          · have h := h.1 g48
            refine zr_iinc (L1 := [(2, zI (v14 + 1)), (0, zRf (zad Γ) 103)]) C 1 rfl (zdec_at dm_X12_sign 47 rfl) (Nat.le_of_ble_eq_true rfl) rfl ?_
            refine zr_goto C (zdec_at dm_X12_sign 48 rfl) rfl ?_
            obtain ⟨o49, h⟩ := h
            obtain ⟨n50, q51, q52⟩ := h
            exact zr_sub [1, 0] rfl (ih19 n50 q51 _ _ q52 o49 hR44)
          · have h := h.2 g48
            refine zr_aload_n C 0 rfl (zdec_at dm_X12_sign 40 rfl) rfl ?_
            refine zr_getr (q := 107) C fk_RX12_26 fi_103_10 (zdec_at dm_X12_sign 41 rfl) ?_
            refine zr_bipush C (zdec_at dm_X12_sign 42 rfl) (by decide) ?_
            refine zr_iload_n C 1 rfl (zdec_at dm_X12_sign 43 rfl) rfl ?_
            refine zr_imul C (zdec_at dm_X12_sign 44 rfl) ?_
            obtain ⟨o53, h⟩ := h
            refine zr_iald C ai_107 o53 (zdec_at dm_X12_sign 45 rfl) ?_
            exact zr_ireturn C rfl (zdec_at dm_X12_sign 46 rfl) rfl ⟨(hR44 _ _), h⟩
    exact zr_sub [1, 0] rfl (lp20 n22 _ _ q23 (by decide) hR13)
  · have h := h.2 g10
    refine zr_iconst C (zdec_at dm_X12_sign 7 rfl) ?_
    exact zr_ireturn C rfl (zdec_at dm_X12_sign 8 rfl) rfl ⟨(by decide), h⟩

set_option maxHeartbeats 400000 in
set_option maxRecDepth 100000 in
theorem sn_X12_image : zSnd zS 145 0 0 yX12_image cX12_image 2 (some .int) 0 [2] (fun xs P M => xs = [103] ∧ vc_X12_image P M) := by
  refine zSnd.of rfl (fun ad xs hz => Nat.le_trans (Nat.le_of_eq (zlen ad _ xs hz)) (by decide)) ?_
  intro Γ C _ _ xs M hz hF
  obtain ⟨rfl, h⟩ := hF
  refine zr_rng (fun hR => ?_)
  have C : zC Γ mu_X12_image := C
  change zV Γ mu_X12_image (145, 0, 0) 0 [(0, zRf (zad Γ) 103)] [] M
  change vc_X12_image _ M at h
  unfold vc_X12_image at h
  refine zr_aload_n C 0 rfl (zdec_at dm_X12_image 0 rfl) rfl ?_
  refine zr_iconst C (zdec_at dm_X12_image 1 rfl) ?_
  refine zr_puti C fk_RX12_140 fi_103_0 (by decide) (zdec_at dm_X12_image 2 rfl) (fun M1 e2 => ?_)
  have h := h M1 e2
  have hR3 : zRng M1 := by rw [e2]; exact hR.set (by decide) _ _
  refine zr_aload_n C 0 rfl (zdec_at dm_X12_image 3 rfl) rfl ?_
  refine zr_iconst C (zdec_at dm_X12_image 4 rfl) ?_
  refine zr_putz C fk_RX12_481 fi_103_13 (by decide) (by decide) (zdec_at dm_X12_image 5 rfl) (fun M4 e5 => ?_)
  have h := h M4 e5
  have hR6 : zRng M4 := by rw [e5]; exact hR3.set (by decide) _ _
  refine zr_aload_n C 0 rfl (zdec_at dm_X12_image 6 rfl) rfl ?_
  refine zr_aload_n C 0 rfl (zdec_at dm_X12_image 7 rfl) rfl ?_
  refine zr_geti C fk_RX12_7 fi_103_1 (zdec_at dm_X12_image 8 rfl) ?_
  refine zr_puti C fk_RX12_484 fi_103_14 (hR6 _ _) (zdec_at dm_X12_image 9 rfl) (fun M7 e8 => ?_)
  have h := h M7 e8
  have hR9 : zRng M7 := by rw [e8]; exact hR6.set (hR6 _ _) _ _
  refine zr_aload_n C 0 rfl (zdec_at dm_X12_image 10 rfl) rfl ?_
  refine zr_aload_n C 0 rfl (zdec_at dm_X12_image 11 rfl) rfl ?_
  refine zr_geti C fk_RX12_13 fi_103_2 (zdec_at dm_X12_image 12 rfl) ?_
  refine zr_puti C fk_RX12_487 fi_103_15 (hR9 _ _) (zdec_at dm_X12_image 13 rfl) (fun M10 e11 => ?_)
  have h := h M10 e11
  have hR12 : zRng M10 := by rw [e11]; exact hR9.set (hR9 _ _) _ _
  refine zr_aload_n C 0 rfl (zdec_at dm_X12_image 14 rfl) rfl ?_
  refine zr_aload_n C 0 rfl (zdec_at dm_X12_image 15 rfl) rfl ?_
  refine zr_geti C fk_RX12_224 fi_103_5 (zdec_at dm_X12_image 16 rfl) ?_
  refine zr_puti C fk_RX12_490 fi_103_18 (hR12 _ _) (zdec_at dm_X12_image 17 rfl) (fun M13 e14 => ?_)
  have h := h M13 e14
  have hR15 : zRng M13 := by rw [e14]; exact hR12.set (hR12 _ _) _ _
  refine zr_aload_n C 0 rfl (zdec_at dm_X12_image 18 rfl) rfl ?_
  refine zr_aload_n C 0 rfl (zdec_at dm_X12_image 19 rfl) rfl ?_
  refine zr_geti C fk_RX12_478 fi_103_9 (zdec_at dm_X12_image 20 rfl) ?_
  refine zr_puti C fk_RX12_493 fi_103_19 (hR15 _ _) (zdec_at dm_X12_image 21 rfl) (fun M16 e17 => ?_)
  have h := h M16 e17
  have hR18 : zRng M16 := by rw [e17]; exact hR15.set (hR15 _ _) _ _
  refine zr_iconst C (zdec_at dm_X12_image 22 rfl) ?_
  refine zr_istore_n (L1 := [(1, zI 0), (0, zRf (zad Γ) 103)]) C (zdec_at dm_X12_image 23 rfl) rfl (Nat.le_of_ble_eq_true rfl) rfl ?_
  obtain ⟨I44, ⟨n27, q28⟩, hI26⟩ := h
  have lp25 : ∀ (n23 : Nat) (v19 : Int) (M21 : zM), I44 v19 M21 n23 → zin v19 → zRng M21 → zV Γ mu_X12_image (145, 0, 0) 44 [(0, zRf (zad Γ) 103), (1, zI v19)] [] M21 := by
    intro n23
    induction n23 using Nat.strongRecOn with
    | _ n23 ih24 =>
    intro v19 M21 q29 z20 hR22
    have h := hI26 v19 M21 n23 q29 z20 hR22
    refine zr_iload_n C 1 rfl (zdec_at dm_X12_image 24 rfl) rfl ?_
    refine zr_sipush C (zdec_at dm_X12_image 25 rfl) (by decide) ?_
    refine zr_icmp_ge C z20 (by decide) (zdec_at dm_X12_image 26 rfl) rfl (fun g30 => ?_) (fun g30 => ?_)
    · have h := h.1 g30
      refine zr_iconst C (zdec_at dm_X12_image 37 rfl) ?_
      refine zr_istore_n (L1 := [(1, zI 0), (0, zRf (zad Γ) 103)]) C (zdec_at dm_X12_image 38 rfl) rfl (Nat.le_of_ble_eq_true rfl) rfl ?_
      obtain ⟨I71, ⟨n39, q40⟩, hI38⟩ := h
      have lp37 : ∀ (n35 : Nat) (v31 : Int) (M33 : zM), I71 v31 M33 n35 → zin v31 → zRng M33 → zV Γ mu_X12_image (145, 0, 0) 71 [(0, zRf (zad Γ) 103), (1, zI v31)] [] M33 := by
        intro n35
        induction n35 using Nat.strongRecOn with
        | _ n35 ih36 =>
        intro v31 M33 q41 z32 hR34
        have h := hI38 v31 M33 n35 q41 z32 hR34
        refine zr_iload_n C 1 rfl (zdec_at dm_X12_image 39 rfl) rfl ?_
        refine zr_bipush C (zdec_at dm_X12_image 40 rfl) (by decide) ?_
        refine zr_icmp_ge C z32 (by decide) (zdec_at dm_X12_image 41 rfl) rfl (fun g42 => ?_) (fun g42 => ?_)
        · have h := h.1 g42
          refine zr_iconst C (zdec_at dm_X12_image 52 rfl) ?_
          refine zr_istore_n (L1 := [(1, zI 0), (0, zRf (zad Γ) 103)]) C (zdec_at dm_X12_image 53 rfl) rfl (Nat.le_of_ble_eq_true rfl) rfl ?_
          obtain ⟨I97, ⟨n51, q52⟩, hI50⟩ := h
          have lp49 : ∀ (n47 : Nat) (v43 : Int) (M45 : zM), I97 v43 M45 n47 → zin v43 → zRng M45 → zV Γ mu_X12_image (145, 0, 0) 97 [(0, zRf (zad Γ) 103), (1, zI v43)] [] M45 := by
            intro n47
            induction n47 using Nat.strongRecOn with
            | _ n47 ih48 =>
            intro v43 M45 q53 z44 hR46
            have h := hI50 v43 M45 n47 q53 z44 hR46
            refine zr_iload_n C 1 rfl (zdec_at dm_X12_image 54 rfl) rfl ?_
            refine zr_bipush C (zdec_at dm_X12_image 55 rfl) (by decide) ?_
            refine zr_icmp_ge C z44 (by decide) (zdec_at dm_X12_image 56 rfl) rfl (fun g54 => ?_) (fun g54 => ?_)
            · have h := h.1 g54
              refine zr_aload_n C 0 rfl (zdec_at dm_X12_image 67 rfl) rfl ?_
              refine zr_geti C fk_RX12_7 fi_103_1 (zdec_at dm_X12_image 68 rfl) ?_
              refine zr_aload_n C 0 rfl (zdec_at dm_X12_image 69 rfl) rfl ?_
              refine zr_geti C fk_RX12_13 fi_103_2 (zdec_at dm_X12_image 70 rfl) ?_
              refine zr_imul C (zdec_at dm_X12_image 71 rfl) ?_
              obtain ⟨o55, h⟩ := h
              exact zr_ireturn C rfl (zdec_at dm_X12_image 72 rfl) rfl ⟨o55, h⟩
            · have h := h.2 g54
              refine zr_aload_n C 0 rfl (zdec_at dm_X12_image 57 rfl) rfl ?_
              refine zr_getr (q := 112) C fk_RX12_42 fi_103_20 (zdec_at dm_X12_image 58 rfl) ?_
              refine zr_iload_n C 1 rfl (zdec_at dm_X12_image 59 rfl) rfl ?_
              refine zr_aload_n C 0 rfl (zdec_at dm_X12_image 60 rfl) rfl ?_
              refine zr_getr (q := 109) C fk_RX12_32 fi_103_12 (zdec_at dm_X12_image 61 rfl) ?_
              refine zr_iload_n C 1 rfl (zdec_at dm_X12_image 62 rfl) rfl ?_
              obtain ⟨o56, h⟩ := h
              refine zr_zald C ai_109 o56 (zdec_at dm_X12_image 63 rfl) ?_
              obtain ⟨o57, h⟩ := h
              refine zr_zast C ai_112 o56 (hR46 _ _) o57 rfl (zdec_at dm_X12_image 64 rfl) (fun M58 e59 => ?_)
              have h := h M58 e59
              have hR60 : zRng M58 := by rw [e59]; exact hR46.set (hR46 _ _) _ _
              refine zr_iinc (L1 := [(1, zI (v43 + 1)), (0, zRf (zad Γ) 103)]) C 1 rfl (zdec_at dm_X12_image 65 rfl) (Nat.le_of_ble_eq_true rfl) rfl ?_
              refine zr_goto C (zdec_at dm_X12_image 66 rfl) rfl ?_
              obtain ⟨o61, h⟩ := h
              obtain ⟨n62, q63, q64⟩ := h
              exact zr_sub [1, 0] rfl (ih48 n62 q63 _ _ q64 o61 hR60)
          exact zr_sub [1, 0] rfl (lp49 n51 _ _ q52 (by decide) hR34)
        · have h := h.2 g42
          refine zr_aload_n C 0 rfl (zdec_at dm_X12_image 42 rfl) rfl ?_
          refine zr_getr (q := 111) C fk_RX12_39 fi_103_17 (zdec_at dm_X12_image 43 rfl) ?_
          refine zr_iload_n C 1 rfl (zdec_at dm_X12_image 44 rfl) rfl ?_
          refine zr_aload_n C 0 rfl (zdec_at dm_X12_image 45 rfl) rfl ?_
          refine zr_getr (q := 105) C fk_RX12_20 fi_103_4 (zdec_at dm_X12_image 46 rfl) ?_
          refine zr_iload_n C 1 rfl (zdec_at dm_X12_image 47 rfl) rfl ?_
          obtain ⟨o65, h⟩ := h
          refine zr_iald C ai_105 o65 (zdec_at dm_X12_image 48 rfl) ?_
          refine zr_iast C ai_111 o65 (hR34 _ _) (zdec_at dm_X12_image 49 rfl) (fun M66 e67 => ?_)
          have h := h M66 e67
          have hR68 : zRng M66 := by rw [e67]; exact hR34.set (hR34 _ _) _ _
          refine zr_iinc (L1 := [(1, zI (v31 + 1)), (0, zRf (zad Γ) 103)]) C 1 rfl (zdec_at dm_X12_image 50 rfl) (Nat.le_of_ble_eq_true rfl) rfl ?_
          refine zr_goto C (zdec_at dm_X12_image 51 rfl) rfl ?_
          obtain ⟨o69, h⟩ := h
          obtain ⟨n70, q71, q72⟩ := h
          exact zr_sub [1, 0] rfl (ih36 n70 q71 _ _ q72 o69 hR68)
      exact zr_sub [1, 0] rfl (lp37 n39 _ _ q40 (by decide) hR22)
    · have h := h.2 g30
      refine zr_aload_n C 0 rfl (zdec_at dm_X12_image 27 rfl) rfl ?_
      refine zr_getr (q := 110) C fk_RX12_36 fi_103_16 (zdec_at dm_X12_image 28 rfl) ?_
      refine zr_iload_n C 1 rfl (zdec_at dm_X12_image 29 rfl) rfl ?_
      refine zr_aload_n C 0 rfl (zdec_at dm_X12_image 30 rfl) rfl ?_
      refine zr_getr (q := 104) C fk_RX12_16 fi_103_3 (zdec_at dm_X12_image 31 rfl) ?_
      refine zr_iload_n C 1 rfl (zdec_at dm_X12_image 32 rfl) rfl ?_
      obtain ⟨o73, h⟩ := h
      refine zr_iald C ai_104 o73 (zdec_at dm_X12_image 33 rfl) ?_
      refine zr_iast C ai_110 o73 (hR22 _ _) (zdec_at dm_X12_image 34 rfl) (fun M74 e75 => ?_)
      have h := h M74 e75
      have hR76 : zRng M74 := by rw [e75]; exact hR22.set (hR22 _ _) _ _
      refine zr_iinc (L1 := [(1, zI (v19 + 1)), (0, zRf (zad Γ) 103)]) C 1 rfl (zdec_at dm_X12_image 35 rfl) (Nat.le_of_ble_eq_true rfl) rfl ?_
      refine zr_goto C (zdec_at dm_X12_image 36 rfl) rfl ?_
      obtain ⟨o77, h⟩ := h
      obtain ⟨n78, q79, q80⟩ := h
      exact zr_sub [1, 0] rfl (ih24 n78 q79 _ _ q80 o77 hR76)
  exact zr_sub [1, 0] rfl (lp25 n27 _ _ q28 (by decide) hR18)

set_option maxHeartbeats 400000 in
set_option maxRecDepth 100000 in
theorem sn_X12_restore : zSnd zS 145 0 0 yX12_restore cX12_restore 2 (some .int) 0 [2] (fun xs P M => xs = [103] ∧ vc_X12_restore P M) := by
  refine zSnd.of rfl (fun ad xs hz => Nat.le_trans (Nat.le_of_eq (zlen ad _ xs hz)) (by decide)) ?_
  intro Γ C _ _ xs M hz hF
  obtain ⟨rfl, h⟩ := hF
  refine zr_rng (fun hR => ?_)
  have C : zC Γ mu_X12_restore := C
  change zV Γ mu_X12_restore (145, 0, 0) 0 [(0, zRf (zad Γ) 103)] [] M
  change vc_X12_restore _ M at h
  unfold vc_X12_restore at h
  refine zr_aload_n C 0 rfl (zdec_at dm_X12_restore 0 rfl) rfl ?_
  refine zr_iconst C (zdec_at dm_X12_restore 1 rfl) ?_
  refine zr_puti C fk_RX12_140 fi_103_0 (by decide) (zdec_at dm_X12_restore 2 rfl) (fun M1 e2 => ?_)
  have h := h M1 e2
  have hR3 : zRng M1 := by rw [e2]; exact hR.set (by decide) _ _
  refine zr_aload_n C 0 rfl (zdec_at dm_X12_restore 3 rfl) rfl ?_
  refine zr_geti C fk_RX12_481 fi_103_13 (zdec_at dm_X12_restore 4 rfl) ?_
  refine zr_if_ne C (hR3 _ _) (zdec_at dm_X12_restore 5 rfl) rfl (fun g4 => ?_) (fun g4 => ?_)
  · have h := h.1 g4
    refine zr_aload_n C 0 rfl (zdec_at dm_X12_restore 8 rfl) rfl ?_
    refine zr_aload_n C 0 rfl (zdec_at dm_X12_restore 9 rfl) rfl ?_
    refine zr_geti C fk_RX12_484 fi_103_14 (zdec_at dm_X12_restore 10 rfl) ?_
    refine zr_puti C fk_RX12_7 fi_103_1 (hR3 _ _) (zdec_at dm_X12_restore 11 rfl) (fun M5 e6 => ?_)
    have h := h M5 e6
    have hR7 : zRng M5 := by rw [e6]; exact hR3.set (hR3 _ _) _ _
    refine zr_aload_n C 0 rfl (zdec_at dm_X12_restore 12 rfl) rfl ?_
    refine zr_aload_n C 0 rfl (zdec_at dm_X12_restore 13 rfl) rfl ?_
    refine zr_geti C fk_RX12_487 fi_103_15 (zdec_at dm_X12_restore 14 rfl) ?_
    refine zr_puti C fk_RX12_13 fi_103_2 (hR7 _ _) (zdec_at dm_X12_restore 15 rfl) (fun M8 e9 => ?_)
    have h := h M8 e9
    have hR10 : zRng M8 := by rw [e9]; exact hR7.set (hR7 _ _) _ _
    refine zr_aload_n C 0 rfl (zdec_at dm_X12_restore 16 rfl) rfl ?_
    refine zr_aload_n C 0 rfl (zdec_at dm_X12_restore 17 rfl) rfl ?_
    refine zr_geti C fk_RX12_490 fi_103_18 (zdec_at dm_X12_restore 18 rfl) ?_
    refine zr_puti C fk_RX12_224 fi_103_5 (hR10 _ _) (zdec_at dm_X12_restore 19 rfl) (fun M11 e12 => ?_)
    have h := h M11 e12
    have hR13 : zRng M11 := by rw [e12]; exact hR10.set (hR10 _ _) _ _
    refine zr_aload_n C 0 rfl (zdec_at dm_X12_restore 20 rfl) rfl ?_
    refine zr_aload_n C 0 rfl (zdec_at dm_X12_restore 21 rfl) rfl ?_
    refine zr_geti C fk_RX12_493 fi_103_19 (zdec_at dm_X12_restore 22 rfl) ?_
    refine zr_puti C fk_RX12_478 fi_103_9 (hR13 _ _) (zdec_at dm_X12_restore 23 rfl) (fun M14 e15 => ?_)
    have h := h M14 e15
    have hR16 : zRng M14 := by rw [e15]; exact hR13.set (hR13 _ _) _ _
    refine zr_iconst C (zdec_at dm_X12_restore 24 rfl) ?_
    refine zr_istore_n (L1 := [(1, zI 0), (0, zRf (zad Γ) 103)]) C (zdec_at dm_X12_restore 25 rfl) rfl (Nat.le_of_ble_eq_true rfl) rfl ?_
    obtain ⟨I49, ⟨n25, q26⟩, hI24⟩ := h
    have lp23 : ∀ (n21 : Nat) (v17 : Int) (M19 : zM), I49 v17 M19 n21 → zin v17 → zRng M19 → zV Γ mu_X12_restore (145, 0, 0) 49 [(0, zRf (zad Γ) 103), (1, zI v17)] [] M19 := by
      intro n21
      induction n21 using Nat.strongRecOn with
      | _ n21 ih22 =>
      intro v17 M19 q27 z18 hR20
      have h := hI24 v17 M19 n21 q27 z18 hR20
      refine zr_iload_n C 1 rfl (zdec_at dm_X12_restore 26 rfl) rfl ?_
      refine zr_sipush C (zdec_at dm_X12_restore 27 rfl) (by decide) ?_
      refine zr_icmp_ge C z18 (by decide) (zdec_at dm_X12_restore 28 rfl) rfl (fun g28 => ?_) (fun g28 => ?_)
      · have h := h.1 g28
        refine zr_iconst C (zdec_at dm_X12_restore 39 rfl) ?_
        refine zr_istore_n (L1 := [(1, zI 0), (0, zRf (zad Γ) 103)]) C (zdec_at dm_X12_restore 40 rfl) rfl (Nat.le_of_ble_eq_true rfl) rfl ?_
        obtain ⟨I76, ⟨n37, q38⟩, hI36⟩ := h
        have lp35 : ∀ (n33 : Nat) (v29 : Int) (M31 : zM), I76 v29 M31 n33 → zin v29 → zRng M31 → zV Γ mu_X12_restore (145, 0, 0) 76 [(0, zRf (zad Γ) 103), (1, zI v29)] [] M31 := by
          intro n33
          induction n33 using Nat.strongRecOn with
          | _ n33 ih34 =>
          intro v29 M31 q39 z30 hR32
          have h := hI36 v29 M31 n33 q39 z30 hR32
          refine zr_iload_n C 1 rfl (zdec_at dm_X12_restore 41 rfl) rfl ?_
          refine zr_bipush C (zdec_at dm_X12_restore 42 rfl) (by decide) ?_
          refine zr_icmp_ge C z30 (by decide) (zdec_at dm_X12_restore 43 rfl) rfl (fun g40 => ?_) (fun g40 => ?_)
          · have h := h.1 g40
            refine zr_iconst C (zdec_at dm_X12_restore 54 rfl) ?_
            refine zr_istore_n (L1 := [(1, zI 0), (0, zRf (zad Γ) 103)]) C (zdec_at dm_X12_restore 55 rfl) rfl (Nat.le_of_ble_eq_true rfl) rfl ?_
            obtain ⟨I102, ⟨n49, q50⟩, hI48⟩ := h
            have lp47 : ∀ (n45 : Nat) (v41 : Int) (M43 : zM), I102 v41 M43 n45 → zin v41 → zRng M43 → zV Γ mu_X12_restore (145, 0, 0) 102 [(0, zRf (zad Γ) 103), (1, zI v41)] [] M43 := by
              intro n45
              induction n45 using Nat.strongRecOn with
              | _ n45 ih46 =>
              intro v41 M43 q51 z42 hR44
              have h := hI48 v41 M43 n45 q51 z42 hR44
              refine zr_iload_n C 1 rfl (zdec_at dm_X12_restore 56 rfl) rfl ?_
              refine zr_bipush C (zdec_at dm_X12_restore 57 rfl) (by decide) ?_
              refine zr_icmp_ge C z42 (by decide) (zdec_at dm_X12_restore 58 rfl) rfl (fun g52 => ?_) (fun g52 => ?_)
              · have h := h.1 g52
                refine zr_aload_n C 0 rfl (zdec_at dm_X12_restore 69 rfl) rfl ?_
                refine zr_iconst C (zdec_at dm_X12_restore 70 rfl) ?_
                refine zr_puti C fk_RX12_205 fi_103_7 (by decide) (zdec_at dm_X12_restore 71 rfl) (fun M53 e54 => ?_)
                have h := h M53 e54
                have hR55 : zRng M53 := by rw [e54]; exact hR44.set (by decide) _ _
                refine zr_aload_n C 0 rfl (zdec_at dm_X12_restore 72 rfl) rfl ?_
                refine zr_iconst C (zdec_at dm_X12_restore 73 rfl) ?_
                refine zr_puti C fk_RX12_208 fi_103_8 (by decide) (zdec_at dm_X12_restore 74 rfl) (fun M56 e57 => ?_)
                have h := h M56 e57
                have hR58 : zRng M56 := by rw [e57]; exact hR55.set (by decide) _ _
                refine zr_aload_n C 0 rfl (zdec_at dm_X12_restore 75 rfl) rfl ?_
                refine zr_geti C fk_RX12_7 fi_103_1 (zdec_at dm_X12_restore 76 rfl) ?_
                refine zr_aload_n C 0 rfl (zdec_at dm_X12_restore 77 rfl) rfl ?_
                refine zr_geti C fk_RX12_13 fi_103_2 (zdec_at dm_X12_restore 78 rfl) ?_
                refine zr_imul C (zdec_at dm_X12_restore 79 rfl) ?_
                obtain ⟨o59, h⟩ := h
                exact zr_ireturn C rfl (zdec_at dm_X12_restore 80 rfl) rfl ⟨o59, h⟩
              · have h := h.2 g52
                refine zr_aload_n C 0 rfl (zdec_at dm_X12_restore 59 rfl) rfl ?_
                refine zr_getr (q := 109) C fk_RX12_32 fi_103_12 (zdec_at dm_X12_restore 60 rfl) ?_
                refine zr_iload_n C 1 rfl (zdec_at dm_X12_restore 61 rfl) rfl ?_
                refine zr_aload_n C 0 rfl (zdec_at dm_X12_restore 62 rfl) rfl ?_
                refine zr_getr (q := 112) C fk_RX12_42 fi_103_20 (zdec_at dm_X12_restore 63 rfl) ?_
                refine zr_iload_n C 1 rfl (zdec_at dm_X12_restore 64 rfl) rfl ?_
                obtain ⟨o60, h⟩ := h
                refine zr_zald C ai_112 o60 (zdec_at dm_X12_restore 65 rfl) ?_
                obtain ⟨o61, h⟩ := h
                refine zr_zast C ai_109 o60 (hR44 _ _) o61 rfl (zdec_at dm_X12_restore 66 rfl) (fun M62 e63 => ?_)
                have h := h M62 e63
                have hR64 : zRng M62 := by rw [e63]; exact hR44.set (hR44 _ _) _ _
                refine zr_iinc (L1 := [(1, zI (v41 + 1)), (0, zRf (zad Γ) 103)]) C 1 rfl (zdec_at dm_X12_restore 67 rfl) (Nat.le_of_ble_eq_true rfl) rfl ?_
                refine zr_goto C (zdec_at dm_X12_restore 68 rfl) rfl ?_
                obtain ⟨o65, h⟩ := h
                obtain ⟨n66, q67, q68⟩ := h
                exact zr_sub [1, 0] rfl (ih46 n66 q67 _ _ q68 o65 hR64)
            exact zr_sub [1, 0] rfl (lp47 n49 _ _ q50 (by decide) hR32)
          · have h := h.2 g40
            refine zr_aload_n C 0 rfl (zdec_at dm_X12_restore 44 rfl) rfl ?_
            refine zr_getr (q := 105) C fk_RX12_20 fi_103_4 (zdec_at dm_X12_restore 45 rfl) ?_
            refine zr_iload_n C 1 rfl (zdec_at dm_X12_restore 46 rfl) rfl ?_
            refine zr_aload_n C 0 rfl (zdec_at dm_X12_restore 47 rfl) rfl ?_
            refine zr_getr (q := 111) C fk_RX12_39 fi_103_17 (zdec_at dm_X12_restore 48 rfl) ?_
            refine zr_iload_n C 1 rfl (zdec_at dm_X12_restore 49 rfl) rfl ?_
            obtain ⟨o69, h⟩ := h
            refine zr_iald C ai_111 o69 (zdec_at dm_X12_restore 50 rfl) ?_
            refine zr_iast C ai_105 o69 (hR32 _ _) (zdec_at dm_X12_restore 51 rfl) (fun M70 e71 => ?_)
            have h := h M70 e71
            have hR72 : zRng M70 := by rw [e71]; exact hR32.set (hR32 _ _) _ _
            refine zr_iinc (L1 := [(1, zI (v29 + 1)), (0, zRf (zad Γ) 103)]) C 1 rfl (zdec_at dm_X12_restore 52 rfl) (Nat.le_of_ble_eq_true rfl) rfl ?_
            refine zr_goto C (zdec_at dm_X12_restore 53 rfl) rfl ?_
            obtain ⟨o73, h⟩ := h
            obtain ⟨n74, q75, q76⟩ := h
            exact zr_sub [1, 0] rfl (ih34 n74 q75 _ _ q76 o73 hR72)
        exact zr_sub [1, 0] rfl (lp35 n37 _ _ q38 (by decide) hR20)
      · have h := h.2 g28
        refine zr_aload_n C 0 rfl (zdec_at dm_X12_restore 29 rfl) rfl ?_
        refine zr_getr (q := 104) C fk_RX12_16 fi_103_3 (zdec_at dm_X12_restore 30 rfl) ?_
        refine zr_iload_n C 1 rfl (zdec_at dm_X12_restore 31 rfl) rfl ?_
        refine zr_aload_n C 0 rfl (zdec_at dm_X12_restore 32 rfl) rfl ?_
        refine zr_getr (q := 110) C fk_RX12_36 fi_103_16 (zdec_at dm_X12_restore 33 rfl) ?_
        refine zr_iload_n C 1 rfl (zdec_at dm_X12_restore 34 rfl) rfl ?_
        obtain ⟨o77, h⟩ := h
        refine zr_iald C ai_110 o77 (zdec_at dm_X12_restore 35 rfl) ?_
        refine zr_iast C ai_104 o77 (hR20 _ _) (zdec_at dm_X12_restore 36 rfl) (fun M78 e79 => ?_)
        have h := h M78 e79
        have hR80 : zRng M78 := by rw [e79]; exact hR20.set (hR20 _ _) _ _
        refine zr_iinc (L1 := [(1, zI (v17 + 1)), (0, zRf (zad Γ) 103)]) C 1 rfl (zdec_at dm_X12_restore 37 rfl) (Nat.le_of_ble_eq_true rfl) rfl ?_
        refine zr_goto C (zdec_at dm_X12_restore 38 rfl) rfl ?_
        obtain ⟨o81, h⟩ := h
        obtain ⟨n82, q83, q84⟩ := h
        exact zr_sub [1, 0] rfl (ih22 n82 q83 _ _ q84 o81 hR80)
    exact zr_sub [1, 0] rfl (lp23 n25 _ _ q26 (by decide) hR16)
  · have h := h.2 g4
    refine zr_bipush C (zdec_at dm_X12_restore 6 rfl) (by decide) ?_
    exact zr_ireturn C rfl (zdec_at dm_X12_restore 7 rfl) rfl ⟨(by decide), h⟩

set_option maxHeartbeats 400000 in
set_option maxRecDepth 100000 in
theorem sn_X12_count {pr_X12_findFaces : zM → Prop} {po_X12_findFaces : zM → zM → Prop} {pr_X12_findColours : zM → Prop} {po_X12_findColours : zM → Int → zM → Prop} {pr_X12_ones : Int → zM → Prop} {po_X12_ones : Int → zM → Int → zM → Prop} {pr_X12_leaderOf : Int → zM → Prop} {po_X12_leaderOf : Int → zM → Int → zM → Prop} {pr_X12_isDot : Int → zM → Prop} {po_X12_isDot : Int → zM → Int → zM → Prop} {pr_X12_beside : Int → Int → zM → Prop} {po_X12_beside : Int → Int → zM → Int → zM → Prop} (hS_X12_findFaces : zSnd zS 145 0 0 yX12_findFaces cX12_findFaces 6 none 2 [2] (F_X12_findFaces pr_X12_findFaces po_X12_findFaces)) (hS_X12_findColours : zSnd zS 145 0 0 yX12_findColours cX12_findColours 3 (some .int) 1 [2] (F_X12_findColours pr_X12_findColours po_X12_findColours)) (hS_X12_ones : zSnd zS 145 0 0 yX12_ones cX12_ones 3 (some .int) 0 [0] (F_X12_ones pr_X12_ones po_X12_ones)) (hS_X12_leaderOf : zSnd zS 145 0 0 yX12_leaderOf cX12_leaderOf 3 (some .int) 3 [2, 0] (F_X12_leaderOf pr_X12_leaderOf po_X12_leaderOf)) (hS_X12_isDot : zSnd zS 145 0 0 yX12_isDot cX12_isDot 2 (some .boolean) 0 [2, 0] (F_X12_isDot pr_X12_isDot po_X12_isDot)) (hS_X12_beside : zSnd zS 145 0 0 yX12_beside cX12_beside 5 (some .int) 1 [2, 0, 0] (F_X12_beside pr_X12_beside po_X12_beside)) : zSnd zS 145 0 0 yX12_count cX12_count 6 (some .int) 4 [2, 0] (fun xs P M => ∃ a1 : Int, xs = [103, a1] ∧ vc_X12_count pr_X12_findFaces po_X12_findFaces pr_X12_findColours po_X12_findColours pr_X12_ones po_X12_ones pr_X12_leaderOf po_X12_leaderOf pr_X12_isDot po_X12_isDot pr_X12_beside po_X12_beside a1 P M) := by
  refine zSnd.of rfl (fun ad xs hz => Nat.le_trans (Nat.le_of_eq (zlen ad _ xs hz)) (by decide)) ?_
  intro Γ C _ _ xs M hz hF
  obtain ⟨a1, rfl, h⟩ := hF
  have zz_a1 := zall_h (zall_t hz) (by decide)
  refine zr_rng (fun hR => ?_)
  have C : zC Γ mu_X12_count := C
  change zV Γ mu_X12_count (145, 0, 0) 0 [(0, zRf (zad Γ) 103), (1, zI a1)] [] M
  change vc_X12_count pr_X12_findFaces po_X12_findFaces pr_X12_findColours po_X12_findColours pr_X12_ones po_X12_ones pr_X12_leaderOf po_X12_leaderOf pr_X12_isDot po_X12_isDot pr_X12_beside po_X12_beside a1 _ M at h
  unfold vc_X12_count at h
  refine zr_aload_n C 0 rfl (zdec_at dm_X12_count 0 rfl) rfl ?_
  refine zr_iconst C (zdec_at dm_X12_count 1 rfl) ?_
  refine zr_puti C fk_RX12_140 fi_103_0 (by decide) (zdec_at dm_X12_count 2 rfl) (fun M1 e2 => ?_)
  have h := h M1 e2
  have hR3 : zRng M1 := by rw [e2]; exact hR.set (by decide) _ _
  refine zr_aload_n C 0 rfl (zdec_at dm_X12_count 3 rfl) rfl ?_
  obtain ⟨g8, h⟩ := h
  refine zr_callV C [] hS_X12_findFaces ck_RX12_240 iv_X12_findFaces vc_X12 oc_103 rfl rfl (zdec_at dm_X12_count 4 rfl) ⟨rfl, rfl, rfl, rfl⟩ ⟨by decide, by decide⟩ (Nat.le_of_ble_eq_true rfl) zall_n ?_
  refine ⟨rfl, g8, fun M4 p7 _ hR5 => ?_⟩
  have h := h M4 p7 hR5
  show zV Γ mu_X12_count (145, 0, 0) 9 [(0, zRf (zad Γ) 103), (1, zI a1)] [] M4
  refine zr_iconst C (zdec_at dm_X12_count 5 rfl) ?_
  refine zr_istore_n (L1 := [(2, zI 0), (0, zRf (zad Γ) 103), (1, zI a1)]) C (zdec_at dm_X12_count 6 rfl) rfl (Nat.le_of_ble_eq_true rfl) rfl ?_
  refine zr_iload_n C 2 rfl (zdec_at dm_X12_count 7 rfl) rfl ?_
  by_cases g12_0 : a1 = 0
  · have h := h.1 g12_0
    refine zr_tsin C 0 (g12_0.trans (by decide)) zz_a1 (by decide) (zdec_at dm_X12_count 8 rfl) rfl rfl ?_
    refine zr_aload_n C 1 rfl (zdec_at dm_X12_count 9 rfl) rfl ?_
    refine zr_geti C fk_RX12_7 fi_103_1 (zdec_at dm_X12_count 10 rfl) ?_
    exact zr_ireturn C rfl (zdec_at dm_X12_count 11 rfl) rfl ⟨(hR5 _ _), h⟩
  · have h := h.2 g12_0
    by_cases g12_1 : a1 = 1
    · have h := h.1 g12_1
      refine zr_tsin C 1 (g12_1.trans (by decide)) zz_a1 (by decide) (zdec_at dm_X12_count 8 rfl) rfl rfl ?_
      refine zr_aload_n C 1 rfl (zdec_at dm_X12_count 12 rfl) rfl ?_
      refine zr_geti C fk_RX12_13 fi_103_2 (zdec_at dm_X12_count 13 rfl) ?_
      exact zr_ireturn C rfl (zdec_at dm_X12_count 14 rfl) rfl ⟨(hR5 _ _), h⟩
    · have h := h.2 g12_1
      by_cases g12_2 : a1 = 2
      · have h := h.1 g12_2
        refine zr_tsin C 2 (g12_2.trans (by decide)) zz_a1 (by decide) (zdec_at dm_X12_count 8 rfl) rfl rfl ?_
        refine zr_aload_n C 1 rfl (zdec_at dm_X12_count 15 rfl) rfl ?_
        refine zr_geti C fk_RX12_233 fi_103_30 (zdec_at dm_X12_count 16 rfl) ?_
        exact zr_ireturn C rfl (zdec_at dm_X12_count 17 rfl) rfl ⟨(hR5 _ _), h⟩
      · have h := h.2 g12_2
        by_cases g12_3 : a1 = 3
        · have h := h.1 g12_3
          refine zr_tsin C 3 (g12_3.trans (by decide)) zz_a1 (by decide) (zdec_at dm_X12_count 8 rfl) rfl rfl ?_
          refine zr_aload_n C 1 rfl (zdec_at dm_X12_count 18 rfl) rfl ?_
          obtain ⟨g14, h⟩ := h
          refine zr_callV C [] hS_X12_findColours ck_RX12_391 iv_X12_findColours vc_X12 oc_103 rfl rfl (zdec_at dm_X12_count 19 rfl) ⟨rfl, rfl, rfl, rfl⟩ ⟨by decide, by decide⟩ (Nat.le_of_ble_eq_true rfl) zall_n ?_
          refine ⟨rfl, g14, fun r9 M10 p13 z12 hR11 => ?_⟩
          have h := h r9 M10 p13 z12 hR11
          show zV Γ mu_X12_count (145, 0, 0) 83 [(2, zI 0), (0, zRf (zad Γ) 103), (1, zI a1)] [zI r9] M10
          obtain ⟨g20, h⟩ := h
          refine zr_callS C [r9] hS_X12_ones ck_RX12_394 sv_X12_ones rfl rfl (zdec_at dm_X12_count 20 rfl) ⟨rfl, rfl, rfl, rfl⟩ ⟨by decide, by decide⟩ (Nat.le_of_ble_eq_true rfl) (zall_0 z12 zall_n) ?_
          refine ⟨_, rfl, g20, fun r15 M16 p19 z18 hR17 => ?_⟩
          have h := h r15 M16 p19 z18 hR17
          show zV Γ mu_X12_count (145, 0, 0) 86 [(2, zI 0), (0, zRf (zad Γ) 103), (1, zI a1)] [zI r15] M16
          exact zr_ireturn C rfl (zdec_at dm_X12_count 21 rfl) rfl ⟨z18, h⟩
        · have h := h.2 g12_3
          by_cases g12_4 : a1 = 4
          · have h := h.1 g12_4
            refine zr_tsin C 4 (g12_4.trans (by decide)) zz_a1 (by decide) (zdec_at dm_X12_count 8 rfl) rfl rfl ?_
            refine zr_iconst C (zdec_at dm_X12_count 22 rfl) ?_
            refine zr_istore_n (L1 := [(3, zI 0), (2, zI 0), (0, zRf (zad Γ) 103), (1, zI a1)]) C (zdec_at dm_X12_count 23 rfl) rfl (Nat.le_of_ble_eq_true rfl) rfl ?_
            obtain ⟨I89, ⟨n31, q32⟩, hI30⟩ := h
            have lp29 : ∀ (n27 : Nat) (v21 : Int) (v22 : Int) (M25 : zM), I89 v21 v22 M25 n27 → zin v21 → zin v22 → zRng M25 → zV Γ mu_X12_count (145, 0, 0) 89 [(0, zRf (zad Γ) 103), (2, zI v21), (3, zI v22)] [] M25 := by
              intro n27
              induction n27 using Nat.strongRecOn with
              | _ n27 ih28 =>
              intro v21 v22 M25 q33 z23 z24 hR26
              have h := hI30 v21 v22 M25 n27 q33 z23 z24 hR26
              refine zr_iload_n C 2 rfl (zdec_at dm_X12_count 24 rfl) rfl ?_
              refine zr_aload_n C 0 rfl (zdec_at dm_X12_count 25 rfl) rfl ?_
              refine zr_geti C fk_RX12_233 fi_103_30 (zdec_at dm_X12_count 26 rfl) ?_
              refine zr_icmp_ge C z24 (hR26 _ _) (zdec_at dm_X12_count 27 rfl) rfl (fun g34 => ?_) (fun g34 => ?_)
              · have h := h.1 g34
                refine zr_iload_n C 1 rfl (zdec_at dm_X12_count 41 rfl) rfl ?_
                exact zr_ireturn C rfl (zdec_at dm_X12_count 42 rfl) rfl ⟨z23, h⟩
              · have h := h.2 g34
                refine zr_iload_n C 1 rfl (zdec_at dm_X12_count 28 rfl) rfl ?_
                refine zr_aload_n C 0 rfl (zdec_at dm_X12_count 29 rfl) rfl ?_
                refine zr_iload_n C 2 rfl (zdec_at dm_X12_count 30 rfl) rfl ?_
                obtain ⟨g40, h⟩ := h
                refine zr_callV C [v22] hS_X12_leaderOf ck_RX12_385 iv_X12_leaderOf vc_X12 oc_103 rfl rfl (zdec_at dm_X12_count 31 rfl) ⟨rfl, rfl, rfl, rfl⟩ ⟨by decide, by decide⟩ (Nat.le_of_ble_eq_true rfl) (zall_0 z24 zall_n) ?_
                refine ⟨_, rfl, g40, fun r35 M36 p39 z38 hR37 => ?_⟩
                have h := h r35 M36 p39 z38 hR37
                show zV Γ mu_X12_count (145, 0, 0) 103 [(0, zRf (zad Γ) 103), (2, zI v21), (3, zI v22)] [zI r35, zI v21] M36
                refine zr_iload_n C 2 rfl (zdec_at dm_X12_count 32 rfl) rfl ?_
                refine zr_icmp_ne C z38 z24 (zdec_at dm_X12_count 33 rfl) rfl (fun g41 => ?_) (fun g41 => ?_)
                · have h := h.1 g41
                  refine zr_iconst C (zdec_at dm_X12_count 36 rfl) ?_
                  refine zr_iadd C (zdec_at dm_X12_count 37 rfl) ?_
                  refine zr_istore_n (L1 := [(2, zI (v21 + 0)), (0, zRf (zad Γ) 103), (3, zI v22)]) C (zdec_at dm_X12_count 38 rfl) rfl (Nat.le_of_ble_eq_true rfl) rfl ?_
                  refine zr_iinc (L1 := [(3, zI (v22 + 1)), (2, zI (v21 + 0)), (0, zRf (zad Γ) 103)]) C 2 rfl (zdec_at dm_X12_count 39 rfl) (Nat.le_of_ble_eq_true rfl) rfl ?_
                  refine zr_goto C (zdec_at dm_X12_count 40 rfl) rfl ?_
                  obtain ⟨o42, h⟩ := h
                  obtain ⟨o43, h⟩ := h
                  obtain ⟨n44, q45, q46⟩ := h
                  exact zr_sub [2, 1, 0] rfl (ih28 n44 q45 _ _ _ q46 o42 o43 hR37)
                · have h := h.2 g41
                  refine zr_iconst C (zdec_at dm_X12_count 34 rfl) ?_
                  refine zr_goto C (zdec_at dm_X12_count 35 rfl) rfl ?_
                  refine zr_iadd C (zdec_at dm_X12_count 37 rfl) ?_
                  refine zr_istore_n (L1 := [(2, zI (v21 + 1)), (0, zRf (zad Γ) 103), (3, zI v22)]) C (zdec_at dm_X12_count 38 rfl) rfl (Nat.le_of_ble_eq_true rfl) rfl ?_
                  refine zr_iinc (L1 := [(3, zI (v22 + 1)), (2, zI (v21 + 1)), (0, zRf (zad Γ) 103)]) C 2 rfl (zdec_at dm_X12_count 39 rfl) (Nat.le_of_ble_eq_true rfl) rfl ?_
                  refine zr_goto C (zdec_at dm_X12_count 40 rfl) rfl ?_
                  obtain ⟨o47, h⟩ := h
                  obtain ⟨o48, h⟩ := h
                  obtain ⟨n49, q50, q51⟩ := h
                  exact zr_sub [2, 1, 0] rfl (ih28 n49 q50 _ _ _ q51 o47 o48 hR37)
            exact zr_sub [2, 1, 0] rfl (lp29 n31 _ _ _ q32 (by decide) (by decide) hR5)
          · have h := h.2 g12_4
            by_cases g12_5 : a1 = 5
            · have h := h.1 g12_5
              refine zr_tsin C 5 (g12_5.trans (by decide)) zz_a1 (by decide) (zdec_at dm_X12_count 8 rfl) rfl rfl ?_
              refine zr_aload_n C 1 rfl (zdec_at dm_X12_count 43 rfl) rfl ?_
              refine zr_geti C fk_RX12_478 fi_103_9 (zdec_at dm_X12_count 44 rfl) ?_
              exact zr_ireturn C rfl (zdec_at dm_X12_count 45 rfl) rfl ⟨(hR5 _ _), h⟩
            · have h := h.2 g12_5
              by_cases g12_6 : a1 = 6
              · have h := h.1 g12_6
                refine zr_tsin C 6 (g12_6.trans (by decide)) zz_a1 (by decide) (zdec_at dm_X12_count 8 rfl) rfl rfl ?_
                refine zr_iconst C (zdec_at dm_X12_count 46 rfl) ?_
                refine zr_istore_n (L1 := [(3, zI 0), (2, zI 0), (0, zRf (zad Γ) 103), (1, zI a1)]) C (zdec_at dm_X12_count 47 rfl) rfl (Nat.le_of_ble_eq_true rfl) rfl ?_
                obtain ⟨I129, ⟨n60, q61⟩, hI59⟩ := h
                have lp58 : ∀ (n56 : Nat) (v52 : Int) (v53 : Int), I129 v52 v53 n56 → zin v52 → zin v53 → zV Γ mu_X12_count (145, 0, 0) 129 [(0, zRf (zad Γ) 103), (2, zI v52), (3, zI v53)] [] M4 := by
                  intro n56
                  induction n56 using Nat.strongRecOn with
                  | _ n56 ih57 =>
                  intro v52 v53 q62 z54 z55
                  have h := hI59 v52 v53 n56 q62 z54 z55
                  refine zr_iload_n C 2 rfl (zdec_at dm_X12_count 48 rfl) rfl ?_
                  refine zr_aload_n C 0 rfl (zdec_at dm_X12_count 49 rfl) rfl ?_
                  refine zr_geti C fk_RX12_478 fi_103_9 (zdec_at dm_X12_count 50 rfl) ?_
                  refine zr_icmp_ge C z55 (hR5 _ _) (zdec_at dm_X12_count 51 rfl) rfl (fun g63 => ?_) (fun g63 => ?_)
                  · have h := h.1 g63
                    refine zr_iload_n C 1 rfl (zdec_at dm_X12_count 65 rfl) rfl ?_
                    exact zr_ireturn C rfl (zdec_at dm_X12_count 66 rfl) rfl ⟨z54, h⟩
                  · have h := h.2 g63
                    refine zr_iload_n C 1 rfl (zdec_at dm_X12_count 52 rfl) rfl ?_
                    refine zr_aload_n C 0 rfl (zdec_at dm_X12_count 53 rfl) rfl ?_
                    refine zr_getr (q := 109) C fk_RX12_32 fi_103_12 (zdec_at dm_X12_count 54 rfl) ?_
                    refine zr_iload_n C 2 rfl (zdec_at dm_X12_count 55 rfl) rfl ?_
                    obtain ⟨o64, h⟩ := h
                    refine zr_zald C ai_109 o64 (zdec_at dm_X12_count 56 rfl) ?_
                    refine zr_if_eq C (hR5 _ _) (zdec_at dm_X12_count 57 rfl) rfl (fun g65 => ?_) (fun g65 => ?_)
                    · have h := h.1 g65
                      refine zr_iconst C (zdec_at dm_X12_count 60 rfl) ?_
                      refine zr_iadd C (zdec_at dm_X12_count 61 rfl) ?_
                      refine zr_istore_n (L1 := [(2, zI (v52 + 0)), (0, zRf (zad Γ) 103), (3, zI v53)]) C (zdec_at dm_X12_count 62 rfl) rfl (Nat.le_of_ble_eq_true rfl) rfl ?_
                      refine zr_iinc (L1 := [(3, zI (v53 + 1)), (2, zI (v52 + 0)), (0, zRf (zad Γ) 103)]) C 2 rfl (zdec_at dm_X12_count 63 rfl) (Nat.le_of_ble_eq_true rfl) rfl ?_
                      refine zr_goto C (zdec_at dm_X12_count 64 rfl) rfl ?_
                      obtain ⟨o66, h⟩ := h
                      obtain ⟨o67, h⟩ := h
                      obtain ⟨n68, q69, q70⟩ := h
                      exact zr_sub [2, 1, 0] rfl (ih57 n68 q69 _ _ q70 o66 o67)
                    · have h := h.2 g65
                      refine zr_iconst C (zdec_at dm_X12_count 58 rfl) ?_
                      refine zr_goto C (zdec_at dm_X12_count 59 rfl) rfl ?_
                      refine zr_iadd C (zdec_at dm_X12_count 61 rfl) ?_
                      refine zr_istore_n (L1 := [(2, zI (v52 + 1)), (0, zRf (zad Γ) 103), (3, zI v53)]) C (zdec_at dm_X12_count 62 rfl) rfl (Nat.le_of_ble_eq_true rfl) rfl ?_
                      refine zr_iinc (L1 := [(3, zI (v53 + 1)), (2, zI (v52 + 1)), (0, zRf (zad Γ) 103)]) C 2 rfl (zdec_at dm_X12_count 63 rfl) (Nat.le_of_ble_eq_true rfl) rfl ?_
                      refine zr_goto C (zdec_at dm_X12_count 64 rfl) rfl ?_
                      obtain ⟨o71, h⟩ := h
                      obtain ⟨o72, h⟩ := h
                      obtain ⟨n73, q74, q75⟩ := h
                      exact zr_sub [2, 1, 0] rfl (ih57 n73 q74 _ _ q75 o71 o72)
                exact zr_sub [2, 1, 0] rfl (lp58 n60 _ _ q61 (by decide) (by decide))
              · have h := h.2 g12_6
                by_cases g12_7 : a1 = 7
                · have h := h.1 g12_7
                  refine zr_tsin C 7 (g12_7.trans (by decide)) zz_a1 (by decide) (zdec_at dm_X12_count 8 rfl) rfl rfl ?_
                  refine zr_aload_n C 1 rfl (zdec_at dm_X12_count 67 rfl) rfl ?_
                  refine zr_geti C fk_RX12_208 fi_103_8 (zdec_at dm_X12_count 68 rfl) ?_
                  exact zr_ireturn C rfl (zdec_at dm_X12_count 69 rfl) rfl ⟨(hR5 _ _), h⟩
                · have h := h.2 g12_7
                  by_cases g12_8 : a1 = 8
                  · have h := h.1 g12_8
                    refine zr_tsin C 8 (g12_8.trans (by decide)) zz_a1 (by decide) (zdec_at dm_X12_count 8 rfl) rfl rfl ?_
                    refine zr_iconst C (zdec_at dm_X12_count 70 rfl) ?_
                    refine zr_istore_n (L1 := [(3, zI 0), (2, zI 0), (0, zRf (zad Γ) 103), (1, zI a1)]) C (zdec_at dm_X12_count 71 rfl) rfl (Nat.le_of_ble_eq_true rfl) rfl ?_
                    obtain ⟨I169, ⟨n86, q87⟩, hI85⟩ := h
                    have lp84 : ∀ (n82 : Nat) (v76 : Int) (v77 : Int) (M80 : zM), I169 v76 v77 M80 n82 → zin v76 → zin v77 → zRng M80 → zV Γ mu_X12_count (145, 0, 0) 169 [(0, zRf (zad Γ) 103), (2, zI v76), (3, zI v77)] [] M80 := by
                      intro n82
                      induction n82 using Nat.strongRecOn with
                      | _ n82 ih83 =>
                      intro v76 v77 M80 q88 z78 z79 hR81
                      have h := hI85 v76 v77 M80 n82 q88 z78 z79 hR81
                      refine zr_iload_n C 2 rfl (zdec_at dm_X12_count 72 rfl) rfl ?_
                      refine zr_sipush C (zdec_at dm_X12_count 73 rfl) (by decide) ?_
                      refine zr_icmp_ge C z79 (by decide) (zdec_at dm_X12_count 74 rfl) rfl (fun g89 => ?_) (fun g89 => ?_)
                      · have h := h.1 g89
                        refine zr_iload_n C 1 rfl (zdec_at dm_X12_count 110 rfl) rfl ?_
                        exact zr_ireturn C rfl (zdec_at dm_X12_count 111 rfl) rfl ⟨z78, h⟩
                      · have h := h.2 g89
                        refine zr_iconst C (zdec_at dm_X12_count 75 rfl) ?_
                        refine zr_istore (L1 := [(4, zI 0), (0, zRf (zad Γ) 103), (2, zI v76), (3, zI v77)]) C (zdec_at dm_X12_count 76 rfl) (Nat.le_of_ble_eq_true rfl) rfl ?_
                        obtain ⟨I179, ⟨n100, q101⟩, hI99⟩ := h
                        have lp98 : ∀ (n96 : Nat) (v90 : Int) (v91 : Int) (M94 : zM), I179 v90 v91 M94 n96 → zin v90 → zin v91 → zRng M94 → zV Γ mu_X12_count (145, 0, 0) 179 [(0, zRf (zad Γ) 103), (2, zI v90), (3, zI v77), (4, zI v91)] [] M94 := by
                          intro n96
                          induction n96 using Nat.strongRecOn with
                          | _ n96 ih97 =>
                          intro v90 v91 M94 q102 z92 z93 hR95
                          have h := hI99 v90 v91 M94 n96 q102 z92 z93 hR95
                          refine zr_iload C 3 rfl (zdec_at dm_X12_count 77 rfl) ?_
                          refine zr_iconst C (zdec_at dm_X12_count 78 rfl) ?_
                          refine zr_icmp_ge C z93 (by decide) (zdec_at dm_X12_count 79 rfl) rfl (fun g103 => ?_) (fun g103 => ?_)
                          · have h := h.1 g103
                            refine zr_iinc (L1 := [(3, zI (v77 + 1)), (0, zRf (zad Γ) 103), (2, zI v90), (4, zI v91)]) C 2 rfl (zdec_at dm_X12_count 108 rfl) (Nat.le_of_ble_eq_true rfl) rfl ?_
                            refine zr_goto C (zdec_at dm_X12_count 109 rfl) rfl ?_
                            obtain ⟨o104, h⟩ := h
                            obtain ⟨n105, q106, q107⟩ := h
                            exact zr_sub [1, 2, 0] rfl (ih83 n105 q106 _ _ _ q107 z92 o104 hR95)
                          · have h := h.2 g103
                            refine zr_aload_n C 0 rfl (zdec_at dm_X12_count 80 rfl) rfl ?_
                            refine zr_iload_n C 2 rfl (zdec_at dm_X12_count 81 rfl) rfl ?_
                            obtain ⟨g113, h⟩ := h
                            refine zr_callV C [v77] hS_X12_isDot ck_RX12_202 iv_X12_isDot vc_X12 oc_103 rfl rfl (zdec_at dm_X12_count 82 rfl) ⟨rfl, rfl, rfl, rfl⟩ ⟨by decide, by decide⟩ (Nat.le_of_ble_eq_true rfl) (zall_0 z79 zall_n) ?_
                            refine ⟨_, rfl, g113, fun r108 M109 p112 z111 hR110 => ?_⟩
                            have h := h r108 M109 p112 z111 hR110
                            show zV Γ mu_X12_count (145, 0, 0) 190 [(0, zRf (zad Γ) 103), (2, zI v90), (3, zI v77), (4, zI v91)] [zI r108] M109
                            refine zr_if_eq C z111 (zdec_at dm_X12_count 83 rfl) rfl (fun g114 => ?_) (fun g114 => ?_)
                            · have h := h.1 g114
                              refine zr_iinc (L1 := [(3, zI (v77 + 1)), (0, zRf (zad Γ) 103), (2, zI v90), (4, zI v91)]) C 2 rfl (zdec_at dm_X12_count 108 rfl) (Nat.le_of_ble_eq_true rfl) rfl ?_
                              refine zr_goto C (zdec_at dm_X12_count 109 rfl) rfl ?_
                              obtain ⟨o115, h⟩ := h
                              obtain ⟨n116, q117, q118⟩ := h
                              exact zr_sub [1, 2, 0] rfl (ih83 n116 q117 _ _ _ q118 z92 o115 hR110)
                            · have h := h.2 g114
                              refine zr_aload_n C 0 rfl (zdec_at dm_X12_count 84 rfl) rfl ?_
                              refine zr_iload_n C 2 rfl (zdec_at dm_X12_count 85 rfl) rfl ?_
                              refine zr_iload C 3 rfl (zdec_at dm_X12_count 86 rfl) ?_
                              obtain ⟨g124, h⟩ := h
                              refine zr_callV C [v77, v91] hS_X12_beside ck_RX12_236 iv_X12_beside vc_X12 oc_103 rfl rfl (zdec_at dm_X12_count 87 rfl) ⟨rfl, rfl, rfl, rfl⟩ ⟨by decide, by decide⟩ (Nat.le_of_ble_eq_true rfl) (zall_0 z79 (zall_0 z93 zall_n)) ?_
                              refine ⟨_, _, rfl, g124, fun r119 M120 p123 z122 hR121 => ?_⟩
                              have h := h r119 M120 p123 z122 hR121
                              show zV Γ mu_X12_count (145, 0, 0) 200 [(0, zRf (zad Γ) 103), (2, zI v90), (3, zI v77), (4, zI v91)] [zI r119] M120
                              refine zr_istore (L1 := [(5, zI r119), (0, zRf (zad Γ) 103), (2, zI v90), (3, zI v77), (4, zI v91)]) C (zdec_at dm_X12_count 88 rfl) (Nat.le_of_ble_eq_true rfl) rfl ?_
                              refine zr_iload_n C 2 rfl (zdec_at dm_X12_count 89 rfl) rfl ?_
                              refine zr_iload C 0 rfl (zdec_at dm_X12_count 90 rfl) ?_
                              refine zr_if_lt C z122 (zdec_at dm_X12_count 91 rfl) rfl (fun g125 => ?_) (fun g125 => ?_)
                              · have h := h.1 g125
                                refine zr_iconst C (zdec_at dm_X12_count 103 rfl) ?_
                                refine zr_iadd C (zdec_at dm_X12_count 104 rfl) ?_
                                refine zr_istore_n (L1 := [(2, zI (v90 + 0)), (5, zI r119), (0, zRf (zad Γ) 103), (3, zI v77), (4, zI v91)]) C (zdec_at dm_X12_count 105 rfl) rfl (Nat.le_of_ble_eq_true rfl) rfl ?_
                                refine zr_iinc (L1 := [(4, zI (v91 + 1)), (2, zI (v90 + 0)), (5, zI r119), (0, zRf (zad Γ) 103), (3, zI v77)]) C 4 rfl (zdec_at dm_X12_count 106 rfl) (Nat.le_of_ble_eq_true rfl) rfl ?_
                                refine zr_goto C (zdec_at dm_X12_count 107 rfl) rfl ?_
                                obtain ⟨o126, h⟩ := h
                                obtain ⟨o127, h⟩ := h
                                obtain ⟨n128, q129, q130⟩ := h
                                exact zr_sub [3, 1, 4, 0] rfl (ih97 n128 q129 _ _ _ q130 o126 o127 hR121)
                              · have h := h.2 g125
                                refine zr_aload_n C 1 rfl (zdec_at dm_X12_count 92 rfl) rfl ?_
                                refine zr_getr (q := 104) C fk_RX12_16 fi_103_3 (zdec_at dm_X12_count 93 rfl) ?_
                                refine zr_iload C 0 rfl (zdec_at dm_X12_count 94 rfl) ?_
                                obtain ⟨o131, h⟩ := h
                                refine zr_iald C ai_104 o131 (zdec_at dm_X12_count 95 rfl) ?_
                                refine zr_aload_n C 1 rfl (zdec_at dm_X12_count 96 rfl) rfl ?_
                                refine zr_getr (q := 104) C fk_RX12_16 fi_103_3 (zdec_at dm_X12_count 97 rfl) ?_
                                refine zr_iload_n C 3 rfl (zdec_at dm_X12_count 98 rfl) rfl ?_
                                obtain ⟨o132, h⟩ := h
                                refine zr_iald C ai_104 o132 (zdec_at dm_X12_count 99 rfl) ?_
                                refine zr_icmp_eq C (hR121 _ _) (hR121 _ _) (zdec_at dm_X12_count 100 rfl) rfl (fun g133 => ?_) (fun g133 => ?_)
                                · have h := h.1 g133
                                  refine zr_iconst C (zdec_at dm_X12_count 103 rfl) ?_
                                  refine zr_iadd C (zdec_at dm_X12_count 104 rfl) ?_
                                  refine zr_istore_n (L1 := [(2, zI (v90 + 0)), (5, zI r119), (0, zRf (zad Γ) 103), (3, zI v77), (4, zI v91)]) C (zdec_at dm_X12_count 105 rfl) rfl (Nat.le_of_ble_eq_true rfl) rfl ?_
                                  refine zr_iinc (L1 := [(4, zI (v91 + 1)), (2, zI (v90 + 0)), (5, zI r119), (0, zRf (zad Γ) 103), (3, zI v77)]) C 4 rfl (zdec_at dm_X12_count 106 rfl) (Nat.le_of_ble_eq_true rfl) rfl ?_
                                  refine zr_goto C (zdec_at dm_X12_count 107 rfl) rfl ?_
                                  obtain ⟨o134, h⟩ := h
                                  obtain ⟨o135, h⟩ := h
                                  obtain ⟨n136, q137, q138⟩ := h
                                  exact zr_sub [3, 1, 4, 0] rfl (ih97 n136 q137 _ _ _ q138 o134 o135 hR121)
                                · have h := h.2 g133
                                  refine zr_iconst C (zdec_at dm_X12_count 101 rfl) ?_
                                  refine zr_goto C (zdec_at dm_X12_count 102 rfl) rfl ?_
                                  refine zr_iadd C (zdec_at dm_X12_count 104 rfl) ?_
                                  refine zr_istore_n (L1 := [(2, zI (v90 + 1)), (5, zI r119), (0, zRf (zad Γ) 103), (3, zI v77), (4, zI v91)]) C (zdec_at dm_X12_count 105 rfl) rfl (Nat.le_of_ble_eq_true rfl) rfl ?_
                                  refine zr_iinc (L1 := [(4, zI (v91 + 1)), (2, zI (v90 + 1)), (5, zI r119), (0, zRf (zad Γ) 103), (3, zI v77)]) C 4 rfl (zdec_at dm_X12_count 106 rfl) (Nat.le_of_ble_eq_true rfl) rfl ?_
                                  refine zr_goto C (zdec_at dm_X12_count 107 rfl) rfl ?_
                                  obtain ⟨o139, h⟩ := h
                                  obtain ⟨o140, h⟩ := h
                                  obtain ⟨n141, q142, q143⟩ := h
                                  exact zr_sub [3, 1, 4, 0] rfl (ih97 n141 q142 _ _ _ q143 o139 o140 hR121)
                        exact zr_sub [1, 2, 3, 0] rfl (lp98 n100 _ _ _ q101 z78 (by decide) hR81)
                    exact zr_sub [2, 1, 0] rfl (lp84 n86 _ _ _ q87 (by decide) (by decide) hR5)
                  · have h := h.2 g12_8
                    refine zr_tsout C (zts_s 9 (zts_s 8 (zts_s 7 (zts_s 6 (zts_s 5 (zts_s 4 (zts_s 3 (zts_s 2 (zts_s 1 (zts_0 a1 0) g12_0) g12_1) g12_2) g12_3) g12_4) g12_5) g12_6) g12_7) g12_8) zz_a1 (zdec_at dm_X12_count 8 rfl) rfl ?_
                    refine zr_iconst C (zdec_at dm_X12_count 112 rfl) ?_
                    exact zr_ireturn C rfl (zdec_at dm_X12_count 113 rfl) rfl ⟨(by decide), h⟩

set_option maxHeartbeats 400000 in
set_option maxRecDepth 100000 in
theorem sn_X12_keep {pr_X12_in : Int → Int → Int → zM → Prop} {po_X12_in : Int → Int → Int → zM → Int → zM → Prop} {pr_X12_isFace : Int → zM → Prop} {po_X12_isFace : Int → zM → Int → zM → Prop} {pr_X12_findBorder : Int → zM → Prop} {po_X12_findBorder : Int → zM → zM → Prop} {pr_X12_greatestOf : Int → zM → Prop} {po_X12_greatestOf : Int → zM → Int → zM → Prop} (hS_X12_in : zSnd zS 145 0 0 yX12_in cX12_in 6 (some .boolean) 0 [1, 1, 1] (F_X12_in pr_X12_in po_X12_in)) (hS_X12_isFace : zSnd zS 145 0 0 yX12_isFace cX12_isFace 2 (some .boolean) 3 [2, 0] (F_X12_isFace pr_X12_isFace po_X12_isFace)) (hS_X12_findBorder : zSnd zS 145 0 0 yX12_findBorder cX12_findBorder 8 none 2 [2, 0] (F_X12_findBorder pr_X12_findBorder po_X12_findBorder)) (hS_X12_greatestOf : zSnd zS 145 0 0 yX12_greatestOf cX12_greatestOf 6 (some .int) 2 [2, 0] (F_X12_greatestOf pr_X12_greatestOf po_X12_greatestOf)) : zSnd zS 145 0 0 yX12_keep cX12_keep 10 (some .int) 4 [2, 0, 0, 0, 0, 0] (fun xs P M => ∃ a1 a2 a3 a4 a5 : Int, xs = [103, a1, a2, a3, a4, a5] ∧ vc_X12_keep pr_X12_in po_X12_in pr_X12_isFace po_X12_isFace pr_X12_findBorder po_X12_findBorder pr_X12_greatestOf po_X12_greatestOf a1 a2 a3 a4 a5 P M) := by
  refine zSnd.of rfl (fun ad xs hz => Nat.le_trans (Nat.le_of_eq (zlen ad _ xs hz)) (by decide)) ?_
  intro Γ C _ _ xs M hz hF
  obtain ⟨a1, a2, a3, a4, a5, rfl, h⟩ := hF
  have zz_a1 := zall_h (zall_t hz) (by decide)
  have zz_a2 := zall_h (zall_t (zall_t hz)) (by decide)
  have zz_a3 := zall_h (zall_t (zall_t (zall_t hz))) (by decide)
  have zz_a4 := zall_h (zall_t (zall_t (zall_t (zall_t hz)))) (by decide)
  have zz_a5 := zall_h (zall_t (zall_t (zall_t (zall_t (zall_t hz))))) (by decide)
  refine zr_rng (fun hR => ?_)
  have C : zC Γ mu_X12_keep := C
  change zV Γ mu_X12_keep (145, 0, 0) 0 [(0, zRf (zad Γ) 103), (1, zI a1), (2, zI a2), (3, zI a3), (4, zI a4), (5, zI a5)] [] M
  change vc_X12_keep pr_X12_in po_X12_in pr_X12_isFace po_X12_isFace pr_X12_findBorder po_X12_findBorder pr_X12_greatestOf po_X12_greatestOf a1 a2 a3 a4 a5 _ M at h
  unfold vc_X12_keep at h
  refine zr_aload_n C 0 rfl (zdec_at dm_X12_keep 0 rfl) rfl ?_
  refine zr_iconst C (zdec_at dm_X12_keep 1 rfl) ?_
  refine zr_puti C fk_RX12_140 fi_103_0 (by decide) (zdec_at dm_X12_keep 2 rfl) (fun M1 e2 => ?_)
  have h := h M1 e2
  have hR3 : zRng M1 := by rw [e2]; exact hR.set (by decide) _ _
  refine zr_iload_n C 1 rfl (zdec_at dm_X12_keep 3 rfl) rfl ?_
  refine zr_i2l C zz_a1 (zdec_at dm_X12_keep 4 rfl) ?_
  refine zr_lconst (v := 0) C (zdec_at dm_X12_keep 5 rfl) rfl ?_
  refine zr_ldc2 C (zdec_at dm_X12_keep 6 rfl) kc_RX12_194 ?_
  obtain ⟨g9, h⟩ := h
  refine zr_callS C [a1, 0, 7] hS_X12_in ck_RX12_156 sv_X12_in rfl rfl (zdec_at dm_X12_keep 7 rfl) ⟨rfl, rfl, rfl, rfl⟩ ⟨by decide, by decide⟩ (Nat.le_of_ble_eq_true rfl) (zall_1 zz_a1 (zall_1 (by decide) (zall_1 (by decide) zall_n))) ?_
  refine ⟨_, _, _, rfl, g9, fun r4 M5 p8 z7 hR6 => ?_⟩
  have h := h r4 M5 p8 z7 hR6
  show zV Γ mu_X12_keep (145, 0, 0) 14 [(0, zRf (zad Γ) 103), (1, zI a1), (2, zI a2), (3, zI a3), (4, zI a4), (5, zI a5)] [zI r4] M5
  refine zr_if_eq C z7 (zdec_at dm_X12_keep 8 rfl) rfl (fun g10 => ?_) (fun g10 => ?_)
  · have h := h.1 g10
    refine zr_iconst C (zdec_at dm_X12_keep 15 rfl) ?_
    exact zr_ireturn C rfl (zdec_at dm_X12_keep 16 rfl) rfl ⟨(by decide), h⟩
  · have h := h.2 g10
    refine zr_iload_n C 2 rfl (zdec_at dm_X12_keep 9 rfl) rfl ?_
    refine zr_i2l C zz_a2 (zdec_at dm_X12_keep 10 rfl) ?_
    refine zr_lconst (v := 0) C (zdec_at dm_X12_keep 11 rfl) rfl ?_
    refine zr_lconst (v := 1) C (zdec_at dm_X12_keep 12 rfl) rfl ?_
    obtain ⟨g16, h⟩ := h
    refine zr_callS C [a2, 0, 1] hS_X12_in ck_RX12_156 sv_X12_in rfl rfl (zdec_at dm_X12_keep 13 rfl) ⟨rfl, rfl, rfl, rfl⟩ ⟨by decide, by decide⟩ (Nat.le_of_ble_eq_true rfl) (zall_1 zz_a2 (zall_1 (by decide) (zall_1 (by decide) zall_n))) ?_
    refine ⟨_, _, _, rfl, g16, fun r11 M12 p15 z14 hR13 => ?_⟩
    have h := h r11 M12 p15 z14 hR13
    show zV Γ mu_X12_keep (145, 0, 0) 24 [(0, zRf (zad Γ) 103), (1, zI a1), (2, zI a2), (3, zI a3), (4, zI a4), (5, zI a5)] [zI r11] M12
    refine zr_if_ne C z14 (zdec_at dm_X12_keep 14 rfl) rfl (fun g17 => ?_) (fun g17 => ?_)
    · have h := h.1 g17
      refine zr_iload_n C 2 rfl (zdec_at dm_X12_keep 17 rfl) rfl ?_
      refine zr_iconst C (zdec_at dm_X12_keep 18 rfl) ?_
      refine zr_icmp_ne C zz_a2 (by decide) (zdec_at dm_X12_keep 19 rfl) rfl (fun g18 => ?_) (fun g18 => ?_)
      · have h := h.1 g18
        refine zr_aload_n C 0 rfl (zdec_at dm_X12_keep 112 rfl) rfl ?_
        refine zr_getr (q := 134) C fk_RX12_109 fi_103_65 (zdec_at dm_X12_keep 113 rfl) ?_
        refine zr_iload_n C 1 rfl (zdec_at dm_X12_keep 114 rfl) rfl ?_
        refine zr_iload_n C 2 rfl (zdec_at dm_X12_keep 115 rfl) rfl ?_
        obtain ⟨o19, h⟩ := h
        refine zr_iast C ai_134 o19 zz_a2 (zdec_at dm_X12_keep 116 rfl) (fun M20 e21 => ?_)
        have h := h M20 e21
        have hR22 : zRng M20 := by rw [e21]; exact hR13.set zz_a2 _ _
        refine zr_iconst C (zdec_at dm_X12_keep 117 rfl) ?_
        exact zr_ireturn C rfl (zdec_at dm_X12_keep 118 rfl) rfl ⟨(by decide), h⟩
      · have h := h.2 g18
        refine zr_iload_n C 3 rfl (zdec_at dm_X12_keep 20 rfl) rfl ?_
        refine zr_i2l C zz_a3 (zdec_at dm_X12_keep 21 rfl) ?_
        refine zr_lconst (v := 0) C (zdec_at dm_X12_keep 22 rfl) rfl ?_
        refine zr_ldc2 C (zdec_at dm_X12_keep 23 rfl) kc_RX12_407 ?_
        obtain ⟨g28, h⟩ := h
        refine zr_callS C [a3, 0, 4] hS_X12_in ck_RX12_156 sv_X12_in rfl rfl (zdec_at dm_X12_keep 24 rfl) ⟨rfl, rfl, rfl, rfl⟩ ⟨by decide, by decide⟩ (Nat.le_of_ble_eq_true rfl) (zall_1 zz_a3 (zall_1 (by decide) (zall_1 (by decide) zall_n))) ?_
        refine ⟨_, _, _, rfl, g28, fun r23 M24 p27 z26 hR25 => ?_⟩
        have h := h r23 M24 p27 z26 hR25
        show zV Γ mu_X12_keep (145, 0, 0) 43 [(0, zRf (zad Γ) 103), (1, zI a1), (2, zI a2), (3, zI a3), (4, zI a4), (5, zI a5)] [zI r23] M24
        refine zr_if_eq C z26 (zdec_at dm_X12_keep 25 rfl) rfl (fun g29 => ?_) (fun g29 => ?_)
        · have h := h.1 g29
          refine zr_iconst C (zdec_at dm_X12_keep 32 rfl) ?_
          exact zr_ireturn C rfl (zdec_at dm_X12_keep 33 rfl) rfl ⟨(by decide), h⟩
        · have h := h.2 g29
          refine zr_aload_n C 0 rfl (zdec_at dm_X12_keep 26 rfl) rfl ?_
          refine zr_iload C 4 rfl (zdec_at dm_X12_keep 27 rfl) ?_
          obtain ⟨g35, h⟩ := h
          refine zr_callV C [a4] hS_X12_isFace ck_RX12_300 iv_X12_isFace vc_X12 oc_103 rfl rfl (zdec_at dm_X12_keep 28 rfl) ⟨rfl, rfl, rfl, rfl⟩ ⟨by decide, by decide⟩ (Nat.le_of_ble_eq_true rfl) (zall_0 zz_a4 zall_n) ?_
          refine ⟨_, rfl, g35, fun r30 M31 p34 z33 hR32 => ?_⟩
          have h := h r30 M31 p34 z33 hR32
          show zV Γ mu_X12_keep (145, 0, 0) 52 [(0, zRf (zad Γ) 103), (1, zI a1), (2, zI a2), (3, zI a3), (4, zI a4), (5, zI a5)] [zI r30] M31
          refine zr_if_eq C z33 (zdec_at dm_X12_keep 29 rfl) rfl (fun g36 => ?_) (fun g36 => ?_)
          · have h := h.1 g36
            refine zr_iconst C (zdec_at dm_X12_keep 32 rfl) ?_
            exact zr_ireturn C rfl (zdec_at dm_X12_keep 33 rfl) rfl ⟨(by decide), h⟩
          · have h := h.2 g36
            refine zr_iload C 5 rfl (zdec_at dm_X12_keep 30 rfl) ?_
            refine zr_if_ge C zz_a5 (zdec_at dm_X12_keep 31 rfl) rfl (fun g37 => ?_) (fun g37 => ?_)
            · have h := h.1 g37
              refine zr_aload_n C 0 rfl (zdec_at dm_X12_keep 34 rfl) rfl ?_
              refine zr_iload C 4 rfl (zdec_at dm_X12_keep 35 rfl) ?_
              obtain ⟨g42, h⟩ := h
              refine zr_callV C [a4] hS_X12_findBorder ck_RX12_294 iv_X12_findBorder vc_X12 oc_103 rfl rfl (zdec_at dm_X12_keep 36 rfl) ⟨rfl, rfl, rfl, rfl⟩ ⟨by decide, by decide⟩ (Nat.le_of_ble_eq_true rfl) (zall_0 zz_a4 zall_n) ?_
              refine ⟨_, rfl, g42, fun M38 p41 _ hR39 => ?_⟩
              have h := h M38 p41 hR39
              show zV Γ mu_X12_keep (145, 0, 0) 68 [(0, zRf (zad Γ) 103), (1, zI a1), (2, zI a2), (3, zI a3), (4, zI a4), (5, zI a5)] [] M38
              refine zr_iload C 5 rfl (zdec_at dm_X12_keep 37 rfl) ?_
              refine zr_sipush C (zdec_at dm_X12_keep 38 rfl) (by decide) ?_
              obtain ⟨o43, h⟩ := h
              refine zr_idiv C zz_a5 (by decide) ⟨o43, by decide⟩ (zdec_at dm_X12_keep 39 rfl) ?_
              refine zr_istore (L1 := [(6, zI (a5 / 1000)), (0, zRf (zad Γ) 103), (1, zI a1), (2, zI a2), (3, zI a3), (4, zI a4), (5, zI a5)]) C (zdec_at dm_X12_keep 40 rfl) (Nat.le_of_ble_eq_true rfl) rfl ?_
              refine zr_iload C 6 rfl (zdec_at dm_X12_keep 41 rfl) ?_
              refine zr_sipush C (zdec_at dm_X12_keep 42 rfl) (by decide) ?_
              refine zr_irem C zz_a5 (by decide) ⟨o43, by decide⟩ (zdec_at dm_X12_keep 43 rfl) ?_
              refine zr_istore (L1 := [(7, zI (a5 % 1000)), (6, zI (a5 / 1000)), (0, zRf (zad Γ) 103), (1, zI a1), (2, zI a2), (3, zI a3), (4, zI a4), (5, zI a5)]) C (zdec_at dm_X12_keep 44 rfl) (Nat.le_of_ble_eq_true rfl) rfl ?_
              refine zr_iload C 1 rfl (zdec_at dm_X12_keep 45 rfl) ?_
              refine zr_aload_n C 2 rfl (zdec_at dm_X12_keep 46 rfl) rfl ?_
              refine zr_geti C fk_RX12_297 fi_103_38 (zdec_at dm_X12_keep 47 rfl) ?_
              refine zr_icmp_gt C (z_dz2 (a := a5) (b := 1000) ⟨o43, by decide⟩ zz_a5) (hR39 _ _) (zdec_at dm_X12_keep 48 rfl) rfl (fun g44 => ?_) (fun g44 => ?_)
              · have h := h.1 g44
                refine zr_iconst C (zdec_at dm_X12_keep 53 rfl) ?_
                exact zr_ireturn C rfl (zdec_at dm_X12_keep 54 rfl) rfl ⟨(by decide), h⟩
              · have h := h.2 g44
                refine zr_iload C 0 rfl (zdec_at dm_X12_keep 49 rfl) ?_
                refine zr_aload_n C 2 rfl (zdec_at dm_X12_keep 50 rfl) rfl ?_
                refine zr_geti C fk_RX12_297 fi_103_38 (zdec_at dm_X12_keep 51 rfl) ?_
                refine zr_icmp_le C (z_rz (a := a5) (b := 1000) ⟨o43, by decide⟩ (by decide)) (hR39 _ _) (zdec_at dm_X12_keep 52 rfl) rfl (fun g45 => ?_) (fun g45 => ?_)
                · have h := h.1 g45
                  refine zr_aload_n C 2 rfl (zdec_at dm_X12_keep 55 rfl) rfl ?_
                  refine zr_getr (q := 135) C fk_RX12_112 fi_103_66 (zdec_at dm_X12_keep 56 rfl) ?_
                  refine zr_iload_n C 3 rfl (zdec_at dm_X12_keep 57 rfl) rfl ?_
                  refine zr_iload_n C 5 rfl (zdec_at dm_X12_keep 58 rfl) rfl ?_
                  obtain ⟨o46, h⟩ := h
                  refine zr_iast C ai_135 o46 zz_a3 (zdec_at dm_X12_keep 59 rfl) (fun M47 e48 => ?_)
                  have h := h M47 e48
                  have hR49 : zRng M47 := by rw [e48]; exact hR39.set zz_a3 _ _
                  refine zr_aload_n C 2 rfl (zdec_at dm_X12_keep 60 rfl) rfl ?_
                  refine zr_getr (q := 136) C fk_RX12_115 fi_103_67 (zdec_at dm_X12_keep 61 rfl) ?_
                  refine zr_iload_n C 3 rfl (zdec_at dm_X12_keep 62 rfl) rfl ?_
                  refine zr_iload C 6 rfl (zdec_at dm_X12_keep 63 rfl) ?_
                  refine zr_iast C ai_136 o46 zz_a4 (zdec_at dm_X12_keep 64 rfl) (fun M50 e51 => ?_)
                  have h := h M50 e51
                  have hR52 : zRng M50 := by rw [e51]; exact hR49.set zz_a4 _ _
                  refine zr_aload_n C 2 rfl (zdec_at dm_X12_keep 65 rfl) rfl ?_
                  refine zr_getr (q := 119) C fk_RX12_63 fi_103_40 (zdec_at dm_X12_keep 66 rfl) ?_
                  refine zr_iload C 1 rfl (zdec_at dm_X12_keep 67 rfl) ?_
                  obtain ⟨o53, h⟩ := h
                  refine zr_iald C ai_119 o53 (zdec_at dm_X12_keep 68 rfl) ?_
                  refine zr_aload_n C 2 rfl (zdec_at dm_X12_keep 69 rfl) rfl ?_
                  refine zr_getr (q := 119) C fk_RX12_63 fi_103_40 (zdec_at dm_X12_keep 70 rfl) ?_
                  refine zr_iload C 0 rfl (zdec_at dm_X12_keep 71 rfl) ?_
                  obtain ⟨o54, h⟩ := h
                  refine zr_iald C ai_119 o54 (zdec_at dm_X12_keep 72 rfl) ?_
                  refine zr_isub C (zdec_at dm_X12_keep 73 rfl) ?_
                  refine zr_istore (L1 := [(8, zI ((M50 119 (a5 / 1000)) - (M50 119 (a5 % 1000)))), (7, zI (a5 % 1000)), (6, zI (a5 / 1000)), (0, zRf (zad Γ) 103), (1, zI a1), (2, zI a2), (3, zI a3), (4, zI a4), (5, zI a5)]) C (zdec_at dm_X12_keep 74 rfl) (Nat.le_of_ble_eq_true rfl) rfl ?_
                  refine zr_aload_n C 3 rfl (zdec_at dm_X12_keep 75 rfl) rfl ?_
                  refine zr_getr (q := 120) C fk_RX12_66 fi_103_41 (zdec_at dm_X12_keep 76 rfl) ?_
                  refine zr_iload C 2 rfl (zdec_at dm_X12_keep 77 rfl) ?_
                  refine zr_iald C ai_120 o53 (zdec_at dm_X12_keep 78 rfl) ?_
                  refine zr_aload_n C 3 rfl (zdec_at dm_X12_keep 79 rfl) rfl ?_
                  refine zr_getr (q := 120) C fk_RX12_66 fi_103_41 (zdec_at dm_X12_keep 80 rfl) ?_
                  refine zr_iload C 1 rfl (zdec_at dm_X12_keep 81 rfl) ?_
                  refine zr_iald C ai_120 o54 (zdec_at dm_X12_keep 82 rfl) ?_
                  refine zr_isub C (zdec_at dm_X12_keep 83 rfl) ?_
                  refine zr_istore (L1 := [(9, zI ((M50 120 (a5 / 1000)) - (M50 120 (a5 % 1000)))), (8, zI ((M50 119 (a5 / 1000)) - (M50 119 (a5 % 1000)))), (7, zI (a5 % 1000)), (6, zI (a5 / 1000)), (0, zRf (zad Γ) 103), (1, zI a1), (2, zI a2), (3, zI a3), (4, zI a4), (5, zI a5)]) C (zdec_at dm_X12_keep 84 rfl) (Nat.le_of_ble_eq_true rfl) rfl ?_
                  refine zr_aload_n C 4 rfl (zdec_at dm_X12_keep 85 rfl) rfl ?_
                  refine zr_getr (q := 137) C fk_RX12_118 fi_103_68 (zdec_at dm_X12_keep 86 rfl) ?_
                  refine zr_iload_n C 5 rfl (zdec_at dm_X12_keep 87 rfl) rfl ?_
                  refine zr_iload C 1 rfl (zdec_at dm_X12_keep 88 rfl) ?_
                  have h := h (fun v55 => zin v55 → zV Γ mu_X12_keep (145, 0, 0) 171 [(0, zRf (zad Γ) 103), (1, zI a1), (2, zI a2), (4, zI a4), (9, zI ((M50 120 (a5 / 1000)) - (M50 120 (a5 % 1000))))] [zI v55, zI a1, zRf (zad Γ) 137] M50) (fun v55 h z56 => by
                    have h := h z56
                    refine zr_iast C ai_137 o46 z56 (zdec_at dm_X12_keep 94 rfl) (fun M57 e58 => ?_)
                    have h := h M57 e58
                    have hR59 : zRng M57 := by rw [e58]; exact hR52.set z56 _ _
                    refine zr_aload_n C 0 rfl (zdec_at dm_X12_keep 95 rfl) rfl ?_
                    refine zr_getr (q := 138) C fk_RX12_121 fi_103_69 (zdec_at dm_X12_keep 96 rfl) ?_
                    refine zr_iload_n C 1 rfl (zdec_at dm_X12_keep 97 rfl) rfl ?_
                    refine zr_iload C 4 rfl (zdec_at dm_X12_keep 98 rfl) ?_
                    have h := h (fun v60 => zin v60 → zV Γ mu_X12_keep (145, 0, 0) 190 [(0, zRf (zad Γ) 103), (1, zI a1), (2, zI a2), (4, zI a4)] [zI v60, zI a1, zRf (zad Γ) 138] M57) (fun v60 h z61 => by
                      have h := h z61
                      refine zr_iast C ai_138 o46 z61 (zdec_at dm_X12_keep 104 rfl) (fun M62 e63 => ?_)
                      have h := h M62 e63
                      have hR64 : zRng M62 := by rw [e63]; exact hR59.set z61 _ _
                      refine zr_aload_n C 0 rfl (zdec_at dm_X12_keep 105 rfl) rfl ?_
                      refine zr_getr (q := 139) C fk_RX12_124 fi_103_70 (zdec_at dm_X12_keep 106 rfl) ?_
                      refine zr_iload_n C 1 rfl (zdec_at dm_X12_keep 107 rfl) rfl ?_
                      refine zr_aload_n C 0 rfl (zdec_at dm_X12_keep 108 rfl) rfl ?_
                      refine zr_iload C 3 rfl (zdec_at dm_X12_keep 109 rfl) ?_
                      obtain ⟨g70, h⟩ := h
                      refine zr_callV C [a4] hS_X12_greatestOf ck_RX12_291 iv_X12_greatestOf vc_X12 oc_103 rfl rfl (zdec_at dm_X12_keep 110 rfl) ⟨rfl, rfl, rfl, rfl⟩ ⟨by decide, by decide⟩ (Nat.le_of_ble_eq_true rfl) (zall_0 zz_a4 zall_n) ?_
                      refine ⟨_, rfl, g70, fun r65 M66 p69 z68 hR67 => ?_⟩
                      have h := h r65 M66 p69 z68 hR67
                      show zV Γ mu_X12_keep (145, 0, 0) 202 [(0, zRf (zad Γ) 103), (1, zI a1), (2, zI a2), (4, zI a4)] [zI r65, zI a1, zRf (zad Γ) 139] M66
                      refine zr_iast C ai_139 o46 z68 (zdec_at dm_X12_keep 111 rfl) (fun M71 e72 => ?_)
                      have h := h M71 e72
                      have hR73 : zRng M71 := by rw [e72]; exact hR67.set z68 _ _
                      refine zr_aload_n C 0 rfl (zdec_at dm_X12_keep 112 rfl) rfl ?_
                      refine zr_getr (q := 134) C fk_RX12_109 fi_103_65 (zdec_at dm_X12_keep 113 rfl) ?_
                      refine zr_iload_n C 1 rfl (zdec_at dm_X12_keep 114 rfl) rfl ?_
                      refine zr_iload_n C 2 rfl (zdec_at dm_X12_keep 115 rfl) rfl ?_
                      refine zr_iast C ai_134 o46 zz_a2 (zdec_at dm_X12_keep 116 rfl) (fun M74 e75 => ?_)
                      have h := h M74 e75
                      have hR76 : zRng M74 := by rw [e75]; exact hR73.set zz_a2 _ _
                      refine zr_iconst C (zdec_at dm_X12_keep 117 rfl) ?_
                      exact zr_ireturn C rfl (zdec_at dm_X12_keep 118 rfl) rfl ⟨(by decide), h⟩)
                    obtain ⟨o77, h⟩ := h
                    refine zr_if_ge C o77 (zdec_at dm_X12_keep 99 rfl) rfl (fun g78 => ?_) (fun g78 => ?_)
                    · have h := h.1 g78
                      refine zr_iload C 4 rfl (zdec_at dm_X12_keep 103 rfl) ?_
                      exact zr_sub [0, 1, 2, 3] rfl (h o77)
                    · have h := h.2 g78
                      refine zr_iload C 4 rfl (zdec_at dm_X12_keep 100 rfl) ?_
                      refine zr_ineg C (zdec_at dm_X12_keep 101 rfl) ?_
                      refine zr_goto C (zdec_at dm_X12_keep 102 rfl) rfl ?_
                      obtain ⟨o79, h⟩ := h
                      exact zr_sub [0, 1, 2, 3] rfl (h o79))
                  obtain ⟨o80, h⟩ := h
                  refine zr_if_ge C o80 (zdec_at dm_X12_keep 89 rfl) rfl (fun g81 => ?_) (fun g81 => ?_)
                  · have h := h.1 g81
                    refine zr_iload C 1 rfl (zdec_at dm_X12_keep 93 rfl) ?_
                    exact zr_sub [4, 5, 6, 8, 0] rfl (h o80)
                  · have h := h.2 g81
                    refine zr_iload C 1 rfl (zdec_at dm_X12_keep 90 rfl) ?_
                    refine zr_ineg C (zdec_at dm_X12_keep 91 rfl) ?_
                    refine zr_goto C (zdec_at dm_X12_keep 92 rfl) rfl ?_
                    obtain ⟨o82, h⟩ := h
                    exact zr_sub [4, 5, 6, 8, 0] rfl (h o82)
                · have h := h.2 g45
                  refine zr_iconst C (zdec_at dm_X12_keep 53 rfl) ?_
                  exact zr_ireturn C rfl (zdec_at dm_X12_keep 54 rfl) rfl ⟨(by decide), h⟩
            · have h := h.2 g37
              refine zr_iconst C (zdec_at dm_X12_keep 32 rfl) ?_
              exact zr_ireturn C rfl (zdec_at dm_X12_keep 33 rfl) rfl ⟨(by decide), h⟩
    · have h := h.2 g17
      refine zr_iconst C (zdec_at dm_X12_keep 15 rfl) ?_
      exact zr_ireturn C rfl (zdec_at dm_X12_keep 16 rfl) rfl ⟨(by decide), h⟩

set_option maxHeartbeats 400000 in
set_option maxRecDepth 100000 in
theorem sn_X12_row {pr_X12_in : Int → Int → Int → zM → Prop} {po_X12_in : Int → Int → Int → zM → Int → zM → Prop} (hS_X12_in : zSnd zS 145 0 0 yX12_in cX12_in 6 (some .boolean) 0 [1, 1, 1] (F_X12_in pr_X12_in po_X12_in)) : zSnd zS 145 0 0 yX12_row cX12_row 5 (some .int) 1 [2, 0, 0, 0] (fun xs P M => ∃ a1 a2 a3 : Int, xs = [103, a1, a2, a3] ∧ vc_X12_row pr_X12_in po_X12_in a1 a2 a3 P M) := by
  refine zSnd.of rfl (fun ad xs hz => Nat.le_trans (Nat.le_of_eq (zlen ad _ xs hz)) (by decide)) ?_
  intro Γ C _ _ xs M hz hF
  obtain ⟨a1, a2, a3, rfl, h⟩ := hF
  have zz_a1 := zall_h (zall_t hz) (by decide)
  have zz_a2 := zall_h (zall_t (zall_t hz)) (by decide)
  have zz_a3 := zall_h (zall_t (zall_t (zall_t hz))) (by decide)
  refine zr_rng (fun hR => ?_)
  have C : zC Γ mu_X12_row := C
  change zV Γ mu_X12_row (145, 0, 0) 0 [(0, zRf (zad Γ) 103), (1, zI a1), (2, zI a2), (3, zI a3)] [] M
  change vc_X12_row pr_X12_in po_X12_in a1 a2 a3 _ M at h
  unfold vc_X12_row at h
  refine zr_aload_n C 0 rfl (zdec_at dm_X12_row 0 rfl) rfl ?_
  refine zr_iconst C (zdec_at dm_X12_row 1 rfl) ?_
  refine zr_puti C fk_RX12_140 fi_103_0 (by decide) (zdec_at dm_X12_row 2 rfl) (fun M1 e2 => ?_)
  have h := h M1 e2
  have hR3 : zRng M1 := by rw [e2]; exact hR.set (by decide) _ _
  refine zr_iload_n C 1 rfl (zdec_at dm_X12_row 3 rfl) rfl ?_
  refine zr_i2l C zz_a1 (zdec_at dm_X12_row 4 rfl) ?_
  refine zr_lconst (v := 0) C (zdec_at dm_X12_row 5 rfl) rfl ?_
  refine zr_ldc2 C (zdec_at dm_X12_row 6 rfl) kc_RX12_194 ?_
  obtain ⟨g9, h⟩ := h
  refine zr_callS C [a1, 0, 7] hS_X12_in ck_RX12_156 sv_X12_in rfl rfl (zdec_at dm_X12_row 7 rfl) ⟨rfl, rfl, rfl, rfl⟩ ⟨by decide, by decide⟩ (Nat.le_of_ble_eq_true rfl) (zall_1 zz_a1 (zall_1 (by decide) (zall_1 (by decide) zall_n))) ?_
  refine ⟨_, _, _, rfl, g9, fun r4 M5 p8 z7 hR6 => ?_⟩
  have h := h r4 M5 p8 z7 hR6
  show zV Γ mu_X12_row (145, 0, 0) 14 [(0, zRf (zad Γ) 103), (1, zI a1), (2, zI a2), (3, zI a3)] [zI r4] M5
  refine zr_if_eq C z7 (zdec_at dm_X12_row 8 rfl) rfl (fun g10 => ?_) (fun g10 => ?_)
  · have h := h.1 g10
    refine zr_iconst C (zdec_at dm_X12_row 18 rfl) ?_
    exact zr_ireturn C rfl (zdec_at dm_X12_row 19 rfl) rfl ⟨(by decide), h⟩
  · have h := h.2 g10
    refine zr_iload_n C 2 rfl (zdec_at dm_X12_row 9 rfl) rfl ?_
    refine zr_i2l C zz_a2 (zdec_at dm_X12_row 10 rfl) ?_
    refine zr_lconst (v := 0) C (zdec_at dm_X12_row 11 rfl) rfl ?_
    refine zr_ldc2 C (zdec_at dm_X12_row 12 rfl) kc_RX12_362 ?_
    obtain ⟨g16, h⟩ := h
    refine zr_callS C [a2, 0, 2] hS_X12_in ck_RX12_156 sv_X12_in rfl rfl (zdec_at dm_X12_row 13 rfl) ⟨rfl, rfl, rfl, rfl⟩ ⟨by decide, by decide⟩ (Nat.le_of_ble_eq_true rfl) (zall_1 zz_a2 (zall_1 (by decide) (zall_1 (by decide) zall_n))) ?_
    refine ⟨_, _, _, rfl, g16, fun r11 M12 p15 z14 hR13 => ?_⟩
    have h := h r11 M12 p15 z14 hR13
    show zV Γ mu_X12_row (145, 0, 0) 26 [(0, zRf (zad Γ) 103), (1, zI a1), (2, zI a2), (3, zI a3)] [zI r11] M12
    refine zr_if_eq C z14 (zdec_at dm_X12_row 14 rfl) rfl (fun g17 => ?_) (fun g17 => ?_)
    · have h := h.1 g17
      refine zr_iconst C (zdec_at dm_X12_row 18 rfl) ?_
      exact zr_ireturn C rfl (zdec_at dm_X12_row 19 rfl) rfl ⟨(by decide), h⟩
    · have h := h.2 g17
      refine zr_iload_n C 3 rfl (zdec_at dm_X12_row 15 rfl) rfl ?_
      refine zr_bipush C (zdec_at dm_X12_row 16 rfl) (by decide) ?_
      refine zr_icmp_le C zz_a3 (by decide) (zdec_at dm_X12_row 17 rfl) rfl (fun g18 => ?_) (fun g18 => ?_)
      · have h := h.1 g18
        refine zr_iload_n C 3 rfl (zdec_at dm_X12_row 20 rfl) rfl ?_
        refine zr_if_ge C zz_a3 (zdec_at dm_X12_row 21 rfl) rfl (fun g19 => ?_) (fun g19 => ?_)
        · have h := h.1 g19
          refine zr_aload_n C 0 rfl (zdec_at dm_X12_row 24 rfl) rfl ?_
          refine zr_getr (q := 134) C fk_RX12_109 fi_103_65 (zdec_at dm_X12_row 25 rfl) ?_
          refine zr_iload_n C 1 rfl (zdec_at dm_X12_row 26 rfl) rfl ?_
          refine zr_iconst C (zdec_at dm_X12_row 27 rfl) ?_
          obtain ⟨o20, h⟩ := h
          refine zr_iast C ai_134 o20 (by decide) (zdec_at dm_X12_row 28 rfl) (fun M21 e22 => ?_)
          have h := h M21 e22
          have hR23 : zRng M21 := by rw [e22]; exact hR13.set (by decide) _ _
          refine zr_aload_n C 0 rfl (zdec_at dm_X12_row 29 rfl) rfl ?_
          refine zr_getr (q := 140) C fk_RX12_127 fi_103_71 (zdec_at dm_X12_row 30 rfl) ?_
          refine zr_iload_n C 1 rfl (zdec_at dm_X12_row 31 rfl) rfl ?_
          refine zr_iload_n C 2 rfl (zdec_at dm_X12_row 32 rfl) rfl ?_
          refine zr_iast C ai_140 o20 zz_a2 (zdec_at dm_X12_row 33 rfl) (fun M24 e25 => ?_)
          have h := h M24 e25
          have hR26 : zRng M24 := by rw [e25]; exact hR23.set zz_a2 _ _
          refine zr_aload_n C 0 rfl (zdec_at dm_X12_row 34 rfl) rfl ?_
          refine zr_getr (q := 141) C fk_RX12_130 fi_103_72 (zdec_at dm_X12_row 35 rfl) ?_
          refine zr_iload_n C 1 rfl (zdec_at dm_X12_row 36 rfl) rfl ?_
          refine zr_iload_n C 3 rfl (zdec_at dm_X12_row 37 rfl) rfl ?_
          refine zr_iast C ai_141 o20 zz_a3 (zdec_at dm_X12_row 38 rfl) (fun M27 e28 => ?_)
          have h := h M27 e28
          have hR29 : zRng M27 := by rw [e28]; exact hR26.set zz_a3 _ _
          refine zr_iconst C (zdec_at dm_X12_row 39 rfl) ?_
          refine zr_istore (L1 := [(4, zI 0), (0, zRf (zad Γ) 103), (1, zI a1), (2, zI a2), (3, zI a3)]) C (zdec_at dm_X12_row 40 rfl) (Nat.le_of_ble_eq_true rfl) rfl ?_
          obtain ⟨I68, ⟨n38, q39⟩, hI37⟩ := h
          have lp36 : ∀ (n34 : Nat) (v30 : Int) (M32 : zM), I68 v30 M32 n34 → zin v30 → zRng M32 → zV Γ mu_X12_row (145, 0, 0) 68 [(0, zRf (zad Γ) 103), (1, zI a1), (4, zI v30)] [] M32 := by
            intro n34
            induction n34 using Nat.strongRecOn with
            | _ n34 ih35 =>
            intro v30 M32 q40 z31 hR33
            have h := hI37 v30 M32 n34 q40 z31 hR33
            refine zr_iload C 2 rfl (zdec_at dm_X12_row 41 rfl) ?_
            refine zr_bipush C (zdec_at dm_X12_row 42 rfl) (by decide) ?_
            refine zr_icmp_ge C z31 (by decide) (zdec_at dm_X12_row 43 rfl) rfl (fun g41 => ?_) (fun g41 => ?_)
            · have h := h.1 g41
              refine zr_iconst C (zdec_at dm_X12_row 55 rfl) ?_
              exact zr_ireturn C rfl (zdec_at dm_X12_row 56 rfl) rfl ⟨(by decide), h⟩
            · have h := h.2 g41
              refine zr_aload_n C 0 rfl (zdec_at dm_X12_row 44 rfl) rfl ?_
              refine zr_getr (q := 142) C fk_RX12_133 fi_103_73 (zdec_at dm_X12_row 45 rfl) ?_
              refine zr_bipush C (zdec_at dm_X12_row 46 rfl) (by decide) ?_
              refine zr_iload_n C 1 rfl (zdec_at dm_X12_row 47 rfl) rfl ?_
              refine zr_imul C (zdec_at dm_X12_row 48 rfl) ?_
              refine zr_iload C 2 rfl (zdec_at dm_X12_row 49 rfl) ?_
              refine zr_iadd C (zdec_at dm_X12_row 50 rfl) ?_
              refine zr_lconst (v := 0) C (zdec_at dm_X12_row 51 rfl) rfl ?_
              obtain ⟨o42, h⟩ := h
              refine zr_last C ai_142 o42 (by decide) rfl (zdec_at dm_X12_row 52 rfl) (fun M43 e44 => ?_)
              have h := h M43 e44
              have hR45 : zRng M43 := by rw [e44]; exact hR33.set (by decide) _ _
              refine zr_iinc (L1 := [(4, zI (v30 + 1)), (0, zRf (zad Γ) 103), (1, zI a1)]) C 2 rfl (zdec_at dm_X12_row 53 rfl) (Nat.le_of_ble_eq_true rfl) rfl ?_
              refine zr_goto C (zdec_at dm_X12_row 54 rfl) rfl ?_
              obtain ⟨o46, h⟩ := h
              obtain ⟨n47, q48, q49⟩ := h
              exact zr_sub [1, 2, 0] rfl (ih35 n47 q48 _ _ q49 o46 hR45)
          exact zr_sub [1, 2, 0] rfl (lp36 n38 _ _ q39 (by decide) hR29)
        · have h := h.2 g19
          refine zr_bipush C (zdec_at dm_X12_row 22 rfl) (by decide) ?_
          exact zr_ireturn C rfl (zdec_at dm_X12_row 23 rfl) rfl ⟨(by decide), h⟩
      · have h := h.2 g18
        refine zr_iconst C (zdec_at dm_X12_row 18 rfl) ?_
        exact zr_ireturn C rfl (zdec_at dm_X12_row 19 rfl) rfl ⟨(by decide), h⟩

set_option maxHeartbeats 400000 in
set_option maxRecDepth 100000 in
theorem sn_X12_wrongRow {pr_X12_in : Int → Int → Int → zM → Prop} {po_X12_in : Int → Int → Int → zM → Int → zM → Prop} (hS_X12_in : zSnd zS 145 0 0 yX12_in cX12_in 6 (some .boolean) 0 [1, 1, 1] (F_X12_in pr_X12_in po_X12_in)) : zSnd zS 145 0 0 yX12_wrongRow cX12_wrongRow 2 (some .int) 1 [2, 0] (fun xs P M => ∃ a1 : Int, xs = [103, a1] ∧ vc_X12_wrongRow pr_X12_in po_X12_in a1 P M) := by
  refine zSnd.of rfl (fun ad xs hz => Nat.le_trans (Nat.le_of_eq (zlen ad _ xs hz)) (by decide)) ?_
  intro Γ C _ _ xs M hz hF
  obtain ⟨a1, rfl, h⟩ := hF
  have zz_a1 := zall_h (zall_t hz) (by decide)
  refine zr_rng (fun hR => ?_)
  have C : zC Γ mu_X12_wrongRow := C
  change zV Γ mu_X12_wrongRow (145, 0, 0) 0 [(0, zRf (zad Γ) 103), (1, zI a1)] [] M
  change vc_X12_wrongRow pr_X12_in po_X12_in a1 _ M at h
  unfold vc_X12_wrongRow at h
  refine zr_iload_n C 1 rfl (zdec_at dm_X12_wrongRow 0 rfl) rfl ?_
  refine zr_i2l C zz_a1 (zdec_at dm_X12_wrongRow 1 rfl) ?_
  refine zr_lconst (v := 0) C (zdec_at dm_X12_wrongRow 2 rfl) rfl ?_
  refine zr_ldc2 C (zdec_at dm_X12_wrongRow 3 rfl) kc_RX12_194 ?_
  obtain ⟨g6, h⟩ := h
  refine zr_callS C [a1, 0, 7] hS_X12_in ck_RX12_156 sv_X12_in rfl rfl (zdec_at dm_X12_wrongRow 4 rfl) ⟨rfl, rfl, rfl, rfl⟩ ⟨by decide, by decide⟩ (Nat.le_of_ble_eq_true rfl) (zall_1 zz_a1 (zall_1 (by decide) (zall_1 (by decide) zall_n))) ?_
  refine ⟨_, _, _, rfl, g6, fun r1 M2 p5 z4 hR3 => ?_⟩
  have h := h r1 M2 p5 z4 hR3
  show zV Γ mu_X12_wrongRow (145, 0, 0) 9 [(0, zRf (zad Γ) 103), (1, zI a1)] [zI r1] M2
  refine zr_if_ne C z4 (zdec_at dm_X12_wrongRow 5 rfl) rfl (fun g7 => ?_) (fun g7 => ?_)
  · have h := h.1 g7
    refine zr_aload_n C 0 rfl (zdec_at dm_X12_wrongRow 8 rfl) rfl ?_
    refine zr_getr (q := 134) C fk_RX12_109 fi_103_65 (zdec_at dm_X12_wrongRow 9 rfl) ?_
    refine zr_iload_n C 1 rfl (zdec_at dm_X12_wrongRow 10 rfl) rfl ?_
    obtain ⟨o8, h⟩ := h
    refine zr_iald C ai_134 o8 (zdec_at dm_X12_wrongRow 11 rfl) ?_
    refine zr_if_ne C (hR3 _ _) (zdec_at dm_X12_wrongRow 12 rfl) rfl (fun g9 => ?_) (fun g9 => ?_)
    · have h := h.1 g9
      refine zr_aload_n C 0 rfl (zdec_at dm_X12_wrongRow 15 rfl) rfl ?_
      refine zr_getr (q := 134) C fk_RX12_109 fi_103_65 (zdec_at dm_X12_wrongRow 16 rfl) ?_
      refine zr_iload_n C 1 rfl (zdec_at dm_X12_wrongRow 17 rfl) rfl ?_
      refine zr_iald C ai_134 o8 (zdec_at dm_X12_wrongRow 18 rfl) ?_
      refine zr_iconst C (zdec_at dm_X12_wrongRow 19 rfl) ?_
      refine zr_icmp_eq C (hR3 _ _) (by decide) (zdec_at dm_X12_wrongRow 20 rfl) rfl (fun g10 => ?_) (fun g10 => ?_)
      · have h := h.1 g10
        refine zr_iconst C (zdec_at dm_X12_wrongRow 23 rfl) ?_
        exact zr_ireturn C rfl (zdec_at dm_X12_wrongRow 24 rfl) rfl ⟨(by decide), h⟩
      · have h := h.2 g10
        refine zr_bipush C (zdec_at dm_X12_wrongRow 21 rfl) (by decide) ?_
        refine zr_goto C (zdec_at dm_X12_wrongRow 22 rfl) rfl ?_
        exact zr_ireturn C rfl (zdec_at dm_X12_wrongRow 24 rfl) rfl ⟨(by decide), h⟩
    · have h := h.2 g9
      refine zr_bipush C (zdec_at dm_X12_wrongRow 13 rfl) (by decide) ?_
      refine zr_goto C (zdec_at dm_X12_wrongRow 14 rfl) rfl ?_
      exact zr_ireturn C rfl (zdec_at dm_X12_wrongRow 24 rfl) rfl ⟨(by decide), h⟩
  · have h := h.2 g7
    refine zr_iconst C (zdec_at dm_X12_wrongRow 6 rfl) ?_
    refine zr_goto C (zdec_at dm_X12_wrongRow 7 rfl) rfl ?_
    exact zr_ireturn C rfl (zdec_at dm_X12_wrongRow 24 rfl) rfl ⟨(by decide), h⟩

set_option maxHeartbeats 400000 in
set_option maxRecDepth 100000 in
theorem sn_X12_narrowed : zSnd zS 145 0 0 yX12_narrowed cX12_narrowed 2 (some .long) 0 [0, 0] (fun xs P M => ∃ a0 a1 : Int, xs = [a0, a1] ∧ vc_X12_narrowed a0 a1 P M) := by
  refine zSnd.of rfl (fun ad xs hz => Nat.le_trans (Nat.le_of_eq (zlen ad _ xs hz)) (by decide)) ?_
  intro Γ C _ _ xs M hz hF
  obtain ⟨a0, a1, rfl, h⟩ := hF
  have zz_a0 := zall_h hz (by decide)
  have zz_a1 := zall_h (zall_t hz) (by decide)
  refine zr_rng (fun hR => ?_)
  have C : zC Γ mu_X12_narrowed := C
  change zV Γ mu_X12_narrowed (145, 0, 0) 0 [(0, zI a0), (1, zI a1)] [] M
  change vc_X12_narrowed a0 a1 _ M at h
  unfold vc_X12_narrowed at h
  refine zr_iload_n C 1 rfl (zdec_at dm_X12_narrowed 0 rfl) rfl ?_
  refine zr_if_ne C zz_a1 (zdec_at dm_X12_narrowed 1 rfl) rfl (fun g1 => ?_) (fun g1 => ?_)
  · have h := h.1 g1
    refine zr_iload_n C 1 rfl (zdec_at dm_X12_narrowed 6 rfl) rfl ?_
    refine zr_iconst C (zdec_at dm_X12_narrowed 7 rfl) ?_
    refine zr_icmp_ne C zz_a1 (by decide) (zdec_at dm_X12_narrowed 8 rfl) rfl (fun g2 => ?_) (fun g2 => ?_)
    · have h := h.1 g2
      refine zr_iload_n C 0 rfl (zdec_at dm_X12_narrowed 13 rfl) rfl ?_
      refine zr_i2l C zz_a0 (zdec_at dm_X12_narrowed 14 rfl) ?_
      exact zr_lreturn C rfl (zdec_at dm_X12_narrowed 15 rfl) rfl ⟨zz_a0, h⟩
    · have h := h.2 g2
      refine zr_iload_n C 0 rfl (zdec_at dm_X12_narrowed 9 rfl) rfl ?_
      refine zr_i2s C (zdec_at dm_X12_narrowed 10 rfl) ?_
      refine zr_i2l C (z_bm _ (by decide) (by decide)) (zdec_at dm_X12_narrowed 11 rfl) ?_
      refine zr_goto C (zdec_at dm_X12_narrowed 12 rfl) rfl ?_
      exact zr_lreturn C rfl (zdec_at dm_X12_narrowed 15 rfl) rfl ⟨(z_bm _ (by decide) (by decide)), h⟩
  · have h := h.2 g1
    refine zr_iload_n C 0 rfl (zdec_at dm_X12_narrowed 2 rfl) rfl ?_
    refine zr_i2b C (zdec_at dm_X12_narrowed 3 rfl) ?_
    refine zr_i2l C (z_bm _ (by decide) (by decide)) (zdec_at dm_X12_narrowed 4 rfl) ?_
    refine zr_goto C (zdec_at dm_X12_narrowed 5 rfl) rfl ?_
    exact zr_lreturn C rfl (zdec_at dm_X12_narrowed 15 rfl) rfl ⟨(z_bm _ (by decide) (by decide)), h⟩

set_option maxHeartbeats 400000 in
set_option maxRecDepth 100000 in
theorem sn_X12_put {pr_X12_wrongRow : Int → zM → Prop} {po_X12_wrongRow : Int → zM → Int → zM → Prop} {pr_X12_in : Int → Int → Int → zM → Prop} {po_X12_in : Int → Int → Int → zM → Int → zM → Prop} {pr_X12_narrowed : Int → Int → zM → Prop} {po_X12_narrowed : Int → Int → zM → Int → zM → Prop} (hS_X12_wrongRow : zSnd zS 145 0 0 yX12_wrongRow cX12_wrongRow 2 (some .int) 1 [2, 0] (F_X12_wrongRow pr_X12_wrongRow po_X12_wrongRow)) (hS_X12_in : zSnd zS 145 0 0 yX12_in cX12_in 6 (some .boolean) 0 [1, 1, 1] (F_X12_in pr_X12_in po_X12_in)) (hS_X12_narrowed : zSnd zS 145 0 0 yX12_narrowed cX12_narrowed 2 (some .long) 0 [0, 0] (F_X12_narrowed pr_X12_narrowed po_X12_narrowed)) : zSnd zS 145 0 0 yX12_put cX12_put 5 (some .int) 2 [2, 0, 0, 0] (fun xs P M => ∃ a1 a2 a3 : Int, xs = [103, a1, a2, a3] ∧ vc_X12_put pr_X12_wrongRow po_X12_wrongRow pr_X12_in po_X12_in pr_X12_narrowed po_X12_narrowed a1 a2 a3 P M) := by
  refine zSnd.of rfl (fun ad xs hz => Nat.le_trans (Nat.le_of_eq (zlen ad _ xs hz)) (by decide)) ?_
  intro Γ C _ _ xs M hz hF
  obtain ⟨a1, a2, a3, rfl, h⟩ := hF
  have zz_a1 := zall_h (zall_t hz) (by decide)
  have zz_a2 := zall_h (zall_t (zall_t hz)) (by decide)
  have zz_a3 := zall_h (zall_t (zall_t (zall_t hz))) (by decide)
  refine zr_rng (fun hR => ?_)
  have C : zC Γ mu_X12_put := C
  change zV Γ mu_X12_put (145, 0, 0) 0 [(0, zRf (zad Γ) 103), (1, zI a1), (2, zI a2), (3, zI a3)] [] M
  change vc_X12_put pr_X12_wrongRow po_X12_wrongRow pr_X12_in po_X12_in pr_X12_narrowed po_X12_narrowed a1 a2 a3 _ M at h
  unfold vc_X12_put at h
  refine zr_aload_n C 0 rfl (zdec_at dm_X12_put 0 rfl) rfl ?_
  refine zr_iconst C (zdec_at dm_X12_put 1 rfl) ?_
  refine zr_puti C fk_RX12_140 fi_103_0 (by decide) (zdec_at dm_X12_put 2 rfl) (fun M1 e2 => ?_)
  have h := h M1 e2
  have hR3 : zRng M1 := by rw [e2]; exact hR.set (by decide) _ _
  refine zr_aload_n C 0 rfl (zdec_at dm_X12_put 3 rfl) rfl ?_
  refine zr_iload_n C 1 rfl (zdec_at dm_X12_put 4 rfl) rfl ?_
  obtain ⟨g9, h⟩ := h
  refine zr_callV C [a1] hS_X12_wrongRow ck_RX12_496 iv_X12_wrongRow vc_X12 oc_103 rfl rfl (zdec_at dm_X12_put 5 rfl) ⟨rfl, rfl, rfl, rfl⟩ ⟨by decide, by decide⟩ (Nat.le_of_ble_eq_true rfl) (zall_0 zz_a1 zall_n) ?_
  refine ⟨_, rfl, g9, fun r4 M5 p8 z7 hR6 => ?_⟩
  have h := h r4 M5 p8 z7 hR6
  show zV Γ mu_X12_put (145, 0, 0) 10 [(0, zRf (zad Γ) 103), (1, zI a1), (2, zI a2), (3, zI a3)] [zI r4] M5
  refine zr_istore (L1 := [(4, zI r4), (0, zRf (zad Γ) 103), (1, zI a1), (2, zI a2), (3, zI a3)]) C (zdec_at dm_X12_put 6 rfl) (Nat.le_of_ble_eq_true rfl) rfl ?_
  refine zr_iload C 0 rfl (zdec_at dm_X12_put 7 rfl) ?_
  refine zr_if_ge C z7 (zdec_at dm_X12_put 8 rfl) rfl (fun g10 => ?_) (fun g10 => ?_)
  · have h := h.1 g10
    refine zr_iload_n C 3 rfl (zdec_at dm_X12_put 11 rfl) rfl ?_
    refine zr_i2l C zz_a2 (zdec_at dm_X12_put 12 rfl) ?_
    refine zr_lconst (v := 0) C (zdec_at dm_X12_put 13 rfl) rfl ?_
    refine zr_aload_n C 1 rfl (zdec_at dm_X12_put 14 rfl) rfl ?_
    refine zr_getr (q := 141) C fk_RX12_130 fi_103_72 (zdec_at dm_X12_put 15 rfl) ?_
    refine zr_iload_n C 2 rfl (zdec_at dm_X12_put 16 rfl) rfl ?_
    obtain ⟨o11, h⟩ := h
    refine zr_iald C ai_141 o11 (zdec_at dm_X12_put 17 rfl) ?_
    refine zr_iconst C (zdec_at dm_X12_put 18 rfl) ?_
    refine zr_isub C (zdec_at dm_X12_put 19 rfl) ?_
    obtain ⟨o12, h⟩ := h
    refine zr_i2l C o12 (zdec_at dm_X12_put 20 rfl) ?_
    obtain ⟨g18, h⟩ := h
    refine zr_callS C [a2, 0, ((M5 141 a1) - 1)] hS_X12_in ck_RX12_156 sv_X12_in rfl rfl (zdec_at dm_X12_put 21 rfl) ⟨rfl, rfl, rfl, rfl⟩ ⟨by decide, by decide⟩ (Nat.le_of_ble_eq_true rfl) (zall_1 zz_a2 (zall_1 (by decide) (zall_1 o12 zall_n))) ?_
    refine ⟨_, _, _, rfl, g18, fun r13 M14 p17 z16 hR15 => ?_⟩
    have h := h r13 M14 p17 z16 hR15
    show zV Γ mu_X12_put (145, 0, 0) 35 [(4, zI r4), (0, zRf (zad Γ) 103), (1, zI a1), (2, zI a2), (3, zI a3)] [zI r13] M14
    refine zr_if_ne C z16 (zdec_at dm_X12_put 22 rfl) rfl (fun g19 => ?_) (fun g19 => ?_)
    · have h := h.1 g19
      refine zr_aload_n C 1 rfl (zdec_at dm_X12_put 25 rfl) rfl ?_
      refine zr_getr (q := 142) C fk_RX12_133 fi_103_73 (zdec_at dm_X12_put 26 rfl) ?_
      refine zr_bipush C (zdec_at dm_X12_put 27 rfl) (by decide) ?_
      refine zr_iload_n C 2 rfl (zdec_at dm_X12_put 28 rfl) rfl ?_
      refine zr_imul C (zdec_at dm_X12_put 29 rfl) ?_
      refine zr_iload_n C 3 rfl (zdec_at dm_X12_put 30 rfl) rfl ?_
      refine zr_iadd C (zdec_at dm_X12_put 31 rfl) ?_
      refine zr_iload_n C 4 rfl (zdec_at dm_X12_put 32 rfl) rfl ?_
      refine zr_aload_n C 1 rfl (zdec_at dm_X12_put 33 rfl) rfl ?_
      refine zr_getr (q := 140) C fk_RX12_127 fi_103_71 (zdec_at dm_X12_put 34 rfl) ?_
      refine zr_iload_n C 2 rfl (zdec_at dm_X12_put 35 rfl) rfl ?_
      refine zr_iald C ai_140 o11 (zdec_at dm_X12_put 36 rfl) ?_
      obtain ⟨g25, h⟩ := h
      refine zr_callS C [a3, (M14 140 a1)] hS_X12_narrowed ck_RX12_499 sv_X12_narrowed rfl rfl (zdec_at dm_X12_put 37 rfl) ⟨rfl, rfl, rfl, rfl⟩ ⟨by decide, by decide⟩ (Nat.le_of_ble_eq_true rfl) (zall_0 zz_a3 (zall_0 (hR15 _ _) zall_n)) ?_
      refine ⟨_, _, rfl, g25, fun r20 M21 p24 z23 hR22 => ?_⟩
      have h := h r20 M21 p24 z23 hR22
      show zV Γ mu_X12_put (145, 0, 0) 61 [(4, zI r4), (0, zRf (zad Γ) 103), (1, zI a1), (2, zI a2), (3, zI a3)] [zJ r20, zI ((120 * a1) + a2), zRf (zad Γ) 142] M21
      obtain ⟨o26, h⟩ := h
      refine zr_last C ai_142 o26 z23 rfl (zdec_at dm_X12_put 38 rfl) (fun M27 e28 => ?_)
      have h := h M27 e28
      have hR29 : zRng M27 := by rw [e28]; exact hR22.set z23 _ _
      refine zr_iconst C (zdec_at dm_X12_put 39 rfl) ?_
      exact zr_ireturn C rfl (zdec_at dm_X12_put 40 rfl) rfl ⟨(by decide), h⟩
    · have h := h.2 g19
      refine zr_bipush C (zdec_at dm_X12_put 23 rfl) (by decide) ?_
      exact zr_ireturn C rfl (zdec_at dm_X12_put 24 rfl) rfl ⟨(by decide), h⟩
  · have h := h.2 g10
    refine zr_iload C 0 rfl (zdec_at dm_X12_put 9 rfl) ?_
    exact zr_ireturn C rfl (zdec_at dm_X12_put 10 rfl) rfl ⟨z7, h⟩

set_option maxHeartbeats 400000 in
set_option maxRecDepth 100000 in
theorem sn_X12_element {pr_X12_wrongRow : Int → zM → Prop} {po_X12_wrongRow : Int → zM → Int → zM → Prop} {pr_X12_in : Int → Int → Int → zM → Prop} {po_X12_in : Int → Int → Int → zM → Int → zM → Prop} (hS_X12_wrongRow : zSnd zS 145 0 0 yX12_wrongRow cX12_wrongRow 2 (some .int) 1 [2, 0] (F_X12_wrongRow pr_X12_wrongRow po_X12_wrongRow)) (hS_X12_in : zSnd zS 145 0 0 yX12_in cX12_in 6 (some .boolean) 0 [1, 1, 1] (F_X12_in pr_X12_in po_X12_in)) : zSnd zS 145 0 0 yX12_element cX12_element 4 (some .long) 2 [2, 0, 0] (fun xs P M => ∃ a1 a2 : Int, xs = [103, a1, a2] ∧ vc_X12_element pr_X12_wrongRow po_X12_wrongRow pr_X12_in po_X12_in a1 a2 P M) := by
  refine zSnd.of rfl (fun ad xs hz => Nat.le_trans (Nat.le_of_eq (zlen ad _ xs hz)) (by decide)) ?_
  intro Γ C _ _ xs M hz hF
  obtain ⟨a1, a2, rfl, h⟩ := hF
  have zz_a1 := zall_h (zall_t hz) (by decide)
  have zz_a2 := zall_h (zall_t (zall_t hz)) (by decide)
  refine zr_rng (fun hR => ?_)
  have C : zC Γ mu_X12_element := C
  change zV Γ mu_X12_element (145, 0, 0) 0 [(0, zRf (zad Γ) 103), (1, zI a1), (2, zI a2)] [] M
  change vc_X12_element pr_X12_wrongRow po_X12_wrongRow pr_X12_in po_X12_in a1 a2 _ M at h
  unfold vc_X12_element at h
  refine zr_aload_n C 0 rfl (zdec_at dm_X12_element 0 rfl) rfl ?_
  refine zr_iload_n C 1 rfl (zdec_at dm_X12_element 1 rfl) rfl ?_
  obtain ⟨g6, h⟩ := h
  refine zr_callV C [a1] hS_X12_wrongRow ck_RX12_496 iv_X12_wrongRow vc_X12 oc_103 rfl rfl (zdec_at dm_X12_element 2 rfl) ⟨rfl, rfl, rfl, rfl⟩ ⟨by decide, by decide⟩ (Nat.le_of_ble_eq_true rfl) (zall_0 zz_a1 zall_n) ?_
  refine ⟨_, rfl, g6, fun r1 M2 p5 z4 hR3 => ?_⟩
  have h := h r1 M2 p5 z4 hR3
  show zV Γ mu_X12_element (145, 0, 0) 5 [(0, zRf (zad Γ) 103), (1, zI a1), (2, zI a2)] [zI r1] M2
  refine zr_istore_n (L1 := [(3, zI r1), (0, zRf (zad Γ) 103), (1, zI a1), (2, zI a2)]) C (zdec_at dm_X12_element 3 rfl) rfl (Nat.le_of_ble_eq_true rfl) rfl ?_
  refine zr_aload_n C 1 rfl (zdec_at dm_X12_element 4 rfl) rfl ?_
  refine zr_iload_n C 0 rfl (zdec_at dm_X12_element 5 rfl) rfl ?_
  refine zr_iconst C (zdec_at dm_X12_element 6 rfl) ?_
  have h := h (fun v7 M9 => zin v7 → zRng M9 → zV Γ mu_X12_element (145, 0, 0) 43 [(0, zRf (zad Γ) 103), (1, zI a1), (2, zI a2)] [zI v7, zRf (zad Γ) 103] M9) (fun v7 M9 h z8 hR10 => by
    have h := h z8 hR10
    refine zr_puti C fk_RX12_140 fi_103_0 z8 (zdec_at dm_X12_element 27 rfl) (fun M11 e12 => ?_)
    have h := h M11 e12
    have hR13 : zRng M11 := by rw [e12]; exact hR10.set z8 _ _
    refine zr_aload_n C 0 rfl (zdec_at dm_X12_element 28 rfl) rfl ?_
    refine zr_geti C fk_RX12_140 fi_103_0 (zdec_at dm_X12_element 29 rfl) ?_
    refine zr_if_le C (hR13 _ _) (zdec_at dm_X12_element 30 rfl) rfl (fun g14 => ?_) (fun g14 => ?_)
    · have h := h.1 g14
      refine zr_aload_n C 0 rfl (zdec_at dm_X12_element 33 rfl) rfl ?_
      refine zr_getr (q := 142) C fk_RX12_133 fi_103_73 (zdec_at dm_X12_element 34 rfl) ?_
      refine zr_bipush C (zdec_at dm_X12_element 35 rfl) (by decide) ?_
      refine zr_iload_n C 1 rfl (zdec_at dm_X12_element 36 rfl) rfl ?_
      refine zr_imul C (zdec_at dm_X12_element 37 rfl) ?_
      refine zr_iload_n C 2 rfl (zdec_at dm_X12_element 38 rfl) rfl ?_
      refine zr_iadd C (zdec_at dm_X12_element 39 rfl) ?_
      obtain ⟨o15, h⟩ := h
      refine zr_lald C ai_142 o15 (zdec_at dm_X12_element 40 rfl) ?_
      exact zr_lreturn C rfl (zdec_at dm_X12_element 41 rfl) rfl ⟨(hR13 _ _), h⟩
    · have h := h.2 g14
      refine zr_lconst (v := 0) C (zdec_at dm_X12_element 31 rfl) rfl ?_
      refine zr_goto C (zdec_at dm_X12_element 32 rfl) rfl ?_
      exact zr_lreturn C rfl (zdec_at dm_X12_element 41 rfl) rfl ⟨(by decide), h⟩)
  refine zr_icmp_ne C z4 (by decide) (zdec_at dm_X12_element 7 rfl) rfl (fun g16 => ?_) (fun g16 => ?_)
  · have h := h.1 g16
    refine zr_iload_n C 0 rfl (zdec_at dm_X12_element 10 rfl) rfl ?_
    have h := h (fun M17 => zRng M17 → zV Γ mu_X12_element (145, 0, 0) 38 [(0, zRf (zad Γ) 103), (1, zI a1), (2, zI a2)] [zRf (zad Γ) 103] M17) (fun M17 h hR18 => by
      have h := h hR18
      refine zr_iconst C (zdec_at dm_X12_element 24 rfl) ?_
      refine zr_goto C (zdec_at dm_X12_element 25 rfl) rfl ?_
      exact zr_sub [0, 1, 2] rfl (h (by decide) hR18))
    refine zr_if_lt C z4 (zdec_at dm_X12_element 11 rfl) rfl (fun g19 => ?_) (fun g19 => ?_)
    · have h := h.1 g19
      exact zr_sub [1, 2, 3] rfl (h hR3)
    · have h := h.2 g19
      refine zr_iload_n C 3 rfl (zdec_at dm_X12_element 12 rfl) rfl ?_
      refine zr_i2l C zz_a2 (zdec_at dm_X12_element 13 rfl) ?_
      refine zr_lconst (v := 0) C (zdec_at dm_X12_element 14 rfl) rfl ?_
      refine zr_aload_n C 1 rfl (zdec_at dm_X12_element 15 rfl) rfl ?_
      refine zr_getr (q := 141) C fk_RX12_130 fi_103_72 (zdec_at dm_X12_element 16 rfl) ?_
      refine zr_iload_n C 2 rfl (zdec_at dm_X12_element 17 rfl) rfl ?_
      obtain ⟨o20, h⟩ := h
      refine zr_iald C ai_141 o20 (zdec_at dm_X12_element 18 rfl) ?_
      refine zr_iconst C (zdec_at dm_X12_element 19 rfl) ?_
      refine zr_isub C (zdec_at dm_X12_element 20 rfl) ?_
      obtain ⟨o21, h⟩ := h
      refine zr_i2l C o21 (zdec_at dm_X12_element 21 rfl) ?_
      obtain ⟨g27, h⟩ := h
      refine zr_callS C [a2, 0, ((M2 141 a1) - 1)] hS_X12_in ck_RX12_156 sv_X12_in rfl rfl (zdec_at dm_X12_element 22 rfl) ⟨rfl, rfl, rfl, rfl⟩ ⟨by decide, by decide⟩ (Nat.le_of_ble_eq_true rfl) (zall_1 zz_a2 (zall_1 (by decide) (zall_1 o21 zall_n))) ?_
      refine ⟨_, _, _, rfl, g27, fun r22 M23 p26 z25 hR24 => ?_⟩
      have h := h r22 M23 p26 z25 hR24
      show zV Γ mu_X12_element (145, 0, 0) 35 [(3, zI r1), (0, zRf (zad Γ) 103), (1, zI a1), (2, zI a2)] [zI r22, zRf (zad Γ) 103] M23
      refine zr_if_ne C z25 (zdec_at dm_X12_element 23 rfl) rfl (fun g28 => ?_) (fun g28 => ?_)
      · have h := h.1 g28
        refine zr_iconst C (zdec_at dm_X12_element 26 rfl) ?_
        exact zr_sub [1, 2, 3] rfl (h (by decide) hR24)
      · have h := h.2 g28
        exact zr_sub [1, 2, 3] rfl (h hR24)
  · have h := h.2 g16
    refine zr_iconst C (zdec_at dm_X12_element 8 rfl) ?_
    refine zr_goto C (zdec_at dm_X12_element 9 rfl) rfl ?_
    exact zr_sub [1, 2, 3] rfl (h (by decide) hR3)

set_option maxHeartbeats 400000 in
set_option maxRecDepth 100000 in
theorem sn_X12_copy {pr_X12_in : Int → Int → Int → zM → Prop} {po_X12_in : Int → Int → Int → zM → Int → zM → Prop} (hS_X12_in : zSnd zS 145 0 0 yX12_in cX12_in 6 (some .boolean) 0 [1, 1, 1] (F_X12_in pr_X12_in po_X12_in)) : zSnd zS 145 0 0 yX12_copy cX12_copy 7 (some .int) 1 [2, 0, 0, 0, 0, 0] (fun xs P M => ∃ a1 a2 a3 a4 a5 : Int, xs = [103, a1, a2, a3, a4, a5] ∧ vc_X12_copy pr_X12_in po_X12_in a1 a2 a3 a4 a5 P M) := by
  refine zSnd.of rfl (fun ad xs hz => Nat.le_trans (Nat.le_of_eq (zlen ad _ xs hz)) (by decide)) ?_
  intro Γ C _ _ xs M hz hF
  obtain ⟨a1, a2, a3, a4, a5, rfl, h⟩ := hF
  have zz_a1 := zall_h (zall_t hz) (by decide)
  have zz_a2 := zall_h (zall_t (zall_t hz)) (by decide)
  have zz_a3 := zall_h (zall_t (zall_t (zall_t hz))) (by decide)
  have zz_a4 := zall_h (zall_t (zall_t (zall_t (zall_t hz)))) (by decide)
  have zz_a5 := zall_h (zall_t (zall_t (zall_t (zall_t (zall_t hz))))) (by decide)
  refine zr_rng (fun hR => ?_)
  have C : zC Γ mu_X12_copy := C
  change zV Γ mu_X12_copy (145, 0, 0) 0 [(0, zRf (zad Γ) 103), (1, zI a1), (2, zI a2), (3, zI a3), (4, zI a4), (5, zI a5)] [] M
  change vc_X12_copy pr_X12_in po_X12_in a1 a2 a3 a4 a5 _ M at h
  unfold vc_X12_copy at h
  refine zr_aload_n C 0 rfl (zdec_at dm_X12_copy 0 rfl) rfl ?_
  refine zr_iconst C (zdec_at dm_X12_copy 1 rfl) ?_
  refine zr_puti C fk_RX12_140 fi_103_0 (by decide) (zdec_at dm_X12_copy 2 rfl) (fun M1 e2 => ?_)
  have h := h M1 e2
  have hR3 : zRng M1 := by rw [e2]; exact hR.set (by decide) _ _
  refine zr_iload_n C 1 rfl (zdec_at dm_X12_copy 3 rfl) rfl ?_
  refine zr_i2l C zz_a1 (zdec_at dm_X12_copy 4 rfl) ?_
  refine zr_lconst (v := 0) C (zdec_at dm_X12_copy 5 rfl) rfl ?_
  refine zr_ldc2 C (zdec_at dm_X12_copy 6 rfl) kc_RX12_194 ?_
  obtain ⟨g9, h⟩ := h
  refine zr_callS C [a1, 0, 7] hS_X12_in ck_RX12_156 sv_X12_in rfl rfl (zdec_at dm_X12_copy 7 rfl) ⟨rfl, rfl, rfl, rfl⟩ ⟨by decide, by decide⟩ (Nat.le_of_ble_eq_true rfl) (zall_1 zz_a1 (zall_1 (by decide) (zall_1 (by decide) zall_n))) ?_
  refine ⟨_, _, _, rfl, g9, fun r4 M5 p8 z7 hR6 => ?_⟩
  have h := h r4 M5 p8 z7 hR6
  show zV Γ mu_X12_copy (145, 0, 0) 14 [(0, zRf (zad Γ) 103), (1, zI a1), (2, zI a2), (3, zI a3), (4, zI a4), (5, zI a5)] [zI r4] M5
  refine zr_if_eq C z7 (zdec_at dm_X12_copy 8 rfl) rfl (fun g10 => ?_) (fun g10 => ?_)
  · have h := h.1 g10
    refine zr_iconst C (zdec_at dm_X12_copy 15 rfl) ?_
    exact zr_ireturn C rfl (zdec_at dm_X12_copy 16 rfl) rfl ⟨(by decide), h⟩
  · have h := h.2 g10
    refine zr_iload_n C 3 rfl (zdec_at dm_X12_copy 9 rfl) rfl ?_
    refine zr_i2l C zz_a3 (zdec_at dm_X12_copy 10 rfl) ?_
    refine zr_lconst (v := 0) C (zdec_at dm_X12_copy 11 rfl) rfl ?_
    refine zr_ldc2 C (zdec_at dm_X12_copy 12 rfl) kc_RX12_194 ?_
    obtain ⟨g16, h⟩ := h
    refine zr_callS C [a3, 0, 7] hS_X12_in ck_RX12_156 sv_X12_in rfl rfl (zdec_at dm_X12_copy 13 rfl) ⟨rfl, rfl, rfl, rfl⟩ ⟨by decide, by decide⟩ (Nat.le_of_ble_eq_true rfl) (zall_1 zz_a3 (zall_1 (by decide) (zall_1 (by decide) zall_n))) ?_
    refine ⟨_, _, _, rfl, g16, fun r11 M12 p15 z14 hR13 => ?_⟩
    have h := h r11 M12 p15 z14 hR13
    show zV Γ mu_X12_copy (145, 0, 0) 26 [(0, zRf (zad Γ) 103), (1, zI a1), (2, zI a2), (3, zI a3), (4, zI a4), (5, zI a5)] [zI r11] M12
    refine zr_if_ne C z14 (zdec_at dm_X12_copy 14 rfl) rfl (fun g17 => ?_) (fun g17 => ?_)
    · have h := h.1 g17
      refine zr_aload_n C 0 rfl (zdec_at dm_X12_copy 17 rfl) rfl ?_
      refine zr_getr (q := 134) C fk_RX12_109 fi_103_65 (zdec_at dm_X12_copy 18 rfl) ?_
      refine zr_iload_n C 1 rfl (zdec_at dm_X12_copy 19 rfl) rfl ?_
      obtain ⟨o18, h⟩ := h
      refine zr_iald C ai_134 o18 (zdec_at dm_X12_copy 20 rfl) ?_
      refine zr_if_eq C (hR13 _ _) (zdec_at dm_X12_copy 21 rfl) rfl (fun g19 => ?_) (fun g19 => ?_)
      · have h := h.1 g19
        refine zr_bipush C (zdec_at dm_X12_copy 27 rfl) (by decide) ?_
        exact zr_ireturn C rfl (zdec_at dm_X12_copy 28 rfl) rfl ⟨(by decide), h⟩
      · have h := h.2 g19
        refine zr_aload_n C 0 rfl (zdec_at dm_X12_copy 22 rfl) rfl ?_
        refine zr_getr (q := 134) C fk_RX12_109 fi_103_65 (zdec_at dm_X12_copy 23 rfl) ?_
        refine zr_iload_n C 3 rfl (zdec_at dm_X12_copy 24 rfl) rfl ?_
        obtain ⟨o20, h⟩ := h
        refine zr_iald C ai_134 o20 (zdec_at dm_X12_copy 25 rfl) ?_
        refine zr_if_ne C (hR13 _ _) (zdec_at dm_X12_copy 26 rfl) rfl (fun g21 => ?_) (fun g21 => ?_)
        · have h := h.1 g21
          refine zr_aload_n C 0 rfl (zdec_at dm_X12_copy 29 rfl) rfl ?_
          refine zr_getr (q := 134) C fk_RX12_109 fi_103_65 (zdec_at dm_X12_copy 30 rfl) ?_
          refine zr_iload_n C 1 rfl (zdec_at dm_X12_copy 31 rfl) rfl ?_
          refine zr_iald C ai_134 o18 (zdec_at dm_X12_copy 32 rfl) ?_
          refine zr_iconst C (zdec_at dm_X12_copy 33 rfl) ?_
          refine zr_icmp_ne C (hR13 _ _) (by decide) (zdec_at dm_X12_copy 34 rfl) rfl (fun g22 => ?_) (fun g22 => ?_)
          · have h := h.1 g22
            refine zr_bipush C (zdec_at dm_X12_copy 50 rfl) (by decide) ?_
            exact zr_ireturn C rfl (zdec_at dm_X12_copy 51 rfl) rfl ⟨(by decide), h⟩
          · have h := h.2 g22
            refine zr_aload_n C 0 rfl (zdec_at dm_X12_copy 35 rfl) rfl ?_
            refine zr_getr (q := 134) C fk_RX12_109 fi_103_65 (zdec_at dm_X12_copy 36 rfl) ?_
            refine zr_iload_n C 3 rfl (zdec_at dm_X12_copy 37 rfl) rfl ?_
            refine zr_iald C ai_134 o20 (zdec_at dm_X12_copy 38 rfl) ?_
            refine zr_iconst C (zdec_at dm_X12_copy 39 rfl) ?_
            refine zr_icmp_ne C (hR13 _ _) (by decide) (zdec_at dm_X12_copy 40 rfl) rfl (fun g23 => ?_) (fun g23 => ?_)
            · have h := h.1 g23
              refine zr_bipush C (zdec_at dm_X12_copy 50 rfl) (by decide) ?_
              exact zr_ireturn C rfl (zdec_at dm_X12_copy 51 rfl) rfl ⟨(by decide), h⟩
            · have h := h.2 g23
              refine zr_aload_n C 0 rfl (zdec_at dm_X12_copy 41 rfl) rfl ?_
              refine zr_getr (q := 140) C fk_RX12_127 fi_103_71 (zdec_at dm_X12_copy 42 rfl) ?_
              refine zr_iload_n C 1 rfl (zdec_at dm_X12_copy 43 rfl) rfl ?_
              refine zr_iald C ai_140 o18 (zdec_at dm_X12_copy 44 rfl) ?_
              refine zr_aload_n C 0 rfl (zdec_at dm_X12_copy 45 rfl) rfl ?_
              refine zr_getr (q := 140) C fk_RX12_127 fi_103_71 (zdec_at dm_X12_copy 46 rfl) ?_
              refine zr_iload_n C 3 rfl (zdec_at dm_X12_copy 47 rfl) rfl ?_
              refine zr_iald C ai_140 o20 (zdec_at dm_X12_copy 48 rfl) ?_
              refine zr_icmp_eq C (hR13 _ _) (hR13 _ _) (zdec_at dm_X12_copy 49 rfl) rfl (fun g24 => ?_) (fun g24 => ?_)
              · have h := h.1 g24
                refine zr_iload C 5 rfl (zdec_at dm_X12_copy 52 rfl) ?_
                refine zr_if_lt C zz_a5 (zdec_at dm_X12_copy 53 rfl) rfl (fun g25 => ?_) (fun g25 => ?_)
                · have h := h.1 g25
                  refine zr_bipush C (zdec_at dm_X12_copy 74 rfl) (by decide) ?_
                  exact zr_ireturn C rfl (zdec_at dm_X12_copy 75 rfl) rfl ⟨(by decide), h⟩
                · have h := h.2 g25
                  refine zr_iload_n C 2 rfl (zdec_at dm_X12_copy 54 rfl) rfl ?_
                  refine zr_if_lt C zz_a2 (zdec_at dm_X12_copy 55 rfl) rfl (fun g26 => ?_) (fun g26 => ?_)
                  · have h := h.1 g26
                    refine zr_bipush C (zdec_at dm_X12_copy 74 rfl) (by decide) ?_
                    exact zr_ireturn C rfl (zdec_at dm_X12_copy 75 rfl) rfl ⟨(by decide), h⟩
                  · have h := h.2 g26
                    refine zr_iload C 4 rfl (zdec_at dm_X12_copy 56 rfl) ?_
                    refine zr_if_lt C zz_a4 (zdec_at dm_X12_copy 57 rfl) rfl (fun g27 => ?_) (fun g27 => ?_)
                    · have h := h.1 g27
                      refine zr_bipush C (zdec_at dm_X12_copy 74 rfl) (by decide) ?_
                      exact zr_ireturn C rfl (zdec_at dm_X12_copy 75 rfl) rfl ⟨(by decide), h⟩
                    · have h := h.2 g27
                      refine zr_iload_n C 2 rfl (zdec_at dm_X12_copy 58 rfl) rfl ?_
                      refine zr_aload_n C 0 rfl (zdec_at dm_X12_copy 59 rfl) rfl ?_
                      refine zr_getr (q := 141) C fk_RX12_130 fi_103_72 (zdec_at dm_X12_copy 60 rfl) ?_
                      refine zr_iload_n C 1 rfl (zdec_at dm_X12_copy 61 rfl) rfl ?_
                      refine zr_iald C ai_141 o18 (zdec_at dm_X12_copy 62 rfl) ?_
                      refine zr_iload C 5 rfl (zdec_at dm_X12_copy 63 rfl) ?_
                      refine zr_isub C (zdec_at dm_X12_copy 64 rfl) ?_
                      obtain ⟨o28, h⟩ := h
                      refine zr_icmp_gt C zz_a2 o28 (zdec_at dm_X12_copy 65 rfl) rfl (fun g29 => ?_) (fun g29 => ?_)
                      · have h := h.1 g29
                        refine zr_bipush C (zdec_at dm_X12_copy 74 rfl) (by decide) ?_
                        exact zr_ireturn C rfl (zdec_at dm_X12_copy 75 rfl) rfl ⟨(by decide), h⟩
                      · have h := h.2 g29
                        refine zr_iload C 4 rfl (zdec_at dm_X12_copy 66 rfl) ?_
                        refine zr_aload_n C 0 rfl (zdec_at dm_X12_copy 67 rfl) rfl ?_
                        refine zr_getr (q := 141) C fk_RX12_130 fi_103_72 (zdec_at dm_X12_copy 68 rfl) ?_
                        refine zr_iload_n C 3 rfl (zdec_at dm_X12_copy 69 rfl) rfl ?_
                        refine zr_iald C ai_141 o20 (zdec_at dm_X12_copy 70 rfl) ?_
                        refine zr_iload C 5 rfl (zdec_at dm_X12_copy 71 rfl) ?_
                        refine zr_isub C (zdec_at dm_X12_copy 72 rfl) ?_
                        obtain ⟨o30, h⟩ := h
                        refine zr_icmp_le C zz_a4 o30 (zdec_at dm_X12_copy 73 rfl) rfl (fun g31 => ?_) (fun g31 => ?_)
                        · have h := h.1 g31
                          refine zr_iconst C (zdec_at dm_X12_copy 76 rfl) ?_
                          refine zr_istore (L1 := [(6, zI 0), (0, zRf (zad Γ) 103), (1, zI a1), (2, zI a2), (3, zI a3), (4, zI a4), (5, zI a5)]) C (zdec_at dm_X12_copy 77 rfl) (Nat.le_of_ble_eq_true rfl) rfl ?_
                          obtain ⟨I137, ⟨n40, q41⟩, hI39⟩ := h
                          have lp38 : ∀ (n36 : Nat) (v32 : Int) (M34 : zM), I137 v32 M34 n36 → zin v32 → zRng M34 → zV Γ mu_X12_copy (145, 0, 0) 137 [(0, zRf (zad Γ) 103), (1, zI a1), (2, zI a2), (3, zI a3), (4, zI a4), (5, zI a5), (6, zI v32)] [] M34 := by
                            intro n36
                            induction n36 using Nat.strongRecOn with
                            | _ n36 ih37 =>
                            intro v32 M34 q42 z33 hR35
                            have h := hI39 v32 M34 n36 q42 z33 hR35
                            refine zr_iload C 6 rfl (zdec_at dm_X12_copy 78 rfl) ?_
                            refine zr_iload C 5 rfl (zdec_at dm_X12_copy 79 rfl) ?_
                            refine zr_icmp_ge C z33 zz_a5 (zdec_at dm_X12_copy 80 rfl) rfl (fun g43 => ?_) (fun g43 => ?_)
                            · have h := h.1 g43
                              refine zr_iconst C (zdec_at dm_X12_copy 97 rfl) ?_
                              refine zr_istore (L1 := [(6, zI 0), (0, zRf (zad Γ) 103), (1, zI a1), (2, zI a2), (3, zI a3), (4, zI a4), (5, zI a5)]) C (zdec_at dm_X12_copy 98 rfl) (Nat.le_of_ble_eq_true rfl) rfl ?_
                              obtain ⟨I174, ⟨n52, q53⟩, hI51⟩ := h
                              have lp50 : ∀ (n48 : Nat) (v44 : Int) (M46 : zM), I174 v44 M46 n48 → zin v44 → zRng M46 → zV Γ mu_X12_copy (145, 0, 0) 174 [(0, zRf (zad Γ) 103), (3, zI a3), (4, zI a4), (5, zI a5), (6, zI v44)] [] M46 := by
                                intro n48
                                induction n48 using Nat.strongRecOn with
                                | _ n48 ih49 =>
                                intro v44 M46 q54 z45 hR47
                                have h := hI51 v44 M46 n48 q54 z45 hR47
                                refine zr_iload C 4 rfl (zdec_at dm_X12_copy 99 rfl) ?_
                                refine zr_iload C 3 rfl (zdec_at dm_X12_copy 100 rfl) ?_
                                refine zr_icmp_ge C z45 zz_a5 (zdec_at dm_X12_copy 101 rfl) rfl (fun g55 => ?_) (fun g55 => ?_)
                                · have h := h.1 g55
                                  refine zr_iload C 3 rfl (zdec_at dm_X12_copy 118 rfl) ?_
                                  exact zr_ireturn C rfl (zdec_at dm_X12_copy 119 rfl) rfl ⟨zz_a5, h⟩
                                · have h := h.2 g55
                                  refine zr_aload_n C 0 rfl (zdec_at dm_X12_copy 102 rfl) rfl ?_
                                  refine zr_getr (q := 142) C fk_RX12_133 fi_103_73 (zdec_at dm_X12_copy 103 rfl) ?_
                                  refine zr_bipush C (zdec_at dm_X12_copy 104 rfl) (by decide) ?_
                                  refine zr_iload_n C 1 rfl (zdec_at dm_X12_copy 105 rfl) rfl ?_
                                  refine zr_imul C (zdec_at dm_X12_copy 106 rfl) ?_
                                  refine zr_iload C 2 rfl (zdec_at dm_X12_copy 107 rfl) ?_
                                  refine zr_iadd C (zdec_at dm_X12_copy 108 rfl) ?_
                                  refine zr_iload C 4 rfl (zdec_at dm_X12_copy 109 rfl) ?_
                                  refine zr_iadd C (zdec_at dm_X12_copy 110 rfl) ?_
                                  refine zr_aload_n C 0 rfl (zdec_at dm_X12_copy 111 rfl) rfl ?_
                                  refine zr_getr (q := 143) C fk_RX12_137 fi_103_74 (zdec_at dm_X12_copy 112 rfl) ?_
                                  refine zr_iload C 4 rfl (zdec_at dm_X12_copy 113 rfl) ?_
                                  obtain ⟨o56, h⟩ := h
                                  refine zr_lald C ai_143 o56 (zdec_at dm_X12_copy 114 rfl) ?_
                                  obtain ⟨o57, h⟩ := h
                                  refine zr_last C ai_142 o57 (hR47 _ _) rfl (zdec_at dm_X12_copy 115 rfl) (fun M58 e59 => ?_)
                                  have h := h M58 e59
                                  have hR60 : zRng M58 := by rw [e59]; exact hR47.set (hR47 _ _) _ _
                                  refine zr_iinc (L1 := [(6, zI (v44 + 1)), (0, zRf (zad Γ) 103), (3, zI a3), (4, zI a4), (5, zI a5)]) C 4 rfl (zdec_at dm_X12_copy 116 rfl) (Nat.le_of_ble_eq_true rfl) rfl ?_
                                  refine zr_goto C (zdec_at dm_X12_copy 117 rfl) rfl ?_
                                  obtain ⟨o61, h⟩ := h
                                  obtain ⟨n62, q63, q64⟩ := h
                                  exact zr_sub [1, 2, 3, 4, 0] rfl (ih49 n62 q63 _ _ q64 o61 hR60)
                              exact zr_sub [1, 4, 5, 6, 0] rfl (lp50 n52 _ _ q53 (by decide) hR35)
                            · have h := h.2 g43
                              refine zr_aload_n C 0 rfl (zdec_at dm_X12_copy 81 rfl) rfl ?_
                              refine zr_getr (q := 143) C fk_RX12_137 fi_103_74 (zdec_at dm_X12_copy 82 rfl) ?_
                              refine zr_iload C 6 rfl (zdec_at dm_X12_copy 83 rfl) ?_
                              refine zr_aload_n C 0 rfl (zdec_at dm_X12_copy 84 rfl) rfl ?_
                              refine zr_getr (q := 142) C fk_RX12_133 fi_103_73 (zdec_at dm_X12_copy 85 rfl) ?_
                              refine zr_bipush C (zdec_at dm_X12_copy 86 rfl) (by decide) ?_
                              refine zr_iload_n C 1 rfl (zdec_at dm_X12_copy 87 rfl) rfl ?_
                              refine zr_imul C (zdec_at dm_X12_copy 88 rfl) ?_
                              refine zr_iload_n C 2 rfl (zdec_at dm_X12_copy 89 rfl) rfl ?_
                              refine zr_iadd C (zdec_at dm_X12_copy 90 rfl) ?_
                              refine zr_iload C 6 rfl (zdec_at dm_X12_copy 91 rfl) ?_
                              refine zr_iadd C (zdec_at dm_X12_copy 92 rfl) ?_
                              obtain ⟨o65, h⟩ := h
                              refine zr_lald C ai_142 o65 (zdec_at dm_X12_copy 93 rfl) ?_
                              obtain ⟨o66, h⟩ := h
                              refine zr_last C ai_143 o66 (hR35 _ _) rfl (zdec_at dm_X12_copy 94 rfl) (fun M67 e68 => ?_)
                              have h := h M67 e68
                              have hR69 : zRng M67 := by rw [e68]; exact hR35.set (hR35 _ _) _ _
                              refine zr_iinc (L1 := [(6, zI (v32 + 1)), (0, zRf (zad Γ) 103), (1, zI a1), (2, zI a2), (3, zI a3), (4, zI a4), (5, zI a5)]) C 6 rfl (zdec_at dm_X12_copy 95 rfl) (Nat.le_of_ble_eq_true rfl) rfl ?_
                              refine zr_goto C (zdec_at dm_X12_copy 96 rfl) rfl ?_
                              obtain ⟨o70, h⟩ := h
                              obtain ⟨n71, q72, q73⟩ := h
                              exact zr_sub [1, 2, 3, 4, 5, 6, 0] rfl (ih37 n71 q72 _ _ q73 o70 hR69)
                          exact zr_sub [1, 2, 3, 4, 5, 6, 0] rfl (lp38 n40 _ _ q41 (by decide) hR13)
                        · have h := h.2 g31
                          refine zr_bipush C (zdec_at dm_X12_copy 74 rfl) (by decide) ?_
                          exact zr_ireturn C rfl (zdec_at dm_X12_copy 75 rfl) rfl ⟨(by decide), h⟩
              · have h := h.2 g24
                refine zr_bipush C (zdec_at dm_X12_copy 50 rfl) (by decide) ?_
                exact zr_ireturn C rfl (zdec_at dm_X12_copy 51 rfl) rfl ⟨(by decide), h⟩
        · have h := h.2 g21
          refine zr_bipush C (zdec_at dm_X12_copy 27 rfl) (by decide) ?_
          exact zr_ireturn C rfl (zdec_at dm_X12_copy 28 rfl) rfl ⟨(by decide), h⟩
    · have h := h.2 g17
      refine zr_iconst C (zdec_at dm_X12_copy 15 rfl) ?_
      exact zr_ireturn C rfl (zdec_at dm_X12_copy 16 rfl) rfl ⟨(by decide), h⟩

set_option maxHeartbeats 400000 in
set_option maxRecDepth 100000 in
theorem sn_X12_wrongShelf {pr_X12_in : Int → Int → Int → zM → Prop} {po_X12_in : Int → Int → Int → zM → Int → zM → Prop} (hS_X12_in : zSnd zS 145 0 0 yX12_in cX12_in 6 (some .boolean) 0 [1, 1, 1] (F_X12_in pr_X12_in po_X12_in)) : zSnd zS 145 0 0 yX12_wrongShelf cX12_wrongShelf 2 (some .int) 1 [2, 0] (fun xs P M => ∃ a1 : Int, xs = [103, a1] ∧ vc_X12_wrongShelf pr_X12_in po_X12_in a1 P M) := by
  refine zSnd.of rfl (fun ad xs hz => Nat.le_trans (Nat.le_of_eq (zlen ad _ xs hz)) (by decide)) ?_
  intro Γ C _ _ xs M hz hF
  obtain ⟨a1, rfl, h⟩ := hF
  have zz_a1 := zall_h (zall_t hz) (by decide)
  refine zr_rng (fun hR => ?_)
  have C : zC Γ mu_X12_wrongShelf := C
  change zV Γ mu_X12_wrongShelf (145, 0, 0) 0 [(0, zRf (zad Γ) 103), (1, zI a1)] [] M
  change vc_X12_wrongShelf pr_X12_in po_X12_in a1 _ M at h
  unfold vc_X12_wrongShelf at h
  refine zr_iload_n C 1 rfl (zdec_at dm_X12_wrongShelf 0 rfl) rfl ?_
  refine zr_i2l C zz_a1 (zdec_at dm_X12_wrongShelf 1 rfl) ?_
  refine zr_lconst (v := 0) C (zdec_at dm_X12_wrongShelf 2 rfl) rfl ?_
  refine zr_ldc2 C (zdec_at dm_X12_wrongShelf 3 rfl) kc_RX12_194 ?_
  obtain ⟨g6, h⟩ := h
  refine zr_callS C [a1, 0, 7] hS_X12_in ck_RX12_156 sv_X12_in rfl rfl (zdec_at dm_X12_wrongShelf 4 rfl) ⟨rfl, rfl, rfl, rfl⟩ ⟨by decide, by decide⟩ (Nat.le_of_ble_eq_true rfl) (zall_1 zz_a1 (zall_1 (by decide) (zall_1 (by decide) zall_n))) ?_
  refine ⟨_, _, _, rfl, g6, fun r1 M2 p5 z4 hR3 => ?_⟩
  have h := h r1 M2 p5 z4 hR3
  show zV Γ mu_X12_wrongShelf (145, 0, 0) 9 [(0, zRf (zad Γ) 103), (1, zI a1)] [zI r1] M2
  refine zr_if_ne C z4 (zdec_at dm_X12_wrongShelf 5 rfl) rfl (fun g7 => ?_) (fun g7 => ?_)
  · have h := h.1 g7
    refine zr_aload_n C 0 rfl (zdec_at dm_X12_wrongShelf 8 rfl) rfl ?_
    refine zr_getr (q := 134) C fk_RX12_109 fi_103_65 (zdec_at dm_X12_wrongShelf 9 rfl) ?_
    refine zr_iload_n C 1 rfl (zdec_at dm_X12_wrongShelf 10 rfl) rfl ?_
    obtain ⟨o8, h⟩ := h
    refine zr_iald C ai_134 o8 (zdec_at dm_X12_wrongShelf 11 rfl) ?_
    refine zr_if_ne C (hR3 _ _) (zdec_at dm_X12_wrongShelf 12 rfl) rfl (fun g9 => ?_) (fun g9 => ?_)
    · have h := h.1 g9
      refine zr_aload_n C 0 rfl (zdec_at dm_X12_wrongShelf 15 rfl) rfl ?_
      refine zr_getr (q := 134) C fk_RX12_109 fi_103_65 (zdec_at dm_X12_wrongShelf 16 rfl) ?_
      refine zr_iload_n C 1 rfl (zdec_at dm_X12_wrongShelf 17 rfl) rfl ?_
      refine zr_iald C ai_134 o8 (zdec_at dm_X12_wrongShelf 18 rfl) ?_
      refine zr_iconst C (zdec_at dm_X12_wrongShelf 19 rfl) ?_
      refine zr_icmp_ne C (hR3 _ _) (by decide) (zdec_at dm_X12_wrongShelf 20 rfl) rfl (fun g10 => ?_) (fun g10 => ?_)
      · have h := h.1 g10
        refine zr_iconst C (zdec_at dm_X12_wrongShelf 23 rfl) ?_
        exact zr_ireturn C rfl (zdec_at dm_X12_wrongShelf 24 rfl) rfl ⟨(by decide), h⟩
      · have h := h.2 g10
        refine zr_bipush C (zdec_at dm_X12_wrongShelf 21 rfl) (by decide) ?_
        refine zr_goto C (zdec_at dm_X12_wrongShelf 22 rfl) rfl ?_
        exact zr_ireturn C rfl (zdec_at dm_X12_wrongShelf 24 rfl) rfl ⟨(by decide), h⟩
    · have h := h.2 g9
      refine zr_bipush C (zdec_at dm_X12_wrongShelf 13 rfl) (by decide) ?_
      refine zr_goto C (zdec_at dm_X12_wrongShelf 14 rfl) rfl ?_
      exact zr_ireturn C rfl (zdec_at dm_X12_wrongShelf 24 rfl) rfl ⟨(by decide), h⟩
  · have h := h.2 g7
    refine zr_iconst C (zdec_at dm_X12_wrongShelf 6 rfl) ?_
    refine zr_goto C (zdec_at dm_X12_wrongShelf 7 rfl) rfl ?_
    exact zr_ireturn C rfl (zdec_at dm_X12_wrongShelf 24 rfl) rfl ⟨(by decide), h⟩

set_option maxHeartbeats 400000 in
set_option maxRecDepth 100000 in
theorem sn_X12_root : zSnd zS 145 0 0 yX12_root cX12_root 2 (some .int) 0 [0] (fun xs P M => ∃ a0 : Int, xs = [a0] ∧ vc_X12_root a0 P M) := by
  refine zSnd.of rfl (fun ad xs hz => Nat.le_trans (Nat.le_of_eq (zlen ad _ xs hz)) (by decide)) ?_
  intro Γ C _ _ xs M hz hF
  obtain ⟨a0, rfl, h⟩ := hF
  have zz_a0 := zall_h hz (by decide)
  refine zr_rng (fun hR => ?_)
  have C : zC Γ mu_X12_root := C
  change zV Γ mu_X12_root (145, 0, 0) 0 [(0, zI a0)] [] M
  change vc_X12_root a0 _ M at h
  unfold vc_X12_root at h
  refine zr_iconst C (zdec_at dm_X12_root 0 rfl) ?_
  refine zr_istore_n (L1 := [(1, zI 0), (0, zI a0)]) C (zdec_at dm_X12_root 1 rfl) rfl (Nat.le_of_ble_eq_true rfl) rfl ?_
  obtain ⟨I2, ⟨n7, q8⟩, hI6⟩ := h
  have lp5 : ∀ (n3 : Nat) (v1 : Int), I2 v1 n3 → zin v1 → zV Γ mu_X12_root (145, 0, 0) 2 [(0, zI a0), (1, zI v1)] [] M := by
    intro n3
    induction n3 using Nat.strongRecOn with
    | _ n3 ih4 =>
    intro v1 q9 z2
    have h := hI6 v1 n3 q9 z2
    refine zr_iload_n C 1 rfl (zdec_at dm_X12_root 2 rfl) rfl ?_
    refine zr_iconst C (zdec_at dm_X12_root 3 rfl) ?_
    refine zr_iadd C (zdec_at dm_X12_root 4 rfl) ?_
    refine zr_iload_n C 1 rfl (zdec_at dm_X12_root 5 rfl) rfl ?_
    refine zr_iconst C (zdec_at dm_X12_root 6 rfl) ?_
    refine zr_iadd C (zdec_at dm_X12_root 7 rfl) ?_
    refine zr_imul C (zdec_at dm_X12_root 8 rfl) ?_
    refine zr_iload_n C 0 rfl (zdec_at dm_X12_root 9 rfl) rfl ?_
    obtain ⟨o10, h⟩ := h
    refine zr_icmp_gt C o10 zz_a0 (zdec_at dm_X12_root 10 rfl) rfl (fun g11 => ?_) (fun g11 => ?_)
    · have h := h.1 g11
      refine zr_iload_n C 1 rfl (zdec_at dm_X12_root 13 rfl) rfl ?_
      exact zr_ireturn C rfl (zdec_at dm_X12_root 14 rfl) rfl ⟨z2, h⟩
    · have h := h.2 g11
      refine zr_iinc (L1 := [(1, zI (v1 + 1)), (0, zI a0)]) C 1 rfl (zdec_at dm_X12_root 11 rfl) (Nat.le_of_ble_eq_true rfl) rfl ?_
      refine zr_goto C (zdec_at dm_X12_root 12 rfl) rfl ?_
      obtain ⟨o12, h⟩ := h
      obtain ⟨n13, q14, q15⟩ := h
      exact zr_sub [1, 0] rfl (ih4 n13 q14 _ q15 o12)
  exact zr_sub [1, 0] rfl (lp5 n7 _ q8 (by decide))

set_option maxHeartbeats 400000 in
set_option maxRecDepth 100000 in
theorem sn_X12_reach {pr_X12_wrongShelf : Int → zM → Prop} {po_X12_wrongShelf : Int → zM → Int → zM → Prop} {pr_X12_root : Int → zM → Prop} {po_X12_root : Int → zM → Int → zM → Prop} (hS_X12_wrongShelf : zSnd zS 145 0 0 yX12_wrongShelf cX12_wrongShelf 2 (some .int) 1 [2, 0] (F_X12_wrongShelf pr_X12_wrongShelf po_X12_wrongShelf)) (hS_X12_root : zSnd zS 145 0 0 yX12_root cX12_root 2 (some .int) 0 [0] (F_X12_root pr_X12_root po_X12_root)) : zSnd zS 145 0 0 yX12_reach cX12_reach 7 (some .int) 2 [2, 0] (fun xs P M => ∃ a1 : Int, xs = [103, a1] ∧ vc_X12_reach pr_X12_wrongShelf po_X12_wrongShelf pr_X12_root po_X12_root a1 P M) := by
  refine zSnd.of rfl (fun ad xs hz => Nat.le_trans (Nat.le_of_eq (zlen ad _ xs hz)) (by decide)) ?_
  intro Γ C _ _ xs M hz hF
  obtain ⟨a1, rfl, h⟩ := hF
  have zz_a1 := zall_h (zall_t hz) (by decide)
  refine zr_rng (fun hR => ?_)
  have C : zC Γ mu_X12_reach := C
  change zV Γ mu_X12_reach (145, 0, 0) 0 [(0, zRf (zad Γ) 103), (1, zI a1)] [] M
  change vc_X12_reach pr_X12_wrongShelf po_X12_wrongShelf pr_X12_root po_X12_root a1 _ M at h
  unfold vc_X12_reach at h
  refine zr_aload_n C 0 rfl (zdec_at dm_X12_reach 0 rfl) rfl ?_
  refine zr_iconst C (zdec_at dm_X12_reach 1 rfl) ?_
  refine zr_puti C fk_RX12_140 fi_103_0 (by decide) (zdec_at dm_X12_reach 2 rfl) (fun M1 e2 => ?_)
  have h := h M1 e2
  have hR3 : zRng M1 := by rw [e2]; exact hR.set (by decide) _ _
  refine zr_aload_n C 0 rfl (zdec_at dm_X12_reach 3 rfl) rfl ?_
  refine zr_iload_n C 1 rfl (zdec_at dm_X12_reach 4 rfl) rfl ?_
  obtain ⟨g9, h⟩ := h
  refine zr_callV C [a1] hS_X12_wrongShelf ck_RX12_503 iv_X12_wrongShelf vc_X12 oc_103 rfl rfl (zdec_at dm_X12_reach 5 rfl) ⟨rfl, rfl, rfl, rfl⟩ ⟨by decide, by decide⟩ (Nat.le_of_ble_eq_true rfl) (zall_0 zz_a1 zall_n) ?_
  refine ⟨_, rfl, g9, fun r4 M5 p8 z7 hR6 => ?_⟩
  have h := h r4 M5 p8 z7 hR6
  show zV Γ mu_X12_reach (145, 0, 0) 10 [(0, zRf (zad Γ) 103), (1, zI a1)] [zI r4] M5
  refine zr_istore_n (L1 := [(2, zI r4), (0, zRf (zad Γ) 103), (1, zI a1)]) C (zdec_at dm_X12_reach 6 rfl) rfl (Nat.le_of_ble_eq_true rfl) rfl ?_
  refine zr_iload_n C 0 rfl (zdec_at dm_X12_reach 7 rfl) rfl ?_
  refine zr_if_ge C z7 (zdec_at dm_X12_reach 8 rfl) rfl (fun g10 => ?_) (fun g10 => ?_)
  · have h := h.1 g10
    refine zr_aload_n C 1 rfl (zdec_at dm_X12_reach 11 rfl) rfl ?_
    refine zr_getr (q := 137) C fk_RX12_118 fi_103_68 (zdec_at dm_X12_reach 12 rfl) ?_
    refine zr_iload_n C 2 rfl (zdec_at dm_X12_reach 13 rfl) rfl ?_
    obtain ⟨o11, h⟩ := h
    refine zr_iald C ai_137 o11 (zdec_at dm_X12_reach 14 rfl) ?_
    refine zr_istore_n (L1 := [(3, zI (M5 137 a1)), (2, zI r4), (0, zRf (zad Γ) 103), (1, zI a1)]) C (zdec_at dm_X12_reach 15 rfl) rfl (Nat.le_of_ble_eq_true rfl) rfl ?_
    refine zr_aload_n C 2 rfl (zdec_at dm_X12_reach 16 rfl) rfl ?_
    refine zr_getr (q := 138) C fk_RX12_121 fi_103_69 (zdec_at dm_X12_reach 17 rfl) ?_
    refine zr_iload_n C 3 rfl (zdec_at dm_X12_reach 18 rfl) rfl ?_
    refine zr_iald C ai_138 o11 (zdec_at dm_X12_reach 19 rfl) ?_
    refine zr_istore (L1 := [(4, zI (M5 138 a1)), (3, zI (M5 137 a1)), (2, zI r4), (0, zRf (zad Γ) 103), (1, zI a1)]) C (zdec_at dm_X12_reach 20 rfl) (Nat.le_of_ble_eq_true rfl) rfl ?_
    refine zr_iload_n C 1 rfl (zdec_at dm_X12_reach 21 rfl) rfl ?_
    refine zr_iload_n C 1 rfl (zdec_at dm_X12_reach 22 rfl) rfl ?_
    refine zr_imul C (zdec_at dm_X12_reach 23 rfl) ?_
    refine zr_iload C 0 rfl (zdec_at dm_X12_reach 24 rfl) ?_
    refine zr_iload C 0 rfl (zdec_at dm_X12_reach 25 rfl) ?_
    refine zr_imul C (zdec_at dm_X12_reach 26 rfl) ?_
    refine zr_iadd C (zdec_at dm_X12_reach 27 rfl) ?_
    obtain ⟨o12, h⟩ := h
    obtain ⟨g18, h⟩ := h
    refine zr_callS C [(((M5 137 a1) * (M5 137 a1)) + ((M5 138 a1) * (M5 138 a1)))] hS_X12_root ck_RX12_506 sv_X12_root rfl rfl (zdec_at dm_X12_reach 28 rfl) ⟨rfl, rfl, rfl, rfl⟩ ⟨by decide, by decide⟩ (Nat.le_of_ble_eq_true rfl) (zall_0 o12 zall_n) ?_
    refine ⟨_, rfl, g18, fun r13 M14 p17 z16 hR15 => ?_⟩
    have h := h r13 M14 p17 z16 hR15
    show zV Γ mu_X12_reach (145, 0, 0) 44 [(4, zI (M5 138 a1)), (3, zI (M5 137 a1)), (2, zI r4), (0, zRf (zad Γ) 103), (1, zI a1)] [zI r13] M14
    refine zr_istore (L1 := [(5, zI r13), (4, zI (M5 138 a1)), (3, zI (M5 137 a1)), (2, zI r4), (0, zRf (zad Γ) 103), (1, zI a1)]) C (zdec_at dm_X12_reach 29 rfl) (Nat.le_of_ble_eq_true rfl) rfl ?_
    refine zr_iload_n C 2 rfl (zdec_at dm_X12_reach 30 rfl) rfl ?_
    refine zr_iload C 1 rfl (zdec_at dm_X12_reach 31 rfl) ?_
    refine zr_iadd C (zdec_at dm_X12_reach 32 rfl) ?_
    refine zr_iload_n C 2 rfl (zdec_at dm_X12_reach 33 rfl) rfl ?_
    refine zr_iload C 1 rfl (zdec_at dm_X12_reach 34 rfl) ?_
    refine zr_iadd C (zdec_at dm_X12_reach 35 rfl) ?_
    refine zr_iconst C (zdec_at dm_X12_reach 36 rfl) ?_
    obtain ⟨o19, h⟩ := h
    obtain ⟨o20, h⟩ := h
    refine zr_idiv C o19 (by decide) ⟨o20, by decide⟩ (zdec_at dm_X12_reach 37 rfl) ?_
    refine zr_iadd C (zdec_at dm_X12_reach 38 rfl) ?_
    refine zr_istore (L1 := [(6, zI (((M5 137 a1) + (M5 138 a1)) + (((M5 137 a1) + (M5 138 a1)) / 2))), (5, zI r13), (4, zI (M5 138 a1)), (3, zI (M5 137 a1)), (2, zI r4), (0, zRf (zad Γ) 103), (1, zI a1)]) C (zdec_at dm_X12_reach 39 rfl) (Nat.le_of_ble_eq_true rfl) rfl ?_
    refine zr_aload_n C 5 rfl (zdec_at dm_X12_reach 40 rfl) rfl ?_
    refine zr_getr (q := 135) C fk_RX12_112 fi_103_66 (zdec_at dm_X12_reach 41 rfl) ?_
    refine zr_iload_n C 6 rfl (zdec_at dm_X12_reach 42 rfl) rfl ?_
    refine zr_iald C ai_135 o11 (zdec_at dm_X12_reach 43 rfl) ?_
    by_cases g65_0 : (M14 135 a1) = 0
    · have h := h.1 g65_0
      refine zr_tsin C 0 (g65_0.trans (by decide)) (hR15 _ _) (by decide) (zdec_at dm_X12_reach 44 rfl) rfl rfl ?_
      refine zr_iload_n C 3 rfl (zdec_at dm_X12_reach 45 rfl) rfl ?_
      refine zr_iload C 2 rfl (zdec_at dm_X12_reach 46 rfl) ?_
      refine zr_iadd C (zdec_at dm_X12_reach 47 rfl) ?_
      exact zr_ireturn C rfl (zdec_at dm_X12_reach 48 rfl) rfl ⟨o19, h⟩
    · have h := h.2 g65_0
      by_cases g65_1 : (M14 135 a1) = 1
      · have h := h.1 g65_1
        refine zr_tsin C 1 (g65_1.trans (by decide)) (hR15 _ _) (by decide) (zdec_at dm_X12_reach 44 rfl) rfl rfl ?_
        refine zr_iload C 1 rfl (zdec_at dm_X12_reach 49 rfl) ?_
        exact zr_ireturn C rfl (zdec_at dm_X12_reach 50 rfl) rfl ⟨z16, h⟩
      · have h := h.2 g65_1
        by_cases g65_2 : (M14 135 a1) = 2
        · have h := h.1 g65_2
          refine zr_tsin C 2 (g65_2.trans (by decide)) (hR15 _ _) (by decide) (zdec_at dm_X12_reach 44 rfl) rfl rfl ?_
          refine zr_iload C 0 rfl (zdec_at dm_X12_reach 51 rfl) ?_
          obtain ⟨o21, h⟩ := h
          exact zr_ireturn C rfl (zdec_at dm_X12_reach 52 rfl) rfl ⟨o21, h⟩
        · have h := h.2 g65_2
          by_cases g65_3 : (M14 135 a1) = 3
          · have h := h.1 g65_3
            refine zr_tsin C 3 (g65_3.trans (by decide)) (hR15 _ _) (by decide) (zdec_at dm_X12_reach 44 rfl) rfl rfl ?_
            refine zr_iload C 0 rfl (zdec_at dm_X12_reach 53 rfl) ?_
            refine zr_iconst C (zdec_at dm_X12_reach 54 rfl) ?_
            refine zr_iadd C (zdec_at dm_X12_reach 55 rfl) ?_
            obtain ⟨o22, h⟩ := h
            exact zr_ireturn C rfl (zdec_at dm_X12_reach 56 rfl) rfl ⟨o22, h⟩
          · have h := h.2 g65_3
            refine zr_tsout C (zts_s 4 (zts_s 3 (zts_s 2 (zts_s 1 (zts_0 (M14 135 a1) 0) g65_0) g65_1) g65_2) g65_3) (hR15 _ _) (zdec_at dm_X12_reach 44 rfl) rfl ?_
            refine zr_iload C 1 rfl (zdec_at dm_X12_reach 57 rfl) ?_
            refine zr_aload_n C 5 rfl (zdec_at dm_X12_reach 58 rfl) rfl ?_
            refine zr_getr (q := 139) C fk_RX12_124 fi_103_70 (zdec_at dm_X12_reach 59 rfl) ?_
            refine zr_iload_n C 6 rfl (zdec_at dm_X12_reach 60 rfl) rfl ?_
            refine zr_iald C ai_139 o11 (zdec_at dm_X12_reach 61 rfl) ?_
            refine zr_iadd C (zdec_at dm_X12_reach 62 rfl) ?_
            obtain ⟨o23, h⟩ := h
            exact zr_ireturn C rfl (zdec_at dm_X12_reach 63 rfl) rfl ⟨o23, h⟩
  · have h := h.2 g10
    refine zr_iload_n C 0 rfl (zdec_at dm_X12_reach 9 rfl) rfl ?_
    exact zr_ireturn C rfl (zdec_at dm_X12_reach 10 rfl) rfl ⟨z7, h⟩

set_option maxHeartbeats 400000 in
set_option maxRecDepth 100000 in
theorem sn_X12_toss {pr_X12_wrongShelf : Int → zM → Prop} {po_X12_wrongShelf : Int → zM → Int → zM → Prop} (hS_X12_wrongShelf : zSnd zS 145 0 0 yX12_wrongShelf cX12_wrongShelf 2 (some .int) 1 [2, 0] (F_X12_wrongShelf pr_X12_wrongShelf po_X12_wrongShelf)) : zSnd zS 145 0 0 yX12_toss cX12_toss 3 (some .int) 2 [2, 0] (fun xs P M => ∃ a1 : Int, xs = [103, a1] ∧ vc_X12_toss pr_X12_wrongShelf po_X12_wrongShelf a1 P M) := by
  refine zSnd.of rfl (fun ad xs hz => Nat.le_trans (Nat.le_of_eq (zlen ad _ xs hz)) (by decide)) ?_
  intro Γ C _ _ xs M hz hF
  obtain ⟨a1, rfl, h⟩ := hF
  have zz_a1 := zall_h (zall_t hz) (by decide)
  refine zr_rng (fun hR => ?_)
  have C : zC Γ mu_X12_toss := C
  change zV Γ mu_X12_toss (145, 0, 0) 0 [(0, zRf (zad Γ) 103), (1, zI a1)] [] M
  change vc_X12_toss pr_X12_wrongShelf po_X12_wrongShelf a1 _ M at h
  unfold vc_X12_toss at h
  refine zr_aload_n C 0 rfl (zdec_at dm_X12_toss 0 rfl) rfl ?_
  refine zr_iconst C (zdec_at dm_X12_toss 1 rfl) ?_
  refine zr_puti C fk_RX12_140 fi_103_0 (by decide) (zdec_at dm_X12_toss 2 rfl) (fun M1 e2 => ?_)
  have h := h M1 e2
  have hR3 : zRng M1 := by rw [e2]; exact hR.set (by decide) _ _
  refine zr_aload_n C 0 rfl (zdec_at dm_X12_toss 3 rfl) rfl ?_
  refine zr_iload_n C 1 rfl (zdec_at dm_X12_toss 4 rfl) rfl ?_
  obtain ⟨g9, h⟩ := h
  refine zr_callV C [a1] hS_X12_wrongShelf ck_RX12_503 iv_X12_wrongShelf vc_X12 oc_103 rfl rfl (zdec_at dm_X12_toss 5 rfl) ⟨rfl, rfl, rfl, rfl⟩ ⟨by decide, by decide⟩ (Nat.le_of_ble_eq_true rfl) (zall_0 zz_a1 zall_n) ?_
  refine ⟨_, rfl, g9, fun r4 M5 p8 z7 hR6 => ?_⟩
  have h := h r4 M5 p8 z7 hR6
  show zV Γ mu_X12_toss (145, 0, 0) 10 [(0, zRf (zad Γ) 103), (1, zI a1)] [zI r4] M5
  refine zr_istore_n (L1 := [(2, zI r4), (0, zRf (zad Γ) 103), (1, zI a1)]) C (zdec_at dm_X12_toss 6 rfl) rfl (Nat.le_of_ble_eq_true rfl) rfl ?_
  refine zr_iload_n C 0 rfl (zdec_at dm_X12_toss 7 rfl) rfl ?_
  refine zr_if_ge C z7 (zdec_at dm_X12_toss 8 rfl) rfl (fun g10 => ?_) (fun g10 => ?_)
  · have h := h.1 g10
    refine zr_aload_n C 1 rfl (zdec_at dm_X12_toss 11 rfl) rfl ?_
    refine zr_getr (q := 135) C fk_RX12_112 fi_103_66 (zdec_at dm_X12_toss 12 rfl) ?_
    refine zr_iload_n C 2 rfl (zdec_at dm_X12_toss 13 rfl) rfl ?_
    obtain ⟨o11, h⟩ := h
    refine zr_iald C ai_135 o11 (zdec_at dm_X12_toss 14 rfl) ?_
    refine zr_iconst C (zdec_at dm_X12_toss 15 rfl) ?_
    refine zr_icmp_eq C (hR6 _ _) (by decide) (zdec_at dm_X12_toss 16 rfl) rfl (fun g12 => ?_) (fun g12 => ?_)
    · have h := h.1 g12
      refine zr_bipush C (zdec_at dm_X12_toss 27 rfl) (by decide) ?_
      exact zr_ireturn C rfl (zdec_at dm_X12_toss 28 rfl) rfl ⟨(by decide), h⟩
    · have h := h.2 g12
      refine zr_aload_n C 1 rfl (zdec_at dm_X12_toss 17 rfl) rfl ?_
      refine zr_getr (q := 137) C fk_RX12_118 fi_103_68 (zdec_at dm_X12_toss 18 rfl) ?_
      refine zr_iload_n C 2 rfl (zdec_at dm_X12_toss 19 rfl) rfl ?_
      refine zr_iald C ai_137 o11 (zdec_at dm_X12_toss 20 rfl) ?_
      refine zr_aload_n C 1 rfl (zdec_at dm_X12_toss 21 rfl) rfl ?_
      refine zr_getr (q := 138) C fk_RX12_121 fi_103_69 (zdec_at dm_X12_toss 22 rfl) ?_
      refine zr_iload_n C 2 rfl (zdec_at dm_X12_toss 23 rfl) rfl ?_
      refine zr_iald C ai_138 o11 (zdec_at dm_X12_toss 24 rfl) ?_
      refine zr_iadd C (zdec_at dm_X12_toss 25 rfl) ?_
      obtain ⟨o13, h⟩ := h
      refine zr_if_ne C o13 (zdec_at dm_X12_toss 26 rfl) rfl (fun g14 => ?_) (fun g14 => ?_)
      · have h := h.1 g14
        refine zr_aload_n C 1 rfl (zdec_at dm_X12_toss 29 rfl) rfl ?_
        refine zr_getr (q := 135) C fk_RX12_112 fi_103_66 (zdec_at dm_X12_toss 30 rfl) ?_
        refine zr_iload_n C 2 rfl (zdec_at dm_X12_toss 31 rfl) rfl ?_
        refine zr_iald C ai_135 o11 (zdec_at dm_X12_toss 32 rfl) ?_
        refine zr_iconst C (zdec_at dm_X12_toss 33 rfl) ?_
        refine zr_icmp_ne C (hR6 _ _) (by decide) (zdec_at dm_X12_toss 34 rfl) rfl (fun g15 => ?_) (fun g15 => ?_)
        · have h := h.1 g15
          refine zr_aload_n C 1 rfl (zdec_at dm_X12_toss 42 rfl) rfl ?_
          refine zr_getr (q := 135) C fk_RX12_112 fi_103_66 (zdec_at dm_X12_toss 43 rfl) ?_
          refine zr_iload_n C 2 rfl (zdec_at dm_X12_toss 44 rfl) rfl ?_
          refine zr_iald C ai_135 o11 (zdec_at dm_X12_toss 45 rfl) ?_
          refine zr_iconst C (zdec_at dm_X12_toss 46 rfl) ?_
          refine zr_icmp_ne C (hR6 _ _) (by decide) (zdec_at dm_X12_toss 47 rfl) rfl (fun g16 => ?_) (fun g16 => ?_)
          · have h := h.1 g16
            refine zr_aload_n C 1 rfl (zdec_at dm_X12_toss 53 rfl) rfl ?_
            refine zr_getr (q := 136) C fk_RX12_115 fi_103_67 (zdec_at dm_X12_toss 54 rfl) ?_
            refine zr_iload_n C 2 rfl (zdec_at dm_X12_toss 55 rfl) rfl ?_
            refine zr_iald C ai_136 o11 (zdec_at dm_X12_toss 56 rfl) ?_
            exact zr_ireturn C rfl (zdec_at dm_X12_toss 57 rfl) rfl ⟨(hR6 _ _), h⟩
          · have h := h.2 g16
            refine zr_aload_n C 1 rfl (zdec_at dm_X12_toss 48 rfl) rfl ?_
            refine zr_getr (q := 139) C fk_RX12_124 fi_103_70 (zdec_at dm_X12_toss 49 rfl) ?_
            refine zr_iload_n C 2 rfl (zdec_at dm_X12_toss 50 rfl) rfl ?_
            refine zr_iald C ai_139 o11 (zdec_at dm_X12_toss 51 rfl) ?_
            refine zr_goto C (zdec_at dm_X12_toss 52 rfl) rfl ?_
            exact zr_ireturn C rfl (zdec_at dm_X12_toss 57 rfl) rfl ⟨(hR6 _ _), h⟩
        · have h := h.2 g15
          refine zr_bipush C (zdec_at dm_X12_toss 35 rfl) (by decide) ?_
          refine zr_aload_n C 1 rfl (zdec_at dm_X12_toss 36 rfl) rfl ?_
          refine zr_getr (q := 136) C fk_RX12_115 fi_103_67 (zdec_at dm_X12_toss 37 rfl) ?_
          refine zr_iload_n C 2 rfl (zdec_at dm_X12_toss 38 rfl) rfl ?_
          refine zr_iald C ai_136 o11 (zdec_at dm_X12_toss 39 rfl) ?_
          refine zr_iadd C (zdec_at dm_X12_toss 40 rfl) ?_
          refine zr_goto C (zdec_at dm_X12_toss 41 rfl) rfl ?_
          obtain ⟨o17, h⟩ := h
          exact zr_ireturn C rfl (zdec_at dm_X12_toss 57 rfl) rfl ⟨o17, h⟩
      · have h := h.2 g14
        refine zr_bipush C (zdec_at dm_X12_toss 27 rfl) (by decide) ?_
        exact zr_ireturn C rfl (zdec_at dm_X12_toss 28 rfl) rfl ⟨(by decide), h⟩
  · have h := h.2 g10
    refine zr_iload_n C 0 rfl (zdec_at dm_X12_toss 9 rfl) rfl ?_
    exact zr_ireturn C rfl (zdec_at dm_X12_toss 10 rfl) rfl ⟨z7, h⟩

