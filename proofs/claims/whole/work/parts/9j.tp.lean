theorem cl_RL_8 : Cond.classLink RL 8 RX11 ∈ zTG := (zTG_1 (i := 23) rfl rfl)
theorem ni_X11 : Cond.instantiable RX11 13 ∈ zTG ∧ Cond.initialized RX11 ∈ zTG := ⟨(zTG_1 (i := 24) rfl rfl), (zTG_1 (i := 1) rfl rfl)⟩
theorem cd_L0 : ∀ k, k < 13 → (zS0.2.2 0 k = 0 ∧ defaultValue (tyX11 k) = .int 0) ∨ (zS0.2.2 0 k = 1 ∧ defaultValue (tyX11 k) = .null) := by decide +kernel
theorem ck_RL_17 : zCK RL 17 yX11_init cX11_init 6 none 0 := ⟨Or.inl (zTG_1 (i := 25) rfl rfl), (zTG_1 (i := 1) rfl rfl), (zTG_1 (i := 27) rfl rfl), by decide +kernel⟩
theorem ii_X11_init : Cond.instanceMethod yX11_init ∈ zTG := (zTG_1 (i := 26) rfl rfl)
theorem cl_RL_18 : Cond.classLink RL 18 RX12 ∈ zTG := (zTG_6 (i := 99) rfl rfl)
theorem ni_X12 : Cond.instantiable RX12 75 ∈ zTG ∧ Cond.initialized RX12 ∈ zTG := ⟨(zTG_6 (i := 100) rfl rfl), (zTG_1 (i := 13) rfl rfl)⟩
theorem cd_L103 : ∀ k, k < 75 → (zS0.2.2 103 k = 0 ∧ defaultValue (tyX12 k) = .int 0) ∨ (zS0.2.2 103 k = 1 ∧ defaultValue (tyX12 k) = .null) := by decide +kernel
theorem ck_RL_20 : zCK RL 20 yX12_init cX12_init 1 none 0 := ⟨Or.inl (zTG_6 (i := 101) rfl rfl), (zTG_1 (i := 13) rfl rfl), (zTG_6 (i := 103) rfl rfl), by decide +kernel⟩
theorem ii_X12_init : Cond.instanceMethod yX12_init ∈ zTG := (zTG_6 (i := 102) rfl rfl)
abbrev mc0 : zMc := (code, RL, 8, some .boolean, 2, zS0, 0, 145, 0)
set_option maxRecDepth 100000 in
theorem lw_made {QQ : State → Prop} {Γ : zG} {b : Nat} {M : zM} (C : zC Γ mc0) (hAd : ∀ j, 0 ≤ j → zad Γ j = Γ.2.2.2.1.heap.size + (j - 0)) (hF : zfrs M 0) (kk : zfrs (cf_X12_init_103 (cf_X11_init_0 M)) 144 → zU room_1 QQ Γ mc0 (145, 145, 1232198) 23 (lwL Γ b 0) [] (cf_X12_init_103 (cf_X11_init_0 M))) : zU room_1 QQ Γ mc0 (0, 0, 0) 0 [(0, Value.ref b)] [] M := by
  refine zu_new (κ := (0, 0, 0)) C hAd rfl (by decide) tyX11 tyX11_ok vc_X11 rfl wsin_X11 cl_RL_8 ni_X11.1 ni_X11.2 rfl (hF.o cd_L0) ⟨by decide, by decide⟩ (zdec_at dm_Lh 0 rfl) ?_
  have hF1 := hF.le (m := 1) (by decide)
  change zU room_1 QQ Γ mc0 (1, 1, 13) 3 [(0, Value.ref b)] [zRf (zad Γ) 0] M
  refine zu_dup C rfl (zdec_at dm_Lh 1 rfl) ?_
  refine zu_callI (κ := (1, 1, 13)) C hAd rfl (by decide) (fun xs P Q M hPQ ⟨a, b, c⟩ => ⟨a, b, fun q => hPQ 0 _ (c q) rfl⟩) [] sc_X11_init_0 ck_RL_17 ii_X11_init rfl rfl rfl (zdec_at dm_Lh 2 rfl) (by decide) ⟨by decide, by decide⟩ ⟨by decide, by decide⟩ (Nat.le_of_ble_eq_true rfl) zall_n ⟨rfl, hF1, fun hF2 hR2 => ?_⟩
  generalize cf_X11_init_0 M = M2 at hF2 hR2 kk ⊢
  change zU room_1 QQ Γ mc0 (103, 103, 15449) 7 [(0, Value.ref b)] [zRf (zad Γ) 0] M2
  refine zu_astore_n (L1 := [(1, zRf (zad Γ) 0), (0, Value.ref b)]) C (zdec_at dm_Lh 3 rfl) rfl (Nat.le_of_ble_eq_true rfl) rfl ?_
  refine zu_new (κ := (103, 103, 15449)) C hAd rfl (by decide) tyX12 tyX12_ok vc_X12 rfl wsin_X12 cl_RL_18 ni_X12.1 ni_X12.2 rfl (hF2.o cd_L103) ⟨by decide, by decide⟩ (zdec_at dm_Lh 4 rfl) ?_
  have hF3 := hF2.le (m := 104) (by decide)
  change zU room_1 QQ Γ mc0 (104, 104, 15524) 11 [(1, zRf (zad Γ) 0), (0, Value.ref b)] [zRf (zad Γ) 103] M2
  refine zu_dup C rfl (zdec_at dm_Lh 5 rfl) ?_
  refine zu_callI (κ := (104, 104, 15524)) C hAd rfl (by decide) (fun xs P Q M hPQ ⟨a, b, c⟩ => ⟨a, b, fun q => hPQ 0 _ (c q) rfl⟩) [] sc_X12_init_103 ck_RL_20 ii_X12_init rfl rfl rfl (zdec_at dm_Lh 6 rfl) (by decide) ⟨by decide, by decide⟩ ⟨by decide, by decide⟩ (Nat.le_of_ble_eq_true rfl) zall_n ⟨rfl, hF3, fun hF4 hR4 => ?_⟩
  generalize cf_X12_init_103 M2 = M4 at hF4 hR4 kk ⊢
  change zU room_1 QQ Γ mc0 (144, 144, 1232197) 15 [(1, zRf (zad Γ) 0), (0, Value.ref b)] [zRf (zad Γ) 103] M4
  refine zu_astore_n (L1 := [(2, zRf (zad Γ) 103), (1, zRf (zad Γ) 0), (0, Value.ref b)]) C (zdec_at dm_Lh 7 rfl) rfl (Nat.le_of_ble_eq_true rfl) rfl ?_
  refine zu_iconst C (zdec_at dm_Lh 8 rfl) ?_
  refine zu_newJ (κ := (144, 144, 1232197)) (len := 1) C hAd rfl (by decide) na_long rfl rfl (by decide) (fun k _ => hF4.a (Nat.le_refl _) rfl k) ⟨by decide, by decide⟩ (zdec_at dm_Lh 9 rfl) ?_
  change zU room_1 QQ Γ mc0 (145, 145, 1232198) 19 [(2, zRf (zad Γ) 103), (1, zRf (zad Γ) 0), (0, Value.ref b)] [zRf (zad Γ) 144] M4
  refine zu_astore_n (L1 := [(3, zRf (zad Γ) 144), (2, zRf (zad Γ) 103), (1, zRf (zad Γ) 0), (0, Value.ref b)]) C (zdec_at dm_Lh 10 rfl) rfl (Nat.le_of_ble_eq_true rfl) rfl ?_
  refine zu_iconst C (zdec_at dm_Lh 11 rfl) ?_
  refine zu_istore (L1 := lwL Γ b 0) C (zdec_at dm_Lh 12 rfl) (Nat.le_of_ble_eq_true rfl) rfl ?_
  exact kk hF4
