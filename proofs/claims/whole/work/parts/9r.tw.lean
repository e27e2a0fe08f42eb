abbrev muE : zMc := (cX11_element, RX11, 4, some .long, 0, zS, 145, 0, 0)
abbrev rE : Room := { frames := 7, cells := 1, slots := 6, locals := 400 }
abbrev nmE : List String := ["java/lang/RuntimeException", "java/lang/Exception"]
/-- what the class's element answers, what it throws -/
def elRX (x1 x2 : Int) (M : zM) (r : Int) (M' : zM) : Prop := (0 ≤ x1 ∧ x1 < 8) ∧ (M (26 + 2 * x1) 0 = 2 ∧ 0 ≤ x2 ∧ x2 < M (26 + 2 * x1) 2) ∧ r = M (26 + 2 * x1 + 1) x2 ∧ M' = M
def elTX (x1 x2 : Int) (M : zM) (E : String) : Prop := (¬ (0 ≤ x1 ∧ x1 < 8) ∧ E = "java/lang/IllegalArgumentException") ∨ ((0 ≤ x1 ∧ x1 < 8) ∧ ¬ (M (26 + 2 * x1) 0 = 2 ∧ 0 ≤ x2 ∧ x2 < M (26 + 2 * x1) 2) ∧ E = "java/lang/IllegalStateException")
def qE (Γ : zG) (x1 x2 : Int) (M : zM) : State → Prop := match Γ with
  | (_, _, _, s, _, args, below, _, _, D, cA, ad, A, _, _, _) => vx_MQ below (zQc (some .long) (elRX x1 x2 M) D cA ad zS 145 0 A) (zXc (elTX x1 x2 M) D cA ad zS 145 M A) args s 1 6 A
theorem xat_0 : ∀ w ∈ (vx_atS RX11 399 "java/lang/IllegalArgumentException" nmE).filter goodWord, w ∈ zTG := fun w h => List.mem_filter.mpr ⟨(show ∀ w ∈ (vx_atS RX11 399 "java/lang/IllegalArgumentException" nmE).filter goodWord, w ∈ lw_tbl from by decide +kernel) w h, (List.mem_filter.mp h).2⟩
theorem xat_1 : ∀ w ∈ (vx_atS RX11 406 "java/lang/IllegalStateException" nmE).filter goodWord, w ∈ zTG := fun w h => List.mem_filter.mpr ⟨(show ∀ w ∈ (vx_atS RX11 406 "java/lang/IllegalStateException" nmE).filter goodWord, w ∈ lw_tbl from by decide +kernel) w h, (List.mem_filter.mp h).2⟩
theorem xbt_0 : ∀ w ∈ (vx_atS RX11 399 "java/lang/IllegalArgumentException" nmE).filter (fun w => !goodWord w), w ∈ [Cond.castable "java/lang/IllegalArgumentException" "java/lang/IllegalArgumentException", Cond.declares (Bundle.initS "java/lang/RuntimeException"), Cond.declares (Bundle.initS "java/lang/Exception"), Cond.declares (Bundle.initS Bundle.tN)] := by decide +kernel
theorem xbt_1 : ∀ w ∈ (vx_atS RX11 406 "java/lang/IllegalStateException" nmE).filter (fun w => !goodWord w), w ∈ [Cond.castable "java/lang/IllegalStateException" "java/lang/IllegalStateException", Cond.declares (Bundle.initS "java/lang/RuntimeException"), Cond.declares (Bundle.initS "java/lang/Exception"), Cond.declares (Bundle.initS Bundle.tN)] := by decide +kernel
theorem xot_0 : ∀ w ∈ Cond.classLink RX11 395 "java/lang/IllegalArgumentException" :: Cond.initialized "java/lang/IllegalArgumentException" :: vx_atS RX11 399 "java/lang/IllegalArgumentException" nmE, vx_ot w = true := by decide +kernel
theorem xot_1 : ∀ w ∈ Cond.classLink RX11 402 "java/lang/IllegalStateException" :: Cond.initialized "java/lang/IllegalStateException" :: vx_atS RX11 406 "java/lang/IllegalStateException" nmE, vx_ot w = true := by decide +kernel
theorem xnm : ∀ n ∈ nmE, Bundle.fit n = true := by decide +kernel
theorem zu_retE {Γ : zG} {x1 x2 : Int} {M0 M : zM} (C : zC Γ muE) {L : List (Nat × Value)} {r : Int} (kk : zin r ∧ elRX x1 x2 M0 r M) : zU rE (qE Γ x1 x2 M0) Γ muE (145, 0, 0) 70 L [zJ r] M := by
  obtain ⟨p, l, e, s, m, args, below, meth, c, D, cA, ad, A, t1, t2, P⟩ := Γ
  obtain ⟨⟨hx, hb, hml, hown, hts⟩, hr, hlk, hK, hA, hSt, hNs⟩ := C
  intro H locs ls hR hP hD hS hz hv
  refine vx_ret ?_
  refine W.widen (k := 1) (n := 6) (Nat.zero_le _) (Nat.zero_le _) ?_
  exact W.lret hx hb hr (fun t ht hW => ⟨⟨r, M, kk.1, rfl, kk.2, hR, by rw [ht]; exact hP, hD, fun g => absurd rfl g⟩, hS.F ht⟩) hS.2.2 (zdec_at dm_X11_element 36 rfl)
theorem zu_thrE {Γ : zG} {x1 x2 : Int} {M : zM} (C : zC Γ muE) (hfl : Γ.2.1.stackTraces = false) (htb : ∀ x ∈ Γ.2.2.2.2.2.2.2.2.1.exceptionTable.toList, False) {cls text : String} {pc ik is ic sa : Nat} {L : List (Nat × Value)} (hf : Bundle.fit cls = true) (hk : Cond.classLink RX11 ik cls ∈ zTG) (hini : Cond.initialized cls ∈ zTG) (hstr : vk_R RX11 is text sa Γ.2.2.2.1)
    (hat : ∀ w ∈ (vx_atS RX11 ic cls nmE).filter goodWord, w ∈ zTG) (hat2 : ∀ w ∈ (vx_atS RX11 ic cls nmE).filter (fun w => !goodWord w), w ∈ [Cond.castable cls cls, Cond.declares (Bundle.initS "java/lang/RuntimeException"), Cond.declares (Bundle.initS "java/lang/Exception"), Cond.declares (Bundle.initS Bundle.tN)]) (hca : va_Nw (.castable cls cls) Γ.2.2.2.1) (hdc : zDc Γ.2.2.2.1)
    (hot : ∀ w ∈ Cond.classLink RX11 ik cls :: Cond.initialized cls :: vx_atS RX11 ic cls nmE, vx_ot w = true)
    (hU : vx_Zq Bundle.tN "UNASSIGNED_STACK" Bundle.steD Γ.2.2.2.2.2.2.2.2.2.2.2.2.1 Γ.2.2.2.1 Γ.2.2.2.1.heap) (hN : vx_Zq Bundle.tN "SUPPRESSED_SENTINEL" Bundle.listD Γ.2.2.2.2.2.2.2.2.2.2.2.2.1 Γ.2.2.2.1 Γ.2.2.2.1.heap)
    (d0 : decode cX11_element pc = .ok (.new ik, 3)) (d3 : decode cX11_element (pc + 3) = .ok (.dup, 1)) (d4 : decode cX11_element (pc + 4) = .ok (.ldc_w is, 3)) (d7 : decode cX11_element (pc + 7) = .ok (.invokespecial ic, 3)) (d10 : decode cX11_element (pc + 10) = .ok (.athrow, 1))
    (hT : elTX x1 x2 M cls) : zU rE (qE Γ x1 x2 M) Γ muE (145, 0, 0) pc L [] M := by
  obtain ⟨p, l, e, s, m, args, below, meth, c, D, cA, ad, A, t1, t2, P⟩ := Γ
  obtain ⟨⟨hx, hb, hml, hown, hts⟩, hr, hlk, hK, hA, hSt, hNs⟩ := C
  intro H locs ls hR hP hD hS hz hv
  refine vx_throwSW (A := A) hx hb hfl hown hf xnm (hts _ hk) (hts _ hini) hstr (vx_hat (fun w h => hts w (hat w h)) hat2 (vx_c (va_Nw.use rfl hca) (vx_c (va_Nw.use rfl hdc.1) (vx_c (va_Nw.use rfl hdc.2.1) (vx_c (va_Nw.use rfl hdc.2.2) vx_n))))) hot hU hN hS (hv.1.trans hml.symm) d0 d3 d4 d7 d10 (fun x h => (htb x h).elim) (by decide) (by decide) (by decide) (by decide) hlk ?_ hS.2.2 (Nat.le_refl _) (Nat.le_refl _)
  intro t _ g1 g2
  refine ⟨hT, hP.kept (fun k q hk => g2 q.1 (vx_lt hP hk)), ?_⟩
  exact ⟨Nat.le_trans hS.1 g1, fun q h1 h2 => by rw [g2 q (Nat.lt_of_lt_of_le h1 hS.1)]; exact hS.2.1 q h1 h2⟩
set_option maxHeartbeats 1000000 in
theorem el_walk {Γ : zG} {x1 x2 : Int} {M : zM} {q1 q2 q3 : Nat} (C : zC Γ muE) (hfl : Γ.2.1.stackTraces = false) (htb : ∀ x ∈ Γ.2.2.2.2.2.2.2.2.1.exceptionTable.toList, False) (hEx : zEx q1 q2 q3 Γ.2.2.2.2.2.2.2.2.2.2.2.2.1 Γ.2.2.2.1 Γ.2.2.2.1.heap) (z1 : zin x1) (z2 : zin x2) (hs : 0 ≤ x1 ∧ x1 < 8 → M (26 + 2 * x1) 2 ≤ 120) : zU rE (qE Γ x1 x2 M) Γ muE (145, 0, 0) 0 [(0, zRf (zad Γ) 0), (1, zI x1), (2, zI x2)] [] M := by
  obtain ⟨e1, e2, e3, e4, e5, e6, e7, e8, e9⟩ := hEx
  refine zu_rng (fun hR => ?_)
  refine zu_aload_n C 0 rfl (zdec_at dm_X11_element 0 rfl) rfl ?_
  refine zu_iload_n C 1 rfl (zdec_at dm_X11_element 1 rfl) rfl ?_
  refine zu_callV C [x1] ok_X11_shelfAt ck_RX11_103 iv_X11_shelfAt vc_X11 oc_0 rfl rfl (zdec_at dm_X11_element 2 rfl) ⟨rfl, Nat.zero_le _, Nat.zero_le _⟩ ⟨by decide, by decide⟩ (Nat.le_of_ble_eq_true rfl) (zall_0 z1 zall_n) ?_
  refine ⟨_, rfl, trivial, fun r1 M2 p5 z4 hR3 => ?_⟩
  obtain ⟨eM, er⟩ := p5
  subst eM
  change zU rE _ Γ muE (145, 0, 0) 5 [(0, zRf (zad Γ) 0), (1, zI x1), (2, zI x2)] [zA (zad Γ) r1] _
  refine zu_astoreA_n (L1 := [(3, zA (zad Γ) r1), (0, zRf (zad Γ) 0), (1, zI x1), (2, zI x2)]) C (zdec_at dm_X11_element 3 rfl) rfl (Nat.le_of_ble_eq_true rfl) rfl ?_
  refine zu_aloadA_n C 0 rfl (zdec_at dm_X11_element 4 rfl) rfl ?_
  refine zu_ifnonnull C (zdec_at dm_X11_element 5 rfl) rfl (fun g => ?_) (fun g => ?_)
  · have x0 : 0 ≤ x1 ∧ x1 < 8 := by
      by_cases h : 0 ≤ x1 ∧ x1 < 8
      · exact h
      · rw [if_neg h] at er; omega
    rw [if_pos x0] at er
    subst er
    have o : zsh (26 + 2 * x1) := ⟨x1, x0.1, x0.2, rfl⟩
    have hs := hs x0
    rw [zA_pos g]
    refine zu_aload_n C 0 rfl (zdec_at dm_X11_element 11 rfl) rfl ?_
    refine zu_geti C fk_RX11_389 (zsh_f o 0 (by decide)) (zdec_at dm_X11_element 12 rfl) ?_
    refine zu_iconst C (zdec_at dm_X11_element 13 rfl) ?_
    refine zu_icmp_eq C (hR _ _) (by decide) (zdec_at dm_X11_element 14 rfl) rfl (fun g2 => ?_) (fun g2 => ?_)
    · refine zu_iload_n C 3 rfl (zdec_at dm_X11_element 20 rfl) rfl ?_
      refine zu_if_lt C z2 (zdec_at dm_X11_element 21 rfl) rfl (fun g3 => ?_) (fun g3 => ?_)
      · exact zu_thrE C hfl htb (by decide +kernel) (zTG_6 (i := 82) rfl rfl) (zTG_1 (i := 22) rfl rfl) e3 xat_1 xbt_1 e7 e9 xot_1 e4 e5 (zdec_at dm_X11_element 26 rfl) (zdec_at dm_X11_element 27 rfl) (zdec_at dm_X11_element 28 rfl) (zdec_at dm_X11_element 29 rfl) (zdec_at dm_X11_element 30 rfl) (Or.inr ⟨x0, fun q => by omega, rfl⟩)
      · refine zu_iload_n C 3 rfl (zdec_at dm_X11_element 22 rfl) rfl ?_
        refine zu_aload_n C 0 rfl (zdec_at dm_X11_element 23 rfl) rfl ?_
        refine zu_geti C fk_RX11_111 (zsh_f o 2 (by decide)) (zdec_at dm_X11_element 24 rfl) ?_
        refine zu_icmp_lt C z2 (hR _ _) (zdec_at dm_X11_element 25 rfl) rfl (fun g4 => ?_) (fun g4 => ?_)
        · refine zu_aload_n C 0 rfl (zdec_at dm_X11_element 31 rfl) rfl ?_
          refine zu_getr C fk_RX11_107 (zsh_v o) (zdec_at dm_X11_element 32 rfl) ?_
          refine zu_iload_n C 3 rfl (zdec_at dm_X11_element 33 rfl) rfl ?_
          refine zu_iald C (zsh_a o) ⟨by omega, by omega⟩ (zdec_at dm_X11_element 34 rfl) ?_
          refine zu_i2l C (hR _ _) (zdec_at dm_X11_element 35 rfl) ?_
          exact zu_retE C ⟨hR _ _, x0, ⟨g2, by omega, g4⟩, rfl, rfl⟩
        · exact zu_thrE C hfl htb (by decide +kernel) (zTG_6 (i := 82) rfl rfl) (zTG_1 (i := 22) rfl rfl) e3 xat_1 xbt_1 e7 e9 xot_1 e4 e5 (zdec_at dm_X11_element 26 rfl) (zdec_at dm_X11_element 27 rfl) (zdec_at dm_X11_element 28 rfl) (zdec_at dm_X11_element 29 rfl) (zdec_at dm_X11_element 30 rfl) (Or.inr ⟨x0, fun q => g4 q.2.2, rfl⟩)
    · exact zu_thrE C hfl htb (by decide +kernel) (zTG_6 (i := 82) rfl rfl) (zTG_1 (i := 22) rfl rfl) e2 xat_1 xbt_1 e7 e9 xot_1 e4 e5 (zdec_at dm_X11_element 15 rfl) (zdec_at dm_X11_element 16 rfl) (zdec_at dm_X11_element 17 rfl) (zdec_at dm_X11_element 18 rfl) (zdec_at dm_X11_element 19 rfl) (Or.inr ⟨x0, fun q => g2 q.1, rfl⟩)
  · have x0 : ¬ (0 ≤ x1 ∧ x1 < 8) := fun h => by rw [if_pos h] at er; omega
    exact zu_thrE C hfl htb (by decide +kernel) (zTG_6 (i := 16) rfl rfl) (zTG_1 (i := 21) rfl rfl) e1 xat_0 xbt_0 e6 e9 xot_0 e4 e5 (zdec_at dm_X11_element 6 rfl) (zdec_at dm_X11_element 7 rfl) (zdec_at dm_X11_element 8 rfl) (zdec_at dm_X11_element 9 rfl) (zdec_at dm_X11_element 10 rfl) (Or.inl ⟨x0, rfl⟩)
theorem el_met {l : Launch} (hfl : l.stackTraces = false) (D : va_G) (cA : Nat → ClassId) (ad : Nat → Nat) (t1 t2 q1 q2 q3 : Nat) {x1 x2 : Int} (z1 : zin x1) (z2 : zin x2) (M : zM) (sz : Nat) (hs : 0 ≤ x1 ∧ x1 < 8 → M (26 + 2 * x1) 2 ≤ 120) :
    vx_Met l yX11_element (Cond.code yX11_element cX11_element 4 (some .long) :: zTG) rE (va_Pc [zRf ad 0, zI x1, zI x2] (zElP D cA ad t1 t2 q1 q2 q3 M sz)) (zQc (some .long) (elRX x1 x2 M) D cA ad zS 145 0 (va_A (zw ad cA zS 145 M) sz)) (zXc (elTX x1 x2 M) D cA ad zS 145 M (va_A (zw ad cA zS 145 M) sz)) 1 6 (va_A (zw ad cA zS 145 M) sz) := by
  refine vx_ofW (cc := cX11_element) (maxL := 4) (ret := some .long) rfl rfl ?_
  intro p e s m args below meth c s₁ B hml htb hv
  obtain ⟨rfl, hsz, hR, hP, hK, hD0, hSt, hNs, hEx⟩ := hv
  have hx := B.exec
  have hb := B.bytes
  have hr := B.returns
  have hts := atoms_spec (ws := Cond.code yX11_element cX11_element 4 (some .long) :: zTG) B.pre
  have hown : s.vm.findClass yX11_element.cls = some m.cls := findClass_of_methodNamed B.named
  have hlocks := B.notSynchronized
  subst hsz
  have hD := hD0.self (sz := s.heap.size)
  generalize hAe : va_A (zw ad cA zS 145 M) s.heap.size = A at hD hSt hEx ⊢
  have hA : ∀ q : Nat, s.heap.size ≤ q → A q := fun q h => by rw [← hAe]; exact Or.inr h
  have hl := lv_entry [zRf ad 0, zI x1, zI x2] (n := 4) (Nat.le_of_ble_eq_true rfl)
  rw [lg_entry_eq]
  generalize (lg_sl [zRf ad 0, zI x1, zI x2] ++ List.replicate (4 - (lg_sl [zRf ad 0, zI x1, zI x2]).length) Slot.unset).toArray = ls at hl ⊢
  exact el_walk (Γ := (p, l, e, s, m, [zRf ad 0, zI x1, zI x2].toArray, below, meth, c, D, cA, ad, A, t1, t2, fun _ _ => True)) ⟨⟨hx, hb, hml, hown, fun w hw => hts w (List.mem_cons_of_mem _ hw)⟩, hr, hlocks, hK, hA, hSt, hNs⟩ hfl htb hEx z1 z2 hs s.heap [] ls hR hP hD va_S.rf (fun _ => rfl) hl
