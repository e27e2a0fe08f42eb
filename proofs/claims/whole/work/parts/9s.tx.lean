abbrev mLe : zMc := (cL_element, RL, 5, some .int, 0, zS, 145, 0, 0)
abbrev rLe : Room := { frames := 9, cells := 1, slots := 6, locals := 500 }
abbrev hhE : List (Nat × Nat × Nat × Nat) := [(0, 9, 12, 13), (0, 9, 16, 15)]
def qLe (Γ : zG) (x1 x2 : Int) (M : zM) : State → Prop := match Γ with
  | (_, _, _, s, _, args, below, _, _, D, cA, ad, A, _, _, _) => vx_MQ below (zQc (some .int) (elR x1 x2 M) D cA ad zS 145 0 A) (zXc (fun _ => False) D cA ad zS 145 M A) args s 1 6 A
theorem dm_L_element : zdec cL_element [(0, .aload_n 3, 1), (1, .iconst 0, 1), (2, .aload_n 0, 1), (3, .iload_n 1, 1), (4, .iload_n 2, 1), (5, .invokevirtual 7, 3), (8, .lastore, 1), (9, .goto 11, 3), (12, .astore 4, 2), (14, .iconst 1, 1), (15, .ireturn, 1), (16, .astore 4, 2), (18, .iconst 2, 1), (19, .ireturn, 1), (20, .iconst 0, 1), (21, .ireturn, 1)] = true := by decide +kernel
theorem zu_retL {Γ : zG} {x1 x2 : Int} {M0 M : zM} (C : zC Γ mLe) {k n : Nat} (hk : k ≤ 1) (hn : n ≤ 6) {L : List (Nat × Value)} {pc : Nat} {r : Int} (hd : decode cL_element pc = .ok (.ireturn, 1)) (kk : zin r ∧ elR x1 x2 M0 r M) : zU rLe (qLe Γ x1 x2 M0) Γ mLe (145, k, n) pc L [zI r] M := by
  obtain ⟨p, l, e, s, m, args, below, meth, c, D, cA, ad, A, t1, t2, P⟩ := Γ
  obtain ⟨⟨hx, hb, hml, hown, hts⟩, hr, hlk, hK, hA, hSt, hNs⟩ := C
  intro H locs ls hR hP hD hS hz hv
  refine vx_ret ?_
  refine W.widen (k := 1) (n := 6) hk hn ?_
  exact W.iret hx hb hr (fun t ht hW => ⟨⟨r, M, kk.1, rfl, kk.2, hR, by rw [ht]; exact hP, hD, fun g => absurd rfl g⟩, hS.F ht⟩) hS.2.2 hd
theorem zu_callEl {QQ : State → Prop} {Γ : zG} (C : zC Γ mLe) {x1 x2 : Int} {M : zM} {q1 q2 q3 : Nat} (hfl : Γ.2.1.stackTraces = false) (hEx : zEx q1 q2 q3 Γ.2.2.2.2.2.2.2.2.2.2.2.2.1 Γ.2.2.2.1 Γ.2.2.2.1.heap) (z1 : zin x1) (z2 : zin x2) (hs : 0 ≤ x1 ∧ x1 < 8 → M (26 + 2 * x1) 2 ≤ 120) {L : List (Nat × Value)} {rest : List Value} (hrest : (rest.map fun v => v.category).sum ≤ 8)
    (kk : ∀ r M', elRX x1 x2 M r M' → zin r → zU rLe QQ Γ mLe (145, 1, 6) 8 L (zJ r :: rest) M')
    (kx : ∀ E q, elTX x1 x2 M E → zX rLe QQ Γ mLe (145, 1, 6) 5 L rest M E q) :
    zU rLe QQ Γ mLe (145, 0, 0) 5 L (zI x2 :: zI x1 :: zRf (zad Γ) 0 :: rest) M := by
  intro H locs ls hR hP hD hS0 hz hv
  have hM := el_met hfl Γ.2.2.2.2.2.2.2.2.2.1 Γ.2.2.2.2.2.2.2.2.2.2.1 (zad Γ) (zt1 Γ) (zt2 Γ) q1 q2 q3 z1 z2 M H.size hs
  have hpre := zx_preE C (κ := (145, 0, 0)) (av := [zRf (zad Γ) 0, zI x1, zI x2]) hEx rfl rfl hR hP hD hS0
  have hcall := fun hrun => zx_callE (RR := rLe) (QQ := QQ) C (κ := (145, 0, 0)) (pc := 5) (L := L) (st0 := zI x2 :: zI x1 :: zRf (zad Γ) 0 :: rest) (rest := rest) (ret' := some .long) (mc' := 1) (ms' := 6) (a := ([zRf (zad Γ) 0, zI x1, zI x2] : List Value).toArray) (PX := elTX x1 x2 M) (PR := elRX x1 x2 M) hR hP hD hS0 hv rfl hrun kk kx
  obtain ⟨p, l, e, s, m, args, below, meth, c, D, cA, ad, A, t1, t2, P⟩ := Γ
  obtain ⟨⟨hx, hb, hml, hown, hts⟩, hr, hlk, hK, hA, hSt, hNs⟩ := C
  have he := zw_get (ad := ad) (cA := cA) (σ := zS) (M := M) oc_0.2.1
  rw [zent_o oc_0.2.2 vc_X11.2] at he
  refine hcall ?_
  exact vx_runV (As := [zI x1, zI x2]) (rest := rest) ⟨hx, hb, hml, hown, hts⟩ hM ⟨callB_of 2 hts (zTG_code (zTG_6 (i := 15) rfl rfl)) rfl rfl rfl (hts _ (zTG_1 (i := 1) rfl rfl)) (hts _ (zTG_6 (i := 12) rfl rfl)) ⟨by decide +kernel, by decide +kernel, by decide +kernel⟩ ⟨by decide, by decide⟩, hts _ (zTG_6 (i := 13) rfl rfl), hts _ (zTG_6 (i := 14) rfl rfl)⟩ ⟨zElB, va_recv hK hP vc_X11.1 he, hpre⟩ rfl rfl hv.1 rfl (lv_room hrest) (zdec_at dm_L_element 5 rfl) ⟨by decide, by decide⟩
theorem le_walk {Γ : zG} {x1 x2 : Int} {M : zM} {q1 q2 q3 : Nat} (C : zC Γ mLe) (hfl : Γ.2.1.stackTraces = false) (htb : Γ.2.2.2.2.2.2.2.2.1.exceptionTable.toList = tableOf hhE) (hEx : zEx q1 q2 q3 Γ.2.2.2.2.2.2.2.2.2.2.2.2.1 Γ.2.2.2.1 Γ.2.2.2.1.heap) (z1 : zin x1) (z2 : zin x2) (hs : 0 ≤ x1 ∧ x1 < 8 → M (26 + 2 * x1) 2 ≤ 120) : zU rLe (qLe Γ x1 x2 M) Γ mLe (145, 0, 0) 0 [(0, zRf (zad Γ) 0), (1, zI x1), (2, zI x2), (3, zRf (zad Γ) 144)] [] M := by
  refine zu_aload_n C 3 rfl (zdec_at dm_L_element 0 rfl) rfl ?_
  refine zu_iconst C (zdec_at dm_L_element 1 rfl) ?_
  refine zu_aload_n C 0 rfl (zdec_at dm_L_element 2 rfl) rfl ?_
  refine zu_iload_n C 1 rfl (zdec_at dm_L_element 3 rfl) rfl ?_
  refine zu_iload_n C 2 rfl (zdec_at dm_L_element 4 rfl) rfl ?_
  refine zu_callEl C hfl hEx z1 z2 hs (Nat.le_of_ble_eq_true rfl) (fun r M' h zr => ?_) (fun E q h => ?_)
  · obtain ⟨x0, g, er, eM⟩ := h
    subst eM
    subst er
    refine zu_last (c := 144) (i := 0) (len := 1) C (show zai zS 145 144 15 1 = true from by decide +kernel) (by decide) zr rfl (zdec_at dm_L_element 6 rfl) (fun M1 e1 => ?_)
    refine zu_goto C (zdec_at dm_L_element 7 rfl) rfl ?_
    refine zu_iconst C (zdec_at dm_L_element 14 rfl) ?_
    exact zu_retL C (Nat.le_refl _) (Nat.le_refl _) (zdec_at dm_L_element 15 rfl) ⟨by decide, fun q => absurd x0 q, fun _ q => absurd g q, fun _ _ => ⟨rfl, e1⟩⟩
  · obtain ⟨e1, e2, e3, e4, e5, e6, e7, e8, e9⟩ := hEx
    rcases h with ⟨x0, eE⟩ | ⟨x0, g, eE⟩
    · subst eE
      refine zu_catch C [] ⟨0, 9, 12, 13⟩ [⟨0, 9, 16, 15⟩] (htb.trans rfl) (fun z h => nomatch h) rfl (by decide) (zTG_6 (i := 10) rfl rfl) e6 ?_
      refine zu_astoreR (L1 := [(4, Value.ref q), (0, zRf (zad Γ) 0), (1, zI x1), (2, zI x2), (3, zRf (zad Γ) 144)]) C (zdec_at dm_L_element 8 rfl) (by decide) rfl ?_
      refine zu_iconst C (zdec_at dm_L_element 9 rfl) ?_
      exact zu_retL C (Nat.le_refl _) (Nat.le_refl _) (zdec_at dm_L_element 10 rfl) ⟨by decide, fun _ => ⟨rfl, rfl⟩, fun h => absurd h x0, fun h => absurd h x0⟩
    · subst eE
      refine zu_catch C [⟨0, 9, 12, 13⟩] ⟨0, 9, 16, 15⟩ [] (htb.trans rfl) (fun z h => ?_) rfl (by decide) (zTG_6 (i := 11) rfl rfl) e7 ?_
      · cases List.mem_singleton.mp h
        exact ⟨by decide, _, zTG_6 (i := 10) rfl rfl, e8⟩
      refine zu_astoreR (L1 := [(4, Value.ref q), (0, zRf (zad Γ) 0), (1, zI x1), (2, zI x2), (3, zRf (zad Γ) 144)]) C (zdec_at dm_L_element 11 rfl) (by decide) rfl ?_
      refine zu_iconst C (zdec_at dm_L_element 12 rfl) ?_
      exact zu_retL C (Nat.le_refl _) (Nat.le_refl _) (zdec_at dm_L_element 13 rfl) ⟨by decide, fun h => absurd x0 h, fun _ _ => ⟨rfl, rfl⟩, fun _ h => absurd h g⟩
theorem le_met {l : Launch} (hfl : l.stackTraces = false) (D : va_G) (cA : Nat → ClassId) (ad : Nat → Nat) (t1 t2 q1 q2 q3 : Nat) {x1 x2 : Int} (z1 : zin x1) (z2 : zin x2) (M : zM) (sz : Nat) (hs : 0 ≤ x1 ∧ x1 < 8 → M (26 + 2 * x1) 2 ≤ 120) :
    vx_Met l yL_element (Cond.codeWith yL_element cL_element 5 (some .int) hhE :: zTG) rLe (va_Pc [zRf ad 0, zI x1, zI x2, zRf ad 144] (zElP D cA ad t1 t2 q1 q2 q3 M sz)) (zQc (some .int) (elR x1 x2 M) D cA ad zS 145 0 (va_A (zw ad cA zS 145 M) sz)) (zXc (fun _ => False) D cA ad zS 145 M (va_A (zw ad cA zS 145 M) sz)) 1 6 (va_A (zw ad cA zS 145 M) sz) := by
  refine vx_ofWH (cc := cL_element) (maxL := 5) (ret := some .int) (hh := hhE) rfl rfl ?_
  intro p e s m args below meth c s₁ B hml hv
  obtain ⟨rfl, hsz, hR, hP, hK, hD0, hSt, hNs, hEx⟩ := hv
  have hx := B.exec
  have hb := B.bytes
  have hr := B.returns
  have hts := atoms_spec (ws := Cond.codeWith yL_element cL_element 5 (some .int) hhE :: zTG) B.pre
  have htb := vx_table (x := yL_element) B (hts _ List.mem_cons_self)
  have hown : s.vm.findClass yL_element.cls = some m.cls := findClass_of_methodNamed B.named
  have hlocks := B.notSynchronized
  subst hsz
  have hD := hD0.self (sz := s.heap.size)
  generalize hAe : va_A (zw ad cA zS 145 M) s.heap.size = A at hD hSt hEx ⊢
  have hA : ∀ q : Nat, s.heap.size ≤ q → A q := fun q h => by rw [← hAe]; exact Or.inr h
  have hl := lv_entry [zRf ad 0, zI x1, zI x2, zRf ad 144] (n := 5) (Nat.le_of_ble_eq_true rfl)
  rw [lg_entry_eq]
  generalize (lg_sl [zRf ad 0, zI x1, zI x2, zRf ad 144] ++ List.replicate (5 - (lg_sl [zRf ad 0, zI x1, zI x2, zRf ad 144]).length) Slot.unset).toArray = ls at hl ⊢
  exact le_walk (Γ := (p, l, e, s, m, [zRf ad 0, zI x1, zI x2, zRf ad 144].toArray, below, meth, c, D, cA, ad, A, t1, t2, fun _ _ => True)) ⟨⟨hx, hb, hml, hown, fun w hw => hts w (List.mem_cons_of_mem _ hw)⟩, hr, hlocks, hK, hA, hSt, hNs⟩ hfl htb hEx z1 z2 hs s.heap [] ls hR hP hD va_S.rf (fun _ => rfl) hl
theorem gLe : GoodIn zTG (va_wsS RL 176 yL_element (Cond.codeWith yL_element cL_element 5 (some .int) hhE :: zTG)) := zTG_gi fun w hw => by
  unfold va_wsS at hw
  rcases List.mem_append.mp hw with h | h
  · rcases List.mem_cons.mp h with rfl | h
    · exact zTG_6 (i := 7) rfl rfl
    · rcases List.mem_cons.mp h with rfl | h
      · exact zTG_6 (i := 8) rfl rfl
      · rcases List.mem_cons.mp h with rfl | h
        · exact zTG_1 (i := 0) rfl rfl
        · cases h
  · rcases List.mem_cons.mp h with rfl | h
    · exact zTG_6 (i := 9) rfl rfl
    · exact h
theorem lw_call {QQ : State → Prop} {Γ : zG} {b : Nat} {q1 q2 q3 : Nat} (C : zC Γ mcL) (hfl : Γ.2.1.stackTraces = false) (hEx : zEx q1 q2 q3 Γ.2.2.2.2.2.2.2.2.2.2.2.2.1 Γ.2.2.2.1 Γ.2.2.2.1.heap) : lwCall QQ Γ b := by
  intro i v k n M x1 x2 z1 z2 hk J nx
  have hs : 0 ≤ x1 ∧ x1 < 8 → M (26 + 2 * x1) 2 ≤ 120 := fun h => by
    have sz := (J.1.s x1 h.1 h.2).1
    omega
  intro H locs ls hR hP hD hS0 hz hv
  have hM := le_met hfl Γ.2.2.2.2.2.2.2.2.2.1 Γ.2.2.2.2.2.2.2.2.2.2.1 (zad Γ) (zt1 Γ) (zt2 Γ) q1 q2 q3 z1 z2 M H.size hs
  have hpre := zx_preE C (κ := (145, k, n)) (av := [zRf (zad Γ) 0, zI x1, zI x2, zRf (zad Γ) 144]) hEx rfl rfl hR hP hD hS0
  have hcall := fun hrun => zx_callE (RR := room_1) (QQ := QQ) C (κ := (145, k, n)) (pc := 1523) (L := lwL Γ b i) (st0 := [zRf (zad Γ) 144, zI x2, zI x1, zRf (zad Γ) 0]) (rest := []) (ret' := some .int) (mc' := 1) (ms' := 6) (a := ([zRf (zad Γ) 0, zI x1, zI x2, zRf (zad Γ) 144] : List Value).toArray) (PX := fun _ => False) (PR := elR x1 x2 M) hR hP hD hS0 hv rfl hrun (fun r M' h zr => nx r M' (k + 1) (n + 6) (by omega) (by omega) zr h) (fun E q h => h.elim)
  obtain ⟨p, l, e, s, m, args, below, meth, c, D, cA, ad, A, t1, t2, P⟩ := Γ
  obtain ⟨⟨hx, hb, hml, hown, hts⟩, hr, hlk, hK, hA, hSt, hNs⟩ := C
  refine hcall ?_
  exact vx_runSX (hh := hhE) (As := [zRf ad 0, zI x1, zI x2, zRf ad 144]) (rest := []) ⟨hx, hb, hml, hown, hts⟩ hM (vx_cwSW (hh := hhE) 4 hts gLe rfl rfl rfl ⟨by decide +kernel, by decide +kernel, by decide +kernel⟩ ⟨by decide, by decide⟩) ⟨zElB, hpre⟩ rfl rfl hv.1 rfl (lv_room (Nat.le_of_ble_eq_true rfl)) (zdec_at dm_L37 12 rfl) ⟨by show k + 1 ≤ 601024; omega, by show n + 6 ≤ 7293034; omega⟩
theorem zEx_of {s : State} {args : Array Value} (hts : ∀ w ∈ lw_tbl, w.before args s = true) (hgv : (Jvm.Cond.and given_1 narrow_1).before args s = true) : ∃ q1 q2 q3, zEx q1 q2 q3 (fun q => s.heap.size ≤ q) s s.heap := by
  have hs := flat_of_before _ hgv
  have hA : ∀ a : Nat, a < s.heap.size → ¬ s.heap.size ≤ a := fun a h => Nat.not_le.mpr h
  obtain ⟨q1, _, _, _, h1, -⟩ := Cond.exactly_spec (hs (Cond.exactly (.string RX11 397) "java/lang/String") (by decide +kernel))
  obtain ⟨q2, _, _, _, h2, -⟩ := Cond.exactly_spec (hs (Cond.exactly (.string RX11 404) "java/lang/String") (by decide +kernel))
  obtain ⟨q3, _, _, _, h3, -⟩ := Cond.exactly_spec (hs (Cond.exactly (.string RX11 407) "java/lang/String") (by decide +kernel))
  refine ⟨q1, q2, q3, vk_R.of (hts (Cond.stringRef RX11 397 "no such shelf") (by decide +kernel)) h1, vk_R.of (hts (Cond.stringRef RX11 404 "no row") (by decide +kernel)) h2, vk_R.of (hts (Cond.stringRef RX11 407 "no such place") (by decide +kernel)) h3, ?_, ?_, ?_, ?_, ?_, ?_, ?_, ?_⟩
  · exact vx_Zqof (hts (Cond.laysStatic Bundle.tN "UNASSIGNED_STACK" Bundle.steD) (by decide +kernel)) (hts (Cond.initialized Bundle.tN) (by decide +kernel)) (hs (Cond.isRef (.static Bundle.tN "UNASSIGNED_STACK" Bundle.steD)) (by decide +kernel)) hA
  · exact vx_Zqof (hts (Cond.laysStatic Bundle.tN "SUPPRESSED_SENTINEL" Bundle.listD) (by decide +kernel)) (hts (Cond.initialized Bundle.tN) (by decide +kernel)) (hs (Cond.isRef (.static Bundle.tN "SUPPRESSED_SENTINEL" Bundle.listD)) (by decide +kernel)) hA
  · exact va_Nw.of rfl (hts (Cond.castable "java/lang/IllegalArgumentException" "java/lang/IllegalArgumentException") (by decide +kernel))
  · exact va_Nw.of rfl (hts (Cond.castable "java/lang/IllegalStateException" "java/lang/IllegalStateException") (by decide +kernel))
  · exact va_Nc.of (hs (Cond.not (.castable "java/lang/IllegalStateException" "java/lang/IllegalArgumentException")) (by decide +kernel))
  · exact va_Nw.of rfl (hts (Cond.declares (Bundle.initS "java/lang/RuntimeException")) (by decide +kernel))
  · exact va_Nw.of rfl (hts (Cond.declares (Bundle.initS "java/lang/Exception")) (by decide +kernel))
  · exact va_Nw.of rfl (hts (Cond.declares (Bundle.initS Bundle.tN)) (by decide +kernel))
/-- from the entry to the end -/
theorem whole_start {p : Program} {e : Env} {s : State} {m : MethodId} {below : List Frame} {meth : Method} {c : Code} (l : Launch) (hflags : l.flags = flags0) {b L : Nat} {xs : Nat → Int32} (hL : L ≤ 3072) (C0 : lw_At p s m meth c b L xs) : W p l e room_1 s m #[Value.ref b] below meth c s.heap [] 0 0 (lw_Z below #[Value.ref b] s) (entryFrame m ([Value.ref b] : List Value).toArray 8) := by
  obtain ⟨hx, hb, hr, hml, hown, hts, hX, hbl, hlocks, hgv⟩ := id C0
  obtain ⟨q1, q2, q3, hEx⟩ := zEx_of hts hgv
  have hfl : l.stackTraces = false := by unfold Launch.stackTraces; rw [hflags]; decide +kernel
  exact lw_start l hL C0 (fun Γ C X e1 e2 e3 => lw_el C X (lw_call (q1 := q1) (q2 := q2) (q3 := q3) C (by rw [e1]; exact hfl) (by rw [e3, e2]; exact hEx)))
