/-- a method's link at a call: what the tables say -/
def zCK (own : String) (idx : Nat) (y : MethodName) (cc : ByteArray) (nL : Nat) (ret : Option FieldType) (na : Nat) : Prop :=
  (Cond.methodLink own idx y ∈ zTG ∨ ∃ host, Cond.methodLinkNest own idx y host ∈ zNL) ∧ Cond.initialized y.cls ∈ zTG ∧ Cond.code y cc nL ret ∈ zTG ∧ (y.cls ≠ "java/lang/invoke/MethodHandle" ∧ y.cls ≠ "java/lang/invoke/VarHandle" ∧ (parseMethodDescriptor y.desc).map (fun d => d.parameters.length) = some na)
theorem zTG_code {y : MethodName} {cc : ByteArray} {nL : Nat} {ret : Option FieldType} (h : Cond.code y cc nL ret ∈ zTG) : GoodIn zTG (Cond.code y cc nL ret :: zTG) := zTG_gi fun w hw => by
  rcases List.mem_cons.mp hw with rfl | hw
  · exact h
  · exact hw
theorem zargs_len (ad : Nat → Nat) : ∀ (ats : List Nat) (xs : List Int), zall ats xs → (zargs ad ats xs).length = ats.length
  | [], [], _ => rfl
  | _ :: ts, _ :: xs, h => by simp [zargs, zargs_len ad ts xs h.2]
  | [], _ :: _, h => h.elim
  | _ :: _, [], h => h.elim
theorem zBlind {σ : zSh} {n mc : Nat} {D : va_G} {cA : Nat → ClassId} {ad : Nat → Nat} {t1 t2 : Nat} {av : List Value} {M : zM} {sz : Nat} {A : Nat → Prop} : FrameBlind (va_Pc av (fun U => U.heap.size = sz ∧ zRng M ∧ va_P D vwCl (zw ad cA σ n M) U.heap ∧ va_K D vwCl (ztys cA) U ∧ va_D (fun _ => True) (zw ad cA σ n M) ∧ zStat t1 t2 A U U.heap ∧ zNst U ∧ (mc ≠ 0 → ∀ j, n ≤ j → ad j = sz + (j - n)))) := by
  intro a U g mk q
  obtain ⟨q0, q1, q2, q3, q4, q5, q6, q8, q7⟩ := q
  exact ⟨q0, q1, q2, q3, va_K.moved (u := U) (U := U.calling g mk a) (Vm.Alike.refl U.vm) q4, q5, zStat.moved (u := U) (U := U.calling g mk a) (Vm.Alike.refl U.vm) q6, zNst.same (s := U) (U := U.calling g mk a) rfl q8, q7⟩
/-- behind a call -/
theorem zx_call {Γ : zG} {μ : zMc} (C : zC Γ μ) {κ : Nat × Nat × Nat} {pc : Nat} {L : List (Nat × Value)} {st0 rest : List Value} {M : zM} {H : Heap} {locs : List Loc} {ls : Array Slot} {ret' : Option FieldType} {mc' ms' : Nat} {a : Array Value}
    (hR : zRng M) (hP : va_P Γ.2.2.2.2.2.2.2.2.2.1 vwCl (zw (zad Γ) Γ.2.2.2.2.2.2.2.2.2.2.1 μ.2.2.2.2.2.1 κ.1 M) H) (hD : va_D Γ.2.2.2.2.2.2.2.2.2.2.2.2.1 (zw (zad Γ) Γ.2.2.2.2.2.2.2.2.2.2.1 μ.2.2.2.2.2.1 κ.1 M)) (hS : va_S Γ.2.2.2.2.2.2.2.2.2.2.2.2.1 Γ.2.2.2.1.heap H locs) (hz : μ.2.2.2.2.2.2.2.1 ≠ 0 → H.size = Γ.2.2.2.1.heap.size + κ.2.1) (hv : lv_has ls μ.2.2.1 L) (hmm : μ.2.2.2.2.2.2.2.1 ≠ 0 → mc' ≠ 0)
    (hrun : va_Run Γ.1 Γ.2.1 Γ.2.2.1 (zRm μ.2.2.2.2.1 μ.2.2.2.2.2.2.2.1 μ.2.2.2.2.2.2.2.2) Γ.2.2.2.1 Γ.2.2.2.2.1 Γ.2.2.2.2.2.1 Γ.2.2.2.2.2.2.1 Γ.2.2.2.2.2.2.2.1 Γ.2.2.2.2.2.2.2.2.1 H locs κ.2.1 κ.2.2 mc' ms' (F0 Γ.2.2.2.2.1 pc ls st0) rest (zQc ret' (fun r M' => zin r → zRng M' → zV Γ μ (κ.1 + mc', κ.2.1 + mc', κ.2.2 + ms') (pc + 3) L ((zrv ret' (zad Γ) r).toList ++ rest) M') Γ.2.2.2.2.2.2.2.2.2.1 Γ.2.2.2.2.2.2.2.2.2.2.1 (zad Γ) μ.2.2.2.2.2.1 (κ.1 + mc') mc' (va_A (zw (zad Γ) Γ.2.2.2.2.2.2.2.2.2.2.1 μ.2.2.2.2.2.1 κ.1 M) H.size) a) (va_A (zw (zad Γ) Γ.2.2.2.2.2.2.2.2.2.2.1 μ.2.2.2.2.2.1 κ.1 M) H.size)) :
    W Γ.1 Γ.2.1 Γ.2.2.1 (zRm μ.2.2.2.2.1 μ.2.2.2.2.2.2.2.1 μ.2.2.2.2.2.2.2.2) Γ.2.2.2.1 Γ.2.2.2.2.1 Γ.2.2.2.2.2.1 Γ.2.2.2.2.2.2.1 Γ.2.2.2.2.2.2.2.1 Γ.2.2.2.2.2.2.2.2.1 H locs κ.2.1 κ.2.2 (MQ Γ.2.2.2.2.2.2.1 (zQc μ.2.2.2.1 (zP Γ) Γ.2.2.2.2.2.2.2.2.2.1 Γ.2.2.2.2.2.2.2.2.2.2.1 (zad Γ) μ.2.2.2.2.2.1 (μ.2.2.2.2.2.2.1 + μ.2.2.2.2.2.2.2.1) μ.2.2.2.2.2.2.2.1 Γ.2.2.2.2.2.2.2.2.2.2.2.2.1) Γ.2.2.2.2.2.1 Γ.2.2.2.1 μ.2.2.2.2.2.2.2.1 μ.2.2.2.2.2.2.2.2 Γ.2.2.2.2.2.2.2.2.2.2.2.2.1) (F0 Γ.2.2.2.2.1 pc ls st0) := by
  obtain ⟨p, l, e, s, m, args, below, meth, c, D, cA, ad, A, t1, t2, P⟩ := Γ
  obtain ⟨⟨hx, hb, hml, hown, hts⟩, hr, hlk, hK, hA, hSt, hNs⟩ := C
  dsimp only at hP hD hS hz hrun ⊢
  have hf : ∀ q, va_A (zw ad cA μ.2.2.2.2.2.1 κ.1 M) H.size q → A q := by
    intro q h
    rcases h with ⟨k, e, h⟩ | h
    · exact hD.2 k _ h
    · exact hA q (Nat.le_trans hS.1 h)
  intro T hT X
  obtain ⟨v, st₀, t, T', L2, h0, X', hL, e1, e2, ⟨⟨r, M', hr0, hoc, hpost, hR', hP', hD', hz'⟩, hF⟩, st⟩ := hrun T hT X
  have hv2 : v = zrv ret' ad r := by cases hoc; rfl
  subst hv2
  have hF1 : H.size ≤ T'.heap.size := by rw [e1, ← h0]; exact hF.1
  have hF2 : ∀ q : Nat, q < H.size → ¬ va_A (zw ad cA μ.2.2.2.2.2.1 κ.1 M) H.size q → T'.heap[q]? = H[q]? := fun q a b => by rw [e1, ← h0]; exact hF.2 q (by rw [h0]; exact a) b
  obtain ⟨t2, a1, b1⟩ := hpost hr0 hR' T'.heap (locs ++ L2) ls hR' (by rw [e1]; exact hP') (hD'.weaken fun k q _ h => hf _ h)
    ⟨Nat.le_trans hS.1 hF1, fun q h1 h2 => by rw [hF2 q (Nat.lt_of_lt_of_le h1 hS.1) (fun z => h2 (hf q z))]; exact hS.2.1 q h1 h2, fun q hq => by
      rcases List.mem_append.mp hq with h | h
      · exact hS.2.2 q h
      · exact hf _ (hL q h)⟩ (fun g => by rw [e1, hz' (hmm g), h0, hz g]; show _ = s.heap.size + (κ.2.1 + mc'); omega) hv T' rfl X'
  exact ⟨t2, st t2 a1, b1⟩
/-- what a callee wants of the caller's state -/
theorem zx_pre {Γ : zG} {μ : zMc} (C : zC Γ μ) {κ : Nat × Nat × Nat} {M : zM} {H : Heap} {locs : List Loc} {av : List Value} {mc' : Nat}
    (hR : zRng M) (hP : va_P Γ.2.2.2.2.2.2.2.2.2.1 vwCl (zw (zad Γ) Γ.2.2.2.2.2.2.2.2.2.2.1 μ.2.2.2.2.2.1 κ.1 M) H) (hD : va_D Γ.2.2.2.2.2.2.2.2.2.2.2.2.1 (zw (zad Γ) Γ.2.2.2.2.2.2.2.2.2.2.1 μ.2.2.2.2.2.1 κ.1 M)) (hS : va_S Γ.2.2.2.2.2.2.2.2.2.2.2.2.1 Γ.2.2.2.1.heap H locs) (had : mc' ≠ 0 → ∀ j, κ.1 ≤ j → zad Γ j = H.size + (j - κ.1)) :
    ∀ U : State, U.heap = H → Γ.2.2.2.1.WarmedH U.vm → va_Pc av (fun U => U.heap.size = H.size ∧ zRng M ∧ va_P Γ.2.2.2.2.2.2.2.2.2.1 vwCl (zw (zad Γ) Γ.2.2.2.2.2.2.2.2.2.2.1 μ.2.2.2.2.2.1 κ.1 M) U.heap ∧ va_K Γ.2.2.2.2.2.2.2.2.2.1 vwCl (ztys Γ.2.2.2.2.2.2.2.2.2.2.1) U ∧ va_D (fun _ => True) (zw (zad Γ) Γ.2.2.2.2.2.2.2.2.2.2.1 μ.2.2.2.2.2.1 κ.1 M) ∧ zStat (zt1 Γ) (zt2 Γ) (va_A (zw (zad Γ) Γ.2.2.2.2.2.2.2.2.2.2.1 μ.2.2.2.2.2.1 κ.1 M) H.size) U U.heap ∧ zNst U ∧ (mc' ≠ 0 → ∀ j, κ.1 ≤ j → zad Γ j = H.size + (j - κ.1))) av.toArray U := by
  obtain ⟨p, l, e, s, m, args, below, meth, c, D, cA, ad, A, t1, t2, P⟩ := Γ
  obtain ⟨⟨hx, hb, hml, hown, hts⟩, hr, hlk, hK, hA, hSt, hNs⟩ := C
  dsimp only at hP hD hS had ⊢
  intro U hU hW
  have hf : ∀ q, va_A (zw ad cA μ.2.2.2.2.2.1 κ.1 M) H.size q → A q := by
    intro q h
    rcases h with ⟨k, e, h⟩ | h
    · exact hD.2 k _ h
    · exact hA q (Nat.le_trans hS.1 h)
  refine ⟨rfl, by rw [hU], hR, by rw [hU]; exact hP, va_K.moved hW.alike hK, hD.weaken (fun _ _ _ _ => trivial), ?_, hNs.warm hW, had⟩
  rw [hU]
  exact ((hSt.moved hW.alike).kept (fun a g1 g2 => hS.2.1 a g1 g2)).narrow hf
theorem zr_callV {Γ : zG} {μ : zMc} (C : zC Γ μ) {κ : Nat × Nat × Nat} {pc : Nat} {L : List (Nat × Value)} {rest st0 : List Value} {M : zM} {y : MethodName} {cc : ByteArray} {nL : Nat} {ret : Option FieldType} {d : Nat} {ats : List Nat} {F : zPT} {idx na : Nat} (xs : List Int) {x0 : Int} {ci : Nat} {T : u_T} {N : Nat} (hS : zSnd μ.2.2.2.2.2.1 κ.1 0 0 y cc nL ret d (2 :: ats) F) (hk : zCK μ.2.1 idx y cc nL ret na) (hk2 : Cond.instanceMethod y ∈ zTG ∧ Cond.selects y.cls y y ∈ zTG) (hci : vwCl[ci]? = some (y.cls, T, N) ∧ ci < 13) (hf : 0 ≤ x0 ∧ x0.toNat < κ.1 ∧ μ.2.2.2.2.2.1.1 x0.toNat = ci) (hna : ats.length = na) (hst : st0 = (zargs (zad Γ) ats xs).reverse ++ zRf (zad Γ) x0 :: rest) (hd : decode μ.1 pc = .ok (.invokevirtual idx, 3)) (hmc : μ.2.2.2.2.2.2.2.1 = 0 ∧ μ.2.2.2.2.2.2.2.2 = 0 ∧ κ.2.1 = 0 ∧ κ.2.2 = 0) (hdl : d + 1 ≤ μ.2.2.2.2.1 ∧ nL ≤ 41) (hrest : (rest.map fun v => v.category).sum ≤ 8) (hz0 : zall ats xs) (kk : F (x0 :: xs) (fun r M1 => zin r → zRng M1 → zV Γ μ κ (pc + 3) L ((zrv ret (zad Γ) r).toList ++ rest) M1) M) : zV Γ μ κ pc L st0 M := by
  obtain ⟨hk, hini, hcode, hdesc⟩ := hk
  subst hst
  intro H locs ls hR hP hD hS0 hz hv
  have hzz : zall (2 :: ats) (x0 :: xs) := ⟨fun q => absurd rfl q, hz0⟩
  have hM := hS Γ.2.1 Γ.2.2.2.2.2.2.2.2.2.1 Γ.2.2.2.2.2.2.2.2.2.2.1 (zad Γ) (zt1 Γ) (zt2 Γ) (x0 :: xs) _ M H.size hzz kk
  have hpre := zx_pre C (κ := κ) (av := zargs (zad Γ) (2 :: ats) (x0 :: xs)) (mc' := 0) hR hP hD hS0 (fun q => absurd rfl q)
  have hcall := fun hrun => zx_call C (κ := κ) (pc := pc) (L := L) (st0 := (zargs (zad Γ) ats xs).reverse ++ zRf (zad Γ) x0 :: rest) (rest := rest) (ret' := ret) (mc' := 0) (ms' := 0) (a := (zargs (zad Γ) (2 :: ats) (x0 :: xs)).toArray) hR hP hD hS0 hz hv (fun g => absurd hmc.1 g) hrun
  obtain ⟨p, l, e, s, m, args, below, meth, c, D, cA, ad, A, t1, t2, P⟩ := Γ
  obtain ⟨⟨hx, hb, hml, hown, hts⟩, hr, hlk, hK, hA, hSt, hNs⟩ := C
  have he := zw_get (ad := ad) (cA := cA) (σ := μ.2.2.2.2.2.1) (M := M) hf.2.1
  rw [zent_o hf.2.2 hci.2] at he
  have hRm : (zRm d 0 0).frames + 1 ≤ (zRm μ.2.2.2.2.1 μ.2.2.2.2.2.2.2.1 μ.2.2.2.2.2.2.2.2).frames ∧ 8 + (nL + 11) + (zRm d 0 0).locals ≤ (zRm μ.2.2.2.2.1 μ.2.2.2.2.2.2.2.1 μ.2.2.2.2.2.2.2.2).locals := by
    refine ⟨hdl.1, ?_⟩
    show 8 + (nL + 11) + 60 * d ≤ 60 * _
    have := hdl.1
    omega
  have hcs : κ.2.1 + 0 ≤ (zRm μ.2.2.2.2.1 μ.2.2.2.2.2.2.2.1 μ.2.2.2.2.2.2.2.2).cells ∧ κ.2.2 + 0 ≤ (zRm μ.2.2.2.2.1 μ.2.2.2.2.2.2.2.1 μ.2.2.2.2.2.2.2.2).slots := ⟨by rw [hmc.2.2.1]; exact Nat.zero_le _, by rw [hmc.2.2.2]; exact Nat.zero_le _⟩
  have hlenA : (zargs ad ats xs).length = na := (zargs_len ad ats xs hz0).trans hna
  refine hcall ?_
  rcases hk with hl | ⟨host, hl⟩
  · exact va_runV (As := zargs ad ats xs) (rest := rest) ⟨hx, hb, hml, hown, hts⟩ hM ⟨callB_of na hts (zTG_code hcode) rfl rfl rfl (hts _ hini) (hts _ hl) hdesc hRm, hts _ hk2.1, hts _ hk2.2⟩ ⟨zBlind, va_recv hK hP hci.1 he, hpre⟩ rfl hlenA hv.1 rfl (lv_room hrest) hd hcs
  · exact va_runVN (As := zargs ad ats xs) (rest := rest) ⟨hx, hb, hml, hown, hts⟩ hM ⟨va_cnB na hts (zTG_code hcode) rfl rfl rfl (hNs.1 _ hl) (hts _ hini) hdesc hRm, hts _ hk2.1, hts _ hk2.2⟩ ⟨zBlind, va_recv hK hP hci.1 he, hpre⟩ rfl hlenA hv.1 rfl (lv_room hrest) hd hcs
theorem zr_callS {Γ : zG} {μ : zMc} (C : zC Γ μ) {κ : Nat × Nat × Nat} {pc : Nat} {L : List (Nat × Value)} {rest st0 : List Value} {M : zM} {y : MethodName} {cc : ByteArray} {nL : Nat} {ret : Option FieldType} {d : Nat} {ats : List Nat} {F : zPT} {idx na : Nat} (xs : List Int) (hS : zSnd μ.2.2.2.2.2.1 κ.1 0 0 y cc nL ret d ats F) (hk : zCK μ.2.1 idx y cc nL ret na) (hk2 : Cond.static y ∈ zTG) (hna : ats.length = na) (hst : st0 = (zargs (zad Γ) ats xs).reverse ++ rest) (hd : decode μ.1 pc = .ok (.invokestatic idx, 3)) (hmc : μ.2.2.2.2.2.2.2.1 = 0 ∧ μ.2.2.2.2.2.2.2.2 = 0 ∧ κ.2.1 = 0 ∧ κ.2.2 = 0) (hdl : d + 1 ≤ μ.2.2.2.2.1 ∧ nL ≤ 41) (hrest : (rest.map fun v => v.category).sum ≤ 8) (hz0 : zall ats xs) (kk : F xs (fun r M1 => zin r → zRng M1 → zV Γ μ κ (pc + 3) L ((zrv ret (zad Γ) r).toList ++ rest) M1) M) : zV Γ μ κ pc L st0 M := by
  obtain ⟨hk, hini, hcode, hdesc⟩ := hk
  subst hst
  intro H locs ls hR hP hD hS0 hz hv
  have hM := hS Γ.2.1 Γ.2.2.2.2.2.2.2.2.2.1 Γ.2.2.2.2.2.2.2.2.2.2.1 (zad Γ) (zt1 Γ) (zt2 Γ) xs _ M H.size hz0 kk
  have hpre := zx_pre C (κ := κ) (av := zargs (zad Γ) ats xs) (mc' := 0) hR hP hD hS0 (fun q => absurd rfl q)
  have hcall := fun hrun => zx_call C (κ := κ) (pc := pc) (L := L) (st0 := (zargs (zad Γ) ats xs).reverse ++ rest) (rest := rest) (ret' := ret) (mc' := 0) (ms' := 0) (a := (zargs (zad Γ) ats xs).toArray) hR hP hD hS0 hz hv (fun g => absurd hmc.1 g) hrun
  obtain ⟨p, l, e, s, m, args, below, meth, c, D, cA, ad, A, t1, t2, P⟩ := Γ
  obtain ⟨⟨hx, hb, hml, hown, hts⟩, hr, hlk, hK, hA, hSt, hNs⟩ := C
  have hRm : (zRm d 0 0).frames + 1 ≤ (zRm μ.2.2.2.2.1 μ.2.2.2.2.2.2.2.1 μ.2.2.2.2.2.2.2.2).frames ∧ 8 + (nL + 11) + (zRm d 0 0).locals ≤ (zRm μ.2.2.2.2.1 μ.2.2.2.2.2.2.2.1 μ.2.2.2.2.2.2.2.2).locals := by
    refine ⟨hdl.1, ?_⟩
    show 8 + (nL + 11) + 60 * d ≤ 60 * _
    have := hdl.1
    omega
  have hcs : κ.2.1 + 0 ≤ (zRm μ.2.2.2.2.1 μ.2.2.2.2.2.2.2.1 μ.2.2.2.2.2.2.2.2).cells ∧ κ.2.2 + 0 ≤ (zRm μ.2.2.2.2.1 μ.2.2.2.2.2.2.2.1 μ.2.2.2.2.2.2.2.2).slots := ⟨by rw [hmc.2.2.1]; exact Nat.zero_le _, by rw [hmc.2.2.2]; exact Nat.zero_le _⟩
  have hlenA : (zargs ad ats xs).length = na := (zargs_len ad ats xs hz0).trans hna
  refine hcall ?_
  rcases hk with hl | ⟨host, hl⟩
  · exact va_runS (As := zargs ad ats xs) (rest := rest) ⟨hx, hb, hml, hown, hts⟩ hM ⟨callB_of na hts (zTG_code hcode) rfl rfl rfl (hts _ hini) (hts _ hl) hdesc hRm, hts _ hk2⟩ ⟨zBlind, hpre⟩ rfl hlenA hv.1 rfl (lv_room hrest) hd hcs
  · exact va_runSN (As := zargs ad ats xs) (rest := rest) ⟨hx, hb, hml, hown, hts⟩ hM ⟨va_cnB na hts (zTG_code hcode) rfl rfl rfl (hNs.1 _ hl) (hts _ hini) hdesc hRm, hts _ hk2, trivial⟩ ⟨zBlind, hpre⟩ rfl hlenA hv.1 rfl (lv_room hrest) hd hcs
