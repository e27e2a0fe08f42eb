/-! calls -/
def zargs (ad : Nat → Nat) : List Nat → List Int → List Value
  | t :: ts, x :: xs => (if t = 0 then zI x else if t = 1 then zJ x else zRf ad x) :: zargs ad ts xs
  | _, _ => []
def zall : List Nat → List Int → Prop
  | t :: ts, x :: xs => (t ≠ 2 → zin x) ∧ zall ts xs
  | [], [] => True
  | _, _ => False
/-- a method of the class does what F says, in a world of n cells; it makes mc cells of ms slots; d: its height -/
def zSnd (σ : zSh) (n mc ms : Nat) (y : MethodName) (cc : ByteArray) (nL : Nat) (ret : Option FieldType) (d : Nat) (ats : List Nat) (F : zPT) : Prop :=
  ∀ (l : Launch) (D : va_G) (cA : Nat → ClassId) (ad : Nat → Nat) (t1 t2 : Nat) (xs : List Int) (P : Int → zM → Prop) (M : zM) (sz : Nat), zall ats xs → F xs P M →
    Met l y (Cond.code y cc nL ret :: zTG) (zRm d mc ms) (va_Pc (zargs ad ats xs) (fun U => U.heap.size = sz ∧ zRng M ∧ va_P D vwCl (zw ad cA σ n M) U.heap ∧ va_K D vwCl (ztys cA) U ∧ va_D (fun _ => True) (zw ad cA σ n M) ∧ zStat t1 t2 (va_A (zw ad cA σ n M) sz) U U.heap ∧ zNst U ∧ (mc ≠ 0 → ∀ j, n ≤ j → ad j = sz + (j - n)))) (zQc ret P D cA ad σ (n + mc) mc (va_A (zw ad cA σ n M) sz)) mc ms (va_A (zw ad cA σ n M) sz)
theorem zSnd.mono {σ : zSh} {n mc ms : Nat} {y : MethodName} {cc : ByteArray} {nL : Nat} {ret : Option FieldType} {d : Nat} {ats : List Nat} {F G : zPT} (h : zSnd σ n mc ms y cc nL ret d ats F) (hG : ∀ xs P M, zall ats xs → zRng M → G xs P M → F xs P M) : zSnd σ n mc ms y cc nL ret d ats G := by
  intro l D cA ad t1 t2 xs P M sz hx hg
  by_cases hR : zRng M
  · exact h l D cA ad t1 t2 xs P M sz hx (hG xs P M hx hR hg)
  · intro p e ha hc hk s m args below hf hpre hP
    exact absurd hP.2.2.1 hR
/-- the body's walk gives the contract -/
theorem zSnd.of {σ : zSh} {n mc ms : Nat} {y : MethodName} {cc : ByteArray} {nL : Nat} {ret : Option FieldType} {d : Nat} {ats : List Nat} {F : zPT} (hy : plainName y.cls = true) (hlen : ∀ (ad : Nat → Nat) (xs : List Int), zall ats xs → (lg_sl (zargs ad ats xs)).length ≤ nL)
    (body : ∀ (Γ : zG), zC Γ (cc, y.cls, nL, ret, d, σ, n, mc, ms) → (mc ≠ 0 → ∀ j, n ≤ j → zad Γ j = Γ.2.2.2.1.heap.size + (j - n)) → (y.name = "<init>" → Γ.2.2.2.2.2.2.2.1.name = "<init>") → ∀ (xs : List Int) (M : zM), zall ats xs → F xs (zP Γ) M → zV Γ (cc, y.cls, nL, ret, d, σ, n, mc, ms) (n, 0, 0) 0 (lv_args 0 (zargs (zad Γ) ats xs)) [] M) : zSnd σ n mc ms y cc nL ret d ats F := by
  intro l D cA ad t1 t2 xs P M sz hxs hF
  refine Met.ofW (cc := cc) (maxL := nL) (ret := ret) hy rfl ?_
  intro p e s m args below meth c s₁ B hml hv
  obtain ⟨rfl, hsz, hR, hP, hK, hD0, hSt, hNs, hAd⟩ := hv
  have hx := B.exec
  have hb := B.bytes
  have hr := B.returns
  have hts := atoms_spec (ws := Cond.code y cc nL ret :: zTG) B.pre
  have hown : s.vm.findClass y.cls = some m.cls := findClass_of_methodNamed B.named
  have hlocks := B.notSynchronized
  subst hsz
  have hD := hD0.self (sz := s.heap.size)
  generalize hAe : va_A (zw ad cA σ n M) s.heap.size = A at hD hSt ⊢
  have hA : ∀ q : Nat, s.heap.size ≤ q → A q := fun q h => by rw [← hAe]; exact Or.inr h
  have hl := lv_entry (zargs ad ats xs) (n := nL) (hlen ad xs hxs)
  rw [lg_entry_eq]
  generalize (lg_sl (zargs ad ats xs) ++ List.replicate (nL - (lg_sl (zargs ad ats xs)).length) Slot.unset).toArray = ls at hl ⊢
  exact body (p, l, e, s, m, (zargs ad ats xs).toArray, below, meth, c, D, cA, ad, A, t1, t2, P) ⟨⟨hx, hb, hml, hown, fun w hw => hts w (List.mem_cons_of_mem _ hw)⟩, hr, hlocks, hK, hA, hSt, hNs⟩ hAd (fun hi => (name_of_methodNamed B.named B.method).1.trans hi) xs M hxs hF s.heap [] ls hR hP hD va_S.rf (fun _ => rfl) hl
