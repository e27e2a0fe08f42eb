theorem zu_astoreA_n {RR : Room} {QQ : State → Prop} {Γ : zG} {μ : zMc} (C : zC Γ μ) {κ : Nat × Nat × Nat} {pc : Nat} {L : List (Nat × Value)} {st : List Value} {M : zM} {j : Fin 4} {i : Nat} {x : Int} {L1 : List (Nat × Value)} (hd : decode μ.1 pc = .ok (.astore_n j, 1)) (hi : (j : Nat) = i) (hn : i < μ.2.2.1) (hl : (i, zA (zad Γ) x) :: L.filter (fun q => !(q.1 == i) && !(q.1 + 1 == i && q.2.category == 2)) = L1) (kk : zU RR QQ Γ μ κ (pc + 1) L1 st M) : zU RR QQ Γ μ κ pc L (zA (zad Γ) x :: st) M := by
  obtain ⟨p, l, e, s, m, args, below, meth, c, D, cA, ad, A, t1, t2, P⟩ := Γ
  obtain ⟨⟨hx, hb, hml, hown, hts⟩, hr, hlk, hK, hA, hSt, hNs⟩ := C
  intro H locs ls hR hP hD hS hz hv
  by_cases g : x < 0
  · rw [show zA (zad (p, l, e, s, m, args, below, meth, c, D, cA, ad, A, t1, t2, P)) x = .null from if_pos g] at hl ⊢
    exact lv_astore_nN hx hb hd hi hv hn hl (fun ls hv => kk H locs ls hR hP hD hS hz hv)
  · rw [show zA (zad (p, l, e, s, m, args, below, meth, c, D, cA, ad, A, t1, t2, P)) x = .ref (ad x.toNat) from if_neg g] at hl ⊢
    exact lv_astore_n hx hb hd hi hv hn hl (fun ls hv => kk H locs ls hR hP hD hS hz hv)
theorem zu_aloadA_n {RR : Room} {QQ : State → Prop} {Γ : zG} {μ : zMc} (C : zC Γ μ) {κ : Nat × Nat × Nat} {pc : Nat} {L : List (Nat × Value)} {st : List Value} {M : zM} {j : Fin 4} {i : Nat} {x : Int} (k : Nat) (hk : L[k]? = some (i, zA (zad Γ) x)) (hd : decode μ.1 pc = .ok (.aload_n j, 1)) (hi : (j : Nat) = i) (kk : zU RR QQ Γ μ κ (pc + 1) L (zA (zad Γ) x :: st) M) : zU RR QQ Γ μ κ pc L st M := by
  obtain ⟨p, l, e, s, m, args, below, meth, c, D, cA, ad, A, t1, t2, P⟩ := Γ
  obtain ⟨⟨hx, hb, hml, hown, hts⟩, hr, hlk, hK, hA, hSt, hNs⟩ := C
  intro H locs ls hR hP hD hS hz hv
  have hq := lv_at hv k hk
  have h := kk H locs ls hR hP hD hS hz hv
  by_cases g : x < 0
  · rw [show zA (zad (p, l, e, s, m, args, below, meth, c, D, cA, ad, A, t1, t2, P)) x = .null from if_pos g] at hq h
    exact lv_aload_nN hx hb hd hi hq h
  · rw [show zA (zad (p, l, e, s, m, args, below, meth, c, D, cA, ad, A, t1, t2, P)) x = .ref (ad x.toNat) from if_neg g] at hq h
    exact lv_aload_n hx hb hd hi hq h
theorem zu_ifnonnull {RR : Room} {QQ : State → Prop} {Γ : zG} {μ : zMc} (C : zC Γ μ) {κ : Nat × Nat × Nat} {pc : Nat} {L : List (Nat × Value)} {st : List Value} {M : zM} {x off : Int} {tgt : Nat} (hd : decode μ.1 pc = .ok (.ifnonnull off, 3)) (ht : (pc : Int) + off = (tgt : Int)) (kt : ¬ x < 0 → zU RR QQ Γ μ κ (tgt) L st M) (kf : x < 0 → zU RR QQ Γ μ κ (pc + 3) L st M) : zU RR QQ Γ μ κ pc L (zA (zad Γ) x :: st) M := by
  obtain ⟨p, l, e, s, m, args, below, meth, c, D, cA, ad, A, t1, t2, P⟩ := Γ
  obtain ⟨⟨hx, hb, hml, hown, hts⟩, hr, hlk, hK, hA, hSt, hNs⟩ := C
  intro H locs ls hR hP hD hS hz hv
  by_cases g : x < 0
  · rw [zA, if_pos g]
    exact lv_ifnonnullN hx hb hd (kf g H locs ls hR hP hD hS hz hv)
  · rw [zA, if_neg g]
    exact lv_ifnonnull hx hb hd ht (kt g H locs ls hR hP hD hS hz hv)
theorem zu_if_lt {RR : Room} {QQ : State → Prop} {Γ : zG} {μ : zMc} (C : zC Γ μ) {κ : Nat × Nat × Nat} {pc : Nat} {L : List (Nat × Value)} {st : List Value} {M : zM} {x : Int} {off : Int} {tgt : Nat} (h1 : zin x) (hd : decode μ.1 pc = .ok (.ifCond .lt off, 3)) (ht : (pc : Int) + off = (tgt : Int)) (kt : x < 0 → zU RR QQ Γ μ κ (tgt) L st M) (kf : ¬ (x < 0) → zU RR QQ Γ μ κ (pc + 3) L st M) : zU RR QQ Γ μ κ pc L (zI x :: st) M := by
  obtain ⟨p, l, e, s, m, args, below, meth, c, D, cA, ad, A, t1, t2, P⟩ := Γ
  obtain ⟨⟨hx, hb, hml, hown, hts⟩, hr, hlk, hK, hA, hSt, hNs⟩ := C
  intro H locs ls hR hP hD hS hz hv
  exact lv_if_lt hx hb hd ht (fun g => kt ((z_lt h1 (show zin (0 : Int) by decide)).mp g) H locs ls hR hP hD hS hz hv) (fun g => kf (fun q => g ((z_lt h1 (show zin (0 : Int) by decide)).mpr q)) H locs ls hR hP hD hS hz hv)
theorem zu_i2l {RR : Room} {QQ : State → Prop} {Γ : zG} {μ : zMc} (C : zC Γ μ) {κ : Nat × Nat × Nat} {pc : Nat} {L : List (Nat × Value)} {st : List Value} {M : zM} {x : Int} (h1 : zin x) (hd : decode μ.1 pc = .ok (.i2l, 1)) (kk : zU RR QQ Γ μ κ (pc + 1) L (zJ x :: st) M) : zU RR QQ Γ μ κ pc L (zI x :: st) M := by
  obtain ⟨p, l, e, s, m, args, below, meth, c, D, cA, ad, A, t1, t2, P⟩ := Γ
  obtain ⟨⟨hx, hb, hml, hown, hts⟩, hr, hlk, hK, hA, hSt, hNs⟩ := C
  intro H locs ls hR hP hD hS hz hv
  exact lv_i2l hx hb hd (z_i2l h1) (kk H locs ls hR hP hD hS hz hv)
theorem zu_geti {RR : Room} {QQ : State → Prop} {Γ : zG} {μ : zMc} (C : zC Γ μ) {κ : Nat × Nat × Nat} {pc : Nat} {L : List (Nat × Value)} {st : List Value} {M : zM} {idx ci : Nat} {k : Int} {ty : FieldType} {fin : Bool} {c : Int} (hk : zFK μ.2.1 idx ci k ty fin) (hf : zfi μ.2.2.2.2.2.1 κ.1 c ci k 0 = true) (hd : decode μ.1 pc = .ok (.getfield idx, 3)) (kk : zU RR QQ Γ μ κ (pc + 3) L (zI (M c k) :: st) M) : zU RR QQ Γ μ κ pc L (zRf (zad Γ) c :: st) M := by
  obtain ⟨p, l, e, s, m, args, below, meth, cd, D, cA, ad, A, t1, t2, P⟩ := Γ
  obtain ⟨⟨hx, hb, hml, hown, hts⟩, hr, hlk, hK, hA, hSt, hNs⟩ := C
  intro H locs ls hR hP hD hS hz hv
  obtain ⟨cn, T, N, ty0, q1, q2, q3, q4, q5, q6, q7, q8, q9, q10, q11⟩ := hk
  obtain ⟨f1, f2, f3, f4, f5⟩ := zfi_s hf
  have hc2 : ((c.toNat : Nat) : Int) = c := Int.toNat_of_nonneg f1
  have hk2 : ((k.toNat : Nat) : Int) = k := Int.toNat_of_nonneg f4
  have he := zw_get (ad := ad) (cA := cA) (σ := μ.2.2.2.2.2.1) (M := M) f2
  rw [zent_o f3 q5] at he
  have hv2 : ((List.range (znf ci)).map fun j => zsl ad (μ.2.2.2.2.2.1.2.2 c.toNat j) (M (c.toNat : Nat) j))[k.toNat]? = some (zI (M c k)) := by
    rw [zfs (q4 ▸ q3), f5, hc2, hk2]
    rfl
  rcases q11 with q | ⟨host, q⟩
  · exact va_get hx hb hts q2 hown hK hP c.toNat he q1 k.toNat q3 (hts _ q) (by rw [q6]; exact fun _ h9 => h9) hv2 hd (kk H locs ls hR hP hD hS hz hv)
  · exact va_getN hx hb hts q2 hown hK hP c.toNat he q1 k.toNat q3 ((hNs.1 _ q).use rfl) (by rw [q6]; exact fun _ h9 => h9) hv2 hd (kk H locs ls hR hP hD hS hz hv)
theorem zu_getr {RR : Room} {QQ : State → Prop} {Γ : zG} {μ : zMc} (C : zC Γ μ) {κ : Nat × Nat × Nat} {pc : Nat} {L : List (Nat × Value)} {st : List Value} {M : zM} {idx ci : Nat} {k : Int} {ty : FieldType} {fin : Bool} {c : Int} {q : Int} (hk : zFK μ.2.1 idx ci k ty fin) (hf : zfi μ.2.2.2.2.2.1 κ.1 c ci k (q.toNat + 2) = true) (hd : decode μ.1 pc = .ok (.getfield idx, 3)) (kk : zU RR QQ Γ μ κ (pc + 3) L (zRf (zad Γ) q :: st) M) : zU RR QQ Γ μ κ pc L (zRf (zad Γ) c :: st) M := by
  obtain ⟨p, l, e, s, m, args, below, meth, cd, D, cA, ad, A, t1, t2, P⟩ := Γ
  obtain ⟨⟨hx, hb, hml, hown, hts⟩, hr, hlk, hK, hA, hSt, hNs⟩ := C
  intro H locs ls hR hP hD hS hz hv
  obtain ⟨cn, T, N, ty0, q1, q2, q3, q4, q5, q6, q7, q8, q9, q10, q11⟩ := hk
  obtain ⟨f1, f2, f3, f4, f5⟩ := zfi_s hf
  have hc2 : ((c.toNat : Nat) : Int) = c := Int.toNat_of_nonneg f1
  have hk2 : ((k.toNat : Nat) : Int) = k := Int.toNat_of_nonneg f4
  have he := zw_get (ad := ad) (cA := cA) (σ := μ.2.2.2.2.2.1) (M := M) f2
  rw [zent_o f3 q5] at he
  have hv2 : ((List.range (znf ci)).map fun j => zsl ad (μ.2.2.2.2.2.1.2.2 c.toNat j) (M (c.toNat : Nat) j))[k.toNat]? = some (zRf ad q) := by
    rw [zfs (q4 ▸ q3), f5, hc2, hk2]
    rfl
  rcases q11 with q | ⟨host, q⟩
  · exact va_get hx hb hts q2 hown hK hP c.toNat he q1 k.toNat q3 (hts _ q) (by rw [q6]; exact fun _ h9 => h9) hv2 hd (kk H locs ls hR hP hD hS hz hv)
  · exact va_getN hx hb hts q2 hown hK hP c.toNat he q1 k.toNat q3 ((hNs.1 _ q).use rfl) (by rw [q6]; exact fun _ h9 => h9) hv2 hd (kk H locs ls hR hP hD hS hz hv)
theorem zu_iald {RR : Room} {QQ : State → Prop} {Γ : zG} {μ : zMc} (C : zC Γ μ) {κ : Nat × Nat × Nat} {pc : Nat} {L : List (Nat × Value)} {st : List Value} {M : zM} {c i : Int} {len : Nat} (hf : zai μ.2.2.2.2.2.1 κ.1 c 14 len = true) (h0 : 0 ≤ i ∧ i < len) (hd : decode μ.1 pc = .ok (.iaload, 1)) (kk : zU RR QQ Γ μ κ (pc + 1) L (zI (M c i) :: st) M) : zU RR QQ Γ μ κ pc L (zI i :: zRf (zad Γ) c :: st) M := by
  obtain ⟨p, l, e, s, m, args, below, meth, cd, D, cA, ad, A, t1, t2, P⟩ := Γ
  obtain ⟨⟨hx, hb, hml, hown, hts⟩, hr, hlk, hK, hA, hSt, hNs⟩ := C
  intro H locs ls hR hP hD hS hz hv
  obtain ⟨f1, f2, f3, f4, f5⟩ := zai_s hf
  have hc2 : ((c.toNat : Nat) : Int) = c := Int.toNat_of_nonneg f1
  have hi2 : ((i.toNat : Nat) : Int) = i := Int.toNat_of_nonneg h0.1
  have he := zw_get (ad := ad) (cA := cA) (σ := μ.2.2.2.2.2.1) (M := M) f2
  have hvi : vp_in (Int32.ofInt i) len := z_in h0.1 h0.2 f5
  have hcl : (Int32.ofInt i).toNatClampNeg = i.toNat := z_cl h0.1 (by omega)
  rw [zent_i f3 (by omega)] at he
  refine va_iald hx hb hK hP c.toNat 1 he (by rfl) (by rw [f4]; exact hvi) hd ?_
  rw [hcl]
  have h := kk H locs ls hR hP hD hS hz hv
  rw [← hc2, ← hi2] at h
  exact h
theorem zu_astoreR {RR : Room} {QQ : State → Prop} {Γ : zG} {μ : zMc} (C : zC Γ μ) {κ : Nat × Nat × Nat} {pc : Nat} {L : List (Nat × Value)} {st : List Value} {M : zM} {i q : Nat} {L1 : List (Nat × Value)} (hd : decode μ.1 pc = .ok (.astore i, 2)) (hn : i < μ.2.2.1) (hl : (i, Value.ref q) :: L.filter (fun q => !(q.1 == i) && !(q.1 + 1 == i && q.2.category == 2)) = L1) (kk : zU RR QQ Γ μ κ (pc + 2) L1 st M) : zU RR QQ Γ μ κ pc L (.ref q :: st) M := by
  obtain ⟨p, l, e, s, m, args, below, meth, c, D, cA, ad, A, t1, t2, P⟩ := Γ
  obtain ⟨⟨hx, hb, hml, hown, hts⟩, hr, hlk, hK, hA, hSt, hNs⟩ := C
  intro H locs ls hR hP hD hS hz hv
  exact lv_astore hx hb hd hv hn hl (fun ls hv => kk H locs ls hR hP hD hS hz hv)
/-- E is thrown (the cell q) over the frame at pc -/
def zX (RR : Room) (QQ : State → Prop) (Γ : zG) (μ : zMc) (κ : Nat × Nat × Nat) (pc : Nat) (L : List (Nat × Value)) (st : List Value) (M : zM) (E : String) (q : Nat) : Prop := match Γ with
  | (p, l, e, s, m, args, below, meth, c, D, cA, ad, A, _, _, _) => ∀ (H : Heap) (locs : List Loc) (ls : Array Slot) (ce : Cell), zRng M → va_P D vwCl (zw ad cA μ.2.2.2.2.2.1 κ.1 M) H → va_D A (zw ad cA μ.2.2.2.2.2.1 κ.1 M) → va_S A s.heap H locs → (μ.2.2.2.2.2.2.2.1 ≠ 0 → H.size = s.heap.size + κ.2.1) → lv_has ls μ.2.2.1 L → H[q]? = some ce → ce.vm = .none → s.vm.findClass E = some ce.cls →
    vx_W p l e RR s m args below meth c H locs κ.2.1 κ.2.2 QQ (F0 m pc ls st) q
theorem zu_catch {RR : Room} {QQ : State → Prop} {Γ : zG} {μ : zMc} (C : zC Γ μ) {κ : Nat × Nat × Nat} {pc : Nat} {L : List (Nat × Value)} {st : List Value} {M : zM} {name E : String} {q : Nat} (pre : List ExceptionTableEntry) (x : ExceptionTableEntry) (suf : List ExceptionTableEntry) (hsplit : Γ.2.2.2.2.2.2.2.2.1.exceptionTable.toList = pre ++ x :: suf)
    (hpass : ∀ z ∈ pre, z.catchType ≠ 0 ∧ ∃ nm : String, Cond.classLink μ.2.1 z.catchType nm ∈ zTG ∧ va_Nc E nm Γ.2.2.2.1) (hx : covers x pc = true) (h0 : x.catchType ≠ 0) (hlink : Cond.classLink μ.2.1 x.catchType name ∈ zTG) (hcast : va_Nw (.castable E name) Γ.2.2.2.1)
    (kk : zU RR QQ Γ μ κ x.handlerPc L [.ref q] M) : zX RR QQ Γ μ κ pc L st M E q := by
  obtain ⟨p, l, e, s, m, args, below, meth, c, D, cA, ad, A, t1, t2, P⟩ := Γ
  obtain ⟨⟨hx9, hb, hml, hown, hts⟩, hr, hlk, hK, hA, hSt, hNs⟩ := C
  intro H locs ls ce hR hP hD hS hz hv hc hvm hcl
  exact vx_catch hown pre x suf hsplit (fun z hz => by
    obtain ⟨z1, nm, z2, z3⟩ := hpass z hz
    exact Or.inr ⟨z1, nm, hts _ z2, z3⟩) hx h0 (hts _ hlink) (va_Nw.use rfl hcast) hc hvm hcl (kk H locs ls hR hP hD hS hz hv)
/-- what a method that throws leaves -/
def zXc (PX : String → Prop) (D : va_G) (cA : Nat → ClassId) (ad : Nat → Nat) (σ : zSh) (n : Nat) (M : zM) (A : Nat → Prop) : String → State → State → Prop := fun E st t => PX E ∧ va_P D vwCl (zw ad cA σ n M) t.heap ∧ va_F A st t
/-- behind a call that may throw; what is made is not of the world -/
theorem zx_callE {RR : Room} {QQ : State → Prop} {Γ : zG} {μ : zMc} (C : zC Γ μ) {κ : Nat × Nat × Nat} {pc : Nat} {L : List (Nat × Value)} {st0 rest : List Value} {M : zM} {H : Heap} {locs : List Loc} {ls : Array Slot} {ret' : Option FieldType} {mc' ms' : Nat} {a : Array Value} {PX : String → Prop} {PR : Int → zM → Prop}
    (hR : zRng M) (hP : va_P Γ.2.2.2.2.2.2.2.2.2.1 vwCl (zw (zad Γ) Γ.2.2.2.2.2.2.2.2.2.2.1 μ.2.2.2.2.2.1 κ.1 M) H) (hD : va_D Γ.2.2.2.2.2.2.2.2.2.2.2.2.1 (zw (zad Γ) Γ.2.2.2.2.2.2.2.2.2.2.1 μ.2.2.2.2.2.1 κ.1 M)) (hS : va_S Γ.2.2.2.2.2.2.2.2.2.2.2.2.1 Γ.2.2.2.1.heap H locs) (hv : lv_has ls μ.2.2.1 L) (hmm : μ.2.2.2.2.2.2.2.1 = 0)
    (hrun : vx_Run Γ.1 Γ.2.1 Γ.2.2.1 RR Γ.2.2.2.1 Γ.2.2.2.2.1 Γ.2.2.2.2.2.1 Γ.2.2.2.2.2.2.1 Γ.2.2.2.2.2.2.2.1 Γ.2.2.2.2.2.2.2.2.1 H locs κ.2.1 κ.2.2 mc' ms' (F0 Γ.2.2.2.2.1 pc ls st0) rest (zQc ret' PR Γ.2.2.2.2.2.2.2.2.2.1 Γ.2.2.2.2.2.2.2.2.2.2.1 (zad Γ) μ.2.2.2.2.2.1 κ.1 0 (va_A (zw (zad Γ) Γ.2.2.2.2.2.2.2.2.2.2.1 μ.2.2.2.2.2.1 κ.1 M) H.size) a) (zXc PX Γ.2.2.2.2.2.2.2.2.2.1 Γ.2.2.2.2.2.2.2.2.2.2.1 (zad Γ) μ.2.2.2.2.2.1 κ.1 M (va_A (zw (zad Γ) Γ.2.2.2.2.2.2.2.2.2.2.1 μ.2.2.2.2.2.1 κ.1 M) H.size)) (va_A (zw (zad Γ) Γ.2.2.2.2.2.2.2.2.2.2.1 μ.2.2.2.2.2.1 κ.1 M) H.size))
    (kk : ∀ r M', PR r M' → zin r → zU RR QQ Γ μ (κ.1, κ.2.1 + mc', κ.2.2 + ms') (pc + 3) L ((zrv ret' (zad Γ) r).toList ++ rest) M')
    (kx : ∀ E q, PX E → zX RR QQ Γ μ (κ.1, κ.2.1 + mc', κ.2.2 + ms') pc L rest M E q) :
    W Γ.1 Γ.2.1 Γ.2.2.1 RR Γ.2.2.2.1 Γ.2.2.2.2.1 Γ.2.2.2.2.2.1 Γ.2.2.2.2.2.2.1 Γ.2.2.2.2.2.2.2.1 Γ.2.2.2.2.2.2.2.2.1 H locs κ.2.1 κ.2.2 QQ (F0 Γ.2.2.2.2.1 pc ls st0) := by
  obtain ⟨p, l, e, s, m, args, below, meth, c, D, cA, ad, A, t1, t2, P⟩ := Γ
  obtain ⟨⟨hx, hb, hml, hown, hts⟩, hr, hlk, hK, hA, hSt, hNs⟩ := C
  dsimp only at hP hD hS hrun ⊢
  have hf : ∀ q, va_A (zw ad cA μ.2.2.2.2.2.1 κ.1 M) H.size q → A q := by
    intro q h
    rcases h with ⟨k, e, h⟩ | h
    · exact hD.2 k _ h
    · exact hA q (Nat.le_trans hS.1 h)
  intro T hT X
  rcases hrun T hT X with ⟨v, st₀, t, T', L2, h0, X', hL, e1, e2, ⟨⟨r, M', hr0, hoc, hpost, hR', hP', hD', hz'⟩, hF⟩, st⟩ | ⟨q, st₀, t, T', L2, E, ce, h0, X', hL, e1, e2, ⟨hE, hPx, hF⟩, hce, hcv, hcl, st⟩
  · have hv2 : v = zrv ret' ad r := by cases hoc; rfl
    subst hv2
    obtain ⟨k1, k2, k3⟩ := vx_keep h0 e1 hS (fun q _ h => hf q h) hf hL hF
    obtain ⟨t2, a1, b1⟩ := kk r M' hpost hr0 T'.heap (locs ++ L2) ls hR' (by rw [e1]; exact hP') (hD'.weaken fun k q _ h => hf _ h) k3 (fun g => absurd hmm g) hv T' rfl X'
    exact ⟨t2, st t2 a1, b1⟩
  · obtain ⟨k1, k2, k3⟩ := vx_keep h0 e1 hS (fun q _ h => hf q h) hf hL hF
    obtain ⟨t2, a1, b1⟩ := kx E q hE T'.heap (locs ++ L2) ls ce hR (by rw [e1]; exact hPx) hD k3 (fun g => absurd hmm g) hv (by rw [e1]; exact hce) hcv hcl T' rfl X'
    exact ⟨t2, st.trans a1, b1⟩
/-- the constructors above -/
def zDc (U : State) : Prop := va_Nw (.declares (Bundle.initS "java/lang/RuntimeException")) U ∧ va_Nw (.declares (Bundle.initS "java/lang/Exception")) U ∧ va_Nw (.declares (Bundle.initS Bundle.tN)) U
theorem zDc.warm {s U : State} (hW : s.WarmedH U.vm) (h : zDc s) : zDc U := ⟨va_Nw.warmD hW h.1, va_Nw.warmD hW h.2.1, va_Nw.warmD hW h.2.2⟩
theorem zDc.same {u U : State} (hv : u.vm = U.vm) (h : zDc u) : zDc U := ⟨va_Nw.same rfl hv h.1, va_Nw.same rfl hv h.2.1, va_Nw.same rfl hv h.2.2⟩
/-- what throws and catches want of the start, beside the good words -/
def zEx (q1 q2 q3 : Nat) (A : Nat → Prop) (U : State) (H : Heap) : Prop :=
  vk_R RX11 397 "no such shelf" q1 U ∧ vk_R RX11 404 "no row" q2 U ∧ vk_R RX11 407 "no such place" q3 U ∧ vx_Zq Bundle.tN "UNASSIGNED_STACK" Bundle.steD A U H ∧ vx_Zq Bundle.tN "SUPPRESSED_SENTINEL" Bundle.listD A U H ∧ va_Nw (.castable "java/lang/IllegalArgumentException" "java/lang/IllegalArgumentException") U ∧ va_Nw (.castable "java/lang/IllegalStateException" "java/lang/IllegalStateException") U ∧ va_Nc "java/lang/IllegalStateException" "java/lang/IllegalArgumentException" U ∧ zDc U
theorem zEx.warm {q1 q2 q3 : Nat} {A : Nat → Prop} {s U : State} {H : Heap} (hW : s.WarmedH U.vm) (h : zEx q1 q2 q3 A s H) : zEx q1 q2 q3 A U H := by
  obtain ⟨h1, h2, h3, h4, h5, h6, h7, h8, h9⟩ := h
  exact ⟨vk_R.warm hW h1, vk_R.warm hW h2, vk_R.warm hW h3, vx_Zq.moved hW.alike h4, vx_Zq.moved hW.alike h5, va_Nw.warmC hW h6, va_Nw.warmC hW h7, va_Nc.moved hW.alike h8, h9.warm hW⟩
theorem zEx.same {q1 q2 q3 : Nat} {A : Nat → Prop} {u U : State} {H : Heap} (hv : U.vm = u.vm) (h : zEx q1 q2 q3 A u H) : zEx q1 q2 q3 A U H := by
  obtain ⟨h1, h2, h3, h4, h5, h6, h7, h8, h9⟩ := h
  have ha : u.vm.Alike U.vm := by rw [hv]; exact Vm.Alike.refl _
  exact ⟨vk_R.same hv h1, vk_R.same hv h2, vk_R.same hv h3, vx_Zq.moved ha h4, vx_Zq.moved ha h5, va_Nw.same rfl hv.symm h6, va_Nw.same rfl hv.symm h7, va_Nc.moved ha h8, h9.same hv.symm⟩
theorem zEx.kept {q1 q2 q3 : Nat} {A : Nat → Prop} {U : State} {H H1 : Heap} (h : zEx q1 q2 q3 A U H) (hq : ∀ a : Nat, a < H.size → ¬ A a → H1[a]? = H[a]?) : zEx q1 q2 q3 A U H1 := by
  obtain ⟨h1, h2, h3, h4, h5, h6, h7, h8, h9⟩ := h
  exact ⟨h1, h2, h3, h4.kept hq, h5.kept hq, h6, h7, h8, h9⟩
theorem zEx.narrow {q1 q2 q3 : Nat} {A B : Nat → Prop} {U : State} {H : Heap} (h : zEx q1 q2 q3 A U H) (hAB : ∀ q, B q → A q) : zEx q1 q2 q3 B U H := by
  obtain ⟨h1, h2, h3, h4, h5, h6, h7, h8, h9⟩ := h
  exact ⟨h1, h2, h3, h4.narrow hAB, h5.narrow hAB, h6, h7, h8, h9⟩
/-- a callee's start -/
abbrev zElP (D : va_G) (cA : Nat → ClassId) (ad : Nat → Nat) (t1 t2 q1 q2 q3 : Nat) (M : zM) (sz : Nat) : State → Prop := fun U => U.heap.size = sz ∧ zRng M ∧ va_P D vwCl (zw ad cA zS 145 M) U.heap ∧ va_K D vwCl (ztys cA) U ∧ va_D (fun _ => True) (zw ad cA zS 145 M) ∧ zStat t1 t2 (va_A (zw ad cA zS 145 M) sz) U U.heap ∧ zNst U ∧ zEx q1 q2 q3 (va_A (zw ad cA zS 145 M) sz) U U.heap
theorem zElB {av : List Value} {D : va_G} {cA : Nat → ClassId} {ad : Nat → Nat} {t1 t2 q1 q2 q3 : Nat} {M : zM} {sz : Nat} : FrameBlind (va_Pc av (zElP D cA ad t1 t2 q1 q2 q3 M sz)) := by
  intro a U g mk q
  obtain ⟨q0, q1, q2, q3, q4, q5, q6, q8, q7⟩ := q
  exact ⟨q0, q1, q2, q3, va_K.moved (u := U) (U := U.calling g mk a) (Vm.Alike.refl U.vm) q4, q5, zStat.moved (u := U) (U := U.calling g mk a) (Vm.Alike.refl U.vm) q6, zNst.same (s := U) (U := U.calling g mk a) rfl q8, zEx.same (u := U) (U := U.calling g mk a) rfl q7⟩
theorem zx_preE {Γ : zG} {μ : zMc} (C : zC Γ μ) {κ : Nat × Nat × Nat} {M : zM} {H : Heap} {locs : List Loc} {av : List Value} {q1 q2 q3 : Nat} (hEx : zEx q1 q2 q3 Γ.2.2.2.2.2.2.2.2.2.2.2.2.1 Γ.2.2.2.1 Γ.2.2.2.1.heap) (hσ : μ.2.2.2.2.2.1 = zS) (hκ : κ.1 = 145)
    (hR : zRng M) (hP : va_P Γ.2.2.2.2.2.2.2.2.2.1 vwCl (zw (zad Γ) Γ.2.2.2.2.2.2.2.2.2.2.1 μ.2.2.2.2.2.1 κ.1 M) H) (hD : va_D Γ.2.2.2.2.2.2.2.2.2.2.2.2.1 (zw (zad Γ) Γ.2.2.2.2.2.2.2.2.2.2.1 μ.2.2.2.2.2.1 κ.1 M)) (hS : va_S Γ.2.2.2.2.2.2.2.2.2.2.2.2.1 Γ.2.2.2.1.heap H locs) :
    ∀ U : State, U.heap = H → Γ.2.2.2.1.WarmedH U.vm → va_Pc av (zElP Γ.2.2.2.2.2.2.2.2.2.1 Γ.2.2.2.2.2.2.2.2.2.2.1 (zad Γ) (zt1 Γ) (zt2 Γ) q1 q2 q3 M H.size) av.toArray U := by
  obtain ⟨p, l, e, s, m, args, below, meth, c, D, cA, ad, A, t1, t2, P⟩ := Γ
  obtain ⟨⟨hx, hb, hml, hown, hts⟩, hr, hlk, hK, hA, hSt, hNs⟩ := C
  rw [hσ, hκ] at hP hD
  dsimp only at hP hD hS hEx ⊢
  intro U hU hW
  have hf : ∀ q, va_A (zw ad cA zS 145 M) H.size q → A q := by
    intro q h
    rcases h with ⟨k, e, h⟩ | h
    · exact hD.2 k _ h
    · exact hA q (Nat.le_trans hS.1 h)
  refine ⟨rfl, by rw [hU], hR, by rw [hU]; exact hP, va_K.moved hW.alike hK, hD.weaken (fun _ _ _ _ => trivial), ?_, hNs.warm hW, ?_⟩
  · rw [hU]
    exact ((hSt.moved hW.alike).kept (fun a g1 g2 => hS.2.1 a g1 g2)).narrow hf
  · rw [hU]
    exact ((hEx.warm hW).kept (fun a g1 g2 => hS.2.1 a g1 g2)).narrow hf
