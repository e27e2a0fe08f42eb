/-- a field's link: what the tables say -/
def zFK (own : String) (idx ci : Nat) (k : Int) (ty : FieldType) (fin : Bool) : Prop := ∃ (cn : String) (T : u_T) (N : Nat) (ty0 : Nat → FieldType), vwCl[ci]? = some (cn, T, N) ∧ (∀ w ∈ u_ws cn T N, w ∈ zTG) ∧ k.toNat < N ∧ N = znf ci ∧ ci < 13 ∧ (T k.toNat).1 = cn ∧ parseFieldDescriptor (T k.toNat).2.2.1 = some ty ∧ (T k.toNat).2.2.2 = fin ∧ (∀ k, k < N → parseFieldDescriptor (T k).2.2.1 = some (ty0 k)) ∧ (∀ a, a < N → ∀ b, b < N → a ≠ b → (T a).2.1 ≠ (T b).2.1) ∧ (Cond.fieldLink own idx cn (T k.toNat).2.1 (T k.toNat).2.2.1 ∈ zTG ∨ ∃ host, Cond.fieldLinkNest own idx cn (T k.toNat).2.1 (T k.toNat).2.2.1 host ∈ zNL)
def zfi (σ : zSh) (n : Nat) (c : Int) (ci : Nat) (k : Int) (code : Nat) : Bool := decide (0 ≤ c) && decide (c.toNat < n) && (σ.1 c.toNat == ci) && decide (0 ≤ k) && (σ.2.2 c.toNat k.toNat == code)
theorem zfi_s {σ : zSh} {n : Nat} {c : Int} {ci : Nat} {k : Int} {code : Nat} (h : zfi σ n c ci k code = true) : 0 ≤ c ∧ c.toNat < n ∧ σ.1 c.toNat = ci ∧ 0 ≤ k ∧ σ.2.2 c.toNat k.toNat = code := by
  simp only [zfi, Bool.and_eq_true, decide_eq_true_eq, beq_iff_eq] at h
  obtain ⟨⟨⟨⟨a, b⟩, c⟩, d⟩, e⟩ := h
  exact ⟨a, b, c, d, e⟩
def zai (σ : zSh) (n : Nat) (c : Int) (k len : Nat) : Bool := decide (0 ≤ c) && decide (c.toNat < n) && (σ.1 c.toNat == k) && (σ.2.1 c.toNat == len) && decide (len < 2147483648)
theorem zai_s {σ : zSh} {n : Nat} {c : Int} {k len : Nat} (h : zai σ n c k len = true) : 0 ≤ c ∧ c.toNat < n ∧ σ.1 c.toNat = k ∧ σ.2.1 c.toNat = len ∧ len < 2147483648 := by
  simp only [zai, Bool.and_eq_true, decide_eq_true_eq, beq_iff_eq] at h
  obtain ⟨⟨⟨⟨a, b⟩, c⟩, d⟩, e⟩ := h
  exact ⟨a, b, c, d, e⟩
theorem zfs {N : Nat} {f : Nat → Value} {k : Nat} (h : k < N) : ((List.range N).map f)[k]? = some (f k) := by simp [h]
theorem zfset {N : Nat} {f g : Nat → Value} {k : Nat} (h : k < N) (ho : ∀ j, j ≠ k → f j = g j) : ((List.range N).map f).set k (g k) = (List.range N).map g := by
  apply List.ext_getElem?
  intro j
  by_cases e : j = k
  · subst e
    rw [List.getElem?_set_self (by simpa using h), zfs h]
  · rw [List.getElem?_set_ne (Ne.symm e)]
    by_cases hj : j < N
    · rw [zfs hj, zfs hj, ho j e]
    · rw [List.getElem?_eq_none (by simpa using hj), List.getElem?_eq_none (by simpa using hj)]
theorem zr_geti {Γ : zG} {μ : zMc} (C : zC Γ μ) {κ : Nat × Nat × Nat} {pc : Nat} {L : List (Nat × Value)} {st : List Value} {M : zM} {idx ci : Nat} {k : Int} {ty : FieldType} {fin : Bool} {c : Int} (hk : zFK μ.2.1 idx ci k ty fin) (hf : zfi μ.2.2.2.2.2.1 κ.1 c ci k 0 = true) (hd : decode μ.1 pc = .ok (.getfield idx, 3)) (kk : zV Γ μ κ (pc + 3) L (zI (M c k) :: st) M) : zV Γ μ κ pc L (zRf (zad Γ) c :: st) M := by
  obtain ⟨p, l, e, s, m, args, below, meth, cd, D, cA, ad, A, t1, t2, P⟩ := Γ
  obtain ⟨⟨hx, hb, hml, hown, hts⟩, hr, hlk, hK, hA, hSt, hNs⟩ := C
  intro H locs ls hR hP hD hS hz hv
  obtain ⟨cn, T, N, ty0, q1, q2, q3, q4, q5, q6, q7, q8, q9, q10, q11⟩ := hk
  obtain ⟨f1, f2, f3, f4, f5⟩ := zfi_s hf
  have hc2 : ((c.toNat : Nat) : Int) = c := Int.toNat_of_nonneg f1
  have hk2 : ((k.toNat : Nat) : Int) = k := Int.toNat_of_nonneg f4
  have he := zw_get (ad := ad) (cA := cA) (σ := μ.2.2.2.2.2.1) (M := M) f2
  rw [zent_o f3 q5] at he
  have hv2 : ((List.range (znf ci)).map fun j => zsl ad (μ.2.2.2.2.2.1.2.2 c.toNat j) (M (c.toNat : Nat) j))[k.toNat]? = some (zI (M c k)) := by
    rw [zfs (q4 ▸ q3), f5, hc2, hk2]
    rfl
  rcases q11 with q | ⟨host, q⟩
  · exact va_get hx hb hts q2 hown hK hP c.toNat he q1 k.toNat q3 (hts _ q) (by rw [q6]; exact fun _ h9 => h9) hv2 hd (kk H locs ls hR hP hD hS hz hv)
  · exact va_getN hx hb hts q2 hown hK hP c.toNat he q1 k.toNat q3 ((hNs.1 _ q).use rfl) (by rw [q6]; exact fun _ h9 => h9) hv2 hd (kk H locs ls hR hP hD hS hz hv)
theorem zr_getr {Γ : zG} {μ : zMc} (C : zC Γ μ) {κ : Nat × Nat × Nat} {pc : Nat} {L : List (Nat × Value)} {st : List Value} {M : zM} {idx ci : Nat} {k : Int} {ty : FieldType} {fin : Bool} {c : Int} {q : Int} (hk : zFK μ.2.1 idx ci k ty fin) (hf : zfi μ.2.2.2.2.2.1 κ.1 c ci k (q.toNat + 2) = true) (hd : decode μ.1 pc = .ok (.getfield idx, 3)) (kk : zV Γ μ κ (pc + 3) L (zRf (zad Γ) q :: st) M) : zV Γ μ κ pc L (zRf (zad Γ) c :: st) M := by
  obtain ⟨p, l, e, s, m, args, below, meth, cd, D, cA, ad, A, t1, t2, P⟩ := Γ
  obtain ⟨⟨hx, hb, hml, hown, hts⟩, hr, hlk, hK, hA, hSt, hNs⟩ := C
  intro H locs ls hR hP hD hS hz hv
  obtain ⟨cn, T, N, ty0, q1, q2, q3, q4, q5, q6, q7, q8, q9, q10, q11⟩ := hk
  obtain ⟨f1, f2, f3, f4, f5⟩ := zfi_s hf
  have hc2 : ((c.toNat : Nat) : Int) = c := Int.toNat_of_nonneg f1
  have hk2 : ((k.toNat : Nat) : Int) = k := Int.toNat_of_nonneg f4
  have he := zw_get (ad := ad) (cA := cA) (σ := μ.2.2.2.2.2.1) (M := M) f2
  rw [zent_o f3 q5] at he
  have hv2 : ((List.range (znf ci)).map fun j => zsl ad (μ.2.2.2.2.2.1.2.2 c.toNat j) (M (c.toNat : Nat) j))[k.toNat]? = some (zRf ad q) := by
    rw [zfs (q4 ▸ q3), f5, hc2, hk2]
    rfl
  rcases q11 with q | ⟨host, q⟩
  · exact va_get hx hb hts q2 hown hK hP c.toNat he q1 k.toNat q3 (hts _ q) (by rw [q6]; exact fun _ h9 => h9) hv2 hd (kk H locs ls hR hP hD hS hz hv)
  · exact va_getN hx hb hts q2 hown hK hP c.toNat he q1 k.toNat q3 ((hNs.1 _ q).use rfl) (by rw [q6]; exact fun _ h9 => h9) hv2 hd (kk H locs ls hR hP hD hS hz hv)
theorem zr_getm {Γ : zG} {μ : zMc} (C : zC Γ μ) {κ : Nat × Nat × Nat} {pc : Nat} {L : List (Nat × Value)} {st : List Value} {M : zM} {idx ci : Nat} {k : Int} {ty : FieldType} {fin : Bool} {c : Int} (hk : zFK μ.2.1 idx ci k ty fin) (hf : zfi μ.2.2.2.2.2.1 κ.1 c ci k 1 = true) (hd : decode μ.1 pc = .ok (.getfield idx, 3)) (kk : zV Γ μ κ (pc + 3) L (zA (zad Γ) (M c k) :: st) M) : zV Γ μ κ pc L (zRf (zad Γ) c :: st) M := by
  obtain ⟨p, l, e, s, m, args, below, meth, cd, D, cA, ad, A, t1, t2, P⟩ := Γ
  obtain ⟨⟨hx, hb, hml, hown, hts⟩, hr, hlk, hK, hA, hSt, hNs⟩ := C
  intro H locs ls hR hP hD hS hz hv
  obtain ⟨cn, T, N, ty0, q1, q2, q3, q4, q5, q6, q7, q8, q9, q10, q11⟩ := hk
  obtain ⟨f1, f2, f3, f4, f5⟩ := zfi_s hf
  have hc2 : ((c.toNat : Nat) : Int) = c := Int.toNat_of_nonneg f1
  have hk2 : ((k.toNat : Nat) : Int) = k := Int.toNat_of_nonneg f4
  have he := zw_get (ad := ad) (cA := cA) (σ := μ.2.2.2.2.2.1) (M := M) f2
  rw [zent_o f3 q5] at he
  have hv2 : ((List.range (znf ci)).map fun j => zsl ad (μ.2.2.2.2.2.1.2.2 c.toNat j) (M (c.toNat : Nat) j))[k.toNat]? = some (zA ad (M c k)) := by
    rw [zfs (q4 ▸ q3), f5, hc2, hk2]
    rfl
  rcases q11 with q | ⟨host, q⟩
  · exact va_get hx hb hts q2 hown hK hP c.toNat he q1 k.toNat q3 (hts _ q) (by rw [q6]; exact fun _ h9 => h9) hv2 hd (kk H locs ls hR hP hD hS hz hv)
  · exact va_getN hx hb hts q2 hown hK hP c.toNat he q1 k.toNat q3 ((hNs.1 _ q).use rfl) (by rw [q6]; exact fun _ h9 => h9) hv2 hd (kk H locs ls hR hP hD hS hz hv)
theorem zx_put {p : Program} {l : Launch} {e : Env} {R : Room} {s : State} {m : MethodId} {args : Array Value} {below : List Frame} {meth : Method} {c : Code} {H : Heap} {locs : List Loc} {cells slots : Nat} {Q : State → Prop} {cc : ByteArray} {pc : Nat} {ls : Array Slot} {rest : List Value} {D : va_G} {cl : List vw_C} {A : Nat → Prop} {a : Nat} {tys : List (ClassId × FieldType)} {ws : va_W} {H0 : Heap} (hexec : p.tables.exec = Jvm.exec) (hb : c.code = cc) {own ref C : String} {T : u_T} {N ci index : Nat} {Ts : List Cond} (hts : ∀ w ∈ Ts, w.before args s = true) (hin : ∀ w ∈ u_ws C T N, w ∈ Ts) (ty0 : Nat → FieldType) (hty : ∀ k, k < N → parseFieldDescriptor (T k).2.2.1 = some (ty0 k)) (hnm : ∀ a, a < N → ∀ b, b < N → a ≠ b → (T a).2.1 ≠ (T b).2.1) (hown : s.vm.findClass own = some m.cls) (hK : va_K D cl tys s) (hP : va_P D cl ws H) (hD : va_D A ws) (hS0 : va_S A H0 H locs) (q0 : Nat) {fs : List Value} (he : ws[q0]? = some (a, .inr (ci, fs))) (hc : cl[ci]? = some (C, T, N)) (k : Nat) (hk : k < N) (hlink : (Cond.fieldLink own index ref (T k).2.1 (T k).2.2.1).before args s = true) (hsame : ∀ x, s.fieldFound? (T k).1 (T k).2.1 (T k).2.2.1 = some x → s.fieldFound? ref (T k).2.1 (T k).2.2.1 = some x) (hfin : (T k).2.2.2 = false) {ty : FieldType} {v : Value} (hd : parseFieldDescriptor (T k).2.2.1 = some ty) (hn : narrow ty v = v) (hfit : fits ty v = true) (hl : k < fs.length)
    (hdg : decode cc pc = .ok (.putfield index, 3)) (kk : ∀ (H1 : Heap) (locs1 : List Loc), H1.size = H.size → va_P D cl (ws.set q0 (a, .inr (ci, fs.set k v))) H1 → va_D A (ws.set q0 (a, .inr (ci, fs.set k v))) → va_S A H0 H1 locs1 → W p l e R s m args below meth c H1 locs1 cells slots Q (F0 m (pc + 3) ls rest)) : W p l e R s m args below meth c H locs cells slots Q (F0 m pc ls (v :: .ref a :: rest)) := by
  have hap := va_apart (own := own) hts hin ty0 hty hnm hK hc
  obtain ⟨r, h1, cell, q1, q2, q3, q4⟩ := hP q0 _ he
  have hr : r = (C, T, N) := Option.some.inj (h1.symm.trans hc)
  subst hr
  obtain ⟨hS, hfc, kC, hkC, hkind⟩ := hK.1 ci _ hc
  obtain ⟨cf, kf, fi, f, hi, hsl⟩ := hS k hk
  have hlay := hts _ (hin _ (u_in_lay hk))
  unfold u_lay at hlay
  rw [if_neg (by rw [hfin]; decide)] at hlay
  have hst := (u_facts hfc hkC (u_lays hts hin hk) hi).1
  have h6 := u_store hfc hkC hkind hlay hi hd hn hfit
  refine W.putK hexec hb (f := f) ⟨hown, hlink, ⟨_, _, _, hsame _ hi⟩, hst⟩ (by rw [q2]; exact h6) q1 q3 (by rw [hsl]; exact k2_hasslot (q4 k hk)) rfl rfl hdg fun H' e1 e2 e3 => ?_
  rw [hsl] at e1 ⊢
  exact kk H' _ e2 (hP.set hD he ⟨_, hc, t_OB.to (V := updV (vp_V fs) k v) ⟨_, e1, q2, q3, t_set q4 hap hk v⟩ (fun j _ => vp_updV_set hl v j)⟩ e3) (hD.set he) (hS0.put e2 e3 (hD.2 q0 _ he))
theorem zx_putN {p : Program} {l : Launch} {e : Env} {R : Room} {s : State} {m : MethodId} {args : Array Value} {below : List Frame} {meth : Method} {c : Code} {H : Heap} {locs : List Loc} {cells slots : Nat} {Q : State → Prop} {cc : ByteArray} {pc : Nat} {ls : Array Slot} {rest : List Value} {D : va_G} {cl : List vw_C} {A : Nat → Prop} {a : Nat} {tys : List (ClassId × FieldType)} {ws : va_W} {H0 : Heap} (hexec : p.tables.exec = Jvm.exec) (hb : c.code = cc) {own ref C : String} {host : String} {T : u_T} {N ci index : Nat} {Ts : List Cond} (hts : ∀ w ∈ Ts, w.before args s = true) (hin : ∀ w ∈ u_ws C T N, w ∈ Ts) (ty0 : Nat → FieldType) (hty : ∀ k, k < N → parseFieldDescriptor (T k).2.2.1 = some (ty0 k)) (hnm : ∀ a, a < N → ∀ b, b < N → a ≠ b → (T a).2.1 ≠ (T b).2.1) (hown : s.vm.findClass own = some m.cls) (hK : va_K D cl tys s) (hP : va_P D cl ws H) (hD : va_D A ws) (hS0 : va_S A H0 H locs) (q0 : Nat) {fs : List Value} (he : ws[q0]? = some (a, .inr (ci, fs))) (hc : cl[ci]? = some (C, T, N)) (k : Nat) (hk : k < N) (hlink : (Cond.fieldLinkNest own index ref (T k).2.1 (T k).2.2.1 host).before args s = true) (hsame : ∀ x, s.fieldFound? (T k).1 (T k).2.1 (T k).2.2.1 = some x → s.fieldFound? ref (T k).2.1 (T k).2.2.1 = some x) (hfin : (T k).2.2.2 = false) {ty : FieldType} {v : Value} (hd : parseFieldDescriptor (T k).2.2.1 = some ty) (hn : narrow ty v = v) (hfit : fits ty v = true) (hl : k < fs.length)
    (hdg : decode cc pc = .ok (.putfield index, 3)) (kk : ∀ (H1 : Heap) (locs1 : List Loc), H1.size = H.size → va_P D cl (ws.set q0 (a, .inr (ci, fs.set k v))) H1 → va_D A (ws.set q0 (a, .inr (ci, fs.set k v))) → va_S A H0 H1 locs1 → W p l e R s m args below meth c H1 locs1 cells slots Q (F0 m (pc + 3) ls rest)) : W p l e R s m args below meth c H locs cells slots Q (F0 m pc ls (v :: .ref a :: rest)) := by
  have hap := va_apart (own := own) hts hin ty0 hty hnm hK hc
  obtain ⟨r, h1, cell, q1, q2, q3, q4⟩ := hP q0 _ he
  have hr : r = (C, T, N) := Option.some.inj (h1.symm.trans hc)
  subst hr
  obtain ⟨hS, hfc, kC, hkC, hkind⟩ := hK.1 ci _ hc
  obtain ⟨cf, kf, fi, f, hi, hsl⟩ := hS k hk
  have hlay := hts _ (hin _ (u_in_lay hk))
  unfold u_lay at hlay
  rw [if_neg (by rw [hfin]; decide)] at hlay
  have hst := (u_facts hfc hkC (u_lays hts hin hk) hi).1
  have h6 := u_store hfc hkC hkind hlay hi hd hn hfit
  refine va_WputK hexec hb (f := f) hown hlink (hsame _ hi) hst (by rw [q2]; exact h6) q1 q3 (by rw [hsl]; exact k2_hasslot (q4 k hk)) rfl rfl hdg fun H' e1 e2 e3 => ?_
  rw [hsl] at e1 ⊢
  exact kk H' _ e2 (hP.set hD he ⟨_, hc, t_OB.to (V := updV (vp_V fs) k v) ⟨_, e1, q2, q3, t_set q4 hap hk v⟩ (fun j _ => vp_updV_set hl v j)⟩ e3) (hD.set he) (hS0.put e2 e3 (hD.2 q0 _ he))
theorem zx_putF {p : Program} {l : Launch} {e : Env} {R : Room} {s : State} {m : MethodId} {args : Array Value} {below : List Frame} {meth : Method} {c : Code} {H : Heap} {locs : List Loc} {cells slots : Nat} {Q : State → Prop} {cc : ByteArray} {pc : Nat} {ls : Array Slot} {rest : List Value} {D : va_G} {cl : List vw_C} {A : Nat → Prop} {a : Nat} {tys : List (ClassId × FieldType)} {ws : va_W} {H0 : Heap} (hexec : p.tables.exec = Jvm.exec) (hb : c.code = cc) {own ref C : String} {T : u_T} {N ci index : Nat} {Ts : List Cond} (hts : ∀ w ∈ Ts, w.before args s = true) (hin : ∀ w ∈ u_ws C T N, w ∈ Ts) (ty0 : Nat → FieldType) (hty : ∀ k, k < N → parseFieldDescriptor (T k).2.2.1 = some (ty0 k)) (hnm : ∀ a, a < N → ∀ b, b < N → a ≠ b → (T a).2.1 ≠ (T b).2.1) (hown : s.vm.findClass own = some m.cls) (hK : va_K D cl tys s) (hP : va_P D cl ws H) (hD : va_D A ws) (hS0 : va_S A H0 H locs) (q0 : Nat) {fs : List Value} (he : ws[q0]? = some (a, .inr (ci, fs))) (hc : cl[ci]? = some (C, T, N)) (k : Nat) (hk : k < N) (hlink : (Cond.fieldLink own index ref (T k).2.1 (T k).2.2.1).before args s = true) (hsame : ∀ x, s.fieldFound? (T k).1 (T k).2.1 (T k).2.2.1 = some x → s.fieldFound? ref (T k).2.1 (T k).2.2.1 = some x) (hfin : (T k).2.2.2 = true) (hin2 : meth.name = "<init>") (hdecl : (T k).1 = own) {ty : FieldType} {v : Value} (hd : parseFieldDescriptor (T k).2.2.1 = some ty) (hn : narrow ty v = v) (hfit : fits ty v = true) (hl : k < fs.length)
    (hdg : decode cc pc = .ok (.putfield index, 3)) (kk : ∀ (H1 : Heap) (locs1 : List Loc), H1.size = H.size → va_P D cl (ws.set q0 (a, .inr (ci, fs.set k v))) H1 → va_D A (ws.set q0 (a, .inr (ci, fs.set k v))) → va_S A H0 H1 locs1 → W p l e R s m args below meth c H1 locs1 cells slots Q (F0 m (pc + 3) ls rest)) : W p l e R s m args below meth c H locs cells slots Q (F0 m pc ls (v :: .ref a :: rest)) := by
  have hap := va_apart (own := own) hts hin ty0 hty hnm hK hc
  obtain ⟨r, h1, cell, q1, q2, q3, q4⟩ := hP q0 _ he
  have hr : r = (C, T, N) := Option.some.inj (h1.symm.trans hc)
  subst hr
  obtain ⟨hS, hfc, kC, hkC, hkind⟩ := hK.1 ci _ hc
  obtain ⟨cf, kf, fi, f, hi, hsl⟩ := hS k hk
  have hlay := hts _ (hin _ (u_in_lay hk))
  unfold u_lay at hlay
  rw [if_pos hfin] at hlay
  have hst := (u_facts hfc hkC (u_lays hts hin hk) hi).1
  have hcf : m.cls = cf := by
    obtain ⟨_, _, c', _, _, _, -, -, hf', -, -, -, hown2, -⟩ := Cond.laysFinal_spec hlay
    have e1 : c' = cf := by have := hi.symm.trans hf'; simp at this; exact this.1.symm
    rw [hdecl] at hown2
    rw [← e1]; exact Option.some.inj (hown.symm.trans hown2)
  have h6 := u_fits hfc hkC hkind (Or.inr hlay) hi hd hn hfit
  refine W.putFinK hexec hb hown hlink (hsame _ hi) hst hcf hin2 (by rw [q2]; exact h6) q1 q3 (by rw [hsl]; exact k2_hasslot (q4 k hk)) rfl rfl hdg fun H' e1 e2 e3 => ?_
  rw [hsl] at e1 ⊢
  exact kk H' _ e2 (hP.set hD he ⟨_, hc, t_OB.to (V := updV (vp_V fs) k v) ⟨_, e1, q2, q3, t_set q4 hap hk v⟩ (fun j _ => vp_updV_set hl v j)⟩ e3) (hD.set he) (hS0.put e2 e3 (hD.2 q0 _ he))
theorem zx_iast {p : Program} {l : Launch} {e : Env} {R : Room} {s : State} {m : MethodId} {args : Array Value} {below : List Frame} {meth : Method} {c : Code} {H : Heap} {locs : List Loc} {cells slots : Nat} {Q : State → Prop} {cc : ByteArray} {pc : Nat} {ls : Array Slot} {rest : List Value} {D : va_G} {cl : List vw_C} {A : Nat → Prop} {a : Nat} {tys : List (ClassId × FieldType)} {ws : va_W} {H0 : Heap} (hexec : p.tables.exec = Jvm.exec) (hb : c.code = cc) (hK : va_K D cl tys s) (hP : va_P D cl ws H) (hD : va_D A ws) (hS : va_S A H0 H locs) (q0 t0 : Nat) {cA : ClassId} {n : Nat} {f : Nat → Int32} (ha : ws[q0]? = some (a, .inl (cA, n, .inl f))) (ht : tys[t0]? = some (cA, .int)) {i : Int32} {x : Int32} (hin : vp_in i n) (hdg : decode cc pc = .ok (.iastore, 1))
    (kk : ∀ (H1 : Heap) (locs1 : List Loc), H1.size = H.size → va_P D cl (ws.set q0 (a, .inl (cA, n, .inl (upd f i.toNatClampNeg x)))) H1 → va_D A (ws.set q0 (a, .inl (cA, n, .inl (upd f i.toNatClampNeg x)))) → va_S A H0 H1 locs1 → W p l e R s m args below meth c H1 locs1 cells slots Q (F0 m (pc + 1) ls rest)) : W p l e R s m args below meth c H locs cells slots Q (F0 m pc ls (.int x :: .int i :: .ref a :: rest)) := by
  refine W.iast hexec hb (hP q0 _ ha) ((hK.2 t0 _ ht).1 n (fun j => .int (f j))) (fun q => by cases q) (by show ¬ (i < 0 ∨ (arrV _ _ _).slots.size ≤ _); rw [arrV_size]; exact hin) rfl rfl hdg fun H1 e z oq => ?_
  refine kk H1 _ z (hP.set hD ha ?_ oq) (hD.set ha) (hS.put z oq (hD.2 q0 _ ha))
  show H1[a]? = some (vp_cell _ _)
  rw [e]
  congr 1
  rw [vp_cell_i, vp_cell_i, arrV_store]
  congr 2
  funext q
  by_cases hq : q = i.toNatClampNeg
  · subst hq
    simp [updV, upd]
  · simp [updV, upd, hq]
theorem zr_puti {Γ : zG} {μ : zMc} (C : zC Γ μ) {κ : Nat × Nat × Nat} {pc : Nat} {L : List (Nat × Value)} {st : List Value} {M : zM} {idx ci : Nat} {k : Int} {c x : Int} (hk : zFK μ.2.1 idx ci k .int false) (hf : zfi μ.2.2.2.2.2.1 κ.1 c ci k 0 = true) (hzin : zin x) (hd : decode μ.1 pc = .ok (.putfield idx, 3)) (kk : ∀ M1, M1 = zset M c k x → zV Γ μ κ (pc + 3) L st M1) : zV Γ μ κ pc L (zI x :: zRf (zad Γ) c :: st) M := by
  obtain ⟨p, l, e, s, m, args, below, meth, cd, D, cA, ad, A, t1, t2, P⟩ := Γ
  obtain ⟨⟨hx, hb, hml, hown, hts⟩, hr, hlk, hK, hA, hSt, hNs⟩ := C
  intro H locs ls hR hP hD hS hz hv
  obtain ⟨cn, T, N, ty0, q1, q2, q3, q4, q5, q6, q7, q8, q9, q10, q11⟩ := hk
  obtain ⟨f1, f2, f3, f4, f5⟩ := zfi_s hf
  have hc2 : ((c.toNat : Nat) : Int) = c := Int.toNat_of_nonneg f1
  have hk2 : ((k.toNat : Nat) : Int) = k := Int.toNat_of_nonneg f4
  have he := zw_get (ad := ad) (cA := cA) (σ := μ.2.2.2.2.2.1) (M := M) f2
  rw [zent_o f3 q5] at he
  have hval : zsl ad (μ.2.2.2.2.2.1.2.2 c.toNat k.toNat) (zset M c k x (c.toNat : Nat) (k.toNat : Nat)) = zI x := by
    rw [f5, hc2, hk2, zset_s]
    rfl
  have hfs : ((List.range (znf ci)).map fun j => zsl ad (μ.2.2.2.2.2.1.2.2 c.toNat j) (M (c.toNat : Nat) j)).set k.toNat (zI x) = (List.range (znf ci)).map fun j => zsl ad (μ.2.2.2.2.2.1.2.2 c.toNat j) (zset M c k x (c.toNat : Nat) j) := by
    rw [← hval]
    exact zfset (f := fun j => zsl ad (μ.2.2.2.2.2.1.2.2 c.toNat j) (M (c.toNat : Nat) j)) (g := fun j => zsl ad (μ.2.2.2.2.2.1.2.2 c.toNat j) (zset M c k x (c.toNat : Nat) j)) (q4 ▸ q3) (fun j hj => by
      have : zset M c k x (c.toNat : Nat) j = M (c.toNat : Nat) j := zset_n M (Or.inr (by omega))
      rw [this])
  have hset : (zw ad cA μ.2.2.2.2.2.1 κ.1 M).set c.toNat (ad c.toNat, .inr (ci, ((List.range (znf ci)).map fun j => zsl ad (μ.2.2.2.2.2.1.2.2 c.toNat j) (M (c.toNat : Nat) j)).set k.toNat (zI x))) = zw ad cA μ.2.2.2.2.2.1 κ.1 (zset M c k x) := by
    exact zw_same (n := κ.1) f2 (M' := zset M c k x) (by rw [zent_o f3 q5, hfs]) (fun c' i q => zset_n M (Or.inl (by omega)))
  have hl : k.toNat < ((List.range (znf ci)).map fun j => zsl ad (μ.2.2.2.2.2.1.2.2 c.toNat j) (M (c.toNat : Nat) j)).length := by
    simp; exact q4 ▸ q3
  have fin := fun (H1 : Heap) (locs1 : List Loc) (hsz : H1.size = H.size) (hP : va_P D vwCl ((zw ad cA μ.2.2.2.2.2.1 κ.1 M).set c.toNat (ad c.toNat, .inr (ci, ((List.range (znf ci)).map fun j => zsl ad (μ.2.2.2.2.2.1.2.2 c.toNat j) (M (c.toNat : Nat) j)).set k.toNat (zI x)))) H1) (hD : va_D A ((zw ad cA μ.2.2.2.2.2.1 κ.1 M).set c.toNat (ad c.toNat, .inr (ci, ((List.range (znf ci)).map fun j => zsl ad (μ.2.2.2.2.2.1.2.2 c.toNat j) (M (c.toNat : Nat) j)).set k.toNat (zI x))))) (hS : va_S A s.heap H1 locs1) => kk _ rfl H1 locs1 ls (hR.set hzin c k) (hset ▸ hP) (hset ▸ hD) hS (fun g => hsz.trans (hz g)) hv
  rcases q11 with q | ⟨host, q⟩
  · exact zx_put hx hb hts q2 ty0 q9 q10 hown hK hP hD hS c.toNat he q1 k.toNat q3 (hts _ q) (by rw [q6]; exact fun _ h9 => h9) q8 q7 rfl rfl hl hd fin
  · exact zx_putN hx hb hts q2 ty0 q9 q10 hown hK hP hD hS c.toNat he q1 k.toNat q3 ((hNs.1 _ q).use rfl) (by rw [q6]; exact fun _ h9 => h9) q8 q7 rfl rfl hl hd fin
theorem zr_putz {Γ : zG} {μ : zMc} (C : zC Γ μ) {κ : Nat × Nat × Nat} {pc : Nat} {L : List (Nat × Value)} {st : List Value} {M : zM} {idx ci : Nat} {k : Int} {c x : Int} (hk : zFK μ.2.1 idx ci k .boolean false) (hf : zfi μ.2.2.2.2.2.1 κ.1 c ci k 0 = true) (hzin : zin x) (h01 : x = 0 ∨ x = 1) (hd : decode μ.1 pc = .ok (.putfield idx, 3)) (kk : ∀ M1, M1 = zset M c k x → zV Γ μ κ (pc + 3) L st M1) : zV Γ μ κ pc L (zI x :: zRf (zad Γ) c :: st) M := by
  obtain ⟨p, l, e, s, m, args, below, meth, cd, D, cA, ad, A, t1, t2, P⟩ := Γ
  obtain ⟨⟨hx, hb, hml, hown, hts⟩, hr, hlk, hK, hA, hSt, hNs⟩ := C
  intro H locs ls hR hP hD hS hz hv
  obtain ⟨cn, T, N, ty0, q1, q2, q3, q4, q5, q6, q7, q8, q9, q10, q11⟩ := hk
  obtain ⟨f1, f2, f3, f4, f5⟩ := zfi_s hf
  have hc2 : ((c.toNat : Nat) : Int) = c := Int.toNat_of_nonneg f1
  have hk2 : ((k.toNat : Nat) : Int) = k := Int.toNat_of_nonneg f4
  have he := zw_get (ad := ad) (cA := cA) (σ := μ.2.2.2.2.2.1) (M := M) f2
  rw [zent_o f3 q5] at he
  have hval : zsl ad (μ.2.2.2.2.2.1.2.2 c.toNat k.toNat) (zset M c k x (c.toNat : Nat) (k.toNat : Nat)) = zI x := by
    rw [f5, hc2, hk2, zset_s]
    rfl
  have hfs : ((List.range (znf ci)).map fun j => zsl ad (μ.2.2.2.2.2.1.2.2 c.toNat j) (M (c.toNat : Nat) j)).set k.toNat (zI x) = (List.range (znf ci)).map fun j => zsl ad (μ.2.2.2.2.2.1.2.2 c.toNat j) (zset M c k x (c.toNat : Nat) j) := by
    rw [← hval]
    exact zfset (f := fun j => zsl ad (μ.2.2.2.2.2.1.2.2 c.toNat j) (M (c.toNat : Nat) j)) (g := fun j => zsl ad (μ.2.2.2.2.2.1.2.2 c.toNat j) (zset M c k x (c.toNat : Nat) j)) (q4 ▸ q3) (fun j hj => by
      have : zset M c k x (c.toNat : Nat) j = M (c.toNat : Nat) j := zset_n M (Or.inr (by omega))
      rw [this])
  have hset : (zw ad cA μ.2.2.2.2.2.1 κ.1 M).set c.toNat (ad c.toNat, .inr (ci, ((List.range (znf ci)).map fun j => zsl ad (μ.2.2.2.2.2.1.2.2 c.toNat j) (M (c.toNat : Nat) j)).set k.toNat (zI x))) = zw ad cA μ.2.2.2.2.2.1 κ.1 (zset M c k x) := by
    exact zw_same (n := κ.1) f2 (M' := zset M c k x) (by rw [zent_o f3 q5, hfs]) (fun c' i q => zset_n M (Or.inl (by omega)))
  have hl : k.toNat < ((List.range (znf ci)).map fun j => zsl ad (μ.2.2.2.2.2.1.2.2 c.toNat j) (M (c.toNat : Nat) j)).length := by
    simp; exact q4 ▸ q3
  have fin := fun (H1 : Heap) (locs1 : List Loc) (hsz : H1.size = H.size) (hP : va_P D vwCl ((zw ad cA μ.2.2.2.2.2.1 κ.1 M).set c.toNat (ad c.toNat, .inr (ci, ((List.range (znf ci)).map fun j => zsl ad (μ.2.2.2.2.2.1.2.2 c.toNat j) (M (c.toNat : Nat) j)).set k.toNat (zI x)))) H1) (hD : va_D A ((zw ad cA μ.2.2.2.2.2.1 κ.1 M).set c.toNat (ad c.toNat, .inr (ci, ((List.range (znf ci)).map fun j => zsl ad (μ.2.2.2.2.2.1.2.2 c.toNat j) (M (c.toNat : Nat) j)).set k.toNat (zI x))))) (hS : va_S A s.heap H1 locs1) => kk _ rfl H1 locs1 ls (hR.set hzin c k) (hset ▸ hP) (hset ▸ hD) hS (fun g => hsz.trans (hz g)) hv
  rcases q11 with q | ⟨host, q⟩
  · exact zx_put hx hb hts q2 ty0 q9 q10 hown hK hP hD hS c.toNat he q1 k.toNat q3 (hts _ q) (by rw [q6]; exact fun _ h9 => h9) q8 q7 (by rcases h01 with rfl | rfl <;> rfl) (by rcases h01 with rfl | rfl <;> rfl) hl hd fin
  · exact zx_putN hx hb hts q2 ty0 q9 q10 hown hK hP hD hS c.toNat he q1 k.toNat q3 ((hNs.1 _ q).use rfl) (by rw [q6]; exact fun _ h9 => h9) q8 q7 (by rcases h01 with rfl | rfl <;> rfl) (by rcases h01 with rfl | rfl <;> rfl) hl hd fin
theorem zr_putm {Γ : zG} {μ : zMc} (C : zC Γ μ) {κ : Nat × Nat × Nat} {pc : Nat} {L : List (Nat × Value)} {st : List Value} {M : zM} {idx ci : Nat} {k : Int} {c x : Int} (hk : zFK μ.2.1 idx ci k (.array .int) false) (hf : zfi μ.2.2.2.2.2.1 κ.1 c ci k 1 = true) (hzin : zin x) (hx0 : 0 ≤ x) (hd : decode μ.1 pc = .ok (.putfield idx, 3)) (kk : ∀ M1, M1 = zset M c k x → zV Γ μ κ (pc + 3) L st M1) : zV Γ μ κ pc L (zRf (zad Γ) x :: zRf (zad Γ) c :: st) M := by
  obtain ⟨p, l, e, s, m, args, below, meth, cd, D, cA, ad, A, t1, t2, P⟩ := Γ
  obtain ⟨⟨hx, hb, hml, hown, hts⟩, hr, hlk, hK, hA, hSt, hNs⟩ := C
  intro H locs ls hR hP hD hS hz hv
  obtain ⟨cn, T, N, ty0, q1, q2, q3, q4, q5, q6, q7, q8, q9, q10, q11⟩ := hk
  obtain ⟨f1, f2, f3, f4, f5⟩ := zfi_s hf
  have hc2 : ((c.toNat : Nat) : Int) = c := Int.toNat_of_nonneg f1
  have hk2 : ((k.toNat : Nat) : Int) = k := Int.toNat_of_nonneg f4
  have he := zw_get (ad := ad) (cA := cA) (σ := μ.2.2.2.2.2.1) (M := M) f2
  rw [zent_o f3 q5] at he
  have hval : zsl ad (μ.2.2.2.2.2.1.2.2 c.toNat k.toNat) (zset M c k x (c.toNat : Nat) (k.toNat : Nat)) = zRf ad x := by
    rw [f5, hc2, hk2, zset_s]
    show zA ad x = zRf ad x
    exact zA_pos (by omega)
  have hfs : ((List.range (znf ci)).map fun j => zsl ad (μ.2.2.2.2.2.1.2.2 c.toNat j) (M (c.toNat : Nat) j)).set k.toNat (zRf ad x) = (List.range (znf ci)).map fun j => zsl ad (μ.2.2.2.2.2.1.2.2 c.toNat j) (zset M c k x (c.toNat : Nat) j) := by
    rw [← hval]
    exact zfset (f := fun j => zsl ad (μ.2.2.2.2.2.1.2.2 c.toNat j) (M (c.toNat : Nat) j)) (g := fun j => zsl ad (μ.2.2.2.2.2.1.2.2 c.toNat j) (zset M c k x (c.toNat : Nat) j)) (q4 ▸ q3) (fun j hj => by
      have : zset M c k x (c.toNat : Nat) j = M (c.toNat : Nat) j := zset_n M (Or.inr (by omega))
      rw [this])
  have hset : (zw ad cA μ.2.2.2.2.2.1 κ.1 M).set c.toNat (ad c.toNat, .inr (ci, ((List.range (znf ci)).map fun j => zsl ad (μ.2.2.2.2.2.1.2.2 c.toNat j) (M (c.toNat : Nat) j)).set k.toNat (zRf ad x))) = zw ad cA μ.2.2.2.2.2.1 κ.1 (zset M c k x) := by
    exact zw_same (n := κ.1) f2 (M' := zset M c k x) (by rw [zent_o f3 q5, hfs]) (fun c' i q => zset_n M (Or.inl (by omega)))
  have hl : k.toNat < ((List.range (znf ci)).map fun j => zsl ad (μ.2.2.2.2.2.1.2.2 c.toNat j) (M (c.toNat : Nat) j)).length := by
    simp; exact q4 ▸ q3
  have fin := fun (H1 : Heap) (locs1 : List Loc) (hsz : H1.size = H.size) (hP : va_P D vwCl ((zw ad cA μ.2.2.2.2.2.1 κ.1 M).set c.toNat (ad c.toNat, .inr (ci, ((List.range (znf ci)).map fun j => zsl ad (μ.2.2.2.2.2.1.2.2 c.toNat j) (M (c.toNat : Nat) j)).set k.toNat (zRf ad x)))) H1) (hD : va_D A ((zw ad cA μ.2.2.2.2.2.1 κ.1 M).set c.toNat (ad c.toNat, .inr (ci, ((List.range (znf ci)).map fun j => zsl ad (μ.2.2.2.2.2.1.2.2 c.toNat j) (M (c.toNat : Nat) j)).set k.toNat (zRf ad x))))) (hS : va_S A s.heap H1 locs1) => kk _ rfl H1 locs1 ls (hR.set hzin c k) (hset ▸ hP) (hset ▸ hD) hS (fun g => hsz.trans (hz g)) hv
  rcases q11 with q | ⟨host, q⟩
  · exact zx_put hx hb hts q2 ty0 q9 q10 hown hK hP hD hS c.toNat he q1 k.toNat q3 (hts _ q) (by rw [q6]; exact fun _ h9 => h9) q8 q7 rfl rfl hl hd fin
  · exact zx_putN hx hb hts q2 ty0 q9 q10 hown hK hP hD hS c.toNat he q1 k.toNat q3 ((hNs.1 _ q).use rfl) (by rw [q6]; exact fun _ h9 => h9) q8 q7 rfl rfl hl hd fin
theorem zr_iald {Γ : zG} {μ : zMc} (C : zC Γ μ) {κ : Nat × Nat × Nat} {pc : Nat} {L : List (Nat × Value)} {st : List Value} {M : zM} {c i : Int} {len : Nat} (hf : zai μ.2.2.2.2.2.1 κ.1 c 14 len = true) (h0 : 0 ≤ i ∧ i < len) (hd : decode μ.1 pc = .ok (.iaload, 1)) (kk : zV Γ μ κ (pc + 1) L (zI (M c i) :: st) M) : zV Γ μ κ pc L (zI i :: zRf (zad Γ) c :: st) M := by
  obtain ⟨p, l, e, s, m, args, below, meth, cd, D, cA, ad, A, t1, t2, P⟩ := Γ
  obtain ⟨⟨hx, hb, hml, hown, hts⟩, hr, hlk, hK, hA, hSt, hNs⟩ := C
  intro H locs ls hR hP hD hS hz hv
  obtain ⟨f1, f2, f3, f4, f5⟩ := zai_s hf
  have hc2 : ((c.toNat : Nat) : Int) = c := Int.toNat_of_nonneg f1
  have hi2 : ((i.toNat : Nat) : Int) = i := Int.toNat_of_nonneg h0.1
  have he := zw_get (ad := ad) (cA := cA) (σ := μ.2.2.2.2.2.1) (M := M) f2
  have hvi : vp_in (Int32.ofInt i) len := z_in h0.1 h0.2 f5
  have hcl : (Int32.ofInt i).toNatClampNeg = i.toNat := z_cl h0.1 (by omega)
  rw [zent_i f3 (by omega)] at he
  refine va_iald hx hb hK hP c.toNat 1 he (by rfl) (by rw [f4]; exact hvi) hd ?_
  rw [hcl]
  have h := kk H locs ls hR hP hD hS hz hv
  rw [← hc2, ← hi2] at h
  exact h
theorem zr_bald {Γ : zG} {μ : zMc} (C : zC Γ μ) {κ : Nat × Nat × Nat} {pc : Nat} {L : List (Nat × Value)} {st : List Value} {M : zM} {c i : Int} {len : Nat} (hf : zai μ.2.2.2.2.2.1 κ.1 c 13 len = true) (h0 : 0 ≤ i ∧ i < len) (hd : decode μ.1 pc = .ok (.baload, 1)) (kk : zV Γ μ κ (pc + 1) L (zI (M c i) :: st) M) : zV Γ μ κ pc L (zI i :: zRf (zad Γ) c :: st) M := by
  obtain ⟨p, l, e, s, m, args, below, meth, cd, D, cA, ad, A, t1, t2, P⟩ := Γ
  obtain ⟨⟨hx, hb, hml, hown, hts⟩, hr, hlk, hK, hA, hSt, hNs⟩ := C
  intro H locs ls hR hP hD hS hz hv
  obtain ⟨f1, f2, f3, f4, f5⟩ := zai_s hf
  have hc2 : ((c.toNat : Nat) : Int) = c := Int.toNat_of_nonneg f1
  have hi2 : ((i.toNat : Nat) : Int) = i := Int.toNat_of_nonneg h0.1
  have he := zw_get (ad := ad) (cA := cA) (σ := μ.2.2.2.2.2.1) (M := M) f2
  have hvi : vp_in (Int32.ofInt i) len := z_in h0.1 h0.2 f5
  have hcl : (Int32.ofInt i).toNatClampNeg = i.toNat := z_cl h0.1 (by omega)
  rw [zent_i f3 (by omega)] at he
  refine va_bald hx hb hK hP c.toNat 0 he (by rfl) (by rw [f4]; exact hvi) hd ?_
  rw [hcl]
  have h := kk H locs ls hR hP hD hS hz hv
  rw [← hc2, ← hi2] at h
  exact h
theorem zr_zald {Γ : zG} {μ : zMc} (C : zC Γ μ) {κ : Nat × Nat × Nat} {pc : Nat} {L : List (Nat × Value)} {st : List Value} {M : zM} {c i : Int} {len : Nat} (hf : zai μ.2.2.2.2.2.1 κ.1 c 16 len = true) (h0 : 0 ≤ i ∧ i < len) (hd : decode μ.1 pc = .ok (.baload, 1)) (kk : zV Γ μ κ (pc + 1) L (zI (M c i) :: st) M) : zV Γ μ κ pc L (zI i :: zRf (zad Γ) c :: st) M := by
  obtain ⟨p, l, e, s, m, args, below, meth, cd, D, cA, ad, A, t1, t2, P⟩ := Γ
  obtain ⟨⟨hx, hb, hml, hown, hts⟩, hr, hlk, hK, hA, hSt, hNs⟩ := C
  intro H locs ls hR hP hD hS hz hv
  obtain ⟨f1, f2, f3, f4, f5⟩ := zai_s hf
  have hc2 : ((c.toNat : Nat) : Int) = c := Int.toNat_of_nonneg f1
  have hi2 : ((i.toNat : Nat) : Int) = i := Int.toNat_of_nonneg h0.1
  have he := zw_get (ad := ad) (cA := cA) (σ := μ.2.2.2.2.2.1) (M := M) f2
  have hvi : vp_in (Int32.ofInt i) len := z_in h0.1 h0.2 f5
  have hcl : (Int32.ofInt i).toNatClampNeg = i.toNat := z_cl h0.1 (by omega)
  rw [zent_i f3 (by omega)] at he
  refine va_zald hx hb hK hP c.toNat 3 he (by rfl) (by rw [f4]; exact hvi) hd ?_
  rw [hcl]
  have h := kk H locs ls hR hP hD hS hz hv
  rw [← hc2, ← hi2] at h
  exact h
theorem zr_lald {Γ : zG} {μ : zMc} (C : zC Γ μ) {κ : Nat × Nat × Nat} {pc : Nat} {L : List (Nat × Value)} {st : List Value} {M : zM} {c i : Int} {len : Nat} (hf : zai μ.2.2.2.2.2.1 κ.1 c 15 len = true) (h0 : 0 ≤ i ∧ i < len) (hd : decode μ.1 pc = .ok (.laload, 1)) (kk : zV Γ μ κ (pc + 1) L (zJ (M c i) :: st) M) : zV Γ μ κ pc L (zI i :: zRf (zad Γ) c :: st) M := by
  obtain ⟨p, l, e, s, m, args, below, meth, cd, D, cA, ad, A, t1, t2, P⟩ := Γ
  obtain ⟨⟨hx, hb, hml, hown, hts⟩, hr, hlk, hK, hA, hSt, hNs⟩ := C
  intro H locs ls hR hP hD hS hz hv
  obtain ⟨f1, f2, f3, f4, f5⟩ := zai_s hf
  have hc2 : ((c.toNat : Nat) : Int) = c := Int.toNat_of_nonneg f1
  have hi2 : ((i.toNat : Nat) : Int) = i := Int.toNat_of_nonneg h0.1
  have he := zw_get (ad := ad) (cA := cA) (σ := μ.2.2.2.2.2.1) (M := M) f2
  have hvi : vp_in (Int32.ofInt i) len := z_in h0.1 h0.2 f5
  have hcl : (Int32.ofInt i).toNatClampNeg = i.toNat := z_cl h0.1 (by omega)
  rw [zent_j f3] at he
  refine va_lald hx hb hK hP c.toNat 2 he (by rfl) (by rw [f4]; exact hvi) hd ?_
  rw [hcl]
  have h := kk H locs ls hR hP hD hS hz hv
  rw [← hc2, ← hi2] at h
  exact h
theorem zW_aald {p : Program} {l : Launch} {e : Env} {R : Room} {s : State} {m : MethodId} {args : Array Value} {below : List Frame} {meth : Method} {c : Code} {H : Heap} {locs : List Loc} {cells slots : Nat} {Q : State → Prop} {cc : ByteArray} {pc : Nat} {ls : Array Slot} {rest : List Value} {D : va_G} {cl : List vw_C} {a : Nat} {tys : List (ClassId × FieldType)} {ws : va_W} (hexec : p.tables.exec = Jvm.exec) (hb : c.code = cc) (hK : va_K D cl tys s) (hP : va_P D cl ws H) (q0 t0 : Nat) {cA : ClassId} {ty : FieldType} {n : Nat} {f : Nat → Option Nat} (ha : ws[q0]? = some (a, .inl (cA, n, .inr (.inr (.inr (.inr f)))))) (ht : tys[t0]? = some (cA, ty)) (hty : ty.isReference = true) {i : Int32} (hin : vp_in i n) (hdg : decode cc pc = .ok (.aaload, 1))
    (kk : W p l e R s m args below meth c H locs cells slots Q (F0 m (pc + 1) ls (va_rf (f i.toNatClampNeg) :: rest))) : W p l e R s m args below meth c H locs cells slots Q (F0 m pc ls (.int i :: .ref a :: rest)) := by
  have hlt : i.toNatClampNeg < n := Nat.not_le.mp fun q => hin (Or.inr q)
  exact W.aald (v := va_rf (f i.toNatClampNeg)) (ty := ty) hexec hb (hP q0 _ ha) ((hK.2 t0 _ ht).1 n (fun j => va_rf (f j))) hty (fun q => by cases q) (by show ¬ (i < 0 ∨ (arrV _ _ _).slots.size ≤ _); rw [arrV_size]; exact hin) (by show (arrV _ _ _).slots[_]? = _; rw [arrV_read _ _ hlt]) rfl rfl hdg kk
theorem zr_aald {Γ : zG} {μ : zMc} (C : zC Γ μ) {κ : Nat × Nat × Nat} {pc : Nat} {L : List (Nat × Value)} {st : List Value} {M : zM} {c i q : Int} {len k : Nat} (hk3 : k = 17 ∨ k = 18 ∨ k = 19) (hf : zai μ.2.2.2.2.2.1 κ.1 c k len = true) (h0 : 0 ≤ i ∧ i < len) (hq : μ.2.2.2.2.2.1.2.2 c.toNat i.toNat = q.toNat + 2) (hd : decode μ.1 pc = .ok (.aaload, 1)) (kk : zV Γ μ κ (pc + 1) L (zRf (zad Γ) q :: st) M) : zV Γ μ κ pc L (zI i :: zRf (zad Γ) c :: st) M := by
  obtain ⟨p, l, e, s, m, args, below, meth, cd, D, cA, ad, A, t1, t2, P⟩ := Γ
  obtain ⟨⟨hx, hb, hml, hown, hts⟩, hr, hlk, hK, hA, hSt, hNs⟩ := C
  intro H locs ls hR hP hD hS hz hv
  obtain ⟨f1, f2, f3, f4, f5⟩ := zai_s hf
  have hc2 : ((c.toNat : Nat) : Int) = c := Int.toNat_of_nonneg f1
  have hi2 : ((i.toNat : Nat) : Int) = i := Int.toNat_of_nonneg h0.1
  have he := zw_get (ad := ad) (cA := cA) (σ := μ.2.2.2.2.2.1) (M := M) f2
  have hvi : vp_in (Int32.ofInt i) len := z_in h0.1 h0.2 f5
  have hcl : (Int32.ofInt i).toNatClampNeg = i.toNat := z_cl h0.1 (by omega)
  rw [zent_r f3 (by omega)] at he
  have hval : va_rf (zrf ad (μ.2.2.2.2.2.1.2.2 c.toNat i.toNat) (M (c.toNat : Nat) (i.toNat : Nat))) = zRf ad q := by
    rw [hq]
    unfold zrf
    rw [if_neg (by omega)]
    rfl
  have hty : ∃ ty, (ztys cA)[k - 13]? = some (cA (k - 13), ty) ∧ ty.isReference = true := by
    rcases hk3 with rfl | rfl | rfl
    · exact ⟨_, rfl, rfl⟩
    · exact ⟨_, rfl, rfl⟩
    · exact ⟨_, rfl, rfl⟩
  obtain ⟨ty, ht1, ht2⟩ := hty
  refine zW_aald hx hb hK hP c.toNat (k - 13) he ht1 ht2 (by rw [f4]; exact hvi) hd ?_
  rw [hcl, hval]
  exact kk H locs ls hR hP hD hS hz hv
theorem zr_alen {Γ : zG} {μ : zMc} (C : zC Γ μ) {κ : Nat × Nat × Nat} {pc : Nat} {L : List (Nat × Value)} {st : List Value} {M : zM} {c : Int} {len k : Nat} (hk3 : k = 13 ∨ k = 14 ∨ k = 16) (hf : zai μ.2.2.2.2.2.1 κ.1 c k len = true) (hd : decode μ.1 pc = .ok (.arraylength, 1)) (kk : zV Γ μ κ (pc + 1) L (zI (len : Nat) :: st) M) : zV Γ μ κ pc L (zRf (zad Γ) c :: st) M := by
  obtain ⟨p, l, e, s, m, args, below, meth, cd, D, cA, ad, A, t1, t2, P⟩ := Γ
  obtain ⟨⟨hx, hb, hml, hown, hts⟩, hr, hlk, hK, hA, hSt, hNs⟩ := C
  intro H locs ls hR hP hD hS hz hv
  obtain ⟨f1, f2, f3, f4, f5⟩ := zai_s hf
  have he := zw_get (ad := ad) (cA := cA) (σ := μ.2.2.2.2.2.1) (M := M) f2
  rw [zent_i f3 (by omega)] at he
  have hty : ∃ ty, (ztys cA)[k - 13]? = some (cA (k - 13), ty) := by
    rcases hk3 with rfl | rfl | rfl
    · exact ⟨_, rfl⟩
    · exact ⟨_, rfl⟩
    · exact ⟨_, rfl⟩
  obtain ⟨ty, ht1⟩ := hty
  refine va_alen (v := Int32.ofInt (len : Nat)) hx hb hK hP c.toNat (k - 13) he ht1 ?_ hd (kk H locs ls hR hP hD hS hz hv)
  rw [f4, Int32.ofInt_eq_ofNat]
theorem zr_alenr {Γ : zG} {μ : zMc} (C : zC Γ μ) {κ : Nat × Nat × Nat} {pc : Nat} {L : List (Nat × Value)} {st : List Value} {M : zM} {c : Int} {len k : Nat} (hk3 : k = 17 ∨ k = 18 ∨ k = 19) (hf : zai μ.2.2.2.2.2.1 κ.1 c k len = true) (hd : decode μ.1 pc = .ok (.arraylength, 1)) (kk : zV Γ μ κ (pc + 1) L (zI (len : Nat) :: st) M) : zV Γ μ κ pc L (zRf (zad Γ) c :: st) M := by
  obtain ⟨p, l, e, s, m, args, below, meth, cd, D, cA, ad, A, t1, t2, P⟩ := Γ
  obtain ⟨⟨hx, hb, hml, hown, hts⟩, hr, hlk, hK, hA, hSt, hNs⟩ := C
  intro H locs ls hR hP hD hS hz hv
  obtain ⟨f1, f2, f3, f4, f5⟩ := zai_s hf
  have he := zw_get (ad := ad) (cA := cA) (σ := μ.2.2.2.2.2.1) (M := M) f2
  rw [zent_r f3 (by omega)] at he
  have hty : ∃ ty, (ztys cA)[k - 13]? = some (cA (k - 13), ty) := by
    rcases hk3 with rfl | rfl | rfl
    · exact ⟨_, rfl⟩
    · exact ⟨_, rfl⟩
    · exact ⟨_, rfl⟩
  obtain ⟨ty, ht1⟩ := hty
  refine va_alen (v := Int32.ofInt (len : Nat)) hx hb hK hP c.toNat (k - 13) he ht1 ?_ hd (kk H locs ls hR hP hD hS hz hv)
  rw [f4, Int32.ofInt_eq_ofNat]
theorem zr_iast {Γ : zG} {μ : zMc} (C : zC Γ μ) {κ : Nat × Nat × Nat} {pc : Nat} {L : List (Nat × Value)} {st : List Value} {M : zM} {c i x : Int} {len : Nat} (hf : zai μ.2.2.2.2.2.1 κ.1 c 14 len = true) (h0 : 0 ≤ i ∧ i < len) (hzin : zin x) (hd : decode μ.1 pc = .ok (.iastore, 1)) (kk : ∀ M1, M1 = zset M c i x → zV Γ μ κ (pc + 1) L st M1) : zV Γ μ κ pc L (zI x :: zI i :: zRf (zad Γ) c :: st) M := by
  obtain ⟨p, l, e, s, m, args, below, meth, cd, D, cA, ad, A, t1, t2, P⟩ := Γ
  obtain ⟨⟨hx, hb, hml, hown, hts⟩, hr, hlk, hK, hA, hSt, hNs⟩ := C
  intro H locs ls hR hP hD hS hz hv
  obtain ⟨f1, f2, f3, f4, f5⟩ := zai_s hf
  have hc2 : ((c.toNat : Nat) : Int) = c := Int.toNat_of_nonneg f1
  have hi2 : ((i.toNat : Nat) : Int) = i := Int.toNat_of_nonneg h0.1
  have he := zw_get (ad := ad) (cA := cA) (σ := μ.2.2.2.2.2.1) (M := M) f2
  have hvi : vp_in (Int32.ofInt i) len := z_in h0.1 h0.2 f5
  have hcl : (Int32.ofInt i).toNatClampNeg = i.toNat := z_cl h0.1 (by omega)
  rw [zent_i f3 (by omega)] at he
  have hfun : upd (fun j : Nat => Int32.ofInt (M (c.toNat : Nat) j)) i.toNat (Int32.ofInt x) = fun j : Nat => Int32.ofInt (zset M c i x (c.toNat : Nat) j) := by
    funext j
    by_cases e : j = i.toNat
    · subst e
      rw [hc2, hi2, zset_s]
      simp [upd, vp_updL]
    · rw [zset_n M (Or.inr (by omega))]
      simp [upd, vp_updL, e]
  have hset : (zw ad cA μ.2.2.2.2.2.1 κ.1 M).set c.toNat (ad c.toNat, .inl (cA 1, μ.2.2.2.2.2.1.2.1 c.toNat, .inl (upd (fun j : Nat => Int32.ofInt (M (c.toNat : Nat) j)) i.toNat (Int32.ofInt x)))) = zw ad cA μ.2.2.2.2.2.1 κ.1 (zset M c i x) :=
    zw_same (n := κ.1) f2 (M' := zset M c i x) (by rw [zent_i f3 (by omega), ← hfun]) (fun c' i' q => zset_n M (Or.inl (by omega)))
  refine zx_iast hx hb hK hP hD hS c.toNat 1 he (by rfl) (by rw [f4]; exact hvi) hd ?_
  intro H1 locs1 hsz hP hD hS
  rw [hcl] at hP hD
  exact kk _ rfl H1 locs1 ls (hR.set hzin c i) (hset ▸ hP) (hset ▸ hD) hS (fun g => hsz.trans (hz g)) hv
theorem zr_bast {Γ : zG} {μ : zMc} (C : zC Γ μ) {κ : Nat × Nat × Nat} {pc : Nat} {L : List (Nat × Value)} {st : List Value} {M : zM} {c i x : Int} {len : Nat} (hf : zai μ.2.2.2.2.2.1 κ.1 c 13 len = true) (h0 : 0 ≤ i ∧ i < len) (hzin : zin x) (hb8 : Int.bmod x 256 = x) (hmc : μ.2.2.2.2.2.2.2.1 = 0) (hd : decode μ.1 pc = .ok (.bastore, 1)) (kk : ∀ M1, M1 = zset M c i x → zV Γ μ κ (pc + 1) L st M1) : zV Γ μ κ pc L (zI x :: zI i :: zRf (zad Γ) c :: st) M := by
  obtain ⟨p, l, e, s, m, args, below, meth, cd, D, cA, ad, A, t1, t2, P⟩ := Γ
  obtain ⟨⟨hx, hb, hml, hown, hts⟩, hr, hlk, hK, hA, hSt, hNs⟩ := C
  intro H locs ls hR hP hD hS hz hv
  obtain ⟨f1, f2, f3, f4, f5⟩ := zai_s hf
  have hc2 : ((c.toNat : Nat) : Int) = c := Int.toNat_of_nonneg f1
  have hi2 : ((i.toNat : Nat) : Int) = i := Int.toNat_of_nonneg h0.1
  have he := zw_get (ad := ad) (cA := cA) (σ := μ.2.2.2.2.2.1) (M := M) f2
  have hvi : vp_in (Int32.ofInt i) len := z_in h0.1 h0.2 f5
  have hcl : (Int32.ofInt i).toNatClampNeg = i.toNat := z_cl h0.1 (by omega)
  rw [zent_i f3 (by omega)] at he
  have hfun : upd (fun j : Nat => Int32.ofInt (M (c.toNat : Nat) j)) i.toNat (Int32.ofInt x) = fun j : Nat => Int32.ofInt (zset M c i x (c.toNat : Nat) j) := by
    funext j
    by_cases e : j = i.toNat
    · subst e
      rw [hc2, hi2, zset_s]
      simp [upd, vp_updL]
    · rw [zset_n M (Or.inr (by omega))]
      simp [upd, vp_updL, e]
  have hset : (zw ad cA μ.2.2.2.2.2.1 κ.1 M).set c.toNat (ad c.toNat, .inl (cA 0, μ.2.2.2.2.2.1.2.1 c.toNat, .inl (upd (fun j : Nat => Int32.ofInt (M (c.toNat : Nat) j)) i.toNat (Int32.ofInt x)))) = zw ad cA μ.2.2.2.2.2.1 κ.1 (zset M c i x) :=
    zw_same (n := κ.1) f2 (M' := zset M c i x) (by rw [zent_i f3 (by omega), ← hfun]) (fun c' i' q => zset_n M (Or.inl (by omega)))
  refine va_bast hx hb hK hP hD hS c.toNat 0 he (by rfl) (by rw [f4]; exact hvi) hd ?_
  intro H1 locs1 hP hD hS
  rw [hcl, vp_nar_byte, z_i2b, hb8] at hP hD
  exact kk _ rfl H1 locs1 ls (hR.set hzin c i) (hset ▸ hP) (hset ▸ hD) hS (fun g => absurd hmc g) hv
theorem zr_zast {Γ : zG} {μ : zMc} (C : zC Γ μ) {κ : Nat × Nat × Nat} {pc : Nat} {L : List (Nat × Value)} {st : List Value} {M : zM} {c i x : Int} {len : Nat} (hf : zai μ.2.2.2.2.2.1 κ.1 c 16 len = true) (h0 : 0 ≤ i ∧ i < len) (hzin : zin x) (h01 : x = 0 ∨ x = 1) (hmc : μ.2.2.2.2.2.2.2.1 = 0) (hd : decode μ.1 pc = .ok (.bastore, 1)) (kk : ∀ M1, M1 = zset M c i x → zV Γ μ κ (pc + 1) L st M1) : zV Γ μ κ pc L (zI x :: zI i :: zRf (zad Γ) c :: st) M := by
  obtain ⟨p, l, e, s, m, args, below, meth, cd, D, cA, ad, A, t1, t2, P⟩ := Γ
  obtain ⟨⟨hx, hb, hml, hown, hts⟩, hr, hlk, hK, hA, hSt, hNs⟩ := C
  intro H locs ls hR hP hD hS hz hv
  obtain ⟨f1, f2, f3, f4, f5⟩ := zai_s hf
  have hc2 : ((c.toNat : Nat) : Int) = c := Int.toNat_of_nonneg f1
  have hi2 : ((i.toNat : Nat) : Int) = i := Int.toNat_of_nonneg h0.1
  have he := zw_get (ad := ad) (cA := cA) (σ := μ.2.2.2.2.2.1) (M := M) f2
  have hvi : vp_in (Int32.ofInt i) len := z_in h0.1 h0.2 f5
  have hcl : (Int32.ofInt i).toNatClampNeg = i.toNat := z_cl h0.1 (by omega)
  rw [zent_i f3 (by omega)] at he
  have hfun : upd (fun j : Nat => Int32.ofInt (M (c.toNat : Nat) j)) i.toNat (Int32.ofInt x) = fun j : Nat => Int32.ofInt (zset M c i x (c.toNat : Nat) j) := by
    funext j
    by_cases e : j = i.toNat
    · subst e
      rw [hc2, hi2, zset_s]
      simp [upd, vp_updL]
    · rw [zset_n M (Or.inr (by omega))]
      simp [upd, vp_updL, e]
  have hset : (zw ad cA μ.2.2.2.2.2.1 κ.1 M).set c.toNat (ad c.toNat, .inl (cA 3, μ.2.2.2.2.2.1.2.1 c.toNat, .inl (upd (fun j : Nat => Int32.ofInt (M (c.toNat : Nat) j)) i.toNat (Int32.ofInt x)))) = zw ad cA μ.2.2.2.2.2.1 κ.1 (zset M c i x) :=
    zw_same (n := κ.1) f2 (M' := zset M c i x) (by rw [zent_i f3 (by omega), ← hfun]) (fun c' i' q => zset_n M (Or.inl (by omega)))
  refine va_zast hx hb hK hP hD hS c.toNat 3 he (by rfl) (by rw [f4]; exact hvi) hd ?_
  intro H1 locs1 hP hD hS
  rw [hcl, (show vp_nar .boolean (Int32.ofInt x) = Int32.ofInt x by rcases h01 with rfl | rfl <;> decide)] at hP hD
  exact kk _ rfl H1 locs1 ls (hR.set hzin c i) (hset ▸ hP) (hset ▸ hD) hS (fun g => absurd hmc g) hv
theorem zr_last {Γ : zG} {μ : zMc} (C : zC Γ μ) {κ : Nat × Nat × Nat} {pc : Nat} {L : List (Nat × Value)} {st : List Value} {M : zM} {c i x : Int} {len : Nat} (hf : zai μ.2.2.2.2.2.1 κ.1 c 15 len = true) (h0 : 0 ≤ i ∧ i < len) (hzin : zin x) (hmc : μ.2.2.2.2.2.2.2.1 = 0) (hd : decode μ.1 pc = .ok (.lastore, 1)) (kk : ∀ M1, M1 = zset M c i x → zV Γ μ κ (pc + 1) L st M1) : zV Γ μ κ pc L (zJ x :: zI i :: zRf (zad Γ) c :: st) M := by
  obtain ⟨p, l, e, s, m, args, below, meth, cd, D, cA, ad, A, t1, t2, P⟩ := Γ
  obtain ⟨⟨hx, hb, hml, hown, hts⟩, hr, hlk, hK, hA, hSt, hNs⟩ := C
  intro H locs ls hR hP hD hS hz hv
  obtain ⟨f1, f2, f3, f4, f5⟩ := zai_s hf
  have hc2 : ((c.toNat : Nat) : Int) = c := Int.toNat_of_nonneg f1
  have hi2 : ((i.toNat : Nat) : Int) = i := Int.toNat_of_nonneg h0.1
  have he := zw_get (ad := ad) (cA := cA) (σ := μ.2.2.2.2.2.1) (M := M) f2
  have hvi : vp_in (Int32.ofInt i) len := z_in h0.1 h0.2 f5
  have hcl : (Int32.ofInt i).toNatClampNeg = i.toNat := z_cl h0.1 (by omega)
  rw [zent_j f3] at he
  have hfun : vp_updL (fun j : Nat => Int64.ofInt (M (c.toNat : Nat) j)) i.toNat (Int64.ofInt x) = fun j : Nat => Int64.ofInt (zset M c i x (c.toNat : Nat) j) := by
    funext j
    by_cases e : j = i.toNat
    · subst e
      rw [hc2, hi2, zset_s]
      simp [upd, vp_updL]
    · rw [zset_n M (Or.inr (by omega))]
      simp [upd, vp_updL, e]
  have hset : (zw ad cA μ.2.2.2.2.2.1 κ.1 M).set c.toNat (ad c.toNat, .inl (cA 2, μ.2.2.2.2.2.1.2.1 c.toNat, .inr (.inl (vp_updL (fun j : Nat => Int64.ofInt (M (c.toNat : Nat) j)) i.toNat (Int64.ofInt x))))) = zw ad cA μ.2.2.2.2.2.1 κ.1 (zset M c i x) :=
    zw_same (n := κ.1) f2 (M' := zset M c i x) (by rw [zent_j f3, ← hfun]) (fun c' i' q => zset_n M (Or.inl (by omega)))
  refine va_last hx hb hK hP hD hS c.toNat 2 he (by rfl) (by rw [f4]; exact hvi) hd ?_
  intro H1 locs1 hP hD hS
  rw [hcl] at hP hD
  exact kk _ rfl H1 locs1 ls (hR.set hzin c i) (hset ▸ hP) (hset ▸ hD) hS (fun g => absurd hmc g) hv
def zSK (own : String) (idx : Nat) (nm : String) : Prop := Cond.fieldLink own idx "DotLines" nm "[I" ∈ zTG ∨ ∃ host, Cond.fieldLinkNest own idx "DotLines" nm "[I" host ∈ zNL
theorem zr_gets1 {Γ : zG} {μ : zMc} (C : zC Γ μ) {κ : Nat × Nat × Nat} {pc : Nat} {L : List (Nat × Value)} {st : List Value} {M : zM} {idx : Nat} (hk : zSK μ.2.1 idx "ACROSS") (hd : decode μ.1 pc = .ok (.getstatic idx, 3)) (kk : zV Γ μ κ (pc + 3) L (.ref (zt1 Γ) :: st) M) : zV Γ μ κ pc L st M := by
  obtain ⟨p, l, e, s, m, args, below, meth, cd, D, cA, ad, A, t1, t2, P⟩ := Γ
  obtain ⟨⟨hx, hb, hml, hown, hts⟩, hr, hlk, hK, hA, hSt, hNs⟩ := C
  intro H locs ls hR hP hD hS hz hv
  rcases hk with q | ⟨host, q⟩
  · exact va_gets hx hb hSt.1 hS hown (hts _ q) (fun _ h9 => h9) hd (kk H locs ls hR hP hD hS hz hv)
  · exact va_getsN hx hb hSt.1 hS hown ((hNs.1 _ q).use rfl) (fun _ h9 => h9) hd (kk H locs ls hR hP hD hS hz hv)
theorem zr_sald1 {Γ : zG} {μ : zMc} (C : zC Γ μ) {κ : Nat × Nat × Nat} {pc : Nat} {L : List (Nat × Value)} {st : List Value} {M : zM} {i : Int} (h0 : 0 ≤ i ∧ i < 8) (hd : decode μ.1 pc = .ok (.iaload, 1)) (kk : zV Γ μ κ (pc + 1) L (zI (zac i.toNat) :: st) M) : zV Γ μ κ pc L (zI i :: .ref (zt1 Γ) :: st) M := by
  obtain ⟨p, l, e, s, m, args, below, meth, cd, D, cA, ad, A, t1, t2, P⟩ := Γ
  obtain ⟨⟨hx, hb, hml, hown, hts⟩, hr, hlk, hK, hA, hSt, hNs⟩ := C
  intro H locs ls hR hP hD hS hz hv
  refine va_ti hx hb hSt.2.1 hS (z_in h0.1 h0.2 (by omega)) ?_ hd (kk H locs ls hR hP hD hS hz hv)
  show zI (zac _) = _
  rw [z_cl h0.1 (by omega)]
theorem zr_gets2 {Γ : zG} {μ : zMc} (C : zC Γ μ) {κ : Nat × Nat × Nat} {pc : Nat} {L : List (Nat × Value)} {st : List Value} {M : zM} {idx : Nat} (hk : zSK μ.2.1 idx "DOWN") (hd : decode μ.1 pc = .ok (.getstatic idx, 3)) (kk : zV Γ μ κ (pc + 3) L (.ref (zt2 Γ) :: st) M) : zV Γ μ κ pc L st M := by
  obtain ⟨p, l, e, s, m, args, below, meth, cd, D, cA, ad, A, t1, t2, P⟩ := Γ
  obtain ⟨⟨hx, hb, hml, hown, hts⟩, hr, hlk, hK, hA, hSt, hNs⟩ := C
  intro H locs ls hR hP hD hS hz hv
  rcases hk with q | ⟨host, q⟩
  · exact va_gets hx hb hSt.2.2.1 hS hown (hts _ q) (fun _ h9 => h9) hd (kk H locs ls hR hP hD hS hz hv)
  · exact va_getsN hx hb hSt.2.2.1 hS hown ((hNs.1 _ q).use rfl) (fun _ h9 => h9) hd (kk H locs ls hR hP hD hS hz hv)
theorem zr_sald2 {Γ : zG} {μ : zMc} (C : zC Γ μ) {κ : Nat × Nat × Nat} {pc : Nat} {L : List (Nat × Value)} {st : List Value} {M : zM} {i : Int} (h0 : 0 ≤ i ∧ i < 8) (hd : decode μ.1 pc = .ok (.iaload, 1)) (kk : zV Γ μ κ (pc + 1) L (zI (zdn i.toNat) :: st) M) : zV Γ μ κ pc L (zI i :: .ref (zt2 Γ) :: st) M := by
  obtain ⟨p, l, e, s, m, args, below, meth, cd, D, cA, ad, A, t1, t2, P⟩ := Γ
  obtain ⟨⟨hx, hb, hml, hown, hts⟩, hr, hlk, hK, hA, hSt, hNs⟩ := C
  intro H locs ls hR hP hD hS hz hv
  refine va_ti hx hb hSt.2.2.2 hS (z_in h0.1 h0.2 (by omega)) ?_ hd (kk H locs ls hR hP hD hS hz hv)
  show zI (zdn _) = _
  rw [z_cl h0.1 (by omega)]
/-- n elements of c0 from sp on come to c1 from dp on -/
def zcpy (M : zM) (c0 sp c1 dp n : Int) : zM := fun c' i => if c' = c1 ∧ dp ≤ i ∧ i < dp + n then M c0 (sp + (i - dp)) else M c' i
theorem zcpy_n (M : zM) {c0 sp c1 dp n c' i : Int} (h : c' ≠ c1 ∨ i < dp ∨ dp + n ≤ i) : zcpy M c0 sp c1 dp n c' i = M c' i := by
  unfold zcpy
  rw [if_neg]
  omega
theorem zcpy_s (M : zM) {c0 sp c1 dp n i : Int} (h : dp ≤ i ∧ i < dp + n) : zcpy M c0 sp c1 dp n c1 i = M c0 (sp + (i - dp)) := by
  unfold zcpy
  rw [if_pos ⟨rfl, h⟩]
theorem zRng.cpy {M : zM} (h : zRng M) (c0 sp c1 dp n : Int) : zRng (zcpy M c0 sp c1 dp n) := by
  intro c' i
  unfold zcpy
  split
  · exact h _ _
  · exact h _ _
theorem zr_copy {Γ : zG} {μ : zMc} (C : zC Γ μ) {κ : Nat × Nat × Nat} {pc : Nat} {L : List (Nat × Value)} {M : zM} {c0 c1 sp dp n : Int} {len0 len1 k idx : Nat} (hk3 : k = 13 ∨ k = 14) (hf0 : zai μ.2.2.2.2.2.1 κ.1 c0 k len0 = true) (hf1 : zai μ.2.2.2.2.2.1 κ.1 c1 k len1 = true) (h0 : 0 ≤ sp ∧ 0 ≤ dp ∧ 0 ≤ n ∧ sp + n ≤ len0 ∧ dp + n ≤ len1) (hfit : k = 13 → ∀ j, sp ≤ j → j < sp + n → -128 ≤ M c0 j ∧ M c0 j ≤ 127) (hmc : μ.2.2.2.2.2.2.2.1 = 0) (hdd : 1 ≤ μ.2.2.2.2.1) (hlink : Cond.methodLink μ.2.1 idx arraycopyName ∈ zTG) (hnat : Cond.native arraycopyName ∈ zTG) (hstat : Cond.static arraycopyName ∈ zTG) (hini : Cond.initialized "java/lang/System" ∈ zTG) (hd : decode μ.1 pc = .ok (.invokestatic idx, 3)) (kk : ∀ M1, M1 = zcpy M c0 sp c1 dp n → zV Γ μ κ (pc + 3) L [] M1) : zV Γ μ κ pc L [zI n, zI dp, zRf (zad Γ) c1, zI sp, zRf (zad Γ) c0] M := by
  obtain ⟨p, l, e, s, m, args, below, meth, cd, D, cA, ad, A, t1, t2, P⟩ := Γ
  obtain ⟨⟨hx, hb, hml, hown, hts⟩, hr, hlk, hK, hA, hSt, hNs⟩ := C
  intro H locs ls hR hP hD hS hz hv
  obtain ⟨f1, f2, f3, f4, f5⟩ := zai_s hf0
  obtain ⟨g1, g2, g3, g4, g5⟩ := zai_s hf1
  have hc0 : ((c0.toNat : Nat) : Int) = c0 := Int.toNat_of_nonneg f1
  have hc1 : ((c1.toNat : Nat) : Int) = c1 := Int.toNat_of_nonneg g1
  have he0 := zw_get (ad := ad) (cA := cA) (σ := μ.2.2.2.2.2.1) (M := M) f2
  have he1 := zw_get (ad := ad) (cA := cA) (σ := μ.2.2.2.2.2.1) (M := M) g2
  rw [zent_i f3 (by omega)] at he0
  rw [zent_i g3 (by omega)] at he1
  have e1 : (Int32.ofInt sp).toNatClampNeg = sp.toNat := z_cl h0.1 (by omega)
  have e2 : (Int32.ofInt dp).toNatClampNeg = dp.toNat := z_cl h0.2.1 (by omega)
  have e3 : (Int32.ofInt n).toNatClampNeg = n.toNat := z_cl h0.2.2.1 (by omega)
  have nn : ∀ v : Int, 0 ≤ v → v < 2147483648 → ¬ Int32.ofInt v < 0 := fun v a b q => by
    have := (z_lt (a := v) (b := 0) ⟨by omega, by omega⟩ (by decide)).mp q
    omega
  have hty : ∃ ty, (ztys cA)[k - 13]? = some (cA (k - 13), ty) ∧ refKind ty = false ∧ ∀ i, i < n.toNat → fits ty (.int (Int32.ofInt (M (c0.toNat : Nat) ((sp.toNat + i : Nat) : Int)))) = true := by
    rcases hk3 with rfl | rfl
    · refine ⟨.byte, rfl, rfl, fun i hi => ?_⟩
      have hb := hfit rfl ((sp.toNat + i : Nat) : Int) (by omega) (by omega)
      rw [hc0]
      have : Int.bmod (M c0 ((sp.toNat + i : Nat) : Int)) 256 = M c0 ((sp.toNat + i : Nat) : Int) := Int.bmod_eq_of_le (by omega) (by omega)
      rw [← this, ← z_i2b]
      exact pk_fb _
    · exact ⟨.int, rfl, rfl, fun i hi => rfl⟩
  obtain ⟨ty, ht1, ht2, ht3⟩ := hty
  have hfun : va_cpy (fun j : Nat => Int32.ofInt (M (c0.toNat : Nat) j)) (fun j : Nat => Int32.ofInt (M (c1.toNat : Nat) j)) sp.toNat dp.toNat n.toNat = fun j : Nat => Int32.ofInt (zcpy M c0 sp c1 dp n (c1.toNat : Nat) j) := by
    funext j
    unfold va_cpy
    by_cases e : dp.toNat ≤ j ∧ j < dp.toNat + n.toNat
    · rw [if_pos e, hc1, zcpy_s M (by omega), hc0]
      show Int32.ofInt (M c0 ((sp.toNat + (j - dp.toNat) : Nat) : Int)) = _
      rw [show ((sp.toNat + (j - dp.toNat) : Nat) : Int) = sp + ((j : Int) - dp) by omega]
    · rw [if_neg e, zcpy_n M (by omega)]
  have hset : (zw ad cA μ.2.2.2.2.2.1 κ.1 M).set c1.toNat (ad c1.toNat, .inl (cA (k - 13), μ.2.2.2.2.2.1.2.1 c1.toNat, .inl (va_cpy (fun j : Nat => Int32.ofInt (M (c0.toNat : Nat) j)) (fun j : Nat => Int32.ofInt (M (c1.toNat : Nat) j)) sp.toNat dp.toNat n.toNat))) = zw ad cA μ.2.2.2.2.2.1 κ.1 (zcpy M c0 sp c1 dp n) :=
    zw_same (n := κ.1) g2 (M' := zcpy M c0 sp c1 dp n) (by rw [zent_i g3 (by omega), ← hfun]) (fun c' i' q => zcpy_n M (Or.inl (by omega)))
  refine va_copyi hx hb (hml.trans hv.1.symm) hown (hts _ hlink) (hts _ hnat) (hts _ hstat) (hts _ hini) hK hP hD hS c0.toNat c1.toNat (k - 13) (k - 13) he0 he1 ht1 ht1 ht2 (nn _ h0.1 (by omega)) (nn _ h0.2.1 (by omega)) (nn _ h0.2.2.1 (by omega)) (by rw [e1, e3, f4]; omega) (by rw [e2, e3, g4]; omega) (by rw [e1, e3]; exact ht3) hdd (by
    have : nativeFrameWords "java/lang/System" "arraycopy" 5 = nativeFrameWords "java/lang/System" "arraycopy" 5 := rfl
    show 0 + _ ≤ 60 * _
    have h2 : nativeFrameWords "java/lang/System" "arraycopy" 5 + 11 ≤ 60 := by decide
    omega) hd ?_
  intro H1 locs1 hP hD hS
  rw [e1, e2, e3] at hP hD
  exact kk _ rfl H1 locs1 ls (hR.cpy _ _ _ _ _) (hset ▸ hP) (hset ▸ hD) hS (fun g => absurd hmc g) hv
theorem zr_mmax {Γ : zG} {μ : zMc} (C : zC Γ μ) {κ : Nat × Nat × Nat} {pc : Nat} {L : List (Nat × Value)} {st : List Value} {M : zM} {x y : Int} {idx : Nat} (h1 : zin x) (h2 : zin y) (hlink : Cond.methodLink μ.2.1 idx Lib.Math.max.name ∈ zTG) (hstat : Cond.static Lib.Math.max.name ∈ zTG) (hini : Cond.initialized "java/lang/Math" ∈ zTG) (hcode : Cond.code Lib.Math.max.name Lib.Math.max.code 2 (some .int) ∈ zTG) (hdd : 1 ≤ μ.2.2.2.2.1) (hcs : κ.2.1 = 0 ∧ κ.2.2 = 0) (hrest : (st.map fun v => v.category).sum ≤ 8) (hd : decode μ.1 pc = .ok (.invokestatic idx, 3)) (kk : zin (max x y) → zV Γ μ κ (pc + 3) L (zI (max x y) :: st) M) : zV Γ μ κ pc L (zI y :: zI x :: st) M := by
  obtain ⟨p, l, e, s, m, args, below, meth, cd, D, cA, ad, A, t1, t2, P⟩ := Γ
  obtain ⟨⟨hx, hb, hml, hown, hts⟩, hr, hlk, hK, hA, hSt, hNs⟩ := C
  intro H locs ls hR hP hD hS hz hv
  have hzz : zin (max x y) ∨ True := Or.inr trivial
  refine va_mmax hx hb (hml.trans hv.1.symm) hown (hts _ hlink) (hts _ hstat) (hts _ hini) (hts _ hcode) hdd (by
    show _ + 13 ≤ 60 * _
    omega) (by rw [hcs.1]; exact Nat.zero_le _) (by rw [hcs.2]; exact Nat.zero_le _) hd ?_
  have e : (if Int32.ofInt x < Int32.ofInt y then Int32.ofInt y else Int32.ofInt x) = Int32.ofInt (max x y) := by
    simp only [z_lt h1 h2]
    split
    · congr 1; omega
    · congr 1; omega
  rw [e]
  exact kk (by omega) H locs ls hR hP hD hS hz hv
theorem zr_mmin {Γ : zG} {μ : zMc} (C : zC Γ μ) {κ : Nat × Nat × Nat} {pc : Nat} {L : List (Nat × Value)} {st : List Value} {M : zM} {x y : Int} {idx : Nat} (h1 : zin x) (h2 : zin y) (hlink : Cond.methodLink μ.2.1 idx Lib.Math.min.name ∈ zTG) (hstat : Cond.static Lib.Math.min.name ∈ zTG) (hini : Cond.initialized "java/lang/Math" ∈ zTG) (hcode : Cond.code Lib.Math.min.name Lib.Math.min.code 2 (some .int) ∈ zTG) (hdd : 1 ≤ μ.2.2.2.2.1) (hcs : κ.2.1 = 0 ∧ κ.2.2 = 0) (hrest : (st.map fun v => v.category).sum ≤ 8) (hd : decode μ.1 pc = .ok (.invokestatic idx, 3)) (kk : zin (min x y) → zV Γ μ κ (pc + 3) L (zI (min x y) :: st) M) : zV Γ μ κ pc L (zI y :: zI x :: st) M := by
  obtain ⟨p, l, e, s, m, args, below, meth, cd, D, cA, ad, A, t1, t2, P⟩ := Γ
  obtain ⟨⟨hx, hb, hml, hown, hts⟩, hr, hlk, hK, hA, hSt, hNs⟩ := C
  intro H locs ls hR hP hD hS hz hv
  have hzz : zin (min x y) ∨ True := Or.inr trivial
  refine va_mmin hx hb (hml.trans hv.1.symm) hown (hts _ hlink) (hts _ hstat) (hts _ hini) (hts _ hcode) hdd (by
    show _ + 13 ≤ 60 * _
    omega) (by rw [hcs.1]; exact Nat.zero_le _) (by rw [hcs.2]; exact Nat.zero_le _) hd ?_
  have e : (if Int32.ofInt y < Int32.ofInt x then Int32.ofInt y else Int32.ofInt x) = Int32.ofInt (min x y) := by
    simp only [z_lt h2 h1]
    split
    · congr 1; omega
    · congr 1; omega
  rw [e]
  exact kk (by omega) H locs ls hR hP hD hS hz hv
theorem zr_mabs {Γ : zG} {μ : zMc} (C : zC Γ μ) {κ : Nat × Nat × Nat} {pc : Nat} {L : List (Nat × Value)} {st : List Value} {M : zM} {x : Int} {idx : Nat} (h1 : zin x) (hlink : Cond.methodLink μ.2.1 idx Lib.Math.abs.name ∈ zTG) (hstat : Cond.static Lib.Math.abs.name ∈ zTG) (hini : Cond.initialized "java/lang/Math" ∈ zTG) (hcode : Cond.code Lib.Math.abs.name Lib.Math.abs.code 1 (some .int) ∈ zTG) (hdd : 1 ≤ μ.2.2.2.2.1) (hcs : κ.2.1 = 0 ∧ κ.2.2 = 0) (hrest : (st.map fun v => v.category).sum ≤ 8) (hd : decode μ.1 pc = .ok (.invokestatic idx, 3)) (kk : zV Γ μ κ (pc + 3) L (zI (max x (-x)) :: st) M) : zV Γ μ κ pc L (zI x :: st) M := by
  obtain ⟨p, l, e, s, m, args, below, meth, cd, D, cA, ad, A, t1, t2, P⟩ := Γ
  obtain ⟨⟨hx, hb, hml, hown, hts⟩, hr, hlk, hK, hA, hSt, hNs⟩ := C
  intro H locs ls hR hP hD hS hz hv
  have hzz : zin (max x (-x)) ∨ True := Or.inr trivial
  refine va_mabs hx hb (hml.trans hv.1.symm) hown (hts _ hlink) (hts _ hstat) (hts _ hini) (hts _ hcode) hdd (by
    show _ + 13 ≤ 60 * _
    omega) (by rw [hcs.1]; exact Nat.zero_le _) (by rw [hcs.2]; exact Nat.zero_le _) hd ?_
  have e : (if 0 ≤ Int32.ofInt x then Int32.ofInt x else 0 - Int32.ofInt x) = Int32.ofInt (max x (-x)) := by
    have h0 : (0 ≤ Int32.ofInt x) ↔ 0 ≤ x := z_le (a := 0) (by decide) h1
    simp only [h0]
    split
    · congr 1; omega
    · rw [show (0 : Int32) = Int32.ofInt 0 from rfl, z_sub]
      congr 1; omega
  rw [e]
  exact kk H locs ls hR hP hD hS hz hv
