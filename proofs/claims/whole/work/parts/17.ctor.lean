theorem arrV_ext {c : ClassId} {n : Nat} {f g : Nat → Value} (h : ∀ j, j < n → f j = g j) : arrV c n f = arrV c n g := by
  have e : (fun j : Fin n => f j.val) = fun j => g j.val := funext fun j => h j.val j.isLt
  unfold arrV
  rw [e]
def zNLp : List (String × Nat) := [(RX6, 41), (RX2, 88), (RX2, 91), (RX1, 53), (RX1, 56), (RX9, 59), (RX9, 62)]
theorem zNLp_of {own : String} {idx : Nat} {a b c d : String} (h : Cond.fieldLinkNest own idx a b c d ∈ zNL) : (own, idx) ∈ zNLp := by
  unfold zNL at h
  simp only [List.mem_cons, List.not_mem_nil, or_false, Cond.fieldLinkNest.injEq, reduceCtorEq, false_or] at h
  unfold zNLp
  simp only [List.mem_cons, List.not_mem_nil, or_false, Prod.mk.injEq]
  rcases h with h | h | h | h | h | h | h <;> simp [h.1, h.2.1]
/-! making: cells are born one behind the other -/
theorem zw_push {ad : Nat → Nat} {cA : Nat → ClassId} {σ : zSh} {n : Nat} {M : zM} : zw ad cA σ n M ++ [(ad n, zent ad cA σ M n)] = zw ad cA σ (n + 1) M := by
  simp [zw, List.range_succ]
theorem zK_one {D : va_G} {cA : Nat → ClassId} {s : State} (hK : va_K D vwCl (ztys cA) s) {k : Nat} {ty : FieldType} (ht : (ztys cA)[k]? = some (cA k, ty)) (hp : ∀ C, ty ≠ .object C) {c' : ClassId} (h : s.vm.findClass ("[" ++ ty.toString) = some c') : c' = cA k := by
  have h1 := (hK.2 k _ ht).2
  cases ty with
  | object C => exact absurd rfl (hp C)
  | _ => exact Option.some.inj (h.symm.trans h1)
theorem zr_new {Γ : zG} {μ : zMc} (C : zC Γ μ) (hAd : ∀ j, μ.2.2.2.2.2.2.1 ≤ j → zad Γ j = Γ.2.2.2.1.heap.size + (j - μ.2.2.2.2.2.2.1)) {κ : Nat × Nat × Nat} (hn : κ.1 = μ.2.2.2.2.2.2.1 + κ.2.1) (hmc : μ.2.2.2.2.2.2.2.1 ≠ 0) {pc : Nat} {L : List (Nat × Value)} {st : List Value} {M : zM} {idx ci : Nat} {cn : String} {T : u_T} {N : Nat} (ty : Nat → FieldType) (hty : ∀ k, k < N → parseFieldDescriptor (T k).2.2.1 = some (ty k)) (hci : vwCl[ci]? = some (cn, T, N) ∧ ci < 13) (hN : N = znf ci) (hws : ∀ w ∈ u_ws cn T N, w ∈ zTG) (hlink : Cond.classLink μ.2.1 idx cn ∈ zTG) (hinst : Cond.instantiable cn N ∈ zTG) (hini : Cond.initialized cn ∈ zTG) (hk : μ.2.2.2.2.2.1.1 κ.1 = ci) (hfr : ∀ k : Nat, k < N → (μ.2.2.2.2.2.1.2.2 κ.1 k = 0 ∧ defaultValue (ty k) = .int 0 ∧ M κ.1 k = 0) ∨ (μ.2.2.2.2.2.1.2.2 κ.1 k = 1 ∧ defaultValue (ty k) = .null ∧ M κ.1 k = -1)) (hroom : κ.2.1 + 1 ≤ μ.2.2.2.2.2.2.2.1 ∧ κ.2.2 + N ≤ μ.2.2.2.2.2.2.2.2) (hd : decode μ.1 pc = .ok (.new idx, 3)) (kk : zV Γ μ (κ.1 + 1, κ.2.1 + 1, κ.2.2 + N) (pc + 3) L (zRf (zad Γ) (κ.1 : Nat) :: st) M) : zV Γ μ κ pc L st M := by
  obtain ⟨p, l, e, s, m, args, below, meth, cd, D, cA, ad, A, t1, t2, P⟩ := Γ
  obtain ⟨⟨hx, hb, hml, hown, hts⟩, hr, hlk, hK, hA, hSt, hNs⟩ := C
  intro H locs ls hR hP hD hS hz hv
  have hsz := hz hmc
  have had : ad κ.1 = H.size := by
    have this : ad κ.1 = s.heap.size + (κ.1 - μ.2.2.2.2.2.2.1) := hAd κ.1 (by omega)
    omega
  have hKn := hK.1 ci _ hci.1
  refine W.newcK hx hb hown (hts _ hlink) (hts _ hinst) (hts _ hini) rfl hd hroom.1 hroom.2 hKn.2.1 rfl fun H1 kC hkC e1 z1 o1 => ?_
  have hk9 : ∀ (k : Nat) (x : Nat × va_E), (zw ad cA μ.2.2.2.2.2.1 κ.1 M)[k]? = some x → H1[x.1]? = H[x.1]? := fun k x hx => o1 x.1 ((hP k x hx).lt)
  have hent : zent ad cA μ.2.2.2.2.2.1 M κ.1 = .inr (ci, (List.range (znf ci)).map fun j => zsl ad (μ.2.2.2.2.2.1.2.2 κ.1 j) (M κ.1 j)) := zent_o hk hci.2
  have hfs : ∀ j, j < N → defaultValue (ty j) = vp_V ((List.range (znf ci)).map fun j => zsl ad (μ.2.2.2.2.2.1.2.2 κ.1 j) (M κ.1 j)) j := by
    intro j hj
    have hj2 : j < znf ci := hN ▸ hj
    have e : vp_V ((List.range (znf ci)).map fun j => zsl ad (μ.2.2.2.2.2.1.2.2 κ.1 j) (M κ.1 j)) j = zsl ad (μ.2.2.2.2.2.1.2.2 κ.1 j) (M κ.1 j) := by
      simp [vp_V, hj2]
    rw [e]
    rcases hfr j hj with ⟨a, b, c⟩ | ⟨a, b, c⟩
    · rw [a, b, c]; rfl
    · rw [a, b, c]; rfl
  have hP1 : va_P D vwCl (zw ad cA μ.2.2.2.2.2.1 (κ.1 + 1) M) H1 := by
    rw [← zw_push, had]
    refine (hP.kept hk9).app (fun k x hx => ?_)
    have hz0 : k < 1 := (List.getElem?_eq_some_iff.mp hx).1
    rw [show k = 0 by omega] at hx
    cases hx
    rw [hent]
    exact ⟨_, hci.1, (u_born ty hts hws hKn hkC e1 hty).to hfs⟩
  have hD1 : va_D A (zw ad cA μ.2.2.2.2.2.1 (κ.1 + 1) M) := by
    rw [← zw_push]
    exact hD.push hP had (by rw [had]; exact hA _ hS.1)
  have h := kk H1 locs ls hR hP1 hD1 ⟨Nat.le_trans hS.1 (by omega), fun x h1 h2 => (o1 x (Nat.lt_of_lt_of_le h1 hS.1)).trans (hS.2.1 x h1 h2), hS.2.2⟩ (fun _ => by rw [z1, hsz]; rfl) hv
  have e9 : zRf (zad (p, l, e, s, m, args, below, meth, cd, D, cA, ad, A, t1, t2, P)) ((κ.1 : Nat) : Int) = .ref H.size := by
    show Value.ref (ad ((κ.1 : Nat) : Int).toNat) = _
    rw [Int.toNat_natCast, had]
  rw [e9] at h
  exact h
theorem zr_newI {Γ : zG} {μ : zMc} (C : zC Γ μ) (hAd : ∀ j, μ.2.2.2.2.2.2.1 ≤ j → zad Γ j = Γ.2.2.2.1.heap.size + (j - μ.2.2.2.2.2.2.1)) {κ : Nat × Nat × Nat} (hn : κ.1 = μ.2.2.2.2.2.2.1 + κ.2.1) (hmc : μ.2.2.2.2.2.2.2.1 ≠ 0) {pc : Nat} {L : List (Nat × Value)} {st : List Value} {M : zM} {len : Nat} (harr : Cond.arrayClass .int ∈ zTG) (hk : μ.2.2.2.2.2.1.1 κ.1 = 14) (hl : μ.2.2.2.2.2.1.2.1 κ.1 = len) (hlen : len < 1000000) (hfr : ∀ k : Nat, k < len → M κ.1 k = 0) (hroom : κ.2.1 + 1 ≤ μ.2.2.2.2.2.2.2.1 ∧ κ.2.2 + len ≤ μ.2.2.2.2.2.2.2.2) (hd : decode μ.1 pc = .ok (.newarray .int, 2)) (kk : zV Γ μ (κ.1 + 1, κ.2.1 + 1, κ.2.2 + len) (pc + 2) L (zRf (zad Γ) (κ.1 : Nat) :: st) M) : zV Γ μ κ pc L (zI (len : Nat) :: st) M := by
  obtain ⟨p, l, e, s, m, args, below, meth, cd, D, cA, ad, A, t1, t2, P⟩ := Γ
  obtain ⟨⟨hx, hb, hml, hown, hts⟩, hr, hlk, hK, hA, hSt, hNs⟩ := C
  intro H locs ls hR hP hD hS hz hv
  have hsz := hz hmc
  have had : ad κ.1 = H.size := by
    have this : ad κ.1 = s.heap.size + (κ.1 - μ.2.2.2.2.2.2.1) := hAd κ.1 (by omega)
    omega
  have hn0 : ¬ Int32.ofInt (len : Nat) < 0 := fun q => by
    have := (z_lt (a := (len : Nat)) (b := 0) ⟨by omega, by omega⟩ (by decide)).mp q
    omega
  refine va_newaK hx hb (atype := .int) (hts _ harr) rfl hd rfl hn0 (N := len) (by rw [z_cl (by omega) (by omega)]; omega) (by show len * componentBytes .int ≤ 536870912; simp [componentBytes]; omega) hroom.1 hroom.2 rfl fun H1 c9 e1 z1 o1 hAr hNm => ?_
  have hc9 : c9 = cA 1 := zK_one hK (k := 1) (ty := .int) rfl (fun C q => by cases q) hNm
  subst hc9
  have hk9 : ∀ (k : Nat) (x : Nat × va_E), (zw ad cA μ.2.2.2.2.2.1 κ.1 M)[k]? = some x → H1[x.1]? = H[x.1]? := fun k x hx => o1 x.1 ((hP k x hx).lt)
  have hP1 : va_P D vwCl (zw ad cA μ.2.2.2.2.2.1 (κ.1 + 1) M) H1 := by
    rw [← zw_push, had]
    refine (hP.kept hk9).app (fun k x hx => ?_)
    have hz0 : k < 1 := (List.getElem?_eq_some_iff.mp hx).1
    rw [show k = 0 by omega] at hx
    cases hx
    rw [zent_i hk (by omega), hl]
    show H1[H.size]? = some (vp_cell _ _)
    rw [e1]
    congr 1
    refine (arrV_ext (g := fun j : Nat => Value.int (Int32.ofInt (M (κ.1 : Nat) j))) ?_).trans (vp_cell_i (cA 1) len (fun j : Nat => Int32.ofInt (M (κ.1 : Nat) j))).symm
    intro j hj
    show defaultValue .int = Value.int (Int32.ofInt (M (κ.1 : Nat) j))
    rw [hfr j hj]
    rfl
  have hD1 : va_D A (zw ad cA μ.2.2.2.2.2.1 (κ.1 + 1) M) := by
    rw [← zw_push]
    exact hD.push hP had (by rw [had]; exact hA _ hS.1)
  have h := kk H1 locs ls hR hP1 hD1 ⟨Nat.le_trans hS.1 (by omega), fun x h1 h2 => (o1 x (Nat.lt_of_lt_of_le h1 hS.1)).trans (hS.2.1 x h1 h2), hS.2.2⟩ (fun _ => by rw [z1, hsz]; rfl) hv
  have e9 : zRf (zad (p, l, e, s, m, args, below, meth, cd, D, cA, ad, A, t1, t2, P)) ((κ.1 : Nat) : Int) = .ref H.size := by
    show Value.ref (ad ((κ.1 : Nat) : Int).toNat) = _
    rw [Int.toNat_natCast, had]
  rw [e9] at h
  exact h
theorem zr_newB {Γ : zG} {μ : zMc} (C : zC Γ μ) (hAd : ∀ j, μ.2.2.2.2.2.2.1 ≤ j → zad Γ j = Γ.2.2.2.1.heap.size + (j - μ.2.2.2.2.2.2.1)) {κ : Nat × Nat × Nat} (hn : κ.1 = μ.2.2.2.2.2.2.1 + κ.2.1) (hmc : μ.2.2.2.2.2.2.2.1 ≠ 0) {pc : Nat} {L : List (Nat × Value)} {st : List Value} {M : zM} {len : Nat} (harr : Cond.arrayClass .byte ∈ zTG) (hk : μ.2.2.2.2.2.1.1 κ.1 = 13) (hl : μ.2.2.2.2.2.1.2.1 κ.1 = len) (hlen : len < 1000000) (hfr : ∀ k : Nat, k < len → M κ.1 k = 0) (hroom : κ.2.1 + 1 ≤ μ.2.2.2.2.2.2.2.1 ∧ κ.2.2 + len ≤ μ.2.2.2.2.2.2.2.2) (hd : decode μ.1 pc = .ok (.newarray .byte, 2)) (kk : zV Γ μ (κ.1 + 1, κ.2.1 + 1, κ.2.2 + len) (pc + 2) L (zRf (zad Γ) (κ.1 : Nat) :: st) M) : zV Γ μ κ pc L (zI (len : Nat) :: st) M := by
  obtain ⟨p, l, e, s, m, args, below, meth, cd, D, cA, ad, A, t1, t2, P⟩ := Γ
  obtain ⟨⟨hx, hb, hml, hown, hts⟩, hr, hlk, hK, hA, hSt, hNs⟩ := C
  intro H locs ls hR hP hD hS hz hv
  have hsz := hz hmc
  have had : ad κ.1 = H.size := by
    have this : ad κ.1 = s.heap.size + (κ.1 - μ.2.2.2.2.2.2.1) := hAd κ.1 (by omega)
    omega
  have hn0 : ¬ Int32.ofInt (len : Nat) < 0 := fun q => by
    have := (z_lt (a := (len : Nat)) (b := 0) ⟨by omega, by omega⟩ (by decide)).mp q
    omega
  refine va_newaK hx hb (atype := .byte) (hts _ harr) rfl hd rfl hn0 (N := len) (by rw [z_cl (by omega) (by omega)]; omega) (by show len * componentBytes .byte ≤ 536870912; simp [componentBytes]; omega) hroom.1 hroom.2 rfl fun H1 c9 e1 z1 o1 hAr hNm => ?_
  have hc9 : c9 = cA 0 := zK_one hK (k := 0) (ty := .byte) rfl (fun C q => by cases q) hNm
  subst hc9
  have hk9 : ∀ (k : Nat) (x : Nat × va_E), (zw ad cA μ.2.2.2.2.2.1 κ.1 M)[k]? = some x → H1[x.1]? = H[x.1]? := fun k x hx => o1 x.1 ((hP k x hx).lt)
  have hP1 : va_P D vwCl (zw ad cA μ.2.2.2.2.2.1 (κ.1 + 1) M) H1 := by
    rw [← zw_push, had]
    refine (hP.kept hk9).app (fun k x hx => ?_)
    have hz0 : k < 1 := (List.getElem?_eq_some_iff.mp hx).1
    rw [show k = 0 by omega] at hx
    cases hx
    rw [zent_i hk (by omega), hl]
    show H1[H.size]? = some (vp_cell _ _)
    rw [e1]
    congr 1
    refine (arrV_ext (g := fun j : Nat => Value.int (Int32.ofInt (M (κ.1 : Nat) j))) ?_).trans (vp_cell_i (cA 0) len (fun j : Nat => Int32.ofInt (M (κ.1 : Nat) j))).symm
    intro j hj
    show defaultValue .byte = Value.int (Int32.ofInt (M (κ.1 : Nat) j))
    rw [hfr j hj]
    rfl
  have hD1 : va_D A (zw ad cA μ.2.2.2.2.2.1 (κ.1 + 1) M) := by
    rw [← zw_push]
    exact hD.push hP had (by rw [had]; exact hA _ hS.1)
  have h := kk H1 locs ls hR hP1 hD1 ⟨Nat.le_trans hS.1 (by omega), fun x h1 h2 => (o1 x (Nat.lt_of_lt_of_le h1 hS.1)).trans (hS.2.1 x h1 h2), hS.2.2⟩ (fun _ => by rw [z1, hsz]; rfl) hv
  have e9 : zRf (zad (p, l, e, s, m, args, below, meth, cd, D, cA, ad, A, t1, t2, P)) ((κ.1 : Nat) : Int) = .ref H.size := by
    show Value.ref (ad ((κ.1 : Nat) : Int).toNat) = _
    rw [Int.toNat_natCast, had]
  rw [e9] at h
  exact h
theorem zr_newZ {Γ : zG} {μ : zMc} (C : zC Γ μ) (hAd : ∀ j, μ.2.2.2.2.2.2.1 ≤ j → zad Γ j = Γ.2.2.2.1.heap.size + (j - μ.2.2.2.2.2.2.1)) {κ : Nat × Nat × Nat} (hn : κ.1 = μ.2.2.2.2.2.2.1 + κ.2.1) (hmc : μ.2.2.2.2.2.2.2.1 ≠ 0) {pc : Nat} {L : List (Nat × Value)} {st : List Value} {M : zM} {len : Nat} (harr : Cond.arrayClass .boolean ∈ zTG) (hk : μ.2.2.2.2.2.1.1 κ.1 = 16) (hl : μ.2.2.2.2.2.1.2.1 κ.1 = len) (hlen : len < 1000000) (hfr : ∀ k : Nat, k < len → M κ.1 k = 0) (hroom : κ.2.1 + 1 ≤ μ.2.2.2.2.2.2.2.1 ∧ κ.2.2 + len ≤ μ.2.2.2.2.2.2.2.2) (hd : decode μ.1 pc = .ok (.newarray .boolean, 2)) (kk : zV Γ μ (κ.1 + 1, κ.2.1 + 1, κ.2.2 + len) (pc + 2) L (zRf (zad Γ) (κ.1 : Nat) :: st) M) : zV Γ μ κ pc L (zI (len : Nat) :: st) M := by
  obtain ⟨p, l, e, s, m, args, below, meth, cd, D, cA, ad, A, t1, t2, P⟩ := Γ
  obtain ⟨⟨hx, hb, hml, hown, hts⟩, hr, hlk, hK, hA, hSt, hNs⟩ := C
  intro H locs ls hR hP hD hS hz hv
  have hsz := hz hmc
  have had : ad κ.1 = H.size := by
    have this : ad κ.1 = s.heap.size + (κ.1 - μ.2.2.2.2.2.2.1) := hAd κ.1 (by omega)
    omega
  have hn0 : ¬ Int32.ofInt (len : Nat) < 0 := fun q => by
    have := (z_lt (a := (len : Nat)) (b := 0) ⟨by omega, by omega⟩ (by decide)).mp q
    omega
  refine va_newaK hx hb (atype := .boolean) (hts _ harr) rfl hd rfl hn0 (N := len) (by rw [z_cl (by omega) (by omega)]; omega) (by show len * componentBytes .boolean ≤ 536870912; simp [componentBytes]; omega) hroom.1 hroom.2 rfl fun H1 c9 e1 z1 o1 hAr hNm => ?_
  have hc9 : c9 = cA 3 := zK_one hK (k := 3) (ty := .boolean) rfl (fun C q => by cases q) hNm
  subst hc9
  have hk9 : ∀ (k : Nat) (x : Nat × va_E), (zw ad cA μ.2.2.2.2.2.1 κ.1 M)[k]? = some x → H1[x.1]? = H[x.1]? := fun k x hx => o1 x.1 ((hP k x hx).lt)
  have hP1 : va_P D vwCl (zw ad cA μ.2.2.2.2.2.1 (κ.1 + 1) M) H1 := by
    rw [← zw_push, had]
    refine (hP.kept hk9).app (fun k x hx => ?_)
    have hz0 : k < 1 := (List.getElem?_eq_some_iff.mp hx).1
    rw [show k = 0 by omega] at hx
    cases hx
    rw [zent_i hk (by omega), hl]
    show H1[H.size]? = some (vp_cell _ _)
    rw [e1]
    congr 1
    refine (arrV_ext (g := fun j : Nat => Value.int (Int32.ofInt (M (κ.1 : Nat) j))) ?_).trans (vp_cell_i (cA 3) len (fun j : Nat => Int32.ofInt (M (κ.1 : Nat) j))).symm
    intro j hj
    show defaultValue .boolean = Value.int (Int32.ofInt (M (κ.1 : Nat) j))
    rw [hfr j hj]
    rfl
  have hD1 : va_D A (zw ad cA μ.2.2.2.2.2.1 (κ.1 + 1) M) := by
    rw [← zw_push]
    exact hD.push hP had (by rw [had]; exact hA _ hS.1)
  have h := kk H1 locs ls hR hP1 hD1 ⟨Nat.le_trans hS.1 (by omega), fun x h1 h2 => (o1 x (Nat.lt_of_lt_of_le h1 hS.1)).trans (hS.2.1 x h1 h2), hS.2.2⟩ (fun _ => by rw [z1, hsz]; rfl) hv
  have e9 : zRf (zad (p, l, e, s, m, args, below, meth, cd, D, cA, ad, A, t1, t2, P)) ((κ.1 : Nat) : Int) = .ref H.size := by
    show Value.ref (ad ((κ.1 : Nat) : Int).toNat) = _
    rw [Int.toNat_natCast, had]
  rw [e9] at h
  exact h
theorem zr_newJ {Γ : zG} {μ : zMc} (C : zC Γ μ) (hAd : ∀ j, μ.2.2.2.2.2.2.1 ≤ j → zad Γ j = Γ.2.2.2.1.heap.size + (j - μ.2.2.2.2.2.2.1)) {κ : Nat × Nat × Nat} (hn : κ.1 = μ.2.2.2.2.2.2.1 + κ.2.1) (hmc : μ.2.2.2.2.2.2.2.1 ≠ 0) {pc : Nat} {L : List (Nat × Value)} {st : List Value} {M : zM} {len : Nat} (harr : Cond.arrayClass .long ∈ zTG) (hk : μ.2.2.2.2.2.1.1 κ.1 = 15) (hl : μ.2.2.2.2.2.1.2.1 κ.1 = len) (hlen : len < 1000000) (hfr : ∀ k : Nat, k < len → M κ.1 k = 0) (hroom : κ.2.1 + 1 ≤ μ.2.2.2.2.2.2.2.1 ∧ κ.2.2 + len ≤ μ.2.2.2.2.2.2.2.2) (hd : decode μ.1 pc = .ok (.newarray .long, 2)) (kk : zV Γ μ (κ.1 + 1, κ.2.1 + 1, κ.2.2 + len) (pc + 2) L (zRf (zad Γ) (κ.1 : Nat) :: st) M) : zV Γ μ κ pc L (zI (len : Nat) :: st) M := by
  obtain ⟨p, l, e, s, m, args, below, meth, cd, D, cA, ad, A, t1, t2, P⟩ := Γ
  obtain ⟨⟨hx, hb, hml, hown, hts⟩, hr, hlk, hK, hA, hSt, hNs⟩ := C
  intro H locs ls hR hP hD hS hz hv
  have hsz := hz hmc
  have had : ad κ.1 = H.size := by
    have this : ad κ.1 = s.heap.size + (κ.1 - μ.2.2.2.2.2.2.1) := hAd κ.1 (by omega)
    omega
  have hn0 : ¬ Int32.ofInt (len : Nat) < 0 := fun q => by
    have := (z_lt (a := (len : Nat)) (b := 0) ⟨by omega, by omega⟩ (by decide)).mp q
    omega
  refine va_newaK hx hb (atype := .long) (hts _ harr) rfl hd rfl hn0 (N := len) (by rw [z_cl (by omega) (by omega)]; omega) (by show len * componentBytes .long ≤ 536870912; simp [componentBytes]; omega) hroom.1 hroom.2 rfl fun H1 c9 e1 z1 o1 hAr hNm => ?_
  have hc9 : c9 = cA 2 := zK_one hK (k := 2) (ty := .long) rfl (fun C q => by cases q) hNm
  subst hc9
  have hk9 : ∀ (k : Nat) (x : Nat × va_E), (zw ad cA μ.2.2.2.2.2.1 κ.1 M)[k]? = some x → H1[x.1]? = H[x.1]? := fun k x hx => o1 x.1 ((hP k x hx).lt)
  have hP1 : va_P D vwCl (zw ad cA μ.2.2.2.2.2.1 (κ.1 + 1) M) H1 := by
    rw [← zw_push, had]
    refine (hP.kept hk9).app (fun k x hx => ?_)
    have hz0 : k < 1 := (List.getElem?_eq_some_iff.mp hx).1
    rw [show k = 0 by omega] at hx
    cases hx
    rw [zent_j hk, hl]
    show H1[H.size]? = some (vp_cell _ _)
    rw [e1]
    congr 1
    refine (arrV_ext (g := fun j : Nat => Value.long (Int64.ofInt (M (κ.1 : Nat) j))) ?_).trans (vp_cell_l (cA 2) len (fun j : Nat => Int64.ofInt (M (κ.1 : Nat) j))).symm
    intro j hj
    show defaultValue .long = Value.long (Int64.ofInt (M (κ.1 : Nat) j))
    rw [hfr j hj]
    rfl
  have hD1 : va_D A (zw ad cA μ.2.2.2.2.2.1 (κ.1 + 1) M) := by
    rw [← zw_push]
    exact hD.push hP had (by rw [had]; exact hA _ hS.1)
  have h := kk H1 locs ls hR hP1 hD1 ⟨Nat.le_trans hS.1 (by omega), fun x h1 h2 => (o1 x (Nat.lt_of_lt_of_le h1 hS.1)).trans (hS.2.1 x h1 h2), hS.2.2⟩ (fun _ => by rw [z1, hsz]; rfl) hv
  have e9 : zRf (zad (p, l, e, s, m, args, below, meth, cd, D, cA, ad, A, t1, t2, P)) ((κ.1 : Nat) : Int) = .ref H.size := by
    show Value.ref (ad ((κ.1 : Nat) : Int).toNat) = _
    rw [Int.toNat_natCast, had]
  rw [e9] at h
  exact h
theorem zr_obj {Γ : zG} {μ : zMc} (C : zC Γ μ) {κ : Nat × Nat × Nat} {pc : Nat} {L : List (Nat × Value)} {st : List Value} {M : zM} {idx : Nat} {c : Int} (hlink : Cond.methodLink μ.2.1 idx Lib.objectInit ∈ zTG) (hinst : Cond.instanceMethod Lib.objectInit ∈ zTG) (hcode : Cond.code Lib.objectInit ⟨#[0xb1]⟩ 1 none ∈ zTG) (hdd : 1 ≤ μ.2.2.2.2.1) (hrest : (st.map fun v => v.category).sum ≤ 8) (hd : decode μ.1 pc = .ok (.invokespecial idx, 3)) (kk : zV Γ μ κ (pc + 3) L st M) : zV Γ μ κ pc L (zRf (zad Γ) c :: st) M := by
  obtain ⟨p, l, e, s, m, args, below, meth, cd, D, cA, ad, A, t1, t2, P⟩ := Γ
  obtain ⟨⟨hx, hb, hml, hown, hts⟩, hr, hlk, hK, hA, hSt, hNs⟩ := C
  intro H locs ls hR hP hD hS hz hv
  refine W.objInit hx hb hown (hts _ hlink) (hts _ hinst) (hts _ hcode) rfl (by rw [hml]; exact hv.1) rfl hd hdd (by
    show 0 + _ + 12 ≤ 60 * _
    omega) ?_
  exact W.eq (g2 := F0 m (pc + 3) ls st) rfl (kk H locs ls hR hP hD hS hz hv)
theorem zr_putF {Γ : zG} {μ : zMc} (C : zC Γ μ) {κ : Nat × Nat × Nat} {pc : Nat} {L : List (Nat × Value)} {st : List Value} {M : zM} {idx ci : Nat} {k : Int} {ty : FieldType} {c x : Int} (hini : Γ.2.2.2.2.2.2.2.1.name = "<init>") (hcn : (vwCl[ci]?).map Prod.fst = some μ.2.1) (hln : (μ.2.1, idx) ∉ zNLp) (hk : zFK μ.2.1 idx ci k ty true) (hnf : ∀ a, narrow ty (.ref a) = .ref a ∧ fits ty (.ref a) = true) (hf : zfi μ.2.2.2.2.2.1 κ.1 c ci k 1 = true) (hzin : zin x) (hx0 : 0 ≤ x) (hd : decode μ.1 pc = .ok (.putfield idx, 3)) (kk : ∀ M1, M1 = zset M c k x → zV Γ μ κ (pc + 3) L st M1) : zV Γ μ κ pc L (zRf (zad Γ) x :: zRf (zad Γ) c :: st) M := by
  obtain ⟨p, l, e, s, m, args, below, meth, cd, D, cA, ad, A, t1, t2, P⟩ := Γ
  obtain ⟨⟨hx, hb, hml, hown, hts⟩, hr, hlk, hK, hA, hSt, hNs⟩ := C
  intro H locs ls hR hP hD hS hz hv
  obtain ⟨cn, T, N, ty0, q1, q2, q3, q4, q5, q6, q7, q8, q9, q10, q11⟩ := hk
  obtain ⟨f1, f2, f3, f4, f5⟩ := zfi_s hf
  have hc2 : ((c.toNat : Nat) : Int) = c := Int.toNat_of_nonneg f1
  have hk2 : ((k.toNat : Nat) : Int) = k := Int.toNat_of_nonneg f4
  have he := zw_get (ad := ad) (cA := cA) (σ := μ.2.2.2.2.2.1) (M := M) f2
  rw [zent_o f3 q5] at he
  have hval : zsl ad (μ.2.2.2.2.2.1.2.2 c.toNat k.toNat) (zset M c k x (c.toNat : Nat) (k.toNat : Nat)) = zRf ad x := by
    rw [f5, hc2, hk2, zset_s]
    show zA ad x = zRf ad x
    exact zA_pos (by omega)
  have hfs : ((List.range (znf ci)).map fun j => zsl ad (μ.2.2.2.2.2.1.2.2 c.toNat j) (M (c.toNat : Nat) j)).set k.toNat (zRf ad x) = (List.range (znf ci)).map fun j => zsl ad (μ.2.2.2.2.2.1.2.2 c.toNat j) (zset M c k x (c.toNat : Nat) j) := by
    rw [← hval]
    exact zfset (f := fun j => zsl ad (μ.2.2.2.2.2.1.2.2 c.toNat j) (M (c.toNat : Nat) j)) (g := fun j => zsl ad (μ.2.2.2.2.2.1.2.2 c.toNat j) (zset M c k x (c.toNat : Nat) j)) (q4 ▸ q3) (fun j hj => by
      have : zset M c k x (c.toNat : Nat) j = M (c.toNat : Nat) j := zset_n M (Or.inr (by omega))
      rw [this])
  have hset : (zw ad cA μ.2.2.2.2.2.1 κ.1 M).set c.toNat (ad c.toNat, .inr (ci, ((List.range (znf ci)).map fun j => zsl ad (μ.2.2.2.2.2.1.2.2 c.toNat j) (M (c.toNat : Nat) j)).set k.toNat (zRf ad x))) = zw ad cA μ.2.2.2.2.2.1 κ.1 (zset M c k x) :=
    zw_same (n := κ.1) f2 (M' := zset M c k x) (by rw [zent_o f3 q5, hfs]) (fun c' i q => zset_n M (Or.inl (by omega)))
  have hl : k.toNat < ((List.range (znf ci)).map fun j => zsl ad (μ.2.2.2.2.2.1.2.2 c.toNat j) (M (c.toNat : Nat) j)).length := by
    simp; exact q4 ▸ q3
  have fin := fun (H1 : Heap) (locs1 : List Loc) (hsz : H1.size = H.size) (hP : va_P D vwCl ((zw ad cA μ.2.2.2.2.2.1 κ.1 M).set c.toNat (ad c.toNat, .inr (ci, ((List.range (znf ci)).map fun j => zsl ad (μ.2.2.2.2.2.1.2.2 c.toNat j) (M (c.toNat : Nat) j)).set k.toNat (zRf ad x)))) H1) (hD : va_D A ((zw ad cA μ.2.2.2.2.2.1 κ.1 M).set c.toNat (ad c.toNat, .inr (ci, ((List.range (znf ci)).map fun j => zsl ad (μ.2.2.2.2.2.1.2.2 c.toNat j) (M (c.toNat : Nat) j)).set k.toNat (zRf ad x))))) (hS : va_S A s.heap H1 locs1) => kk _ rfl H1 locs1 ls (hR.set hzin c k) (hset ▸ hP) (hset ▸ hD) hS (fun g => hsz.trans (hz g)) hv
  have hown2 : (T k.toNat).1 = μ.2.1 := q6.trans (Option.some.inj ((congrArg (Option.map Prod.fst) q1).symm.trans hcn))
  rcases q11 with q | ⟨host, q⟩
  · exact zx_putF hx hb hts q2 ty0 q9 q10 hown hK hP hD hS c.toNat he q1 k.toNat q3 (hts _ q) (by rw [q6]; exact fun _ h9 => h9) q8 hini hown2 q7 (hnf _).1 (hnf _).2 hl hd fin
  · exfalso
    exact hln (zNLp_of q)
theorem zr_newR {Γ : zG} {μ : zMc} (C : zC Γ μ) (hAd : ∀ j, μ.2.2.2.2.2.2.1 ≤ j → zad Γ j = Γ.2.2.2.1.heap.size + (j - μ.2.2.2.2.2.2.1)) {κ : Nat × Nat × Nat} (hn : κ.1 = μ.2.2.2.2.2.2.1 + κ.2.1) (hmc : μ.2.2.2.2.2.2.2.1 ≠ 0) {pc : Nat} {L : List (Nat × Value)} {st : List Value} {M : zM} {idx len : Nat} (hlink : Cond.classLink μ.2.1 idx "DotLines$Shelf" ∈ zTG) (hk : μ.2.2.2.2.2.1.1 κ.1 = 17) (hl : μ.2.2.2.2.2.1.2.1 κ.1 = len) (hlen : len < 1000000) (hfr : ∀ k : Nat, k < len → μ.2.2.2.2.2.1.2.2 κ.1 k ≤ 1 ∧ M κ.1 k = -1) (hroom : κ.2.1 + 1 ≤ μ.2.2.2.2.2.2.2.1 ∧ κ.2.2 + len ≤ μ.2.2.2.2.2.2.2.2) (hd : decode μ.1 pc = .ok (.anewarray idx, 3)) (kk : zV Γ μ (κ.1 + 1, κ.2.1 + 1, κ.2.2 + len) (pc + 3) L (zRf (zad Γ) (κ.1 : Nat) :: st) M) : zV Γ μ κ pc L (zI (len : Nat) :: st) M := by
  obtain ⟨p, l, e, s, m, args, below, meth, cd, D, cA, ad, A, t1, t2, P⟩ := Γ
  obtain ⟨⟨hx, hb, hml, hown, hts⟩, hr, hlk, hK, hA, hSt, hNs⟩ := C
  intro H locs ls hR hP hD hS hz hv
  have hsz := hz hmc
  have had : ad κ.1 = H.size := by
    have this : ad κ.1 = s.heap.size + (κ.1 - μ.2.2.2.2.2.2.1) := hAd κ.1 (by omega)
    omega
  have hn0 : ¬ Int32.ofInt (len : Nat) < 0 := fun q => by
    have := (z_lt (a := (len : Nat)) (b := 0) ⟨by omega, by omega⟩ (by decide)).mp q
    omega
  have hcl : (Int32.ofInt (len : Nat)).toNatClampNeg = len := by rw [z_cl (by omega) (by omega)]; omega
  refine W.anew hx hb hown (hts _ hlink) (hNs.2 (.object "DotLines$Shelf") (by simp [zAOs])) rfl hd rfl hn0 (by rw [hcl]; omega) hroom.1 (by rw [hcl]; exact hroom.2) fun c9 kA comp f1 f2 f3 f4 => ?_
  rw [hcl]
  have hc9 : c9 = cA 4 := by
    obtain ⟨-, k2⟩ := hK.2 4 _ rfl
    obtain ⟨kA2, comp2, -, -, -, h4⟩ := k2
    exact Option.some.inj (f1.symm.trans h4)
  subst hc9
  generalize hH1 : H.push ({ cls := cA 4, slots := Array.replicate len .null, vm := .none } : Cell) = H1
  have z1 : H1.size = H.size + 1 := by rw [← hH1, Array.size_push]
  have e1 : H1[H.size]? = some (arrV (cA 4) len (fun _ => .null)) := by rw [← hH1, Array.getElem?_push_size, ← arrV_new]
  have o1 : ∀ q : Nat, q < H.size → H1[q]? = H[q]? := fun q hq => by rw [← hH1, Array.getElem?_push, if_neg (Nat.ne_of_lt hq)]
  have hk9 : ∀ (k : Nat) (x : Nat × va_E), (zw ad cA μ.2.2.2.2.2.1 κ.1 M)[k]? = some x → H1[x.1]? = H[x.1]? := fun k x hx => o1 x.1 ((hP k x hx).lt)
  have hP1 : va_P D vwCl (zw ad cA μ.2.2.2.2.2.1 (κ.1 + 1) M) H1 := by
    rw [← zw_push, had]
    refine (hP.kept hk9).app (fun k x hx => ?_)
    have hz0 : k < 1 := (List.getElem?_eq_some_iff.mp hx).1
    rw [show k = 0 by omega] at hx
    cases hx
    rw [zent_r hk (by omega), hl]
    show H1[H.size]? = some (vp_cell _ _)
    rw [e1]
    congr 1
    refine (arrV_ext (g := fun j : Nat => va_rf (zrf ad (μ.2.2.2.2.2.1.2.2 κ.1 j) (M (κ.1 : Nat) j))) ?_).trans (vp_cell_q (cA 4) len (fun j : Nat => zrf ad (μ.2.2.2.2.2.1.2.2 κ.1 j) (M (κ.1 : Nat) j))).symm
    intro j hj
    obtain ⟨a, b⟩ := hfr j hj
    show Value.null = va_rf (zrf ad (μ.2.2.2.2.2.1.2.2 κ.1 j) (M (κ.1 : Nat) j))
    unfold zrf
    rw [if_pos a, b]
    rfl
  have hD1 : va_D A (zw ad cA μ.2.2.2.2.2.1 (κ.1 + 1) M) := by
    rw [← zw_push]
    exact hD.push hP had (by rw [had]; exact hA _ hS.1)
  have h := kk H1 locs ls hR hP1 hD1 ⟨Nat.le_trans hS.1 (by omega), fun x h1 h2 => (o1 x (Nat.lt_of_lt_of_le h1 hS.1)).trans (hS.2.1 x h1 h2), hS.2.2⟩ (fun _ => by rw [z1, hsz]; rfl) hv
  have e9 : zRf (zad (p, l, e, s, m, args, below, meth, cd, D, cA, ad, A, t1, t2, P)) ((κ.1 : Nat) : Int) = .ref H.size := by
    show Value.ref (ad ((κ.1 : Nat) : Int).toNat) = _
    rw [Int.toNat_natCast, had]
  rw [e9] at h
  exact h
theorem zr_aast {Γ : zG} {μ : zMc} (C : zC Γ μ) {κ : Nat × Nat × Nat} {pc : Nat} {L : List (Nat × Value)} {st : List Value} {M : zM} {c i x : Int} {len : Nat} {T : u_T} {N : Nat} (hvc : vwCl[10]? = some ("DotLines$Shelf", T, N)) (hf : zai μ.2.2.2.2.2.1 κ.1 c 17 len = true) (h0 : 0 ≤ i ∧ i < len) (hcode : ∀ j : Nat, μ.2.2.2.2.2.1.2.2 c.toNat j ≤ 1) (ho : 0 ≤ x ∧ x.toNat < κ.1 ∧ μ.2.2.2.2.2.1.1 x.toNat = 10) (hzin : zin x) (hd : decode μ.1 pc = .ok (.aastore, 1)) (kk : ∀ M1, M1 = zset M c i x → zV Γ μ κ (pc + 1) L st M1) : zV Γ μ κ pc L (zRf (zad Γ) x :: zI i :: zRf (zad Γ) c :: st) M := by
  obtain ⟨p, l, e, s, m, args, below, meth, cd, D, cA, ad, A, t1, t2, P⟩ := Γ
  obtain ⟨⟨hx, hb, hml, hown, hts⟩, hr, hlk, hK, hA, hSt, hNs⟩ := C
  intro H locs ls hR hP hD hS hz hv
  obtain ⟨f1, f2, f3, f4, f5⟩ := zai_s hf
  have hc2 : ((c.toNat : Nat) : Int) = c := Int.toNat_of_nonneg f1
  have hi2 : ((i.toNat : Nat) : Int) = i := Int.toNat_of_nonneg h0.1
  have he := zw_get (ad := ad) (cA := cA) (σ := μ.2.2.2.2.2.1) (M := M) f2
  have hex := zw_get (ad := ad) (cA := cA) (σ := μ.2.2.2.2.2.1) (M := M) ho.2.1
  rw [zent_r f3 (by omega)] at he
  rw [zent_o ho.2.2 (by omega)] at hex
  have hvi : vp_in (Int32.ofInt i) len := z_in h0.1 h0.2 f5
  have hcl : (Int32.ofInt i).toNatClampNeg = i.toNat := z_cl h0.1 (by omega)
  have hlt : (Int32.ofInt i).toNatClampNeg < μ.2.2.2.2.2.1.2.1 c.toNat := by rw [hcl, f4]; omega
  have h00 : ¬ Int32.ofInt i < 0 := fun q => hvi (Or.inl q)
  obtain ⟨r', hr', cellV, g1, g2, g3, -⟩ := hP x.toNat _ hex
  have hcls := (hK.1 10 _ hvc).2
  obtain ⟨kA, comp, k1, k2, k3, -⟩ := (hK.2 4 _ rfl).2
  have hcomp : comp = D.1 10 := Option.some.inj (k3.symm.trans hcls.1)
  subst hcomp
  obtain ⟨kC, hkC, -⟩ := hcls.2
  have hfun : va_up (fun j : Nat => zrf ad (μ.2.2.2.2.2.1.2.2 c.toNat j) (M (c.toNat : Nat) j)) i.toNat (some (ad x.toNat)) = fun j : Nat => zrf ad (μ.2.2.2.2.2.1.2.2 c.toNat j) (zset M c i x (c.toNat : Nat) j) := by
    funext j
    by_cases e : j = i.toNat
    · subst e
      rw [hc2, hi2, zset_s]
      unfold va_up zrf
      rw [if_pos rfl, if_pos (hcode _), if_neg (by omega)]
    · rw [zset_n M (Or.inr (by omega))]
      simp [va_up, e]
  have hset : (zw ad cA μ.2.2.2.2.2.1 κ.1 M).set c.toNat (ad c.toNat, .inl (cA 4, μ.2.2.2.2.2.1.2.1 c.toNat, .inr (.inr (.inr (.inr (va_up (fun j : Nat => zrf ad (μ.2.2.2.2.2.1.2.2 c.toNat j) (M (c.toNat : Nat) j)) i.toNat (some (ad x.toNat)))))))) = zw ad cA μ.2.2.2.2.2.1 κ.1 (zset M c i x) :=
    zw_same (n := κ.1) f2 (M' := zset M c i x) (by rw [zent_r f3 (by omega), ← hfun]) (fun c' i' q => zset_n M (Or.inl (by omega)))
  refine W.aast hx hb (hP c.toNat _ he) (fun q h => by cases h) (fun h => by cases h) k1 k2 rfl hkC ⟨h00, by show _ < (arrV _ _ _).slots.size; rw [arrV_size]; exact hlt⟩ g1 (fun q h => by rw [g3] at h; cases h) (by rw [g2]; cases hr'.symm.trans hvc; exact hkC) (by rw [g2]; cases hr'.symm.trans hvc; exact va_assign hcls) rfl rfl hd fun H1 e z oq => ?_
  refine kk _ rfl H1 _ ls (hR.set hzin c i) (hset ▸ hP.set hD he ?_ oq) (hset ▸ hD.set he) (hS.put z oq (hD.2 c.toNat _ he)) (fun g => z.trans (hz g)) hv
  show H1[ad c.toNat]? = some (vp_cell _ _)
  rw [e]
  congr 1
  show Cell.setSlot (vp_cell (cA 4) (μ.2.2.2.2.2.1.2.1 c.toNat, .inr (.inr (.inr (.inr (fun j : Nat => zrf ad (μ.2.2.2.2.2.1.2.2 c.toNat j) (M (c.toNat : Nat) j))))))) _ _ = _
  rw [vp_cell_q, vp_cell_q, arrV_store, hcl]
  congr 2
  funext q
  by_cases hq : q = i.toNat
  · subst hq
    simp [updV, va_up, va_rf]
  · simp [updV, va_up, hq]
def zgrid (M : zM) (c n : Int) : zM := fun c' i => if c' = c ∧ 0 ≤ i ∧ i < n then c + 1 + i else M c' i
theorem zgrid_n {M : zM} {c n c' i : Int} (h : c' ≠ c) : zgrid M c n c' i = M c' i := by
  unfold zgrid
  rw [if_neg]
  omega
theorem zRng.grid {M : zM} (h : zRng M) {c n : Int} (hc : 0 ≤ c) (hn : c + n < 2000000) : zRng (zgrid M c n) := by
  intro c' i
  unfold zgrid
  split
  · omega
  · exact h _ _
theorem zw_grow {D : va_G} {ad : Nat → Nat} {cA : Nat → ClassId} {σ : zSh} {n t : Nat} {M M1 : zM} {H H1 : Heap} {A : Nat → Prop} (hP : va_P D vwCl (zw ad cA σ n M) H) (hD : va_D A (zw ad cA σ n M)) (ho : ∀ q : Nat, q < H.size → H1[q]? = H[q]?) (had : ∀ j, j < t → ad (n + j) = H.size + j) (hA : ∀ q, H.size ≤ q → A q) (hs : ∀ c, c < n → zent ad cA σ M1 c = zent ad cA σ M c) (hn : ∀ j, j < t → va_at D vwCl (ad (n + j), zent ad cA σ M1 (n + j)) H1) : va_P D vwCl (zw ad cA σ (n + t) M1) H1 ∧ va_D A (zw ad cA σ (n + t) M1) := by
  have key : ∀ (k : Nat) (q : Nat × va_E), (zw ad cA σ (n + t) M1)[k]? = some q → k < n + t ∧ q = (ad k, zent ad cA σ M1 k) := by
    intro k q hk
    have hl : k < n + t := by
      have := (List.getElem?_eq_some_iff.mp hk).1
      simpa [zw] using this
    rw [zw_get hl] at hk
    exact ⟨hl, (Option.some.inj hk).symm⟩
  have old : ∀ k, k < n → ad k < H.size := fun k hk => (hP k _ (zw_get hk)).lt
  have new : ∀ k, n ≤ k → k < n + t → ad k = H.size + (k - n) := fun k h1 h2 => by
    have := had (k - n) (by omega)
    rwa [show n + (k - n) = k by omega] at this
  refine ⟨fun k q hk => ?_, fun i j x y hi hj hxy => ?_, fun k q hk => ?_⟩
  · obtain ⟨hl, rfl⟩ := key k q hk
    by_cases h : k < n
    · rw [hs k h]
      exact (hP k _ (zw_get h)).kept (ho _ (old k h))
    · have := hn (k - n) (by omega)
      rwa [show n + (k - n) = k by omega] at this
  · obtain ⟨hl1, rfl⟩ := key i x hi
    obtain ⟨hl2, rfl⟩ := key j y hj
    dsimp only at hxy
    by_cases h1 : i < n <;> by_cases h2 : j < n
    · exact hD.1 i j _ _ (zw_get h1) (zw_get h2) hxy
    · have := old i h1
      have := new j (by omega) hl2
      omega
    · have := old j h2
      have := new i (by omega) hl1
      omega
    · have := new i (by omega) hl1
      have := new j (by omega) hl2
      omega
  · obtain ⟨hl, rfl⟩ := key k q hk
    by_cases h : k < n
    · exact hD.2 k (ad k, zent ad cA σ M k) (zw_get h)
    · exact hA _ (by
        have := new k (by omega) hl
        dsimp only
        omega)
theorem zr_outer (c : ClassId) (N h0 : Nat) : ∀ i : Nat, Jvm.Free.Multi.outerC c N h0 i = arrV c N (fun j => va_rf (if j < i then some (h0 + 1 + j) else none))
  | 0 => by
    show ({ cls := c, slots := Array.replicate N .null, vm := .none } : Cell) = _
    rw [arrV_new]
    refine congrArg (arrV c N) (funext fun j => ?_)
    simp [va_rf]
  | i + 1 => by
    show (Jvm.Free.Multi.outerC c N h0 i).setSlot i (.ref (h0 + 1 + i)) = _
    rw [zr_outer c N h0 i, arrV_store]
    refine congrArg (arrV c N) (funext fun j => ?_)
    by_cases e : j = i
    · subst e
      simp [updV, va_rf]
    · by_cases h : j < i
      · simp [updV, e, h, Nat.lt_succ_of_lt h]
      · simp [updV, e, h, show ¬ j < i + 1 by omega]
theorem zr_newII {Γ : zG} {μ : zMc} (C : zC Γ μ) (hAd : ∀ j, μ.2.2.2.2.2.2.1 ≤ j → zad Γ j = Γ.2.2.2.1.heap.size + (j - μ.2.2.2.2.2.2.1)) {κ : Nat × Nat × Nat} (hn : κ.1 = μ.2.2.2.2.2.2.1 + κ.2.1) (hmc : μ.2.2.2.2.2.2.2.1 ≠ 0) {pc : Nat} {L : List (Nat × Value)} {st : List Value} {M : zM} {idx nn k0 : Nat} (hlink : Cond.classLink μ.2.1 idx "[[I" ∈ zTG) (harr : Cond.arrayClass .int ∈ zTG) (hk : μ.2.2.2.2.2.1.1 κ.1 = 19) (hl : μ.2.2.2.2.2.1.2.1 κ.1 = nn) (hkr : ∀ j, j < nn → μ.2.2.2.2.2.1.1 (κ.1 + (1 + j)) = 14 ∧ μ.2.2.2.2.2.1.2.1 (κ.1 + (1 + j)) = k0) (hlen : nn < 1000 ∧ k0 < 1000 ∧ κ.1 < 100000) (hfr : ∀ j k : Nat, j < nn → M ((κ.1 + (1 + j) : Nat) : Int) k = 0) (hcode : ∀ j, μ.2.2.2.2.2.1.2.2 κ.1 j ≤ 1) (hroom : κ.2.1 + (1 + nn) ≤ μ.2.2.2.2.2.2.2.1 ∧ κ.2.2 + (nn + nn * k0) ≤ μ.2.2.2.2.2.2.2.2) (hd : decode μ.1 pc = .ok (.multianewarray idx 2, 4)) (kk : ∀ M1, M1 = zgrid M (κ.1 : Nat) (nn : Nat) → zV Γ μ (κ.1 + (1 + nn), κ.2.1 + (1 + nn), κ.2.2 + (nn + nn * k0)) (pc + 4) L (zRf (zad Γ) (κ.1 : Nat) :: st) M1) : zV Γ μ κ pc L (zI (k0 : Nat) :: zI (nn : Nat) :: st) M := by
  obtain ⟨p, l, e, s, m, args, below, meth, cd, D, cA, ad, A, t1, t2, P⟩ := Γ
  obtain ⟨⟨hx, hb, hml, hown, hts⟩, hr, hlk, hK, hA, hSt, hNs⟩ := C
  intro H locs ls hR hP hD hS hz hv
  have hsz := hz hmc
  have had : ad κ.1 = H.size := by
    have this : ad κ.1 = s.heap.size + (κ.1 - μ.2.2.2.2.2.2.1) := hAd κ.1 (by omega)
    omega
  have neg : ∀ q : Nat, q < 1000 → ¬ Int32.ofInt (q : Nat) < 0 := fun q hq z => by
    have := (z_lt (a := (q : Nat)) (b := 0) ⟨by omega, by omega⟩ (by decide)).mp z
    omega
  have cl1 : (Int32.ofInt (nn : Nat)).toNatClampNeg = nn := by rw [z_cl (by omega) (by omega)]; omega
  have cl2 : (Int32.ofInt (k0 : Nat)).toNatClampNeg = k0 := by rw [z_cl (by omega) (by omega)]; omega
  intro T hT Xs
  obtain ⟨vm₁, c9, comp, -, fA, fC, hO, -, X', step⟩ := Xs.multianewarray2F hx hown (hts _ hlink) (hNs.2 (.array .int) (by simp [zAOs])) (hts _ harr) (g := F0 m pc ls (zI (k0 : Nat) :: zI (nn : Nat) :: st)) rfl (by rw [hb]; exact hd) rfl (neg _ hlen.1) (neg _ hlen.2.1) (by rw [cl1]; omega) (by rw [cl2]; show k0 * componentBytes .int ≤ _; simp [componentBytes]; omega) (by rw [cl2]; omega) rfl rfl (by rw [cl1]; exact hroom.1) (by rw [cl1, cl2]; exact hroom.2)
  rw [cl1, cl2] at X' step
  have e6 : c9 = cA 6 := Option.some.inj (fA.symm.trans (hK.2 6 _ rfl).2)
  have e1 : comp = cA 1 := Option.some.inj (fC.symm.trans (hK.2 1 _ rfl).2)
  subst e6
  subst e1
  generalize hF : Jvm.Free.Multi.fill (T.setVm vm₁) (cA 6) (cA 1) nn k0 (defaultValue .int) nn = F at X' step
  have hTh : (T.setVm vm₁).heap = H := hT
  obtain ⟨f1, f2, -, -⟩ := Jvm.Free.Multi.fill_facts (T.setVm vm₁) (cA 6) (cA 1) nn k0 (defaultValue .int) nn
  rw [hF, hTh] at f1 f2
  have hold : ∀ x : Nat, x < H.size → F.heap[x]? = H[x]? := fun x hx => by
    have := Jvm.Free.Multi.fill_old (T.setVm vm₁) (cA 6) (cA 1) nn k0 (defaultValue .int) (a := x) (by rw [hTh]; exact hx) nn
    rw [hF, hTh] at this
    exact this
  have hrow : ∀ j : Nat, j < nn → F.heap[H.size + 1 + j]? = some (Jvm.Free.Multi.innerC (cA 1) k0 (defaultValue .int)) := fun j hj => by
    have := Jvm.Free.Multi.fill_inner (T.setVm vm₁) (cA 6) (cA 1) nn k0 (defaultValue .int) nn j hj
    rw [hF, hTh] at this
    exact this
  have hadj : ∀ j, ad (κ.1 + j) = H.size + j := fun j => by
    have a1 : ad (κ.1 + j) = s.heap.size + (κ.1 + j - μ.2.2.2.2.2.2.1) := hAd (κ.1 + j) (by omega)
    omega
  have hg := zw_grow (M1 := zgrid M (κ.1 : Nat) (nn : Nat)) (t := 1 + nn) (H1 := F.heap) hP hD hold (fun j _ => hadj j) (fun q h => hA q (Nat.le_trans hS.1 h)) (fun c hc => zent_congr fun j => zgrid_n (by omega)) (fun j hj => by
    cases j with
    | zero =>
      rw [Nat.add_zero, zent_r hk (by omega), hl]
      show F.heap[ad κ.1]? = some (vp_cell _ _)
      rw [had, f2, zr_outer]
      congr 1
      refine (arrV_ext (g := fun i : Nat => va_rf (zrf ad (μ.2.2.2.2.2.1.2.2 κ.1 i) (zgrid M (κ.1 : Nat) (nn : Nat) (κ.1 : Nat) i))) ?_).trans (vp_cell_q (cA 6) nn (fun i : Nat => zrf ad (μ.2.2.2.2.2.1.2.2 κ.1 i) (zgrid M (κ.1 : Nat) (nn : Nat) (κ.1 : Nat) i))).symm
      intro i hi
      have e0 : zgrid M (κ.1 : Nat) (nn : Nat) (κ.1 : Nat) (i : Nat) = ((κ.1 + (1 + i) : Nat) : Int) := by
        unfold zgrid
        rw [if_pos ⟨rfl, by omega, by omega⟩]
        omega
      have e2 : zrf ad (μ.2.2.2.2.2.1.2.2 κ.1 i) (zgrid M (κ.1 : Nat) (nn : Nat) (κ.1 : Nat) (i : Nat)) = some (H.size + 1 + i) := by
        unfold zrf
        rw [if_pos (hcode i), e0, if_neg (by omega), Int.toNat_natCast, hadj, Nat.add_assoc]
      show va_rf (if i < nn then some (H.size + 1 + i) else none) = va_rf (zrf ad (μ.2.2.2.2.2.1.2.2 κ.1 i) (zgrid M (κ.1 : Nat) (nn : Nat) (κ.1 : Nat) (i : Nat)))
      rw [e2, if_pos hi]
    | succ j =>
      have hj2 : j < nn := by omega
      obtain ⟨b1, b2⟩ := hkr j hj2
      rw [show κ.1 + (j + 1) = κ.1 + (1 + j) by omega, zent_i b1 (by omega), b2]
      show F.heap[ad (κ.1 + (1 + j))]? = some (vp_cell _ _)
      rw [hadj, show H.size + (1 + j) = H.size + 1 + j by omega, hrow j hj2]
      congr 1
      show ({ cls := cA 1, slots := Array.replicate k0 (defaultValue .int), vm := .none } : Cell) = _
      rw [arrV_new]
      refine (arrV_ext (g := fun i : Nat => Value.int (Int32.ofInt (zgrid M (κ.1 : Nat) (nn : Nat) ((κ.1 + (1 + j) : Nat) : Int) i))) ?_).trans (vp_cell_i (cA 1) k0 (fun i : Nat => Int32.ofInt (zgrid M (κ.1 : Nat) (nn : Nat) ((κ.1 + (1 + j) : Nat) : Int) i))).symm
      intro i hi
      show defaultValue .int = Value.int (Int32.ofInt (zgrid M (κ.1 : Nat) (nn : Nat) ((κ.1 + (1 + j) : Nat) : Int) i))
      rw [zgrid_n (by omega), hfr j i hj2]
      rfl)
  have h := kk _ rfl F.heap locs ls (hR.grid (by omega) (by omega)) hg.1 hg.2 ⟨by rw [f1]; have := hS.1; omega, fun x h1 h2 => (hold x (Nat.lt_of_lt_of_le h1 hS.1)).trans (hS.2.1 x h1 h2), hS.2.2⟩ (fun _ => by rw [f1, hsz]; show _ = s.heap.size + (κ.2.1 + (1 + nn)); omega) hv
  have e9 : zRf (zad (p, l, e, s, m, args, below, meth, cd, D, cA, ad, A, t1, t2, P)) ((κ.1 : Nat) : Int) = .ref H.size := by
    show Value.ref (ad ((κ.1 : Nat) : Int).toNat) = _
    rw [Int.toNat_natCast, had]
  rw [e9] at h
  rw [Nat.add_assoc, Nat.add_assoc] at X'
  obtain ⟨t, a1, b1⟩ := h F rfl X'
  refine ⟨t, step t ?_, b1⟩
  have e : T.heap.size = H.size := by rw [hT]
  rw [e]
  exact a1
theorem zr_newBB {Γ : zG} {μ : zMc} (C : zC Γ μ) (hAd : ∀ j, μ.2.2.2.2.2.2.1 ≤ j → zad Γ j = Γ.2.2.2.1.heap.size + (j - μ.2.2.2.2.2.2.1)) {κ : Nat × Nat × Nat} (hn : κ.1 = μ.2.2.2.2.2.2.1 + κ.2.1) (hmc : μ.2.2.2.2.2.2.2.1 ≠ 0) {pc : Nat} {L : List (Nat × Value)} {st : List Value} {M : zM} {idx nn k0 : Nat} (hlink : Cond.classLink μ.2.1 idx "[[B" ∈ zTG) (harr : Cond.arrayClass .byte ∈ zTG) (hk : μ.2.2.2.2.2.1.1 κ.1 = 18) (hl : μ.2.2.2.2.2.1.2.1 κ.1 = nn) (hkr : ∀ j, j < nn → μ.2.2.2.2.2.1.1 (κ.1 + (1 + j)) = 13 ∧ μ.2.2.2.2.2.1.2.1 (κ.1 + (1 + j)) = k0) (hlen : nn < 1000 ∧ k0 < 1000 ∧ κ.1 < 100000) (hfr : ∀ j k : Nat, j < nn → M ((κ.1 + (1 + j) : Nat) : Int) k = 0) (hcode : ∀ j, μ.2.2.2.2.2.1.2.2 κ.1 j ≤ 1) (hroom : κ.2.1 + (1 + nn) ≤ μ.2.2.2.2.2.2.2.1 ∧ κ.2.2 + (nn + nn * k0) ≤ μ.2.2.2.2.2.2.2.2) (hd : decode μ.1 pc = .ok (.multianewarray idx 2, 4)) (kk : ∀ M1, M1 = zgrid M (κ.1 : Nat) (nn : Nat) → zV Γ μ (κ.1 + (1 + nn), κ.2.1 + (1 + nn), κ.2.2 + (nn + nn * k0)) (pc + 4) L (zRf (zad Γ) (κ.1 : Nat) :: st) M1) : zV Γ μ κ pc L (zI (k0 : Nat) :: zI (nn : Nat) :: st) M := by
  obtain ⟨p, l, e, s, m, args, below, meth, cd, D, cA, ad, A, t1, t2, P⟩ := Γ
  obtain ⟨⟨hx, hb, hml, hown, hts⟩, hr, hlk, hK, hA, hSt, hNs⟩ := C
  intro H locs ls hR hP hD hS hz hv
  have hsz := hz hmc
  have had : ad κ.1 = H.size := by
    have this : ad κ.1 = s.heap.size + (κ.1 - μ.2.2.2.2.2.2.1) := hAd κ.1 (by omega)
    omega
  have neg : ∀ q : Nat, q < 1000 → ¬ Int32.ofInt (q : Nat) < 0 := fun q hq z => by
    have := (z_lt (a := (q : Nat)) (b := 0) ⟨by omega, by omega⟩ (by decide)).mp z
    omega
  have cl1 : (Int32.ofInt (nn : Nat)).toNatClampNeg = nn := by rw [z_cl (by omega) (by omega)]; omega
  have cl2 : (Int32.ofInt (k0 : Nat)).toNatClampNeg = k0 := by rw [z_cl (by omega) (by omega)]; omega
  intro T hT Xs
  obtain ⟨vm₁, c9, comp, -, fA, fC, hO, -, X', step⟩ := Xs.multianewarray2F hx hown (hts _ hlink) (hNs.2 (.array .byte) (by simp [zAOs])) (hts _ harr) (g := F0 m pc ls (zI (k0 : Nat) :: zI (nn : Nat) :: st)) rfl (by rw [hb]; exact hd) rfl (neg _ hlen.1) (neg _ hlen.2.1) (by rw [cl1]; omega) (by rw [cl2]; show k0 * componentBytes .byte ≤ _; simp [componentBytes]; omega) (by rw [cl2]; omega) rfl rfl (by rw [cl1]; exact hroom.1) (by rw [cl1, cl2]; exact hroom.2)
  rw [cl1, cl2] at X' step
  have e6 : c9 = cA 5 := Option.some.inj (fA.symm.trans (hK.2 5 _ rfl).2)
  have e1 : comp = cA 0 := Option.some.inj (fC.symm.trans (hK.2 0 _ rfl).2)
  subst e6
  subst e1
  generalize hF : Jvm.Free.Multi.fill (T.setVm vm₁) (cA 5) (cA 0) nn k0 (defaultValue .byte) nn = F at X' step
  have hTh : (T.setVm vm₁).heap = H := hT
  obtain ⟨f1, f2, -, -⟩ := Jvm.Free.Multi.fill_facts (T.setVm vm₁) (cA 5) (cA 0) nn k0 (defaultValue .byte) nn
  rw [hF, hTh] at f1 f2
  have hold : ∀ x : Nat, x < H.size → F.heap[x]? = H[x]? := fun x hx => by
    have := Jvm.Free.Multi.fill_old (T.setVm vm₁) (cA 5) (cA 0) nn k0 (defaultValue .byte) (a := x) (by rw [hTh]; exact hx) nn
    rw [hF, hTh] at this
    exact this
  have hrow : ∀ j : Nat, j < nn → F.heap[H.size + 1 + j]? = some (Jvm.Free.Multi.innerC (cA 0) k0 (defaultValue .byte)) := fun j hj => by
    have := Jvm.Free.Multi.fill_inner (T.setVm vm₁) (cA 5) (cA 0) nn k0 (defaultValue .byte) nn j hj
    rw [hF, hTh] at this
    exact this
  have hadj : ∀ j, ad (κ.1 + j) = H.size + j := fun j => by
    have a1 : ad (κ.1 + j) = s.heap.size + (κ.1 + j - μ.2.2.2.2.2.2.1) := hAd (κ.1 + j) (by omega)
    omega
  have hg := zw_grow (M1 := zgrid M (κ.1 : Nat) (nn : Nat)) (t := 1 + nn) (H1 := F.heap) hP hD hold (fun j _ => hadj j) (fun q h => hA q (Nat.le_trans hS.1 h)) (fun c hc => zent_congr fun j => zgrid_n (by omega)) (fun j hj => by
    cases j with
    | zero =>
      rw [Nat.add_zero, zent_r hk (by omega), hl]
      show F.heap[ad κ.1]? = some (vp_cell _ _)
      rw [had, f2, zr_outer]
      congr 1
      refine (arrV_ext (g := fun i : Nat => va_rf (zrf ad (μ.2.2.2.2.2.1.2.2 κ.1 i) (zgrid M (κ.1 : Nat) (nn : Nat) (κ.1 : Nat) i))) ?_).trans (vp_cell_q (cA 5) nn (fun i : Nat => zrf ad (μ.2.2.2.2.2.1.2.2 κ.1 i) (zgrid M (κ.1 : Nat) (nn : Nat) (κ.1 : Nat) i))).symm
      intro i hi
      have e0 : zgrid M (κ.1 : Nat) (nn : Nat) (κ.1 : Nat) (i : Nat) = ((κ.1 + (1 + i) : Nat) : Int) := by
        unfold zgrid
        rw [if_pos ⟨rfl, by omega, by omega⟩]
        omega
      have e2 : zrf ad (μ.2.2.2.2.2.1.2.2 κ.1 i) (zgrid M (κ.1 : Nat) (nn : Nat) (κ.1 : Nat) (i : Nat)) = some (H.size + 1 + i) := by
        unfold zrf
        rw [if_pos (hcode i), e0, if_neg (by omega), Int.toNat_natCast, hadj, Nat.add_assoc]
      show va_rf (if i < nn then some (H.size + 1 + i) else none) = va_rf (zrf ad (μ.2.2.2.2.2.1.2.2 κ.1 i) (zgrid M (κ.1 : Nat) (nn : Nat) (κ.1 : Nat) (i : Nat)))
      rw [e2, if_pos hi]
    | succ j =>
      have hj2 : j < nn := by omega
      obtain ⟨b1, b2⟩ := hkr j hj2
      rw [show κ.1 + (j + 1) = κ.1 + (1 + j) by omega, zent_i b1 (by omega), b2]
      show F.heap[ad (κ.1 + (1 + j))]? = some (vp_cell _ _)
      rw [hadj, show H.size + (1 + j) = H.size + 1 + j by omega, hrow j hj2]
      congr 1
      show ({ cls := cA 0, slots := Array.replicate k0 (defaultValue .byte), vm := .none } : Cell) = _
      rw [arrV_new]
      refine (arrV_ext (g := fun i : Nat => Value.int (Int32.ofInt (zgrid M (κ.1 : Nat) (nn : Nat) ((κ.1 + (1 + j) : Nat) : Int) i))) ?_).trans (vp_cell_i (cA 0) k0 (fun i : Nat => Int32.ofInt (zgrid M (κ.1 : Nat) (nn : Nat) ((κ.1 + (1 + j) : Nat) : Int) i))).symm
      intro i hi
      show defaultValue .byte = Value.int (Int32.ofInt (zgrid M (κ.1 : Nat) (nn : Nat) ((κ.1 + (1 + j) : Nat) : Int) i))
      rw [zgrid_n (by omega), hfr j i hj2]
      rfl)
  have h := kk _ rfl F.heap locs ls (hR.grid (by omega) (by omega)) hg.1 hg.2 ⟨by rw [f1]; have := hS.1; omega, fun x h1 h2 => (hold x (Nat.lt_of_lt_of_le h1 hS.1)).trans (hS.2.1 x h1 h2), hS.2.2⟩ (fun _ => by rw [f1, hsz]; show _ = s.heap.size + (κ.2.1 + (1 + nn)); omega) hv
  have e9 : zRf (zad (p, l, e, s, m, args, below, meth, cd, D, cA, ad, A, t1, t2, P)) ((κ.1 : Nat) : Int) = .ref H.size := by
    show Value.ref (ad ((κ.1 : Nat) : Int).toNat) = _
    rw [Int.toNat_natCast, had]
  rw [e9] at h
  rw [Nat.add_assoc, Nat.add_assoc] at X'
  obtain ⟨t, a1, b1⟩ := h F rfl X'
  refine ⟨t, step t ?_, b1⟩
  have e : T.heap.size = H.size := by rw [hT]
  rw [e]
  exact a1
/-- the shape while things are made: each reference by the memory; what lies ahead is blank -/
def zS0 : zSh := (zS.1, zS.2.1, fun c k => if zS.2.2 c k = 0 then 0 else 1)
def zfrs (M : zM) (n : Nat) : Prop := ∀ c k : Nat, n ≤ c → M c k = if zS0.2.2 c k = 1 then -1 else 0
theorem zfrs.set {M : zM} {n : Nat} (h : zfrs M n) {c : Int} (hc : c < n) (i v : Int) : zfrs (zset M c i v) n := by
  intro c' k hk
  rw [zset_n M (Or.inl (by omega))]
  exact h c' k hk
theorem zfrs.grid {M : zM} {n : Nat} (h : zfrs M n) {c : Int} (hc : c < n) (t : Int) : zfrs (zgrid M c t) n := by
  intro c' k hk
  rw [zgrid_n (by omega)]
  exact h c' k hk
theorem zfrs.le {M : zM} {n m : Nat} (h : zfrs M n) (hm : n ≤ m) : zfrs M m := fun c k hk => h c k (Nat.le_trans hm hk)
theorem zfrs.o {M : zM} {n N : Nat} (h : zfrs M n) {ty : Nat → FieldType} (ht : ∀ k, k < N → (zS0.2.2 n k = 0 ∧ defaultValue (ty k) = .int 0) ∨ (zS0.2.2 n k = 1 ∧ defaultValue (ty k) = .null)) : ∀ k : Nat, k < N → (zS0.2.2 n k = 0 ∧ defaultValue (ty k) = .int 0 ∧ M n k = 0) ∨ (zS0.2.2 n k = 1 ∧ defaultValue (ty k) = .null ∧ M n k = -1) := by
  intro k hk
  have := h n k (Nat.le_refl n)
  rcases ht k hk with ⟨a, b⟩ | ⟨a, b⟩
  · exact Or.inl ⟨a, b, by rw [this, a]; rfl⟩
  · exact Or.inr ⟨a, b, by rw [this, a]; rfl⟩
theorem zS0_le (c k : Nat) : zS0.2.2 c k ≤ 1 := by
  show (if zS.2.2 c k = 0 then 0 else 1) ≤ 1
  split <;> omega
theorem zS0_e {c : Nat} (h : zco.getD c [] = []) (k : Nat) : zS0.2.2 c k = 0 := by
  show (if (zco.getD c []).getD k 0 = 0 then 0 else 1) = 0
  rw [h]
  rfl
theorem zfrs.a {M : zM} {n : Nat} (h : zfrs M n) {c : Nat} (hc : n ≤ c) (he : zco.getD c [] = []) (k : Nat) : M c k = 0 := by
  rw [h c k hc, zS0_e he]
  rfl
theorem zr_callI {Γ : zG} {μ : zMc} (C : zC Γ μ) (hAd : ∀ j, μ.2.2.2.2.2.2.1 ≤ j → zad Γ j = Γ.2.2.2.1.heap.size + (j - μ.2.2.2.2.2.2.1)) {κ : Nat × Nat × Nat} (hn : κ.1 = μ.2.2.2.2.2.2.1 + κ.2.1) (hmc : μ.2.2.2.2.2.2.2.1 ≠ 0) {pc : Nat} {L : List (Nat × Value)} {M : zM} {rest st0 : List Value} {y : MethodName} {cc : ByteArray} {nL d idx na mc' ms' : Nat} {ats : List Nat} {F : zPT} (hmono : ∀ (xs : List Int) (P Q : Int → zM → Prop) (M : zM), (∀ r M1, P r M1 → r = 0 → Q r M1) → F xs P M → F xs Q M) (xs : List Int) {x0 : Int} (hS : zSnd μ.2.2.2.2.2.1 κ.1 mc' ms' y cc nL none d (2 :: ats) F) (hk : zCK μ.2.1 idx y cc nL none na) (hk2 : Cond.instanceMethod y ∈ zTG) (hy : y.name = "<init>") (hna : ats.length = na) (hst : st0 = (zargs (zad Γ) ats xs).reverse ++ zRf (zad Γ) x0 :: rest) (hd : decode μ.1 pc = .ok (.invokespecial idx, 3)) (hmc2 : mc' ≠ 0) (hroom : κ.2.1 + mc' ≤ μ.2.2.2.2.2.2.2.1 ∧ κ.2.2 + ms' ≤ μ.2.2.2.2.2.2.2.2) (hdl : d + 1 ≤ μ.2.2.2.2.1 ∧ nL ≤ 41) (hrest : (rest.map fun v => v.category).sum ≤ 8) (hz0 : zall ats xs) (kk : F (x0 :: xs) (fun _ M1 => zRng M1 → zV Γ μ (κ.1 + mc', κ.2.1 + mc', κ.2.2 + ms') (pc + 3) L rest M1) M) : zV Γ μ κ pc L st0 M := by
  obtain ⟨hk, hini, hcode, hdesc⟩ := hk
  subst hst
  intro H locs ls hR hP hD hS0 hz hv
  have hsz := hz hmc
  have hzz : zall (2 :: ats) (x0 :: xs) := ⟨fun q => absurd rfl q, hz0⟩
  have had : ∀ j, κ.1 ≤ j → zad Γ j = H.size + (j - κ.1) := fun j hj => by
    refine (hAd j (by omega)).trans ?_
    rw [hsz, Nat.add_assoc]
    exact congrArg _ (by omega)
  have hM := hS Γ.2.1 Γ.2.2.2.2.2.2.2.2.2.1 Γ.2.2.2.2.2.2.2.2.2.2.1 (zad Γ) (zt1 Γ) (zt2 Γ) (x0 :: xs) (fun r0 M1 => zin r0 → zRng M1 → zV Γ μ (κ.1 + mc', κ.2.1 + mc', κ.2.2 + ms') (pc + 3) L rest M1) M H.size hzz (hmono _ _ _ _ (fun r M1 q _ _ => q) kk)
  have hpre := zx_pre C (κ := κ) (av := zargs (zad Γ) (2 :: ats) (x0 :: xs)) (mc' := mc') hR hP hD hS0 (fun _ => had)
  have hcall := fun hrun => zx_call C (κ := κ) (pc := pc) (L := L) (st0 := (zargs (zad Γ) ats xs).reverse ++ zRf (zad Γ) x0 :: rest) (rest := rest) (ret' := none) (mc' := mc') (ms' := ms') (a := (zargs (zad Γ) (2 :: ats) (x0 :: xs)).toArray) hR hP hD hS0 hz hv (fun _ => hmc2) hrun
  obtain ⟨p, l, e, s, m, args, below, meth, c, D, cA, ad, A, t1, t2, P⟩ := Γ
  obtain ⟨⟨hx, hb, hml, hown, hts⟩, hr, hlk, hK, hA, hSt, hNs⟩ := C
  have hRm : (zRm d mc' ms').frames + 1 ≤ (zRm μ.2.2.2.2.1 μ.2.2.2.2.2.2.2.1 μ.2.2.2.2.2.2.2.2).frames ∧ 8 + (nL + 11) + (zRm d mc' ms').locals ≤ (zRm μ.2.2.2.2.1 μ.2.2.2.2.2.2.2.1 μ.2.2.2.2.2.2.2.2).locals := by
    refine ⟨hdl.1, ?_⟩
    show 8 + (nL + 11) + 60 * d ≤ 60 * _
    have := hdl.1
    omega
  have hlenA : (zargs ad ats xs).length = na := (zargs_len ad ats xs hz0).trans hna
  refine hcall ?_
  rcases hk with hl | ⟨host, hl⟩
  · exact va_runI (As := zargs ad ats xs) (rest := rest) ⟨hx, hb, hml, hown, hts⟩ hM ⟨callB_of na hts (zTG_code hcode) rfl rfl rfl (hts _ hini) (hts _ hl) hdesc hRm, hy, hts _ hk2⟩ ⟨zBlind, hpre⟩ rfl hlenA hv.1 rfl (lv_room hrest) hd hroom
  · exact va_runIN (As := zargs ad ats xs) (rest := rest) ⟨hx, hb, hml, hown, hts⟩ hM ⟨va_cnB na hts (zTG_code hcode) rfl rfl rfl (hNs.1 _ hl) (hts _ hini) hdesc hRm, hy, hts _ hk2⟩ ⟨zBlind, hpre⟩ rfl hlenA hv.1 rfl (lv_room hrest) hd hroom
