theorem arrV_ext {c : ClassId} {n : Nat} {f g : Nat → Value} (h : ∀ j, j < n → f j = g j) : arrV c n f = arrV c n g := by
  have e : (fun j : Fin n => f j.val) = fun j => g j.val := funext fun j => h j.val j.isLt
  unfold arrV
  rw [e]
/-! making: cells are born one behind the other -/
theorem zw_push {ad : Nat → Nat} {cA : Nat → ClassId} {σ : zSh} {n : Nat} {M : zM} : zw ad cA σ n M ++ [(ad n, zent ad cA σ M n)] = zw ad cA σ (n + 1) M := by
  simp [zw, List.range_succ]
theorem zK_one {D : va_G} {cA : Nat → ClassId} {s : State} (hK : va_K D vwCl (ztys cA) s) {k : Nat} {ty : FieldType} (ht : (ztys cA)[k]? = some (cA k, ty)) (hp : ∀ C, ty ≠ .object C) {c' : ClassId} (h : s.vm.findClass ("[" ++ ty.toString) = some c') : c' = cA k := by
  have h1 := (hK.2 k _ ht).2
  cases ty with
  | object C => exact absurd rfl (hp C)
  | _ => exact Option.some.inj (h.symm.trans h1)
theorem zr_new {Γ : zG} {μ : zMc} (C : zC Γ μ) (hAd : ∀ j, μ.2.2.2.2.2.2.1 ≤ j → zad Γ j = Γ.2.2.2.1.heap.size + (j - μ.2.2.2.2.2.2.1)) {κ : Nat × Nat × Nat} (hn : κ.1 = μ.2.2.2.2.2.2.1 + κ.2.1) (hmc : μ.2.2.2.2.2.2.2.1 ≠ 0) {pc : Nat} {L : List (Nat × Value)} {st : List Value} {M : zM} {idx ci : Nat} {cn : String} {T : u_T} {N : Nat} (ty : Nat → FieldType) (hty : ∀ k, k < N → parseFieldDescriptor (T k).2.2.1 = some (ty k)) (hci : vwCl[ci]? = some (cn, T, N) ∧ ci < 13) (hN : N = znf ci) (hws : ∀ w ∈ u_ws cn T N, w ∈ zTG) (hlink : Cond.classLink μ.2.1 idx cn ∈ zTG) (hinst : Cond.instantiable cn N ∈ zTG) (hini : Cond.initialized cn ∈ zTG) (hk : μ.2.2.2.2.2.1.1 κ.1 = ci) (hfr : ∀ k : Nat, k < N → (μ.2.2.2.2.2.1.2.2 κ.1 k = 0 ∧ defaultValue (ty k) = .int 0 ∧ M κ.1 k = 0) ∨ (μ.2.2.2.2.2.1.2.2 κ.1 k = 1 ∧ defaultValue (ty k) = .null ∧ M κ.1 k = -1)) (hroom : κ.2.1 + 1 ≤ μ.2.2.2.2.2.2.2.1 ∧ κ.2.2 + N ≤ μ.2.2.2.2.2.2.2.2) (hd : decode μ.1 pc = .ok (.new idx, 3)) (kk : zV Γ μ (κ.1 + 1, κ.2.1 + 1, κ.2.2 + N) (pc + 3) L (zRf (zad Γ) (κ.1 : Nat) :: st) M) : zV Γ μ κ pc L st M := by
  obtain ⟨p, l, e, s, m, args, below, meth, cd, D, cA, ad, A, t1, t2, P⟩ := Γ
  obtain ⟨⟨hx, hb, hml, hown, hts⟩, hr, hlk, hK, hA, hSt, hNs⟩ := C
  intro H locs ls hR hP hD hS hz hv
  have hsz := hz hmc
  have had : ad κ.1 = H.size := by
    have this : ad κ.1 = s.heap.size + (κ.1 - μ.2.2.2.2.2.2.1) := hAd κ.1 (by omega)
    omega
  have hKn := hK.1 ci _ hci.1
  refine W.newcK hx hb hown (hts _ hlink) (hts _ hinst) (hts _ hini) rfl hd hroom.1 hroom.2 hKn.2.1 rfl fun H1 kC hkC e1 z1 o1 => ?_
  have hk9 : ∀ (k : Nat) (x : Nat × va_E), (zw ad cA μ.2.2.2.2.2.1 κ.1 M)[k]? = some x → H1[x.1]? = H[x.1]? := fun k x hx => o1 x.1 ((hP k x hx).lt)
  have hent : zent ad cA μ.2.2.2.2.2.1 M κ.1 = .inr (ci, (List.range (znf ci)).map fun j => zsl ad (μ.2.2.2.2.2.1.2.2 κ.1 j) (M κ.1 j)) := zent_o hk hci.2
  have hfs : ∀ j, j < N → defaultValue (ty j) = vp_V ((List.range (znf ci)).map fun j => zsl ad (μ.2.2.2.2.2.1.2.2 κ.1 j) (M κ.1 j)) j := by
    intro j hj
    have hj2 : j < znf ci := hN ▸ hj
    have e : vp_V ((List.range (znf ci)).map fun j => zsl ad (μ.2.2.2.2.2.1.2.2 κ.1 j) (M κ.1 j)) j = zsl ad (μ.2.2.2.2.2.1.2.2 κ.1 j) (M κ.1 j) := by
      simp [vp_V, hj2]
    rw [e]
    rcases hfr j hj with ⟨a, b, c⟩ | ⟨a, b, c⟩
    · rw [a, b, c]; rfl
    · rw [a, b, c]; rfl
  have hP1 : va_P D vwCl (zw ad cA μ.2.2.2.2.2.1 (κ.1 + 1) M) H1 := by
    rw [← zw_push, had]
    refine (hP.kept hk9).app (fun k x hx => ?_)
    have hz0 : k < 1 := (List.getElem?_eq_some_iff.mp hx).1
    rw [show k = 0 by omega] at hx
    cases hx
    rw [hent]
    exact ⟨_, hci.1, (u_born ty hts hws hKn hkC e1 hty).to hfs⟩
  have hD1 : va_D A (zw ad cA μ.2.2.2.2.2.1 (κ.1 + 1) M) := by
    rw [← zw_push]
    exact hD.push hP had (by rw [had]; exact hA _ hS.1)
  have h := kk H1 locs ls hR hP1 hD1 ⟨Nat.le_trans hS.1 (by omega), fun x h1 h2 => (o1 x (Nat.lt_of_lt_of_le h1 hS.1)).trans (hS.2.1 x h1 h2), hS.2.2⟩ (fun _ => by rw [z1, hsz]; rfl) hv
  have e9 : zRf (zad (p, l, e, s, m, args, below, meth, cd, D, cA, ad, A, t1, t2, P)) ((κ.1 : Nat) : Int) = .ref H.size := by
    show Value.ref (ad ((κ.1 : Nat) : Int).toNat) = _
    rw [Int.toNat_natCast, had]
  rw [e9] at h
  exact h
theorem zr_newI {Γ : zG} {μ : zMc} (C : zC Γ μ) (hAd : ∀ j, μ.2.2.2.2.2.2.1 ≤ j → zad Γ j = Γ.2.2.2.1.heap.size + (j - μ.2.2.2.2.2.2.1)) {κ : Nat × Nat × Nat} (hn : κ.1 = μ.2.2.2.2.2.2.1 + κ.2.1) (hmc : μ.2.2.2.2.2.2.2.1 ≠ 0) {pc : Nat} {L : List (Nat × Value)} {st : List Value} {M : zM} {len : Nat} (harr : Cond.arrayClass .int ∈ zTG) (hk : μ.2.2.2.2.2.1.1 κ.1 = 14) (hl : μ.2.2.2.2.2.1.2.1 κ.1 = len) (hlen : len < 1000000) (hfr : ∀ k : Nat, k < len → M κ.1 k = 0) (hroom : κ.2.1 + 1 ≤ μ.2.2.2.2.2.2.2.1 ∧ κ.2.2 + len ≤ μ.2.2.2.2.2.2.2.2) (hd : decode μ.1 pc = .ok (.newarray .int, 2)) (kk : zV Γ μ (κ.1 + 1, κ.2.1 + 1, κ.2.2 + len) (pc + 2) L (zRf (zad Γ) (κ.1 : Nat) :: st) M) : zV Γ μ κ pc L (zI (len : Nat) :: st) M := by
  obtain ⟨p, l, e, s, m, args, below, meth, cd, D, cA, ad, A, t1, t2, P⟩ := Γ
  obtain ⟨⟨hx, hb, hml, hown, hts⟩, hr, hlk, hK, hA, hSt, hNs⟩ := C
  intro H locs ls hR hP hD hS hz hv
  have hsz := hz hmc
  have had : ad κ.1 = H.size := by
    have this : ad κ.1 = s.heap.size + (κ.1 - μ.2.2.2.2.2.2.1) := hAd κ.1 (by omega)
    omega
  have hn0 : ¬ Int32.ofInt (len : Nat) < 0 := fun q => by
    have := (z_lt (a := (len : Nat)) (b := 0) ⟨by omega, by omega⟩ (by decide)).mp q
    omega
  refine va_newaK hx hb (atype := .int) (hts _ harr) rfl hd rfl hn0 (N := len) (by rw [z_cl (by omega) (by omega)]; omega) (by show len * componentBytes .int ≤ 536870912; simp [componentBytes]; omega) hroom.1 hroom.2 rfl fun H1 c9 e1 z1 o1 hAr hNm => ?_
  have hc9 : c9 = cA 1 := zK_one hK (k := 1) (ty := .int) rfl (fun C q => by cases q) hNm
  subst hc9
  have hk9 : ∀ (k : Nat) (x : Nat × va_E), (zw ad cA μ.2.2.2.2.2.1 κ.1 M)[k]? = some x → H1[x.1]? = H[x.1]? := fun k x hx => o1 x.1 ((hP k x hx).lt)
  have hP1 : va_P D vwCl (zw ad cA μ.2.2.2.2.2.1 (κ.1 + 1) M) H1 := by
    rw [← zw_push, had]
    refine (hP.kept hk9).app (fun k x hx => ?_)
    have hz0 : k < 1 := (List.getElem?_eq_some_iff.mp hx).1
    rw [show k = 0 by omega] at hx
    cases hx
    rw [zent_i hk (by omega), hl]
    show H1[H.size]? = some (vp_cell _ _)
    rw [e1]
    congr 1
    refine (arrV_ext (g := fun j : Nat => Value.int (Int32.ofInt (M (κ.1 : Nat) j))) ?_).trans (vp_cell_i (cA 1) len (fun j : Nat => Int32.ofInt (M (κ.1 : Nat) j))).symm
    intro j hj
    show defaultValue .int = Value.int (Int32.ofInt (M (κ.1 : Nat) j))
    rw [hfr j hj]
    rfl
  have hD1 : va_D A (zw ad cA μ.2.2.2.2.2.1 (κ.1 + 1) M) := by
    rw [← zw_push]
    exact hD.push hP had (by rw [had]; exact hA _ hS.1)
  have h := kk H1 locs ls hR hP1 hD1 ⟨Nat.le_trans hS.1 (by omega), fun x h1 h2 => (o1 x (Nat.lt_of_lt_of_le h1 hS.1)).trans (hS.2.1 x h1 h2), hS.2.2⟩ (fun _ => by rw [z1, hsz]; rfl) hv
  have e9 : zRf (zad (p, l, e, s, m, args, below, meth, cd, D, cA, ad, A, t1, t2, P)) ((κ.1 : Nat) : Int) = .ref H.size := by
    show Value.ref (ad ((κ.1 : Nat) : Int).toNat) = _
    rw [Int.toNat_natCast, had]
  rw [e9] at h
  exact h
theorem zr_newB {Γ : zG} {μ : zMc} (C : zC Γ μ) (hAd : ∀ j, μ.2.2.2.2.2.2.1 ≤ j → zad Γ j = Γ.2.2.2.1.heap.size + (j - μ.2.2.2.2.2.2.1)) {κ : Nat × Nat × Nat} (hn : κ.1 = μ.2.2.2.2.2.2.1 + κ.2.1) (hmc : μ.2.2.2.2.2.2.2.1 ≠ 0) {pc : Nat} {L : List (Nat × Value)} {st : List Value} {M : zM} {len : Nat} (harr : Cond.arrayClass .byte ∈ zTG) (hk : μ.2.2.2.2.2.1.1 κ.1 = 13) (hl : μ.2.2.2.2.2.1.2.1 κ.1 = len) (hlen : len < 1000000) (hfr : ∀ k : Nat, k < len → M κ.1 k = 0) (hroom : κ.2.1 + 1 ≤ μ.2.2.2.2.2.2.2.1 ∧ κ.2.2 + len ≤ μ.2.2.2.2.2.2.2.2) (hd : decode μ.1 pc = .ok (.newarray .byte, 2)) (kk : zV Γ μ (κ.1 + 1, κ.2.1 + 1, κ.2.2 + len) (pc + 2) L (zRf (zad Γ) (κ.1 : Nat) :: st) M) : zV Γ μ κ pc L (zI (len : Nat) :: st) M := by
  obtain ⟨p, l, e, s, m, args, below, meth, cd, D, cA, ad, A, t1, t2, P⟩ := Γ
  obtain ⟨⟨hx, hb, hml, hown, hts⟩, hr, hlk, hK, hA, hSt, hNs⟩ := C
  intro H locs ls hR hP hD hS hz hv
  have hsz := hz hmc
  have had : ad κ.1 = H.size := by
    have this : ad κ.1 = s.heap.size + (κ.1 - μ.2.2.2.2.2.2.1) := hAd κ.1 (by omega)
    omega
  have hn0 : ¬ Int32.ofInt (len : Nat) < 0 := fun q => by
    have := (z_lt (a := (len : Nat)) (b := 0) ⟨by omega, by omega⟩ (by decide)).mp q
    omega
  refine va_newaK hx hb (atype := .byte) (hts _ harr) rfl hd rfl hn0 (N := len) (by rw [z_cl (by omega) (by omega)]; omega) (by show len * componentBytes .byte ≤ 536870912; simp [componentBytes]; omega) hroom.1 hroom.2 rfl fun H1 c9 e1 z1 o1 hAr hNm => ?_
  have hc9 : c9 = cA 0 := zK_one hK (k := 0) (ty := .byte) rfl (fun C q => by cases q) hNm
  subst hc9
  have hk9 : ∀ (k : Nat) (x : Nat × va_E), (zw ad cA μ.2.2.2.2.2.1 κ.1 M)[k]? = some x → H1[x.1]? = H[x.1]? := fun k x hx => o1 x.1 ((hP k x hx).lt)
  have hP1 : va_P D vwCl (zw ad cA μ.2.2.2.2.2.1 (κ.1 + 1) M) H1 := by
    rw [← zw_push, had]
    refine (hP.kept hk9).app (fun k x hx => ?_)
    have hz0 : k < 1 := (List.getElem?_eq_some_iff.mp hx).1
    rw [show k = 0 by omega] at hx
    cases hx
    rw [zent_i hk (by omega), hl]
    show H1[H.size]? = some (vp_cell _ _)
    rw [e1]
    congr 1
    refine (arrV_ext (g := fun j : Nat => Value.int (Int32.ofInt (M (κ.1 : Nat) j))) ?_).trans (vp_cell_i (cA 0) len (fun j : Nat => Int32.ofInt (M (κ.1 : Nat) j))).symm
    intro j hj
    show defaultValue .byte = Value.int (Int32.ofInt (M (κ.1 : Nat) j))
    rw [hfr j hj]
    rfl
  have hD1 : va_D A (zw ad cA μ.2.2.2.2.2.1 (κ.1 + 1) M) := by
    rw [← zw_push]
    exact hD.push hP had (by rw [had]; exact hA _ hS.1)
  have h := kk H1 locs ls hR hP1 hD1 ⟨Nat.le_trans hS.1 (by omega), fun x h1 h2 => (o1 x (Nat.lt_of_lt_of_le h1 hS.1)).trans (hS.2.1 x h1 h2), hS.2.2⟩ (fun _ => by rw [z1, hsz]; rfl) hv
  have e9 : zRf (zad (p, l, e, s, m, args, below, meth, cd, D, cA, ad, A, t1, t2, P)) ((κ.1 : Nat) : Int) = .ref H.size := by
    show Value.ref (ad ((κ.1 : Nat) : Int).toNat) = _
    rw [Int.toNat_natCast, had]
  rw [e9] at h
  exact h
theorem zr_newZ {Γ : zG} {μ : zMc} (C : zC Γ μ) (hAd : ∀ j, μ.2.2.2.2.2.2.1 ≤ j → zad Γ j = Γ.2.2.2.1.heap.size + (j - μ.2.2.2.2.2.2.1)) {κ : Nat × Nat × Nat} (hn : κ.1 = μ.2.2.2.2.2.2.1 + κ.2.1) (hmc : μ.2.2.2.2.2.2.2.1 ≠ 0) {pc : Nat} {L : List (Nat × Value)} {st : List Value} {M : zM} {len : Nat} (harr : Cond.arrayClass .boolean ∈ zTG) (hk : μ.2.2.2.2.2.1.1 κ.1 = 16) (hl : μ.2.2.2.2.2.1.2.1 κ.1 = len) (hlen : len < 1000000) (hfr : ∀ k : Nat, k < len → M κ.1 k = 0) (hroom : κ.2.1 + 1 ≤ μ.2.2.2.2.2.2.2.1 ∧ κ.2.2 + len ≤ μ.2.2.2.2.2.2.2.2) (hd : decode μ.1 pc = .ok (.newarray .boolean, 2)) (kk : zV Γ μ (κ.1 + 1, κ.2.1 + 1, κ.2.2 + len) (pc + 2) L (zRf (zad Γ) (κ.1 : Nat) :: st) M) : zV Γ μ κ pc L (zI (len : Nat) :: st) M := by
  obtain ⟨p, l, e, s, m, args, below, meth, cd, D, cA, ad, A, t1, t2, P⟩ := Γ
  obtain ⟨⟨hx, hb, hml, hown, hts⟩, hr, hlk, hK, hA, hSt, hNs⟩ := C
  intro H locs ls hR hP hD hS hz hv
  have hsz := hz hmc
  have had : ad κ.1 = H.size := by
    have this : ad κ.1 = s.heap.size + (κ.1 - μ.2.2.2.2.2.2.1) := hAd κ.1 (by omega)
    omega
  have hn0 : ¬ Int32.ofInt (len : Nat) < 0 := fun q => by
    have := (z_lt (a := (len : Nat)) (b := 0) ⟨by omega, by omega⟩ (by decide)).mp q
    omega
  refine va_newaK hx hb (atype := .boolean) (hts _ harr) rfl hd rfl hn0 (N := len) (by rw [z_cl (by omega) (by omega)]; omega) (by show len * componentBytes .boolean ≤ 536870912; simp [componentBytes]; omega) hroom.1 hroom.2 rfl fun H1 c9 e1 z1 o1 hAr hNm => ?_
  have hc9 : c9 = cA 3 := zK_one hK (k := 3) (ty := .boolean) rfl (fun C q => by cases q) hNm
  subst hc9
  have hk9 : ∀ (k : Nat) (x : Nat × va_E), (zw ad cA μ.2.2.2.2.2.1 κ.1 M)[k]? = some x → H1[x.1]? = H[x.1]? := fun k x hx => o1 x.1 ((hP k x hx).lt)
  have hP1 : va_P D vwCl (zw ad cA μ.2.2.2.2.2.1 (κ.1 + 1) M) H1 := by
    rw [← zw_push, had]
    refine (hP.kept hk9).app (fun k x hx => ?_)
    have hz0 : k < 1 := (List.getElem?_eq_some_iff.mp hx).1
    rw [show k = 0 by omega] at hx
    cases hx
    rw [zent_i hk (by omega), hl]
    show H1[H.size]? = some (vp_cell _ _)
    rw [e1]
    congr 1
    refine (arrV_ext (g := fun j : Nat => Value.int (Int32.ofInt (M (κ.1 : Nat) j))) ?_).trans (vp_cell_i (cA 3) len (fun j : Nat => Int32.ofInt (M (κ.1 : Nat) j))).symm
    intro j hj
    show defaultValue .boolean = Value.int (Int32.ofInt (M (κ.1 : Nat) j))
    rw [hfr j hj]
    rfl
  have hD1 : va_D A (zw ad cA μ.2.2.2.2.2.1 (κ.1 + 1) M) := by
    rw [← zw_push]
    exact hD.push hP had (by rw [had]; exact hA _ hS.1)
  have h := kk H1 locs ls hR hP1 hD1 ⟨Nat.le_trans hS.1 (by omega), fun x h1 h2 => (o1 x (Nat.lt_of_lt_of_le h1 hS.1)).trans (hS.2.1 x h1 h2), hS.2.2⟩ (fun _ => by rw [z1, hsz]; rfl) hv
  have e9 : zRf (zad (p, l, e, s, m, args, below, meth, cd, D, cA, ad, A, t1, t2, P)) ((κ.1 : Nat) : Int) = .ref H.size := by
    show Value.ref (ad ((κ.1 : Nat) : Int).toNat) = _
    rw [Int.toNat_natCast, had]
  rw [e9] at h
  exact h
theorem zr_newJ {Γ : zG} {μ : zMc} (C : zC Γ μ) (hAd : ∀ j, μ.2.2.2.2.2.2.1 ≤ j → zad Γ j = Γ.2.2.2.1.heap.size + (j - μ.2.2.2.2.2.2.1)) {κ : Nat × Nat × Nat} (hn : κ.1 = μ.2.2.2.2.2.2.1 + κ.2.1) (hmc : μ.2.2.2.2.2.2.2.1 ≠ 0) {pc : Nat} {L : List (Nat × Value)} {st : List Value} {M : zM} {len : Nat} (harr : Cond.arrayClass .long ∈ zTG) (hk : μ.2.2.2.2.2.1.1 κ.1 = 15) (hl : μ.2.2.2.2.2.1.2.1 κ.1 = len) (hlen : len < 1000000) (hfr : ∀ k : Nat, k < len → M κ.1 k = 0) (hroom : κ.2.1 + 1 ≤ μ.2.2.2.2.2.2.2.1 ∧ κ.2.2 + len ≤ μ.2.2.2.2.2.2.2.2) (hd : decode μ.1 pc = .ok (.newarray .long, 2)) (kk : zV Γ μ (κ.1 + 1, κ.2.1 + 1, κ.2.2 + len) (pc + 2) L (zRf (zad Γ) (κ.1 : Nat) :: st) M) : zV Γ μ κ pc L (zI (len : Nat) :: st) M := by
  obtain ⟨p, l, e, s, m, args, below, meth, cd, D, cA, ad, A, t1, t2, P⟩ := Γ
  obtain ⟨⟨hx, hb, hml, hown, hts⟩, hr, hlk, hK, hA, hSt, hNs⟩ := C
  intro H locs ls hR hP hD hS hz hv
  have hsz := hz hmc
  have had : ad κ.1 = H.size := by
    have this : ad κ.1 = s.heap.size + (κ.1 - μ.2.2.2.2.2.2.1) := hAd κ.1 (by omega)
    omega
  have hn0 : ¬ Int32.ofInt (len : Nat) < 0 := fun q => by
    have := (z_lt (a := (len : Nat)) (b := 0) ⟨by omega, by omega⟩ (by decide)).mp q
    omega
  refine va_newaK hx hb (atype := .long) (hts _ harr) rfl hd rfl hn0 (N := len) (by rw [z_cl (by omega) (by omega)]; omega) (by show len * componentBytes .long ≤ 536870912; simp [componentBytes]; omega) hroom.1 hroom.2 rfl fun H1 c9 e1 z1 o1 hAr hNm => ?_
  have hc9 : c9 = cA 2 := zK_one hK (k := 2) (ty := .long) rfl (fun C q => by cases q) hNm
  subst hc9
  have hk9 : ∀ (k : Nat) (x : Nat × va_E), (zw ad cA μ.2.2.2.2.2.1 κ.1 M)[k]? = some x → H1[x.1]? = H[x.1]? := fun k x hx => o1 x.1 ((hP k x hx).lt)
  have hP1 : va_P D vwCl (zw ad cA μ.2.2.2.2.2.1 (κ.1 + 1) M) H1 := by
    rw [← zw_push, had]
    refine (hP.kept hk9).app (fun k x hx => ?_)
    have hz0 : k < 1 := (List.getElem?_eq_some_iff.mp hx).1
    rw [show k = 0 by omega] at hx
    cases hx
    rw [zent_j hk, hl]
    show H1[H.size]? = some (vp_cell _ _)
    rw [e1]
    congr 1
    refine (arrV_ext (g := fun j : Nat => Value.long (Int64.ofInt (M (κ.1 : Nat) j))) ?_).trans (vp_cell_l (cA 2) len (fun j : Nat => Int64.ofInt (M (κ.1 : Nat) j))).symm
    intro j hj
    show defaultValue .long = Value.long (Int64.ofInt (M (κ.1 : Nat) j))
    rw [hfr j hj]
    rfl
  have hD1 : va_D A (zw ad cA μ.2.2.2.2.2.1 (κ.1 + 1) M) := by
    rw [← zw_push]
    exact hD.push hP had (by rw [had]; exact hA _ hS.1)
  have h := kk H1 locs ls hR hP1 hD1 ⟨Nat.le_trans hS.1 (by omega), fun x h1 h2 => (o1 x (Nat.lt_of_lt_of_le h1 hS.1)).trans (hS.2.1 x h1 h2), hS.2.2⟩ (fun _ => by rw [z1, hsz]; rfl) hv
  have e9 : zRf (zad (p, l, e, s, m, args, below, meth, cd, D, cA, ad, A, t1, t2, P)) ((κ.1 : Nat) : Int) = .ref H.size := by
    show Value.ref (ad ((κ.1 : Nat) : Int).toNat) = _
    rw [Int.toNat_natCast, had]
  rw [e9] at h
  exact h
