theorem zty_c {s : State} {args : Array Value} {ty : FieldType} (hty : ∀ C, ty ≠ .object C) (h : (Cond.arrayClass ty).before args s = true) : ∃ cA, ArrOfT s cA ty ∧ va_RA s cA ty := by
  obtain ⟨c, k, comp, h1, h2, h3⟩ := Cond.arrayClass_spec h
  refine ⟨c, fun n z => ⟨fun k h => (by cases h), k, h2, comp, h3⟩, ?_⟩
  unfold va_RA
  split
  · exact absurd rfl (hty _)
  · exact h1
theorem zty_o {s : State} {args : Array Value} {C : String} (h : (Cond.arrayOver (.object C)).before args s = true) : ∃ cA, ArrOfT s cA (.object C) ∧ va_RA s cA (.object C) := by
  obtain ⟨comp, c, k, h1, h2, h3, h4, h5⟩ := Cond.arrayOver_spec h
  refine ⟨c, fun n z => ⟨fun k h => (by cases h), k, h3, comp, h4⟩, k, comp, h3, h4, h1, ?_⟩
  first | exact h5 | exact h2
theorem zty_a {s : State} {args : Array Value} {ty : FieldType} (h : (Cond.arrayOver (.array ty)).before args s = true) : ∃ cA, ArrOfT s cA (.array ty) ∧ va_RA s cA (.array ty) := by
  obtain ⟨comp, c, k, h1, h2, h3, h4⟩ := Cond.arrayOver_specA h
  exact ⟨c, fun n z => ⟨fun k h => (by cases h), k, h2, comp, h3⟩, h4⟩
theorem zAO_in : (Cond.arrayOver (.object "DotLines$Shelf")) ∈ lw_tbl ∧ (Cond.arrayOver (.array .byte)) ∈ lw_tbl ∧ (Cond.arrayOver (.array .int)) ∈ lw_tbl := by decide +kernel
theorem zAC_in : Cond.arrayClass .byte ∈ zTG ∧ Cond.arrayClass .int ∈ zTG ∧ Cond.arrayClass .long ∈ zTG ∧ Cond.arrayClass .boolean ∈ zTG := by
  refine ⟨List.mem_filter.mpr ⟨?_, rfl⟩, List.mem_filter.mpr ⟨?_, rfl⟩, List.mem_filter.mpr ⟨?_, rfl⟩, List.mem_filter.mpr ⟨?_, rfl⟩⟩ <;> decide +kernel
theorem zNL_in : ∀ w ∈ zNL, w ∈ lw_tbl := by decide +kernel
theorem zStat_of {s : State} {args : Array Value} {A : Nat → Prop} (hts : ∀ w ∈ lw_tbl, w.before args s = true) (hgv : (Jvm.Cond.and given_1 narrow_1).before args s = true) (hA : ∀ a : Nat, a < s.heap.size → ¬ A a) : ∃ t1 t2, zStat t1 t2 A s s.heap := by
  have hs := flat_of_before _ hgv
  have g1 : ∀ j : Nat, j < 8 → (Term.elem (Term.static "DotLines" "ACROSS" "[I") (.int (Int32.ofNat j))).eval args s none [] s = some (zI (zac j)) := by
    intro j hj
    match j, hj with
    | 0, _ => exact va_eqt (z := 1) (hs (Cond.eq (.elem (Term.static "DotLines" "ACROSS" "[I") (.int 0)) (.int 1)) (by decide +kernel))
    | 1, _ => exact va_eqt (z := 0) (hs (Cond.eq (.elem (Term.static "DotLines" "ACROSS" "[I") (.int 1)) (.int 0)) (by decide +kernel))
    | 2, _ => exact va_eqt (z := (-1)) (hs (Cond.eq (.elem (Term.static "DotLines" "ACROSS" "[I") (.int 2)) (.int (-1))) (by decide +kernel))
    | 3, _ => exact va_eqt (z := 0) (hs (Cond.eq (.elem (Term.static "DotLines" "ACROSS" "[I") (.int 3)) (.int 0)) (by decide +kernel))
    | 4, _ => exact va_eqt (z := 1) (hs (Cond.eq (.elem (Term.static "DotLines" "ACROSS" "[I") (.int 4)) (.int 1)) (by decide +kernel))
    | 5, _ => exact va_eqt (z := (-1)) (hs (Cond.eq (.elem (Term.static "DotLines" "ACROSS" "[I") (.int 5)) (.int (-1))) (by decide +kernel))
    | 6, _ => exact va_eqt (z := (-1)) (hs (Cond.eq (.elem (Term.static "DotLines" "ACROSS" "[I") (.int 6)) (.int (-1))) (by decide +kernel))
    | 7, _ => exact va_eqt (z := 1) (hs (Cond.eq (.elem (Term.static "DotLines" "ACROSS" "[I") (.int 7)) (.int 1)) (by decide +kernel))
  obtain ⟨t1, e1, T1⟩ := va_Tof (tm := (Term.static "DotLines" "ACROSS" "[I")) (ty := .int) (N := 8) (f := fun j => zI (zac j)) (A := A) (by decide) (hs (Cond.arrayOf (Term.static "DotLines" "ACROSS" "[I") .int) (by decide +kernel)) (va_eqt (z := 8) (hs (Cond.eq (.length (Term.static "DotLines" "ACROSS" "[I")) (.int 8)) (by decide +kernel))) g1 hA
  have g2 : ∀ j : Nat, j < 8 → (Term.elem (Term.static "DotLines" "DOWN" "[I") (.int (Int32.ofNat j))).eval args s none [] s = some (zI (zdn j)) := by
    intro j hj
    match j, hj with
    | 0, _ => exact va_eqt (z := 0) (hs (Cond.eq (.elem (Term.static "DotLines" "DOWN" "[I") (.int 0)) (.int 0)) (by decide +kernel))
    | 1, _ => exact va_eqt (z := 1) (hs (Cond.eq (.elem (Term.static "DotLines" "DOWN" "[I") (.int 1)) (.int 1)) (by decide +kernel))
    | 2, _ => exact va_eqt (z := 0) (hs (Cond.eq (.elem (Term.static "DotLines" "DOWN" "[I") (.int 2)) (.int 0)) (by decide +kernel))
    | 3, _ => exact va_eqt (z := (-1)) (hs (Cond.eq (.elem (Term.static "DotLines" "DOWN" "[I") (.int 3)) (.int (-1))) (by decide +kernel))
    | 4, _ => exact va_eqt (z := 1) (hs (Cond.eq (.elem (Term.static "DotLines" "DOWN" "[I") (.int 4)) (.int 1)) (by decide +kernel))
    | 5, _ => exact va_eqt (z := 1) (hs (Cond.eq (.elem (Term.static "DotLines" "DOWN" "[I") (.int 5)) (.int 1)) (by decide +kernel))
    | 6, _ => exact va_eqt (z := (-1)) (hs (Cond.eq (.elem (Term.static "DotLines" "DOWN" "[I") (.int 6)) (.int (-1))) (by decide +kernel))
    | 7, _ => exact va_eqt (z := (-1)) (hs (Cond.eq (.elem (Term.static "DotLines" "DOWN" "[I") (.int 7)) (.int (-1))) (by decide +kernel))
  obtain ⟨t2, e2, T2⟩ := va_Tof (tm := (Term.static "DotLines" "DOWN" "[I")) (ty := .int) (N := 8) (f := fun j => zI (zdn j)) (A := A) (by decide) (hs (Cond.arrayOf (Term.static "DotLines" "DOWN" "[I") .int) (by decide +kernel)) (va_eqt (z := 8) (hs (Cond.eq (.length (Term.static "DotLines" "DOWN" "[I")) (.int 8)) (by decide +kernel))) g2 hA
  exact ⟨t1, t2, va_Zref (hts (Cond.laysStatic "DotLines" "ACROSS" "[I") (by decide +kernel)) (hts (Cond.initialized "DotLines") (by decide +kernel)) e1 hA, T1, va_Zref (hts (Cond.laysStatic "DotLines" "DOWN" "[I") (by decide +kernel)) (hts (Cond.initialized "DotLines") (by decide +kernel)) e2 hA, T2⟩
theorem zNst_of {s : State} {args : Array Value} (hts : ∀ w ∈ lw_tbl, w.before args s = true) : zNst s := by
  refine ⟨fun w hw => ?_, fun ty hty => ?_⟩
  · have h := hts w (zNL_in w hw)
    simp only [zNL, List.mem_cons, List.not_mem_nil, or_false] at hw
    rcases hw with rfl | rfl | rfl | rfl | rfl | rfl | rfl | rfl | rfl | rfl | rfl | rfl | rfl <;> exact h
  · have h1 : ty = .object "DotLines$Shelf" ∨ ty = .array .byte ∨ ty = .array .int := by simpa [zAOs] using hty
    rcases h1 with rfl | rfl | rfl
    · exact hts _ zAO_in.1
    · exact hts _ zAO_in.2.1
    · exact hts _ zAO_in.2.2
theorem zKn_of {s : State} {args : Array Value} (hts : ∀ w ∈ zTG, w.before args s = true) : ∃ (dC : Nat → ClassId) (dI : Nat → Nat → Nat), ∀ (k : Nat) (q : vw_C), vwCl[k]? = some q → u_Kn s q.1 q.2.1 q.2.2 (dC k) (dI k) := by
  obtain ⟨c0, i0, h0⟩ := u_known (C := RX0) (T := TX0) (N := 9) (n := 9) hts wsin_X0 (hts _ ni_X0.1)
  obtain ⟨c1, i1, h1⟩ := u_known (C := RX1) (T := TX1) (N := 12) (n := 12) hts wsin_X1 (hts _ ni_X1.1)
  obtain ⟨c2, i2, h2⟩ := u_known (C := RX2) (T := TX2) (N := 18) (n := 18) hts wsin_X2 (hts _ ni_X2.1)
  obtain ⟨c3, i3, h3⟩ := u_known (C := RX3) (T := TX3) (N := 4) (n := 4) hts wsin_X3 (hts _ ni_X3.1)
  obtain ⟨c4, i4, h4⟩ := u_known (C := RX4) (T := TX4) (N := 5) (n := 5) hts wsin_X4 (hts _ ni_X4.1)
  obtain ⟨c5, i5, h5⟩ := u_known (C := RX5) (T := TX5) (N := 6) (n := 6) hts wsin_X5 (hts _ ni_X5.1)
  obtain ⟨c6, i6, h6⟩ := u_known (C := RX6) (T := TX6) (N := 12) (n := 12) hts wsin_X6 (hts _ ni_X6.1)
  obtain ⟨c7, i7, h7⟩ := u_known (C := RX7) (T := TX7) (N := 5) (n := 5) hts wsin_X7 (hts _ ni_X7.1)
  obtain ⟨c8, i8, h8⟩ := u_known (C := RX8) (T := TX8) (N := 6) (n := 6) hts wsin_X8 (hts _ ni_X8.1)
  obtain ⟨c9, i9, h9⟩ := u_known (C := RX9) (T := TX9) (N := 3) (n := 3) hts wsin_X9 (hts _ ni_X9.1)
  obtain ⟨c10, i10, h10⟩ := u_known (C := RX10) (T := TX10) (N := 9) (n := 9) hts wsin_X10 (hts _ ni_X10.1)
  obtain ⟨c11, i11, h11⟩ := u_known (C := RX11) (T := TX11) (N := 13) (n := 13) hts wsin_X11 (hts _ ni_X11.1)
  obtain ⟨c12, i12, h12⟩ := u_known (C := RX12) (T := TX12) (N := 75) (n := 75) hts wsin_X12 (hts _ ni_X12.1)
  refine ⟨fun k => [c0, c1, c2, c3, c4, c5, c6, c7, c8, c9, c10, c11, c12].getD k c0, fun k => [i0, i1, i2, i3, i4, i5, i6, i7, i8, i9, i10, i11, i12].getD k i0, ?_⟩
  intro k q hq
  match k, hq with
  | 0, hq => cases hq; exact h0
  | 1, hq => cases hq; exact h1
  | 2, hq => cases hq; exact h2
  | 3, hq => cases hq; exact h3
  | 4, hq => cases hq; exact h4
  | 5, hq => cases hq; exact h5
  | 6, hq => cases hq; exact h6
  | 7, hq => cases hq; exact h7
  | 8, hq => cases hq; exact h8
  | 9, hq => cases hq; exact h9
  | 10, hq => cases hq; exact h10
  | 11, hq => cases hq; exact h11
  | 12, hq => cases hq; exact h12
  | k + 13, hq => simp [vwCl] at hq
theorem zAr_of {s : State} {args : Array Value} (hts : ∀ w ∈ lw_tbl, w.before args s = true) : ∃ cA : Nat → ClassId, ∀ (k : Nat) (q : ClassId × FieldType), (ztys cA)[k]? = some q → ArrOfT s q.1 q.2 ∧ va_RA s q.1 q.2 := by
  have ht : ∀ w ∈ zTG, w.before args s = true := fun w hw => hts w (List.mem_filter.mp hw).1
  obtain ⟨a0, b0⟩ := zty_c (ty := .byte) (fun C q => by cases q) (ht _ zAC_in.1)
  obtain ⟨a1, b1⟩ := zty_c (ty := .int) (fun C q => by cases q) (ht _ zAC_in.2.1)
  obtain ⟨a2, b2⟩ := zty_c (ty := .long) (fun C q => by cases q) (ht _ zAC_in.2.2.1)
  obtain ⟨a3, b3⟩ := zty_c (ty := .boolean) (fun C q => by cases q) (ht _ zAC_in.2.2.2)
  obtain ⟨a4, b4⟩ := zty_o (hts _ zAO_in.1)
  obtain ⟨a5, b5⟩ := zty_a (hts _ zAO_in.2.1)
  obtain ⟨a6, b6⟩ := zty_a (hts _ zAO_in.2.2)
  refine ⟨fun k => [a0, a1, a2, a3, a4, a5, a6].getD k a0, fun k q hq => ?_⟩
  match k, hq with
  | 0, hq => cases hq; exact b0
  | 1, hq => cases hq; exact b1
  | 2, hq => cases hq; exact b2
  | 3, hq => cases hq; exact b3
  | 4, hq => cases hq; exact b4
  | 5, hq => cases hq; exact b5
  | 6, hq => cases hq; exact b6
  | k + 7, hq => simp [ztys] at hq
